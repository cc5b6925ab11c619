-- the law's town: streets, legs, settings
/-- settings and numbers of a fresh object -/
def TV (P : Nat → Int32) : Prop := P 499 = 2 ∧ P 500 = 300 ∧ P 501 = 1 ∧ P 502 = 2400 ∧ P 503 = 200 ∧ P 506 = 0 ∧ P 548 = 0 ∧ P 562 = 0
theorem TV.cg {P P' : Nat → Int32} (h : TV P) (e : ∀ y, y = 499 ∨ y = 500 ∨ y = 501 ∨ y = 502 ∨ y = 503 ∨ y = 506 ∨ y = 548 ∨ y = 562 → P' y = P y) : TV P' := by
  obtain ⟨h1, h2, h3, h4, h5, h6, h7, h8⟩ := h
  exact ⟨by rw [e _ (by omega)]; exact h1, by rw [e _ (by omega)]; exact h2, by rw [e _ (by omega)]; exact h3, by rw [e _ (by omega)]; exact h4, by rw [e _ (by omega)]; exact h5, by rw [e _ (by omega)]; exact h6, by rw [e _ (by omega)]; exact h7, by rw [e _ (by omega)]; exact h8⟩
theorem okP.as {c n l a b t : Nat} {P P' : Nat → Int32} (ok : okP c n l P) (s : asP n (nI a) (nI b) (nI t) P P') (hn : n < 6) (ha1 : 1 ≤ a) (ha : a ≤ 20) (hb : b ≤ 60) (ht : t ≤ 9) : okP c (n + 1) l P' := by
  obtain ⟨⟨h0, h6, h507, h10⟩, hS, hD, hL, hT, hk, hs⟩ := ok
  obtain ⟨a0, a1, a2, a3, a4, a5, a6⟩ := s
  have f : ∀ y, 499 ≤ y → y ≠ 548 → P' y = P y := fun y y1 y2 => a6 y (by omega) y2 (by omega)
  refine ⟨⟨a4, by omega, by rw [f 507 (by omega) (by omega)]; exact h507, h10⟩, fun i hi => ?_, fun i k hi hk' => ?_, fun j hj => ?_, ?_, Or.inl a5, ?_⟩
  · by_cases q : i = n
    · subst q
      exact ⟨⟨a, a0, ha1, ha⟩, ⟨b, a1, hb⟩, ⟨t, a2, ht⟩⟩
    · rw [a6 (1 + 83 * i) (by omega) (by omega) (by omega), a6 (2 + 83 * i) (by omega) (by omega) (by omega), a6 (3 + 83 * i) (by omega) (by omega) (by omega)]
      exact hS i (by omega)
  · by_cases q : i = n
    · subst q
      refine ⟨⟨0, a3 k (by omega), by omega⟩, Or.inl ?_⟩
      have := a3 (40 + k) (by omega)
      rw [show 4 + 83 * i + (40 + k) = 44 + 83 * i + k by omega] at this
      exact this
    · rw [a6 (4 + 83 * i + k) (by omega) (by omega) (by omega), a6 (44 + 83 * i + k) (by omega) (by omega) (by omega)]
      exact hD i k (by omega) hk'
  · rw [f (508 + 4 * j) (by omega) (by omega), f (509 + 4 * j) (by omega) (by omega)]
    obtain ⟨⟨v, v1, v2⟩, q⟩ := hL j hj
    exact ⟨⟨v, v1, by omega⟩, q⟩
  · rw [f 499 (by omega) (by omega), f 500 (by omega) (by omega), f 501 (by omega) (by omega), f 502 (by omega) (by omega), f 503 (by omega) (by omega), f 504 (by omega) (by omega), f 505 (by omega) (by omega), f 506 (by omega) (by omega)]
    exact hT
  · rw [f 562 (by omega) (by omega)]
    exact hs
theorem okP.leg1 {c n l i s : Nat} {P P' : Nat → Int32} (ok : okP c n l P) (hl : l < 10) (hi : i < n) (hs : s < 2) (e : P' = upd (upd (upd (upd P (508 + 4 * l + 0) (nI i)) (508 + 4 * l + 1) (nI s)) 507 (nI (l + 1))) 548 0) : okP c n (l + 1) P' := by
  obtain ⟨⟨h0, h6, h507, h10⟩, hS, hD, hL, hT, hk, hs2⟩ := ok
  have f : ∀ y, y ≠ 508 + 4 * l → y ≠ 509 + 4 * l → y ≠ 507 → y ≠ 548 → P' y = P y := fun y y1 y2 y3 y4 => by
    rw [e, upd_n y4, upd_n y3, upd_n (by omega), upd_n (by omega)]
  have g0 : P' (508 + 4 * l) = nI i := by
    rw [e, upd_n (by omega), upd_n (by omega), upd_n (by omega)]
    exact upd_s
  have g1 : P' (509 + 4 * l) = nI s := by
    rw [e, upd_n (by omega), upd_n (by omega), show 509 + 4 * l = 508 + 4 * l + 1 by omega]
    exact upd_s
  have g507 : P' 507 = nI (l + 1) := by rw [e, upd_n (by omega), upd_s]
  have g548 : P' 548 = 0 := by rw [e, upd_s]
  refine ⟨⟨by rw [f 0 (by omega) (by omega) (by omega) (by omega)]; exact h0, h6, g507, by omega⟩, fun a ha => ?_, fun a k ha hk' => ?_, fun j hj => ?_, ?_, Or.inl g548, ?_⟩
  · rw [f (1 + 83 * a) (by omega) (by omega) (by omega) (by omega), f (2 + 83 * a) (by omega) (by omega) (by omega) (by omega), f (3 + 83 * a) (by omega) (by omega) (by omega) (by omega)]
    exact hS a ha
  · rw [f (4 + 83 * a + k) (by omega) (by omega) (by omega) (by omega), f (44 + 83 * a + k) (by omega) (by omega) (by omega) (by omega)]
    exact hD a k ha hk'
  · by_cases q : j = l
    · subst q
      exact ⟨⟨i, g0, hi⟩, ⟨s, g1, hs⟩⟩
    · rw [f (508 + 4 * j) (by omega) (by omega) (by omega) (by omega), f (509 + 4 * j) (by omega) (by omega) (by omega) (by omega)]
      exact hL j (by omega)
  · rw [f 499 (by omega) (by omega) (by omega) (by omega), f 500 (by omega) (by omega) (by omega) (by omega), f 501 (by omega) (by omega) (by omega) (by omega), f 502 (by omega) (by omega) (by omega) (by omega), f 503 (by omega) (by omega) (by omega) (by omega), f 504 (by omega) (by omega) (by omega) (by omega), f 505 (by omega) (by omega) (by omega) (by omega), f 506 (by omega) (by omega) (by omega) (by omega)]
    exact hT
  · rw [f 562 (by omega) (by omega) (by omega) (by omega)]
    exact hs2
theorem layP_y {P : Nat → Int32} {x o w y : Nat} (h : y ≠ x) (h1 : y ≠ 556) (h2 : y ≠ 558) : layP P x o w y = P y := by
  unfold layP
  split
  · rw [upd_n h2, upd_n h]
  · rw [upd_n h1, upd_n h]
theorem layP_cells {P : Nat → Int32} {i s k o w a : Nat} (hs : s < 2) (hk : k < 20) : cellsN (layP P (4 + 83 * i + (20 * s + k)) o w) a = cellsN P a := by
  unfold cellsN
  rw [layP_y (y := 1 + 83 * a) (fun q => dne (r := 0) hs hk (by omega) q.symm) (by omega) (by omega)]
theorem okP.lay {c n l i k o w : Nat} {P : Nat → Int32} (ok : okP c n l P) (hi : i < n) (hk : k < 40) (hw : w ≤ 99) : okP c n l (layP P (4 + 83 * i + k) o w) := by
  unfold layP
  split
  · exact (ok.dirt hi hk hw).inert (inert_hi (by omega) (by omega))
  · exact (ok.dirt hi hk hw).inert (inert_hi (by omega) (by omega))
/-- what holds between the law's calls -/
def TS (c n l : Nat) (τ : St) : Prop := hst τ ∧ okP c n l (pgW τ 7) ∧ bal n (pgW τ 7) ∧ SM n l (pgW τ 7)
theorem SM.cg {n l : Nat} {P P' : Nat → Int32} (h : SM n l P) (e : ∀ i, i < n → cellsN P' i = cellsN P i) : SM n l P' := ⟨h.1, h.2.1, fun i hi => by rw [e i hi]; exact h.2.2 i hi⟩
theorem pk_ne1 {i m a : Nat} (h : m < 40) : 44 + 83 * i + m ≠ 1 + 83 * a := by omega
theorem ts_set {c n l k : Nat} {x2 : Int32} {σ : St} {Q : Int32 → St → Prop} (s : TS c n l σ) (hk : k < 6) (hs : okS (pgW σ 7) k x2) (hQ : ∀ τ, TS c n l τ → pgW τ 7 = upd (pgW σ 7) (499 + k) x2 → Q (pgW σ 7 (499 + k)) τ) : m_9_set 0 (nI k) x2 Q σ := by
  obtain ⟨I, ok, hb, sm⟩ := s
  have h6 := ok.1.2.1
  refine k_set ok I hk hs (fun τ cl => hQ τ ⟨cl.2.1, ?_, ?_, ?_⟩ cl.1)
  · rw [cl.1]; exact ok.set1 hk hs
  · rw [cl.1]; exact bal_hi ok hb (by omega) (by omega) (by omega)
  · rw [cl.1]; exact sm.cg (fun i hi => cellsN_upd (by omega))
theorem ts_lay {c n l i s k w : Nat} {σ : St} {Q : Int32 → St → Prop} (t : TS c n l σ) (hi : i < n) (hs : s < 2) (hk : k < cellsN (pgW σ 7) i) (hw : w ≤ 99) (hQ : ∀ τ o, pgW σ 7 (4 + 83 * i + (20 * s + k)) = nI o → o ≤ 99 → TS c n l τ → pgW τ 7 = layP (pgW σ 7) (4 + 83 * i + (20 * s + k)) o w → Q (nI o) τ) : m_9_lay 0 (nI i) (nI s) (nI k) (nI w) Q σ := by
  obtain ⟨I, ok, hb, sm⟩ := t
  have h6 := ok.1.2.1
  have hc := (ok.cells hi).2.2
  refine k_lay ok I hi hs hk hw (fun τ o ho ho9 cl => hQ τ o ho ho9 ⟨cl.2.1, ?_, ?_, ?_⟩ cl.1)
  · rw [cl.1]; exact ok.lay hi (by omega) hw
  · rw [cl.1]; exact bal_lay ok hb hi hs hk ho
  · rw [cl.1]
    exact sm.cg (fun a ha => layP_cells hs (by omega))
theorem ts_park {c n l i s k : Nat} {x4 : Int32} {σ : St} {Q : Int32 → St → Prop} (t : TS c n l σ) (hi : i < n) (hs : s < 2) (hk : k < cellsN (pgW σ 7) i) (hx4 : isB x4) (hQ : ∀ τ, TS c n l τ → pgW τ 7 = upd (pgW σ 7) (44 + 83 * i + (20 * s + k)) x4 → Q (pgW σ 7 (44 + 83 * i + (20 * s + k))) τ) : m_9_park 0 (nI i) (nI s) (nI k) x4 Q σ := by
  obtain ⟨I, ok, hb, sm⟩ := t
  have h6 := ok.1.2.1
  have hc := (ok.cells hi).2.2
  refine k_park ok I hi hs hk hx4 (fun τ cl => hQ τ ⟨cl.2.1, ?_, ?_, ?_⟩ cl.1)
  · rw [cl.1]; exact ok.park hi (by omega) hx4
  · rw [cl.1]; exact bal_pk ok hb (by omega) (by omega)
  · rw [cl.1]
    exact sm.cg (fun a ha => cellsN_upd (pk_ne1 (by omega)))
theorem T_368 {n l L w7 : Nat} {xs : Nat → Int32} {x6 t1 : Int32} {σ : St} {Q : Int32 → St → Prop} (s : TS 0 n l σ) (h7 : 1 ≤ w7) (h7' : w7 ≤ 3000) (v2 : pgW σ 7 501 = 1) (v3 : pgW σ 7 502 = 2400) (v4 : pgW σ 7 503 = 200) (v5 : pgW σ 7 548 = 0) (v6 : pgW σ 7 562 = 0) (h : ∀ τ, TS 0 n l τ → pgW τ 7 548 = 0 → pgW τ 7 562 = 0 → Q 1 τ) : m_L_town_368 0 x6 L xs Q (nI w7) t1 100 3 0 σ := by
  unfold m_L_town_368
  refine a_low (m := w7) (by omega) (by omega) (fun a ha => ?_)
  refine ts_set (k := 3) s (by omega) ⟨100 + a, by show 100 ≤ 100 + a; omega, by show 100 + a ≤ 6000; omega, by rw [li 100, nI_add], fun q => by omega⟩ (fun τ s1 e1 => ?_)
  refine ⟨fun q => absurd v3 q, fun _ => ?_⟩
  refine a_low (m := 1001) (by omega) (by omega) (fun b hb => ?_)
  refine ts_set (k := 4) s1 (by omega) ⟨b, Nat.zero_le _, by show b ≤ 1000; omega, rfl, fun q => by omega⟩ (fun τ2 s2 e2 => ?_)
  refine ⟨fun q => absurd (by rw [e1, upd_n (by omega)]; exact v4) q, fun _ => ?_⟩
  refine a_low (m := 3) (by omega) (by omega) (fun d hd => ?_)
  refine ts_set (k := 2) s2 (by omega) ⟨d, Nat.zero_le _, by show d ≤ 9; omega, rfl, fun q => by omega⟩ (fun τ3 s3 e3 => ?_)
  refine ⟨fun q => absurd (by rw [e2, upd_n (by omega), e1, upd_n (by omega)]; exact v2) q, fun _ => h τ3 s3 ?_ ?_⟩
  · rw [e3, upd_n (by omega), e2, upd_n (by omega), e1, upd_n (by omega)]; exact v5
  · rw [e3, upd_n (by omega), e2, upd_n (by omega), e1, upd_n (by omega)]; exact v6
theorem T_325 {n l L w7 : Nat} {xs : Nat → Int32} {x6 t1 : Int32} {σ : St} {Q : Int32 → St → Prop} (s : TS 0 n l σ) (h7 : 1 ≤ w7) (h7' : w7 ≤ 400) (v1 : pgW σ 7 500 = 300) (v0 : pgW σ 7 506 = 0) (v2 : pgW σ 7 501 = 1) (v3 : pgW σ 7 502 = 2400) (v4 : pgW σ 7 503 = 200) (v5 : pgW σ 7 548 = 0) (v6 : pgW σ 7 562 = 0) (h : ∀ τ, TS 0 n l τ → pgW τ 7 548 = 0 → pgW τ 7 562 = 0 → Q 1 τ) : m_L_town_325 0 x6 L xs Q (nI w7) t1 20 1 0 σ := by
  unfold m_L_town_325
  refine a_low (m := w7) (by omega) (by omega) (fun a ha => ?_)
  refine ts_set (k := 1) s (by omega) ⟨20 + a, by show 20 ≤ 20 + a; omega, by show 20 + a ≤ 2000; omega, by rw [li 20, nI_add], fun _ => ?_⟩ (fun τ s1 e1 => ?_)
  · rw [v0, li 20, nI_add]
    exact nn0 (by omega)
  refine ⟨fun q => absurd v1 q, fun _ => ?_⟩
  refine a_low (m := 2) (by omega) (by omega) (fun b hb => ?_)
  have g : ∀ y, y ≠ 500 → pgW τ 7 y = pgW σ 7 y := fun y hy => by rw [e1, upd_n (by omega)]
  refine ⟨fun _ => ?_, fun _ => ?_⟩
  · exact T_368 (w7 := 3000) s1 (by omega) (by omega) (by rw [g _ (by omega)]; exact v2) (by rw [g _ (by omega)]; exact v3) (by rw [g _ (by omega)]; exact v4) (by rw [g _ (by omega)]; exact v5) (by rw [g _ (by omega)]; exact v6) h
  · exact T_368 (w7 := 900) s1 (by omega) (by omega) (by rw [g _ (by omega)]; exact v2) (by rw [g _ (by omega)]; exact v3) (by rw [g _ (by omega)]; exact v4) (by rw [g _ (by omega)]; exact v5) (by rw [g _ (by omega)]; exact v6) h
theorem T_223 {n l L : Nat} {xs : Nat → Int32} {x5 : Int32} {σ : St} {Q : Int32 → St → Prop} (hL : L < 1000001) (h1 : 1 ≤ n) (hl : l ≤ 5) (s : TS 0 n 0 σ) (tv : TV (pgW σ 7)) (h : ∀ τ, TS 0 n l τ → pgW τ 7 548 = 0 → pgW τ 7 562 = 0 → Q 1 τ) : itN (m_L_town_223 0 1 (nI n) (nI l) x5 L xs Q) (fun _ _ => False) FU 0 σ := by
  have h6 := s.2.1.1.2.1
  refine it_cnt (fun (j : Nat) (B : Int32 → St → Prop) => ∀ τ, TS 0 n j τ → TV (pgW τ 7) → B (nI j) τ) l (by omega) ?_ ?_ σ s tv
  · intro j hj B hB τ s tv
    obtain ⟨I, ok, hb, sm⟩ := s
    unfold m_L_town_223
    refine ⟨fun q => absurd q (nle_of hj (by omega)), fun _ => ?_⟩
    refine a_low (m := n) (by omega) (by omega) (fun i hi => ?_)
    refine a_low (m := 2) (by omega) (by omega) (fun t ht => ?_)
    refine k_addLeg ok I hi ht (by omega) (fun τ2 cl => ?_)
    refine ⟨fun _ x ex => ?_, fun q => absurd rfl q⟩
    rw [ex, iplus]
    have ok2 : okP 0 n (j + 1) (pgW τ2 7) := ok.leg1 (by omega) hi ht cl.1
    have g : ∀ y, y < 507 ∨ 549 ≤ y → pgW τ2 7 y = pgW τ 7 y := fun y hy => by
      rw [cl.1, upd_n (by omega), upd_n (by omega), upd_n (by omega), upd_n (by omega)]
    have gc : ∀ i, i < n → cellsN (pgW τ2 7) i = cellsN (pgW τ 7) i := fun i hi => by unfold cellsN; rw [g _ (by omega)]
    refine hB τ2 ⟨cl.2.1, ok2, ?_, ⟨sm.1, by omega, fun i hi => by rw [gc i hi]; exact sm.2.2 i hi⟩⟩ (tv.cg (fun y hy => ?_))
    · refine bal_cg hb (oS_cg n (fun i hi => ⟨gc i hi, (ok2.cells hi).2.2, fun s k hs hk => ?_⟩)) (g 506 (by omega)) (fun y y1 y2 => g y (by omega))
      have := (ok2.cells hi).2.2
      exact g _ (by omega)
    · by_cases q : y = 548
      · subst q
        rw [cl.1, upd_s]
        exact tv.2.2.2.2.2.2.1.symm
      · exact g y (by omega)
  · intro B τ s tv
    obtain ⟨t1, t2, t3, t4, t5, t6, t7, t8⟩ := tv
    unfold m_L_town_223
    refine ⟨fun _ => ?_, fun q => absurd ((lei (by omega) (by omega)).mpr (Nat.le_refl l)) q⟩
    refine a_cellS (by rw [li 1, li 10, nI_add]; exact nn0 (by omega)) hL (fun v => ?_)
    refine a_low (m := 4) (by omega) (by omega) (fun a ha => ?_)
    refine ts_set (k := 0) s (by omega) ⟨1 + a, by show 1 ≤ 1 + a; omega, by show 1 + a ≤ 4; omega, by rw [li 1, nI_add], fun q => by omega⟩ (fun τ2 s2 e2 => ?_)
    have g : ∀ y, y ≠ 499 → pgW τ2 7 y = pgW τ 7 y := fun y hy => by rw [e2, upd_n (by omega)]
    refine ⟨fun q => absurd t1 q, fun _ => ?_⟩
    refine a_low (m := 2) (by omega) (by omega) (fun b hb => ?_)
    refine ⟨fun _ => ?_, fun _ => ?_⟩
    · exact T_325 (w7 := 400) s2 (by omega) (by omega) (by rw [g _ (by omega)]; exact t2) (by rw [g _ (by omega)]; exact t6) (by rw [g _ (by omega)]; exact t3) (by rw [g _ (by omega)]; exact t4) (by rw [g _ (by omega)]; exact t5) (by rw [g _ (by omega)]; exact t7) (by rw [g _ (by omega)]; exact t8) h
    · exact T_325 (w7 := 60) s2 (by omega) (by omega) (by rw [g _ (by omega)]; exact t2) (by rw [g _ (by omega)]; exact t6) (by rw [g _ (by omega)]; exact t3) (by rw [g _ (by omega)]; exact t4) (by rw [g _ (by omega)]; exact t5) (by rw [g _ (by omega)]; exact t7) (by rw [g _ (by omega)]; exact t8) h
/-- cells of a new street from k on are clean and free -/
def CN (i a k : Nat) (P : Nat → Int32) : Prop := cellsN P i = a ∧ ∀ m, k ≤ m → m < 2 * a → P (4 + 83 * i + (20 * (m / a) + m % a)) = 0 ∧ P (44 + 83 * i + (20 * (m / a) + m % a)) = 0
theorem dm_inj {a m k : Nat} (h : m / a = k / a) (h2 : m % a = k % a) : m = k := by
  rw [← Nat.div_add_mod m a, ← Nat.div_add_mod k a, h, h2]
theorem T_82 {n L i a : Nat} {xs : Nat → Int32} {x3 x4 : Int32} {σ : St} {Q : Int32 → St → Prop} {B3 : Int32 → St → Prop} (hL : L < 1000001) (hi : i < n) (ha1 : 1 ≤ a) (ha : a ≤ 6) (s : TS 0 n 0 σ) (tv : TV (pgW σ 7)) (cn : CN i a 0 (pgW σ 7)) (h : ∀ τ, TS 0 n 0 τ → TV (pgW τ 7) → B3 (nI (i + 1)) τ) : itN (m_L_town_82 0 1 x3 x4 (nI i) (nI a) B3 L xs Q) (fun _ _ => False) FU 0 σ := by
  have h6 := s.2.1.1.2.1
  have n0 : ¬ nI a = 0 := fun q => absurd ((eqi (b := 0) (by omega) (by omega)).mp q) (by omega)
  refine it_cnt (fun (k : Nat) (B : Int32 → St → Prop) => ∀ τ, TS 0 n 0 τ → TV (pgW τ 7) → CN i a k (pgW τ 7) → B (nI k) τ) (2 * a) (by omega) ?_ ?_ σ s tv cn
  · intro k hk B hB τ s tv cn
    have e1 : nI k / nI a = nI (k / a) := pk_div (by omega) (by omega) (by omega)
    have e2 : nI k - nI k / nI a * nI a = nI (k % a) := pk_rem (by omega) (by omega) (by omega)
    have e6 : nI k - nI k / 6 * 6 = nI (k % 6) := pk_rem (a := k) (d := 6) (by omega) (by omega) (by omega)
    have b1 : k / a < 2 := (Nat.div_lt_iff_lt_mul (by omega)).mpr hk
    have b2 : k % a < a := Nat.mod_lt _ (by omega)
    have h138 : ∀ (md : Nat) (x9 : Int32), 1 ≤ md → md ≤ 100 → m_L_town_138 0 1 x3 x4 (nI i) (nI a) (nI k) x9 B3 B L xs Q (nI md) x9 τ := fun md x9 m1 m2 => by
      unfold m_L_town_138
      refine a_low (m := md) (by omega) (by omega) (fun w hw => ⟨n0, n0, ?_⟩)
      rw [e2, e1]
      refine ts_lay s hi b1 (by rw [cn.1]; exact b2) (by omega) (fun τ2 o ho ho9 s2 p2 => ?_)
      have o0 : nI o = 0 := ho.symm.trans (cn.2 k (Nat.le_refl k) hk).1
      refine ⟨fun q => absurd o0 q, fun _ => ?_⟩
      have c2 : cellsN (pgW τ2 7) i = a := by
        rw [p2, layP_cells b1 (by omega)]
        exact cn.1
      have tv2 : TV (pgW τ2 7) := tv.cg (fun y hy => by rw [p2]; exact layP_y (by omega) (by omega) (by omega))
      have cn2 : CN i a (k + 1) (pgW τ2 7) := ⟨c2, fun m m1 m2 => by
        obtain ⟨q1, q2⟩ := cn.2 m (by omega) m2
        have d1 : m / a < 2 := (Nat.div_lt_iff_lt_mul (by omega)).mpr m2
        have d2 : m % a < a := Nat.mod_lt _ (by omega)
        rw [p2, layP_y (fun q => by obtain ⟨-, g1, g2⟩ := ddi d1 (show m % a < 20 by omega) b1 (show k % a < 20 by omega) q; have := dm_inj g1 g2; omega) (by omega) (by omega), layP_y (dpk b1 (show k % a < 20 by omega) (show 20 * (m / a) + m % a < 40 by omega)) (by omega) (by omega)]
        exact ⟨q1, q2⟩⟩
      refine a_low (m := 5) (by omega) (by omega) (fun f hf => ⟨fun _ x ex => ?_, fun _ => ⟨n0, n0, ?_⟩⟩)
      · rw [ex, iplus]
        exact hB τ2 s2 tv2 cn2
      · refine ts_park s2 hi b1 (by rw [c2]; exact b2) isB1 (fun τ3 s3 p3 => ?_)
        have z : pgW τ2 7 (44 + 83 * i + (20 * (k / a) + k % a)) = 0 := by
          rw [p2, layP_y (dpk b1 (show k % a < 20 by omega) (show 20 * (k / a) + k % a < 40 by omega)) (by omega) (by omega)]
          exact (cn.2 k (Nat.le_refl k) hk).2
        refine ⟨fun _ x ex => ?_, fun q => absurd z q⟩
        rw [ex, iplus]
        refine hB τ3 s3 (tv2.cg (fun y hy => by rw [p3]; exact upd_n (by omega))) ⟨by rw [p3, cellsN_upd (pk_ne1 (by omega))]; exact c2, fun m m1 m2 => ?_⟩
        obtain ⟨q1, q2⟩ := cn2.2 m m1 m2
        have d1 : m / a < 2 := (Nat.div_lt_iff_lt_mul (by omega)).mpr m2
        have d2 : m % a < a := Nat.mod_lt _ (by omega)
        rw [p3, upd_n (fun q => dpk d1 (show m % a < 20 by omega) (show 20 * (k / a) + k % a < 40 by omega) q.symm), upd_n (fun q => by
          have g : 20 * (m / a) + m % a = 20 * (k / a) + k % a := by omega
          have g1 : m / a = k / a := by omega
          have g2 : m % a = k % a := by omega
          have := dm_inj g1 g2
          omega)]
        exact ⟨q1, q2⟩
    unfold m_L_town_82
    refine ⟨fun q => absurd q ?_, fun _ => ?_⟩
    · rw [li 2, pk_mul]
      exact nle_of hk (by omega)
    refine a_cellS (by rw [e6, li 1, li 3, nI_add, nI_add]; exact nn0 (by omega)) hL (fun v x9 e9 => ?_)
    refine a_low (m := 3) (by omega) (by omega) (fun j hj => ⟨fun _ => h138 40 x9 (by omega) (by omega), fun _ => h138 100 x9 (by omega) (by omega)⟩)
  · intro B τ s tv cn
    unfold m_L_town_82
    refine ⟨fun _ x ex => ?_, fun q => absurd ?_ q⟩
    · rw [ex, iplus]
      exact h τ s tv
    · rw [li 2, pk_mul]
      exact (lei (by omega) (by omega)).mpr (Nat.le_refl _)
theorem T_town {n l L : Nat} {xs : Nat → Int32} {σ : St} {Q : Int32 → St → Prop} (hL : L < 1000001) (h1 : 1 ≤ n) (h3 : n ≤ 3) (hl : l ≤ 5) (s : TS 0 0 0 σ) (tv : TV (pgW σ 7)) (h : ∀ τ, TS 0 n l τ → pgW τ 7 548 = 0 → pgW τ 7 562 = 0 → Q 1 τ) : m_L_town 0 1 (nI n) (nI l) L xs Q σ := by
  unfold m_L_town
  refine it_cnt (fun (i : Nat) (B : Int32 → St → Prop) => ∀ τ, TS 0 i 0 τ → TV (pgW τ 7) → B (nI i) τ) n (by omega) ?_ ?_ σ s tv
  · intro i hi B hB τ s tv
    obtain ⟨I, ok, hb, sm⟩ := s
    have h56 : ∀ (md a : Nat) (x6 t1 : Int32), 1 ≤ md → md ≤ 61 → 1 ≤ a → a ≤ 6 → m_L_town_56 0 1 (nI n) (nI l) (nI i) x6 (nI a) B L xs Q (nI md) t1 (nI a) 0 τ := fun md a x6 t1 m1 m2 a1 a2 => by
      unfold m_L_town_56
      refine a_low (m := md) (by omega) (by omega) (fun b hb' => ?_)
      refine a_low (m := 10) (by omega) (by omega) (fun t ht => ?_)
      refine k_addStreet ok I (by omega) a1 (by omega) (by omega) (by omega) (fun τ2 P' cl as => ⟨fun _ => ?_, fun q => absurd rfl q⟩)
      have p2 := cl.1
      have ok2 : okP 0 (i + 1) 0 P' := ok.as as (by omega) a1 (by omega) (by omega) (by omega)
      have b2 : bal (i + 1) P' := bal_as ok hb as ⟨a, rfl, by omega⟩ (by omega)
      obtain ⟨q0, q1, q2, q3, q4, q5, q6⟩ := id as
      have ca : cellsN P' i = a := by unfold cellsN; rw [q0, tn a (by omega)]
      have sm2 : SM (i + 1) 0 P' := ⟨by omega, by omega, fun j hj => by
        by_cases z : j = i
        · subst z; rw [ca]; exact a2
        · have : cellsN P' j = cellsN (pgW τ 7) j := by unfold cellsN; rw [q6 _ (by omega) (by omega) (by omega)]
          rw [this]; exact sm.2.2 j (by omega)⟩
      have tv2 : TV P' := tv.cg (fun y hy => by
        by_cases z : y = 548
        · subst z; rw [q5]; exact tv.2.2.2.2.2.2.1.symm
        · exact q6 y (by omega) z (by omega))
      refine T_82 hL (n := i + 1) (by omega) a1 a2 ⟨cl.2.1, by rw [p2]; exact ok2, by rw [p2]; exact b2, by rw [p2]; exact sm2⟩ (by rw [p2]; exact tv2) ?_ (fun τ3 s3 tv3 => hB τ3 s3 tv3)
      rw [p2]
      refine ⟨ca, fun m _ m2 => ?_⟩
      have d1 : m / a < 2 := (Nat.div_lt_iff_lt_mul (by omega)).mpr m2
      have d2 : m % a < a := Nat.mod_lt _ (by omega)
      have z2 := q3 (40 + (20 * (m / a) + m % a)) (by omega)
      rw [show 4 + 83 * i + (40 + (20 * (m / a) + m % a)) = 44 + 83 * i + (20 * (m / a) + m % a) by omega] at z2
      exact ⟨q3 _ (by omega), z2⟩
    unfold m_L_town_3
    refine ⟨fun q => absurd q (nle_of hi (by omega)), fun _ => ?_⟩
    refine a_cellS (by rw [li 1, nI_add]; exact nn0 (by omega)) hL (fun v => ?_)
    refine a_low (m := 6) (by omega) (by omega) (fun j hj x7 e7 => ?_)
    rw [li 1, nI_add] at e7
    subst e7
    refine a_low (m := 3) (by omega) (by omega) (fun j2 hj2 => ⟨fun _ => h56 10 (1 + j) v _ (by omega) (by omega) (by omega) (by omega), fun _ => h56 61 (1 + j) v _ (by omega) (by omega) (by omega) (by omega)⟩)
  · intro B τ s tv
    unfold m_L_town_3
    refine ⟨fun _ => ?_, fun q => absurd ((lei (by omega) (by omega)).mpr (Nat.le_refl n)) q⟩
    refine a_cellS (by rw [li 1, li 9, nI_add]; exact nn0 (by omega)) hL (fun v => ?_)
    exact T_223 hL h1 hl s tv h
