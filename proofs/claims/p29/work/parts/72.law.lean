-- the law: six shifts
theorem sD_nat {f : Nat → Int32} {o : Nat} : ∀ m, (∀ k, k < m → ∃ v, f (o + k) = nI v ∧ v ≤ 99) → ∃ v, sD f o m = nI v ∧ v ≤ 99 * m := by
  intro m
  induction m with
  | zero => intro _; exact ⟨0, rfl, by omega⟩
  | succ m ih =>
    intro h
    obtain ⟨v, v1, v2⟩ := ih (fun k hk => h k (by omega))
    obtain ⟨w, w1, w2⟩ := h m (by omega)
    refine ⟨v + w, ?_, by omega⟩
    show sD f o m + f (o + m) = nI (v + w)
    rw [v1, w1, nI_add]
theorem oS_nat {c n l : Nat} {P : Nat → Int32} (ok : okP c n l P) : ∀ m, m ≤ n → ∃ v, oS P m = nI v ∧ v ≤ 4000 * m := by
  intro m
  induction m with
  | zero => intro _; exact ⟨0, rfl, by omega⟩
  | succ m ih =>
    intro hm
    obtain ⟨v, v1, v2⟩ := ih (by omega)
    have c20 := (ok.cells (i := m) (by omega)).2.2
    obtain ⟨a, a1, a2⟩ := sD_nat (f := P) (o := 4 + 83 * m) (cellsN P m) (fun k hk => (ok.2.2.1 m k (by omega) (by omega)).1)
    obtain ⟨b, b1, b2⟩ := sD_nat (f := P) (o := 24 + 83 * m) (cellsN P m) (fun k hk => by
      have := (ok.2.2.1 m (20 + k) (by omega) (by omega)).1
      rw [show 4 + 83 * m + (20 + k) = 24 + 83 * m + k by omega] at this
      exact this)
    refine ⟨v + (a + b), ?_, by omega⟩
    show oS P m + (sD P (4 + 83 * m) (cellsN P m) + sD P (24 + 83 * m) (cellsN P m)) = nI (v + (a + b))
    rw [v1, a1, b1, nI_add, nI_add]
theorem rnS_560 {c n l i s v k q : Nat} {P : Nat → Int32} (ok : okP c n l P) (hi : i < n) (hs : s < 2) (hk : k < v) (hv : v ≤ 20) (hq : q ≤ 100) : ∃ x, rnS P i s v k (nI q) 560 = P 560 + nI x ∧ x ≤ 198 := by
  have h6 := ok.1.2.1
  obtain ⟨d, r, d1, d2, r1, r2⟩ := ok.run hi hs (show k < 20 by omega) hq
  unfold rnS
  rw [r1]
  split
  · exact ⟨r, upd_s, by omega⟩
  · rename_i hne
    obtain ⟨d', g1, g2⟩ := (ok.2.2.1 i (20 * s + (k + 1)) hi (by omega)).1
    rw [g1, nI_add]
    by_cases z : d' + r ≤ 99
    · refine ⟨0, ?_, by omega⟩
      rw [upd_n (by omega), upd_s, if_pos (show nI (d' + r) ≤ (99 : Int32) from (lei (b := 99) (by omega) (by omega)).mpr z)]
      rfl
    · refine ⟨d' + r - 99, ?_, by omega⟩
      rw [upd_n (by omega), upd_s, if_neg (show ¬ nI (d' + r) ≤ (99 : Int32) from fun w => z ((lei (b := 99) (by omega) (by omega)).mp w)), show (99 : Int32) = nI 99 from rfl, pk_sub (by omega)]
theorem rnL_560 {c n l i s v q : Nat} (hi : i < n) (hs : s < 2) (hv : v ≤ 20) (hq : q ≤ 100) : ∀ m (P : Nat → Int32), m ≤ v → okP c n l P → ∃ x, rnL i s v (nI q) m P 560 = P 560 + nI x ∧ x ≤ 198 * m := by
  intro m
  induction m with
  | zero => intro P _ _; exact ⟨0, (Int32.add_zero _).symm, by omega⟩
  | succ m ih =>
    intro P hm ok
    obtain ⟨x, x1, x2⟩ := rnS_560 ok hi hs (k := m) (v := v) (by omega) hv hq
    obtain ⟨y, y1, y2⟩ := ih (rnS P i s v m (nI q)) (by omega) (ok.rain1 hi hs (by omega) hv hq)
    refine ⟨x + y, ?_, by omega⟩
    show rnL i s v (nI q) m (rnS P i s v m (nI q)) 560 = P 560 + nI (x + y)
    rw [y1, x1, ← nI_add]
    grind
theorem rnA_560 {c n l q : Nat} {P : Nat → Int32} (ok : okP c n l P) (hb : bal n P) (hq : q ≤ 100) : ∀ m, m ≤ n → ∃ x, rnA (nI q) P m 560 = P 560 + nI x ∧ x ≤ 8000 * m := by
  have h6 := ok.1.2.1
  have c20 : ∀ i, i < n → cellsN P i ≤ 20 := fun i hi => (ok.cells hi).2.2
  intro m
  induction m with
  | zero => intro _; exact ⟨0, (Int32.add_zero _).symm, by omega⟩
  | succ m ih =>
    intro hm
    obtain ⟨x, x1, x2⟩ := ih (by omega)
    obtain ⟨o1, b1⟩ := bal_rain ok hb hq m (by omega)
    have e1 : cellsN (rnA (nI q) P m) m = cellsN P m := rnA_cells c20 m (by omega) m (by omega)
    have c := c20 m (by omega)
    obtain ⟨o2, -⟩ := bal_rainL (s := 0) (i := m) (by omega) (by omega) hq (cellsN P m) (rnA (nI q) P m) e1 (Nat.le_refl _) o1 b1
    obtain ⟨y, y1, y2⟩ := rnL_560 (i := m) (s := 0) (by omega) (by omega) c hq (cellsN P m) (rnA (nI q) P m) (Nat.le_refl _) o1
    obtain ⟨w, w1, w2⟩ := rnL_560 (i := m) (s := 1) (by omega) (by omega) c hq (cellsN P m) _ (Nat.le_refl _) o2
    refine ⟨x + y + w, ?_, by omega⟩
    show rnL m 1 (cellsN P m) (nI q) (cellsN P m) (rnL m 0 (cellsN P m) (nI q) (cellsN P m) (rnA (nI q) P m)) 560 = P 560 + nI (x + y + w)
    rw [w1, y1, x1, ← nI_add, ← nI_add]
    grind
theorem rnL_hi {i s v y : Nat} {pc : Int32} (hi : i < 6) (hs : s < 2) (hv : v ≤ 20) (hy : 499 ≤ y) (h0 : y ≠ 560) : ∀ m (P : Nat → Int32), m ≤ v → rnL i s v pc m P y = P y := by
  intro m
  induction m with
  | zero => intro P _; rfl
  | succ m ih =>
    intro P hm
    show rnL i s v pc m (rnS P i s v m pc) y = P y
    rw [ih _ (by omega)]
    by_cases z : m + 1 = v
    · unfold rnS
      rw [if_pos z, upd_n h0, upd_n (by omega)]
    · unfold rnS
      rw [if_neg z, upd_n (by omega), upd_n h0, upd_n (by omega)]
theorem rnA_hi {n y : Nat} {pc : Int32} {P : Nat → Int32} (hc : ∀ i, i < n → cellsN P i ≤ 20) (hn : n ≤ 6) (hy : 499 ≤ y) (h0 : y ≠ 560) : ∀ m, m ≤ n → rnA pc P m y = P y := by
  intro m
  induction m with
  | zero => intro _; rfl
  | succ m ih =>
    intro hm
    show rnL m 1 (cellsN P m) pc (cellsN P m) (rnL m 0 (cellsN P m) pc (cellsN P m) (rnA pc P m)) y = P y
    rw [rnL_hi (by omega) (by omega) (hc m (by omega)) hy h0 _ _ (Nat.le_refl _), rnL_hi (by omega) (by omega) (hc m (by omega)) hy h0 _ _ (Nat.le_refl _)]
    exact ih (by omega)
/-- between the law's turns: e shifts were carried out -/
def NS (e n l : Nat) (τ : St) : Prop := TS e n l τ ∧ pgW τ 7 562 = nI e
theorem ns_night {e n l nn : Nat} {σ : St} {Q : Int32 → St → Prop} (s : NS e n l σ) (h1 : 1 ≤ nn) (hn : nn ≤ 30) (hQ : ∀ τ v, NS e n l τ → v < 1000001 → Q (nI v) τ) : m_9_night 0 (nI nn) Q σ := by
  obtain ⟨⟨I, ok, hb, sm⟩, h562⟩ := s
  have h6 := ok.1.2.1
  refine k_night ok I h1 hn (fun τ P' cl g ok2 => ?_)
  obtain ⟨v, v1, v2⟩ := oS_nat ok2 n (Nat.le_refl n)
  rw [v1]
  have nd : ∀ y, 499 ≤ y → ¬ dcell n (pgW σ 7) y := fun y hy ⟨i, s, k, g1, g2, g3, g4⟩ => by
    have := (ok.cells g1).2.2
    omega
  refine hQ τ v ⟨⟨cl.2.1, ok2, ?_, ?_⟩, ?_⟩ (by omega)
  · rw [cl.1] at ok2 ⊢
    exact bal_night (nn := nn) ok hb g ok2
  · rw [cl.1]
    exact sm.cg (fun i hi => by rw [cellsN_upd (by omega), g.cells ok (by omega)])
  · rw [cl.1, upd_n (by omega), g.2.2.2 562 (nd _ (by omega)) (by omega) (by omega)]
    exact h562
theorem ns_rain {e n l nn : Nat} {σ : St} {Q : Int32 → St → Prop} (s : NS e n l σ) (h1 : 1 ≤ nn) (hn : nn ≤ 100) (hQ : ∀ τ v, NS e n l τ → v < 1000001 → Q (nI v) τ) : m_9_rain 0 (nI nn) Q σ := by
  obtain ⟨⟨I, ok, hb, sm⟩, h562⟩ := s
  have h6 := ok.1.2.1
  have c20 : ∀ i, i < n → cellsN (pgW σ 7) i ≤ 20 := fun i hi => (ok.cells hi).2.2
  refine k_rain ok I h1 hn (fun τ acc cl g => ?_)
  obtain ⟨x, x1, x2⟩ := rnA_560 ok hb hn n (Nat.le_refl n)
  have ea : acc = nI x := by
    rw [x1] at g
    grind
  rw [ea]
  obtain ⟨o2, b2⟩ := bal_rain ok hb hn n (Nat.le_refl n)
  refine hQ τ x ⟨⟨cl.2.1, by rw [cl.1]; exact o2, by rw [cl.1]; exact b2, ?_⟩, ?_⟩ (by omega)
  · rw [cl.1]
    exact sm.cg (fun i hi => rnA_cells c20 n (Nat.le_refl n) i (by omega))
  · rw [cl.1, rnA_hi c20 h6 (by omega) (by omega) n (Nat.le_refl n)]
    exact h562
section LWS
variable {e n l L : Nat} {xs : Nat → Int32} {Q : Int32 → St → Prop} {B : Int32 → St → Prop}
theorem w_296 {σ : St} (s : NS (e + 1) n l σ) (hB : ∀ τ, NS (e + 1) n l τ → B (nI (e + 1)) τ) : m_L_law_296 0 (nI e) B L xs Q σ := by
  unfold m_L_law_296
  refine a_bal s.1.2.1 s.1.2.2.1 ⟨fun _ x ex => ?_, fun q => absurd q (by decide)⟩
  rw [ex, iplus]
  exact hB σ s
theorem w_272 {a b v : Nat} {x9 t0 : Int32} {σ : St} (hn : 1 ≤ n) (s : NS (e + 1) n l σ) (ha : a < 2) (hb : b < cellsN (pgW σ 7) 0) (ht : isB t0) (h9 : pgW σ 7 (44 + 83 * 0 + (20 * a + b)) = x9) (hB : ∀ τ, NS (e + 1) n l τ → B (nI (e + 1)) τ) : m_L_law_272 0 (nI e) (nI a) (nI b) x9 B L xs Q t0 (nI b) (nI a) 0 0 σ := by
  have c20 := (s.1.2.1.cells (i := 0) (by omega)).2.2
  unfold m_L_law_272
  refine ts_park (i := 0) s.1 (by omega) ha hb ht (fun τ t e1 => ?_)
  refine ⟨fun q => absurd h9 q, fun _ => ?_⟩
  refine ts_lay (i := 0) (w := 99) t (by omega) ha (by rw [e1, cellsN_upd (pk_ne1 (by omega))]; exact hb) (by omega) (fun τ2 o ho ho9 t2 e2 => ?_)
  refine ⟨fun _ => w_296 ⟨t2, ?_⟩ hB, fun q => absurd ((lei (a := 0) (by omega) (by omega)).mpr (Nat.zero_le o)) q⟩
  rw [e2, layP_y (by omega) (by omega) (by omega), e1, upd_n (by omega)]
  exact s.2
theorem w_213 {x5 x6 : Int32} {σ : St} (hn : 1 ≤ n) (s : NS (e + 1) n l σ) (hB : ∀ τ, NS (e + 1) n l τ → B (nI (e + 1)) τ) : m_L_law_213 0 (nI e) x5 x6 B L xs Q σ := by
  obtain ⟨cv, cv1, cv2⟩ := s.1.2.1.cells (i := 0) (by omega)
  unfold m_L_law_213
  refine ⟨fun _ => w_296 s hB, fun _ => ?_⟩
  refine a_low (m := 2) (by omega) (by omega) (fun a ha => ?_)
  refine a_st (i := 0) (r := 0) s.1.2.1 (by omega) (by omega) ?_
  rw [show 1 + 83 * 0 + 0 = 1 + 83 * 0 from rfl, cv]
  refine a_low (m := cellsN (pgW σ 7) 0) (by omega) (by omega) (fun b hb => ?_)
  refine a_cell (i := 0) (r := 1) s.1.2.1 (by omega) ha hb (by omega) ?_
  rw [show 4 + 40 * 1 + 83 * 0 = 44 + 83 * 0 by omega]
  exact ⟨fun _ => w_272 (v := 0) hn s ha hb isB0 rfl hB, fun _ => w_272 (v := 0) hn s ha hb isB1 rfl hB⟩
theorem w_178 {x5 x6 : Int32} {σ : St} (hn : 1 ≤ n) (s : NS (e + 1) n l σ) (hB : ∀ τ, NS (e + 1) n l τ → B (nI (e + 1)) τ) : m_L_law_178 0 (nI e) x5 x6 B L xs Q σ := by
  unfold m_L_law_178
  refine ⟨fun _ => w_213 hn s hB, fun _ => ?_⟩
  refine a_cnt (k := 2) (by omega) (by omega) ?_
  rw [show cntA 2 = 499 from rfl]
  refine a_low (m := 4) (by omega) (by omega) (fun a ha => ?_)
  refine ts_set (k := 0) s.1 (by omega) ⟨1 + a, by show 1 ≤ 1 + a; omega, by show 1 + a ≤ 4; omega, by rw [li 1, nI_add], fun q => by omega⟩ (fun τ t e1 => ?_)
  refine ⟨fun _ => w_213 hn ⟨t, ?_⟩ hB, fun q => absurd rfl q⟩
  rw [e1, upd_n (by omega)]
  exact s.2
theorem w_152 {x5 x6 : Int32} {σ : St} (hn : 1 ≤ n) (s : NS (e + 1) n l σ) (hB : ∀ τ, NS (e + 1) n l τ → B (nI (e + 1)) τ) : m_L_law_152 0 (nI e) x5 x6 B L xs Q σ := by
  unfold m_L_law_152
  refine ⟨fun _ => w_178 hn s hB, fun _ => ?_⟩
  refine a_low (m := 100) (by omega) (by omega) (fun a ha => ?_)
  rw [li 1, nI_add]
  refine ns_rain s (by omega) (by omega) (fun τ v t hv => ?_)
  exact ⟨fun _ => w_178 hn t hB, fun q => absurd ((lei (a := 0) (by omega) (by omega)).mpr (Nat.zero_le v)) q⟩
theorem w_81 {σ : St} (hn : 1 ≤ n) (hL : L < 1000001) (he : e < 6) (s : NS e n l σ) (hB : ∀ τ, NS (e + 1) n l τ → B (nI (e + 1)) τ) : m_L_law_81 0 L xs Q B (nI e) σ := by
  unfold m_L_law_81
  refine ⟨fun q => absurd q (nle_of (a := 6) he (by omega)), fun _ => ?_⟩
  refine a_cellS (by rw [li 13, nI_add]; exact nn0 (by omega)) hL (fun g => ?_)
  refine L_shift (c := e) (by omega) rfl s.1.2.1 s.1.1 s.1.2.2.2 s.1.2.2.1 (fun τ I ok b sm h562 => ?_)
  have e562 : pgW τ 7 562 = nI (e + 1) := by rw [h562, s.2, iplus]
  have t : NS (e + 1) n l τ := ⟨⟨I, ok, b, sm⟩, e562⟩
  refine ⟨fun q => absurd q (by decide), fun _ => ?_⟩
  refine a_cnt (k := 11) (by omega) (by omega) ?_
  rw [show cntA 11 = 562 from rfl, e562]
  refine ⟨fun _ => ?_, fun q => absurd (iplus e).symm q⟩
  refine a_low (m := 5) (by omega) (by omega) (fun j hj => ⟨fun _ => w_152 hn t hB, fun _ => ?_⟩)
  refine a_low (m := 9) (by omega) (by omega) (fun a ha => ?_)
  rw [li 1, nI_add]
  refine ns_night t (by omega) (by omega) (fun τ2 v t2 hv => ?_)
  exact ⟨fun q => absurd q (nn0 (by omega)), fun _ => w_152 hn t2 hB⟩
end LWS
theorem law_ok {L : Nat} {xs : Nat → Int32} {σ : St} (hL : L ≤ 260) (s : TS 0 0 0 σ) (tv : TV (pgW σ 7)) : m_L_law 0 L xs (fun v _ => v = 1) σ := by
  unfold m_L_law
  refine a_cellS (by decide) (by omega) (fun v1 => ?_)
  refine a_low (m := 3) (by omega) (by omega) (fun a ha x2 e2 => ?_)
  rw [li 1, nI_add] at e2
  subst e2
  refine a_cellS (by decide) (by omega) (fun v2 => ?_)
  refine a_low (m := 6) (by omega) (by omega) (fun b hb => ?_)
  refine T_town (n := 1 + a) (l := b) (by omega) (by omega) (by omega) (by omega) s tv (fun τ t h548 h562 => ?_)
  refine ⟨fun q => absurd q (by decide), fun _ => ?_⟩
  refine a_bal t.2.1 t.2.2.1 ⟨fun q => absurd q (by decide), fun _ => ?_⟩
  have h66 : m_L_law_66 0 L xs (fun v _ => v = 1) τ := by
    unfold m_L_law_66
    refine a_lat_no h562 ⟨fun _ => ?_, fun q => absurd rfl q⟩
    refine it_up (n := 6) (app := fun (e : Nat) (B : Int32 → St → Prop) => ∀ τ, NS e (1 + a) b τ → B (nI e) τ) ?_ ?_ 6 0 7 (by omega) (by omega) τ ⟨t, h562⟩
    · intro e he B hB τ s
      exact w_81 (by omega) (by omega) he s hB
    · intro B τ s
      unfold m_L_law_81
      exact ⟨fun _ => rfl, fun q => absurd ((lei (a := 6) (b := 6) (by omega) (by omega)).mpr (Nat.le_refl 6)) q⟩
  refine ⟨fun _ => h66, fun q => ?_⟩
  have b0 : 0 < b := by
    have := mt (lei (a := b) (b := 0) (by omega) (by omega)).mpr q
    omega
  exact a_leg_st (j := 0) t.2.1 b0 h548 ⟨fun q => absurd rfl q, fun _ => h66⟩
/-- the fresh object -/
theorem start_ok {k : Cc} (s : st9 k) : TS 0 0 0 k.1 ∧ TV (pgW k.1 7) := by
  obtain ⟨-, -, s1, s2, s3, s4, s5, s6, s7, s8⟩ := s
  have q0 : pgW k.1 7 0 = 0 := by rw [← g0, s5, if_neg (by omega)]
  have q507 : pgW k.1 7 507 = 0 := by rw [← g507, s5, if_neg (by omega)]
  have q548 : pgW k.1 7 548 = 0 := by rw [← g548, s5, if_neg (by omega)]
  have q505 : pgW k.1 7 505 = 1000 := by rw [← g505, s5, if_pos rfl]
  have q506 : pgW k.1 7 506 = 0 := by rw [← g506, s5, if_neg (by omega)]
  have q562 : pgW k.1 7 562 = 0 := by rw [← g562, s5, if_neg (by omega)]
  have qs : ∀ j, j < 6 → pgW k.1 7 (499 + j) = stV 0 j := fun j hj => by rw [← gset k.1 7 hj, show (7 + 3 : Nat) = 10 from rfl, s6, if_pos hj]
  have qm : ∀ j, j < 6 → pgW k.1 7 (556 + j) = 0 := fun j hj => by rw [← gsum k.1 7 hj, show (7 + 4 : Nat) = 11 from rfl, s7]
  have ok : okP 0 0 0 (pgW k.1 7) := ⟨⟨q0, by omega, q507, by omega⟩, fun i hi => absurd hi (Nat.not_lt_zero i), fun i k hi => absurd hi (Nat.not_lt_zero i), fun j hj => absurd hj (Nat.not_lt_zero j), ⟨⟨2, qs 0 (by omega), by omega, by omega⟩, ⟨300, 0, qs 1 (by omega), q506, by omega, by omega, by omega⟩, ⟨1, qs 2 (by omega), by omega⟩, ⟨2400, qs 3 (by omega), by omega, by omega⟩, ⟨200, qs 4 (by omega), by omega⟩, ⟨100, qs 5 (by omega), by omega⟩, ⟨1000, q505, by omega⟩⟩, Or.inl q548, ⟨0, q562, by omega⟩⟩
  refine ⟨⟨⟨0, 0, by omega, by omega, s3, s4⟩, ok, ?_, ⟨by omega, by omega, fun i hi => absurd hi (Nat.not_lt_zero i)⟩⟩, qs 0 (by omega), qs 1 (by omega), qs 2 (by omega), qs 3 (by omega), qs 4 (by omega), q506, q548, q562⟩
  show (0 : Int32) + pgW k.1 7 506 = pgW k.1 7 (556 + 0) + pgW k.1 7 (556 + 1) - pgW k.1 7 (556 + 2) - pgW k.1 7 (556 + 3) - pgW k.1 7 (556 + 4) - pgW k.1 7 (556 + 5)
  rw [q506, qm 0 (by omega), qm 1 (by omega), qm 2 (by omega), qm 3 (by omega), qm 4 (by omega), qm 5 (by omega)]
  decide
theorem pure_ok (L : Nat) (xs : Nat → Int32) (hL : L ≤ 260) : pureAll L xs := by
  unfold pureAll
  have f : FR (nxC k00) 1 := ⟨rfl, fun _ _ _ => ⟨rfl, rfl⟩, rfl⟩
  refine s_9_init f (fun _ => rfl) (fun k' s => ?_)
  obtain ⟨t, tv⟩ := start_ok s
  exact ⟨⟨s.1.1, fun a j h1 h2 => s.2.1 a j (Nat.zero_le a) h1 h2⟩, law_ok hL t tv⟩
