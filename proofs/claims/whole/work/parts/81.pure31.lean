theorem cellsF_k {j i s y : Nat} {P : Nat → Int32} (h : kp y) (hj : j < 10) (hi : i < 6) (hs : s < 2) : ∀ k, k ≤ 20 → cellsF j i s k P y = P y := by
  intro k
  induction k with
  | zero => intro _; rfl
  | succ k ih =>
    intro hk
    unfold cellsF
    split
    · rw [cellF_k h hj hi hs (by omega), ih (by omega)]
    · exact ih (by omega)
theorem legF_k {n l j y : Nat} {P : Nat → Int32} {x : Int32} (hL : legO n l P) (hn : n ≤ 6) (hl : l ≤ 10) (hj : j < l) (h : kp y) : (legF j P x).1 y = P y := by
  obtain ⟨a1, a2, a3, a4⟩ := hL.1 j hj
  have kx := kp_x h
  unfold legF
  split
  · exact upd_n kx.2.2.2.2.1
  · show cellsF j (lgI P j) (lgS P j) (cellsN P (lgI P j)) _ y = P y
    rw [cellsF_k h (by omega) (by omega) a3 _ (hL.2 _ a1), upd_n kx.2.2.2.2.2.1]
theorem legO.cg {n l : Nat} {P P' : Nat → Int32} (hL : legO n l P) (hn : n ≤ 6) (hl : l ≤ 10) (h : ∀ y, kp y → P' y = P y) : legO n l P' := by
  refine ⟨fun j hj => ?_, fun i hi => ?_⟩
  · have e0 : P' (508 + 4 * j) = P (508 + 4 * j) := h _ (Or.inr (Or.inr (Or.inr (Or.inr (Or.inl ⟨by omega, by omega, by omega⟩)))))
    have e1 : P' (508 + 4 * j + 1) = P (508 + 4 * j + 1) := h _ (Or.inr (Or.inr (Or.inr (Or.inr (Or.inl ⟨by omega, by omega, by omega⟩)))))
    have := hL.1 j hj
    unfold lgI lgS at *
    rw [e0, e1]
    exact this
  · have e0 : P' (1 + 83 * i) = P (1 + 83 * i) := h _ (Or.inr (Or.inl ⟨i, 0, by omega, by omega, by omega⟩))
    have := hL.2 i hi
    unfold cellsN at *
    rw [e0]
    exact this
theorem legsF_k {n l : Nat} {o : Nat → Nat} {P : Nat → Int32} (hL : legO n l P) (hn : n ≤ 6) (hl : l ≤ 10) (ho : ordO l o) : ∀ k, k ≤ l → (∀ y, kp y → (legsF o P k).1 y = P y) ∧ posO n (legsF o P k).2 := by
  intro k
  induction k with
  | zero => intro _; exact ⟨fun _ _ => rfl, Or.inl rfl⟩
  | succ k ih =>
    intro hk
    obtain ⟨i1, i2⟩ := ih (by omega)
    have hL' := hL.cg hn hl i1
    have e : legsF o P (k + 1) = if (legsF o P k).1 549 = 0 then legF (o k) (legsF o P k).1 (legsF o P k).2 else legsF o P k := rfl
    rw [e]
    split
    · refine ⟨fun y hy => ?_, ?_⟩
      · rw [legF_k hL' hn hl (ho.1 k (by omega)) hy]
        exact i1 y hy
      · unfold legF
        split
        · exact i2
        · exact Or.inr ⟨_, (hL'.1 (o k) (ho.1 k (by omega))).1, rfl⟩
    · exact ⟨i1, i2⟩
theorem ag_legs {n l : Nat} {o : Nat → Nat} {P p : Nat → Int32} (h : AG n l o P p) (hL : legO n l P) (hn : n ≤ 6) (hl : l ≤ 10) (ho : ordO l o) : ∀ k, k ≤ l → AG n l o (legsF id P k).1 (legsF o p k).1 ∧ (legsF id P k).2 = (legsF o p k).2 ∧ doneF id P k = doneF o p k := by
  intro k
  induction k with
  | zero => intro _; exact ⟨h, rfl, rfl⟩
  | succ k ih =>
    intro hk
    obtain ⟨i1, i2, i3⟩ := ih (by omega)
    obtain ⟨k1, k2⟩ := legsF_k hL hn hl (ord_id l) k (by omega)
    have hL' := hL.cg hn hl k1
    have e : legsF id P (k + 1) = if (legsF id P k).1 549 = 0 then legF k (legsF id P k).1 (legsF id P k).2 else legsF id P k := rfl
    have e' : legsF o p (k + 1) = if (legsF o p k).1 549 = 0 then legF (o k) (legsF o p k).1 (legsF o p k).2 else legsF o p k := rfl
    have e5 : (legsF id P k).1 549 = (legsF o p k).1 549 := i1.hi (by omega) (by omega) (by omega) (by omega)
    obtain ⟨j1, j2⟩ := i1.leF ho hl hn (show k < l by omega) hL' k2
    have step : AG n l o (legsF id P (k + 1)).1 (legsF o p (k + 1)).1 ∧ (legsF id P (k + 1)).2 = (legsF o p (k + 1)).2 := by
      rw [e, e', ← e5, ← i2]
      split
      · exact ⟨j1, j2⟩
      · exact ⟨i1, i2⟩
    refine ⟨step.1, step.2, ?_⟩
    have d : doneF id P (k + 1) = if (legsF id P k).1 549 = 0 ∧ (legsF id P (k + 1)).1 549 = 0 then k + 1 else doneF id P k := rfl
    have d' : doneF o p (k + 1) = if (legsF o p k).1 549 = 0 ∧ (legsF o p (k + 1)).1 549 = 0 then k + 1 else doneF o p k := rfl
    rw [d, d', e5, i3, step.1.hi (x := 549) (by omega) (by omega) (by omega) (by omega)]
theorem endC_y {P : Nat → Int32} {y : Nat} (h4 : y ≠ 505) (h5 : y ≠ 501) : endC P y = P y := by
  unfold endC
  split
  · rfl
  · split
    · rfl
    · rw [upd_n h5, upd_n h4]
theorem endB_y {P : Nat → Int32} {y : Nat} (h2 : y ≠ 561) (h3 : y ≠ 506) : endB P y = P y := by
  unfold endB dmp
  split
  · rfl
  · rw [upd_n h3, upd_n h2]
theorem endF_y {P : Nat → Int32} {x : Int32} {y : Nat} (h1 : y ≠ 550) (h2 : y ≠ 561) (h3 : y ≠ 506) (h4 : y ≠ 505) (h5 : y ≠ 501) (h6 : y ≠ 562) (h7 : y ≠ 548) : endF P x y = P y := by
  unfold endF endD
  rw [upd_n h7, upd_n h6, endC_y h4 h5, endB_y h2 h3]
  unfold endA
  rw [upd_n h1]
theorem endF_562 {P : Nat → Int32} {x : Int32} : endF P x 562 = P 562 + 1 := by
  unfold endF endD
  rw [upd_n (by omega), upd_s, endC_y (by omega) (by omega), endB_y (by omega) (by omega)]
  unfold endA
  rw [upd_n (by omega)]
theorem endF_550 {P : Nat → Int32} {x : Int32} : endF P x 550 = P 550 + hmV P x := by
  unfold endF endD
  rw [upd_n (by omega), upd_n (by omega), endC_y (by omega) (by omega), endB_y (by omega) (by omega)]
  unfold endA
  rw [upd_s]
theorem s_10_goesThrough {c n l : Nat} {σ : St} {o : Nat → Nat} {Q : St → Prop} (ok : okP c n l (σ.1 355)) (ho : ordO l o) (hor : ∀ j, j < l → σ.1 358 j = nI (o j))
    (hQ : ∀ τ p1 q, clrP l (σ.1 355) p1 → moF σ τ → τ.1 355 = q → (∀ y, y ≠ 555 → q y = endF (upd (legsF o p1 l).1 554 (nI (doneF o p1 l))) (legsF o p1 l).2 y) → q 555 = 1 → Q τ) : m_10_goesThrough 354 Q σ := by
  have h6 := ok.1.2.1
  have h10 := ok.1.2.2.2
  have h507 := ok.1.2.2.1
  unfold m_10_goesThrough
  refine it_cnt (fun (k : Nat) (A : Int32 → St → Prop) => ∀ τ, τ.2 = σ.2 → (∀ a, a ≠ 355 → τ.1 a = σ.1 a) → (∀ y, 549 ≤ y → y < 549 + k → τ.1 355 y = 0) → (∀ y, (y < 549 ∨ 549 + k ≤ y) → τ.1 355 y = σ.1 355 y) → A (nI k) τ) 6 (by decide) ?_ ?_ σ rfl (fun _ _ => rfl) (fun y h1 h2 => by omega) (fun _ _ => rfl)
  · intro k hk A hA τ f0 f1 f2 f3
    unfold m_10_goesThrough_2
    refine ⟨fun q => absurd ((lei (a := 6) (by decide) (by omega)).mp q) (by omega), fun _ => ?_⟩
    rw [latI, tn _ (by omega)]
    refine ⟨vq (by omega), fun σ1 e1 x ex => ?_⟩
    rw [ex, li 1, nI_add]
    have w1 : σ1.1 355 = upd (τ.1 355) (549 + k) 0 := by rw [e1]; exact wr_at
    refine hA σ1 (by rw [e1]; exact f0) (fun a ha => by rw [e1, wr_cell ha]; exact f1 a ha) (fun y h1 h2 => ?_) (fun y h1 => by rw [w1, upd_n (by omega)]; exact f3 y (by omega))
    rw [w1, rd_upd]
    refine ite_e (fun _ => rfl) (fun _ => f2 y h1 (by omega))
  intro A τ0 f0 f1 f2 f3
  unfold m_10_goesThrough_2
  refine ⟨fun _ => ?_, fun q => absurd ((lei (a := 6) (by decide) (by decide)).mpr (Nat.le_refl 6)) q⟩
  refine it_cnt (fun (k : Nat) (A : Int32 → St → Prop) => ∀ τ, τ.2 = σ.2 → (∀ a, a ≠ 355 → τ.1 a = σ.1 a) → (∀ y, 549 ≤ y → y < 555 → τ.1 355 y = 0) → (∀ j, j < k → τ.1 355 (508 + 4 * j + 2) = 0 ∧ τ.1 355 (508 + 4 * j + 3) = 0) → (∀ y, (y < 508 ∨ 555 ≤ y ∨ (508 ≤ y ∧ y < 548 ∧ (y - 508) % 4 < 2) ∨ y = 548) → τ.1 355 y = σ.1 355 y) → A (nI k) τ) l (by omega) ?_ ?_ τ0 f0 f1 (fun y h1 h2 => f2 y h1 (by omega)) (fun j hj => by omega) (fun y hy => f3 y (by omega))
  · intro k hk A hA τ g0' g1 g2 g3 g4
    unfold m_10_goesThrough_27
    rw [t507, show (354 + 1 : Nat) = 355 from rfl, g4 507 (by omega), h507]
    refine ⟨v507, fun q => absurd q (nle_of hk (by omega)), fun _ => ?_⟩
    rw [show (508 : Int32) + 4 * nI k + 2 = nI (508 + 4 * k + 2) from legI k 2, show (508 : Int32) + 4 * nI k + 3 = nI (508 + 4 * k + 3) from legI k 3, tn _ (by omega), tn _ (by omega)]
    refine ⟨vq (by omega), fun σ1 e1 => ⟨vq (by omega), fun σ2 e2 x ex => ?_⟩⟩
    rw [ex, li 1, nI_add]
    have w2 : σ2.1 355 = upd (upd (τ.1 355) (508 + 4 * k + 2) 0) (508 + 4 * k + 3) 0 := by rw [e2, wr_at, e1, wr_at]
    refine hA σ2 (by rw [e2, e1]; exact g0') (fun a ha => by rw [e2, wr_cell ha, e1, wr_cell ha]; exact g1 a ha) (fun y h1 h2 => by rw [w2, upd_n (by omega), upd_n (by omega)]; exact g2 y h1 h2) (fun j hj => ?_) (fun y hy => by rw [w2, upd_n (by omega), upd_n (by omega)]; exact g4 y hy)
    rw [w2]
    by_cases q : j = k
    · subst q
      exact ⟨by rw [upd_n (by omega), upd_s], by rw [upd_s]⟩
    · rw [upd_n (by omega), upd_n (by omega), upd_n (by omega), upd_n (by omega)]
      exact g3 j (by omega)
  intro A τ g0' g1 g2 g3 g4
  unfold m_10_goesThrough_27
  rw [t507, show (354 + 1 : Nat) = 355 from rfl, g4 507 (by omega), h507]
  refine ⟨v507, fun _ => ?_, fun q => absurd ((lei (by omega) (by omega)).mpr (Nat.le_refl l)) q⟩
  intro σ1 e1 σ2 e2
  have hclr : clrP l (σ.1 355) (τ.1 355) := ⟨g2, g3, g4⟩
  have okc := hclr.ok ok
  have hL := okc.1.lego
  have m2 : moS σ σ2 (τ.1 355) (-1) 1 := by
    rw [e2, e1]
    refine ⟨by rw [wr_cell (by omega), wr_cell (by omega)], by rw [wr_else (by omega), wr_same], wr_same, fun a ha hb => by rw [wr_cell ha, wr_cell ha]; exact g1 a hb, fun j h1 h2 => by rw [wr_else (by omega), wr_else (by omega), g1 354 (by omega)], g0'⟩
  generalize τ.1 355 = p1 at *
  have lk : ∀ k, k ≤ l → (∀ y, kp y → (legsF o p1 k).1 y = p1 y) ∧ posO n (legsF o p1 k).2 := legsF_k hL h6 h10 ho
  -- the end of the shift
  have fin : ∀ τ run, moS σ τ (legsF o p1 l).1 (legsF o p1 l).2 run → okP c n l (legsF o p1 l).1 → m_10_goesThrough_191 354 (nI (doneF o p1 l)) Q τ := fun τ run ht oke => by
    have hQ := hQ
    unfold m_10_goesThrough_191
    rw [t554, t506, t500]
    refine ⟨v554, fun σ3 e3 => ?_⟩
    have t3 := ht.wp (x := 554) (v := nI (doneF o p1 l))
    rw [show (354 + 1 : Nat) = 355 from rfl] at e3
    rw [← e3] at t3
    have d291 : ∀ τ' X pos run', moS σ τ' X pos run' → (∀ y, endD X y = endF (upd (legsF o p1 l).1 554 (nI (doneF o p1 l))) (legsF o p1 l).2 y) → m_10_goesThrough_291 354 Q τ' := fun τ' X pos run' t' hX => by
      unfold m_10_goesThrough_291
      rw [t555, t548, t562, show (354 + 1 : Nat) = 355 from rfl]
      refine ⟨v555, fun σ4 e4 => ⟨v548, fun σ5 e5 => ⟨v562, v562, fun σ6 e6 => ?_⟩⟩⟩
      have t4 := t'.wp (x := 555) (v := 1)
      rw [← e4] at t4
      have t5 := t4.wp (x := 548) (v := 1)
      rw [← e5] at t5
      rw [t5.1, upd_n (by omega), upd_n (by omega)] at e6
      have t6 := t5.wp (x := 562) (v := X 562 + 1)
      rw [← e6] at t6
      refine hQ σ6 p1 _ hclr t6.2.2.2 t6.1 (fun y hy => ?_) (by rw [upd_n (by omega), upd_n (by omega), upd_s])
      rw [← hX y]
      unfold endD
      by_cases q1 : y = 562
      · subst q1; rw [upd_s, upd_n (by omega), upd_s]
      · rw [upd_n q1]
        by_cases q2 : y = 548
        · subst q2; rw [upd_s, upd_s]
        · rw [upd_n q2, upd_n hy, upd_n q2, upd_n q1]
    have d238 : ∀ τ' X pos run', moS σ τ' X pos run' → (∀ y, endD (endC X) y = endF (upd (legsF o p1 l).1 554 (nI (doneF o p1 l))) (legsF o p1 l).2 y) → m_10_goesThrough_238 354 Q τ' := fun τ' X pos run' t' hX => by
      unfold m_10_goesThrough_238
      rw [t505, t503, t501, show (354 + 1 : Nat) = 355 from rfl, t'.1]
      unfold endC at hX
      refine ⟨v505, v503, fun q => ?_, fun q => ⟨v501, fun q2 => ?_, fun q2 => ⟨v501, v501, fun σ4 e4 => ⟨v505, fun σ5 e5 => ?_⟩⟩⟩⟩
      · simp only [if_pos q] at hX
        exact d291 τ' X pos run' t' hX
      · simp only [if_neg q, if_pos q2] at hX
        exact d291 τ' X pos run' t' hX
      · simp only [if_neg q, if_neg q2] at hX
        have t4 := t'.wp (x := 501) (v := X 501 - 1)
        rw [← e4] at t4
        have t5 := t4.wp (x := 505) (v := 1000)
        rw [← e5, upd_comm (x := 501) (y := 505) (by omega)] at t5
        exact d291 σ5 _ pos run' t5 hX
    have dB : ∀ τ' X pos run', moS σ τ' X pos run' → (∀ y, endD (endC (endB X)) y = endF (upd (legsF o p1 l).1 554 (nI (doneF o p1 l))) (legsF o p1 l).2 y) → (vp_in 506 5640 ∧ vp_in 500 5640 ∧ (((2 * (τ'.1 (354 + 1) 506)) < (τ'.1 (354 + 1) 500) → m_10_goesThrough_238 354 Q τ') ∧ (¬ (2 * (τ'.1 (354 + 1) 506)) < (τ'.1 (354 + 1) 500) → m_10_dumps 354 (fun (σ_6 : St) => m_10_goesThrough_238 354 Q σ_6) τ'))) := fun τ' X pos run' t' hX => by
      rw [show (354 + 1 : Nat) = 355 from rfl, t'.1]
      unfold endB at hX
      refine ⟨v506, v500, fun q => ?_, fun q => ?_⟩
      · simp only [if_pos q] at hX
        exact d238 τ' X pos run' t' hX
      · simp only [if_neg q] at hX
        exact s_10_dumps t' (fun τ'' t'' => d238 τ'' _ pos run' t'' hX)
    have hA : ∀ v3 : Int32, v3 = hmV (upd (legsF o p1 l).1 554 (nI (doneF o p1 l))) (legsF o p1 l).2 → m_10_adds 354 1 v3 (fun σ_4 => (vp_in 506 5640 ∧ vp_in 500 5640 ∧ (((2 * (σ_4.1 (354 + 1) 506)) < (σ_4.1 (354 + 1) 500) → m_10_goesThrough_238 354 Q σ_4) ∧ (¬ (2 * (σ_4.1 (354 + 1) 506)) < (σ_4.1 (354 + 1) 500) → m_10_dumps 354 (fun (σ_6 : St) => m_10_goesThrough_238 354 Q σ_6) σ_4)))) σ3 := fun v3 hv => by
      refine s_10_adds (k := 1) t3 (by omega) (fun τ4 t4 => ?_)
      refine dB τ4 _ _ _ t4 (fun y => ?_)
      rw [hv]
      rfl
    rw [t3.2.1]
    obtain ⟨-, hpo⟩ := lk l (Nat.le_refl l)
    rcases hpo with z | ⟨i, hi, z⟩
    · rw [z]
      unfold m_10_home
      refine ⟨fun q => absurd rfl q, fun _ => hA 0 ?_⟩
      unfold hmV
      rw [if_pos z]
    · rw [z]
      refine s_10_home t3 (by omega) (hA _ ?_)
      unfold hmV
      rw [z, if_neg (fun q : nI i = -1 => nn0 (j := i) (by omega) (q ▸ (by decide))), tn i (by omega)]
  have key := it_lt (F := m_10_goesThrough_87 354 Q) (bot := fun _ _ => False) (fun (m : Nat) (A : Int32 → St → Prop) =>
    (∀ k τ u, m + k = l + 1 → k ≤ l → moS σ τ (legsF o p1 k).1 (legsF o p1 k).2 1 → okU c n l u (legsF o p1 k).1 → (legsF o p1 k).1 549 = 0 → A (nI k) τ) ∧
    (∀ τ, moS σ τ (legsF o p1 l).1 (legsF o p1 l).2 0 → okP c n l (legsF o p1 l).1 → doneF o p1 l < l → A (nI (doneF o p1 l)) τ)) ?_ (l + 1) (by omega)
  · exact key.1 0 σ2 0 (by omega) (by omega) m2 okc (hclr.1 549 (by omega) (by omega))
  intro m B hB
  refine ⟨fun k τ u hm hk ht oku z => ?_, fun τ ht oke hd => ?_⟩
  · have pk := lk k hk
    unfold m_10_goesThrough_87
    have e507 : (legsF o p1 k).1 507 = nI l := oku.1.1.2.2.1
    rw [t507, show (354 + 1 : Nat) = 355 from rfl, ht.1, e507]
    refine ⟨v507, fun q => ?_, fun q => ⟨fun q2 => absurd (q2.symm.trans ht.2.2.1) (by decide), fun _ => ?_⟩⟩
    · have : k = l := by rw [lei (by omega) (by omega)] at q; omega
      subst this
      have f := fin τ 1 ht oku.1
      rw [legsF_on k z] at f
      exact f
    have hkl : k < l := by
      have := mt (lei (a := l) (b := k) (by omega) (by omega)).mpr q
      omega
    have hj := ho.1 k hkl
    obtain ⟨a1, a2, a3, a4⟩ := oku.1.lego.1 (o k) hj
    rw [tn k (by omega), show (354 + 4 : Nat) = 358 from rfl, ht.2.2.2.1 358 (by omega) (by omega), hor k hkl]
    refine ⟨vin (by omega), ?_⟩
    refine s_10_legOf (f := 0) (by omega) (by omega) ?_
    rw [show (354 + 1 : Nat) = 355 from rfl, ht.1, show 508 + 4 * o k + 0 = 508 + 4 * o k from rfl, a2]
    refine s_10_drive ht oku.1 a1 pk.2 ?_
    have hF : legsF o p1 (k + 1) = legF (o k) (legsF o p1 k).1 (legsF o p1 k).2 := if_pos z
    have hdk : doneF o p1 k = k := legsF_on k z
    have d1 : doneF o p1 (k + 1) = if (legsF o p1 (k + 1)).1 549 = 0 then k + 1 else k := by
      have e : doneF o p1 (k + 1) = if (legsF o p1 k).1 549 = 0 ∧ (legsF o p1 (k + 1)).1 549 = 0 then k + 1 else doneF o p1 k := rfl
      rw [e, hdk]
      by_cases z2 : (legsF o p1 (k + 1)).1 549 = 0
      · rw [if_pos ⟨z, z2⟩, if_pos z2]
      · rw [if_neg (fun z3 => z2 z3.2), if_neg z2]
    -- behind a leg
    have d173 : ∀ τ' u' run', moS σ τ' (legsF o p1 (k + 1)).1 (legsF o p1 (k + 1)).2 run' → (run' = if (legsF o p1 (k + 1)).1 549 = 0 then 1 else 0) → okU c n l u' (legsF o p1 (k + 1)).1 → m_10_goesThrough_173 354 (nI k) B Q τ' := fun τ' u' run' t' hr ok' => by
      unfold m_10_goesThrough_173
      rw [t'.2.2.1]
      refine ⟨fun q2 x ex => ?_, fun q2 x ex => ?_⟩
      · have nz : (legsF o p1 (k + 1)).1 549 ≠ 0 := fun z2 => by
          rw [hr, if_pos z2] at q2
          exact absurd q2 (by decide)
        have st := legsF_stop nz (l - (k + 1))
        rw [show k + 1 + (l - (k + 1)) = l by omega, d1, if_neg nz] at st
        rw [ex, i0]
        have := (hB 0 (by omega)).2 τ' (by rw [st.1, ← q2]; exact t') (by rw [st.1]; exact ok'.1) (by rw [st.2]; exact hkl)
        rw [st.2] at this
        exact this
      · have nz : (legsF o p1 (k + 1)).1 549 = 0 := by
          refine Classical.byContradiction (fun z2 => ?_)
          rw [hr, if_neg z2] at q2
          exact q2 rfl
        rw [ex, li 1, nI_add]
        rw [hr, if_pos nz] at t'
        exact (hB (l + 1 - (k + 1)) (by omega)).1 (k + 1) τ' u' (by omega) (by omega) t' ok' nz
    refine s_10_fits ht (by omega) (fun nf τ1 t1 => ⟨fun _ => ?_, fun q2 => absurd rfl q2⟩) (fun fi τ1 t1 => ⟨fun q2 => absurd q2 (by decide), fun _ σ7 e7 => ?_⟩)
    · have eL : legsF o p1 (k + 1) = (upd (legsF o p1 k).1 549 1, (legsF o p1 k).2) := by rw [hF]; exact if_pos nf
      refine d173 τ1 u 0 (by rw [eL]; exact t1) ?_ (by rw [eL]; exact ⟨oku.1.inert (inert_hi (by omega) (by omega)), by show upd (legsF o p1 k).1 549 1 550 = nI u; rw [upd_n (by omega)]; exact oku.2.1, oku.2.2⟩)
      rw [eL]
      show (0 : Int32) = if upd (legsF o p1 k).1 549 1 549 = 0 then 1 else 0
      rw [upd_s, if_neg (by decide)]
    · have t7 := t1.w9 (v := nI (lgI (legsF o p1 k).1 (o k)))
      rw [← e7] at t7
      obtain ⟨u', okd⟩ := oku.drv a1 pk.2 fi
      have eL : legsF o p1 (k + 1) = (cellsF (o k) (lgI (legsF o p1 k).1 (o k)) (lgS (legsF o p1 k).1 (o k)) (cellsN (legsF o p1 k).1 (lgI (legsF o p1 k).1 (o k))) (upd (legsF o p1 k).1 550 ((legsF o p1 k).1 550 + driV (legsF o p1 k).1 (legsF o p1 k).2 (lgI (legsF o p1 k).1 (o k)))), nI (lgI (legsF o p1 k).1 (o k))) := by rw [hF]; exact if_neg fi
      have zd : upd (legsF o p1 k).1 550 ((legsF o p1 k).1 550 + driV (legsF o p1 k).1 (legsF o p1 k).2 (lgI (legsF o p1 k).1 (o k))) 549 = 0 := by rw [upd_n (by omega)]; exact z
      obtain ⟨cv, cv1, cv2⟩ := oku.1.cells a1
      have ci : upd (legsF o p1 k).1 550 ((legsF o p1 k).1 550 + driV (legsF o p1 k).1 (legsF o p1 k).2 (lgI (legsF o p1 k).1 (o k))) (1 + 83 * lgI (legsF o p1 k).1 (o k)) = nI (cellsN (legsF o p1 k).1 (lgI (legsF o p1 k).1 (o k))) := by rw [upd_n (by omega)]; exact cv
      have el1 : lgI (upd (legsF o p1 k).1 550 ((legsF o p1 k).1 550 + driV (legsF o p1 k).1 (legsF o p1 k).2 (lgI (legsF o p1 k).1 (o k)))) (o k) = lgI (legsF o p1 k).1 (o k) := by unfold lgI; rw [upd_n (by omega)]
      have el2 : lgS (upd (legsF o p1 k).1 550 ((legsF o p1 k).1 550 + driV (legsF o p1 k).1 (legsF o p1 k).2 (lgI (legsF o p1 k).1 (o k)))) (o k) = lgS (legsF o p1 k).1 (o k) := by unfold lgS; rw [upd_n (by omega)]
      generalize hD : upd (legsF o p1 k).1 550 ((legsF o p1 k).1 550 + driV (legsF o p1 k).1 (legsF o p1 k).2 (lgI (legsF o p1 k).1 (o k))) = D at *
      generalize hgi : lgI (legsF o p1 k).1 (o k) = i at *
      generalize hgs : lgS (legsF o p1 k).1 (o k) = s at *
      generalize hgv : cellsN (legsF o p1 k).1 i = v at *
      refine it_cnt (fun (kk : Nat) (E : Int32 → St → Prop) => ∀ τ u', moS σ τ (cellsF (o k) i s kk D) (nI i) (if cellsF (o k) i s kk D 549 = 0 then 1 else 0) → okU c n l u' (cellsF (o k) i s kk D) → E (nI kk) τ) v (by omega) ?_ ?_ σ7 u' (by show moS σ σ7 D (nI i) (if D 549 = 0 then 1 else 0); rw [if_pos zd]; exact t7) okd
      · intro kk hkk E hE τ8 u8 t8 ok8
        have kc : cellsF (o k) i s kk D (1 + 83 * i) = nI v := by rw [cellsF_k (Or.inr (Or.inl ⟨i, 0, by omega, by omega, by omega⟩)) (by omega) (by omega) a3 kk (by omega)]; exact ci
        unfold m_10_goesThrough_139
        refine s_10_of (k := 0) (by omega) (by omega) ?_
        rw [show (354 + 1 : Nat) = 355 from rfl, t8.1, show 1 + 83 * i + 0 = 1 + 83 * i from rfl, kc]
        refine ⟨fun q2 => absurd q2 (nle_of hkk (by omega)), fun _ => ?_⟩
        rw [t8.2.2.1]
        refine ⟨fun q2 => ?_, fun q2 => ?_⟩
        · have nz : cellsF (o k) i s kk D 549 ≠ 0 := fun z2 => by
            rw [if_pos z2] at q2
            exact absurd q2 (by decide)
          have st := cellsF_stop nz (v - kk)
          rw [show kk + (v - kk) = v by omega] at st
          refine d173 τ8 u8 _ (by rw [eL]; show moS σ τ8 (cellsF (o k) i s v D) (nI i) _; rw [st]; exact t8) (by rw [eL]; show _ = if cellsF (o k) i s v D 549 = 0 then 1 else 0; rw [st]) (by rw [eL]; show okU c n l u8 (cellsF (o k) i s v D); rw [st]; exact ok8)
        · have nz : cellsF (o k) i s kk D 549 = 0 := by
            refine Classical.byContradiction (fun z2 => ?_)
            rw [if_neg z2] at q2
            exact q2 rfl
          rw [if_pos nz] at t8
          have ce1 : cellsF (o k) i s kk D (508 + 4 * o k) = D (508 + 4 * o k) := cellsF_k (Or.inr (Or.inr (Or.inr (Or.inr (Or.inl ⟨by omega, by omega, by omega⟩))))) (by omega) (by omega) a3 kk (by omega)
          have ce2 : cellsF (o k) i s kk D (508 + 4 * o k + 1) = D (508 + 4 * o k + 1) := cellsF_k (Or.inr (Or.inr (Or.inr (Or.inr (Or.inl ⟨by omega, by omega, by omega⟩))))) (by omega) (by omega) a3 kk (by omega)
          have fi1 : lgI (cellsF (o k) i s kk D) (o k) = i := (congrArg Int32.toNatClampNeg ce1).trans el1
          have fi2 : lgS (cellsF (o k) i s kk D) (o k) = s := (congrArg Int32.toNatClampNeg ce2).trans el2
          rw [tn k (by omega), show (354 + 4 : Nat) = 358 from rfl, t8.2.2.2.1 358 (by omega) (by omega), hor k hkl]
          refine ⟨vin (by omega), ?_⟩
          refine s_10_sweeps t8 ok8 nz hj (by omega) (fun τ9 u9 t9 ok9 x ex => ?_)
          rw [fi1, fi2] at t9 ok9
          rw [ex, li 1, nI_add]
          have ec : cellsF (o k) i s (kk + 1) D = cellF (o k) i s kk 7000 (cellsF (o k) i s kk D) := if_pos nz
          exact hE τ9 u9 (by rw [ec]; exact t9) (by rw [ec]; exact ok9)
      · intro E τ8 u8 t8 ok8
        have kc : cellsF (o k) i s v D (1 + 83 * i) = nI v := by rw [cellsF_k (Or.inr (Or.inl ⟨i, 0, by omega, by omega, by omega⟩)) (by omega) (by omega) a3 v (by omega)]; exact ci
        unfold m_10_goesThrough_139
        refine s_10_of (k := 0) (by omega) (by omega) ?_
        rw [show (354 + 1 : Nat) = 355 from rfl, t8.1, show 1 + 83 * i + 0 = 1 + 83 * i from rfl, kc]
        refine ⟨fun _ => ?_, fun q2 => absurd ((lei (by omega) (by omega)).mpr (Nat.le_refl v)) q2⟩
        exact d173 τ8 u8 _ (by rw [eL]; exact t8) (by rw [eL]) (by rw [eL]; exact ok8)
  · unfold m_10_goesThrough_87
    have e507 : (legsF o p1 l).1 507 = nI l := oke.1.2.2.1
    rw [t507, show (354 + 1 : Nat) = 355 from rfl, ht.1, e507]
    exact ⟨v507, fun _ => fin τ 0 ht oke, fun _ => ⟨fun _ => fin τ 0 ht oke, fun q2 => absurd ht.2.2.1 q2⟩⟩
