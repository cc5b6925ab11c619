theorem legI0 (j : Nat) : (508 : Int32) + 4 * nI j = nI (508 + 4 * j) := by
  rw [li 508, li 4, pk_mul, nI_add]
theorem EQP.nv {n l x : Nat} {P p : Nat → Int32} (h : EQP n l P p) (hv : vis n l x) (hx : ¬ leg23 x) : P x = p x := h x hv (fun q => absurd q hx)
theorem clsRec.cel {c : Nat} {σ τ : St} {P : Nat → Int32} (h : clsRec c σ τ P) {a : Nat} (ha : a < 3 ∨ 354 ≤ a) : τ.1 a = σ.1 a := by
  obtain ⟨_, _, -, -, -, -, -, -, -, -, -, hfr⟩ := h
  exact hfr a ha
theorem RN.addLeg {c n l i s : Nat} {P p P' p' : Nat → Int32} (h : RN c n l P p) (hl : l < 10) (hi : i < n) (hs : s < 2)
    (a0 : P' (508 + 4 * l) = nI i) (a1 : P' (509 + 4 * l) = nI s) (a2 : P' 507 = nI (l + 1)) (a3 : P' 548 = 0) (a4 : ∀ y, y ≠ 507 → y ≠ 548 → (y < 508 + 4 * l ∨ 512 + 4 * l ≤ y) → P' y = P y)
    (b0 : p' (508 + 4 * l) = nI i) (b1 : p' (509 + 4 * l) = nI s) (b2 : p' 507 = nI (l + 1)) (b3 : p' 548 = 0) (b4 : ∀ y, y ≠ 507 → y ≠ 548 → (y < 508 + 4 * l ∨ 512 + 4 * l ≤ y) → p' y = p y) : RN c n (l + 1) P' p' := by
  obtain ⟨⟨⟨h1, h2, h3, h4⟩, h5, h6, h7, s7, h9, h10⟩, e, e5⟩ := h
  have lo : ∀ y, y < 507 → P' y = P y := fun y hy => a4 y (by omega) (by omega) (by omega)
  have hg : ∀ y, 549 ≤ y → P' y = P y := fun y hy => a4 y (by omega) (by omega) (by omega)
  refine ⟨⟨⟨by rw [lo 0 (by omega)]; exact h1, h2, a2, by omega⟩, fun a ha => ?_, fun a b ha hb => ?_, fun j hj => ?_, ?_, ?_, ?_⟩, fun y hy hq => ?_, ?_⟩
  · rw [lo _ (by omega), lo _ (by omega), lo _ (by omega)]; exact h5 a ha
  · rw [lo _ (by omega), lo _ (by omega)]; exact h6 a b ha hb
  · by_cases q : j = l
    · subst q
      rw [a0, a1]
      exact ⟨⟨i, rfl, hi⟩, ⟨s, rfl, hs⟩⟩
    · rw [a4 _ (by omega) (by omega) (by omega), a4 _ (by omega) (by omega) (by omega)]
      exact h7 j (by omega)
  · rw [lo 499 (by omega), lo 500 (by omega), lo 501 (by omega), lo 502 (by omega), lo 503 (by omega), lo 504 (by omega), lo 505 (by omega), lo 506 (by omega)]
    exact s7
  · rw [a3]; exact isB0
  · rw [hg 562 (by omega)]; exact h10
  · have nl : ¬ leg23 y := fun q => hq q a3
    by_cases q1 : y = 507
    · subst q1; rw [a2, b2]
    by_cases q2 : y = 548
    · subst q2; rw [a3, b3]
    by_cases q3 : y < 508 + 4 * l ∨ 512 + 4 * l ≤ y
    · rw [a4 y q1 q2 q3, b4 y q1 q2 q3]
      have hy4 := hy.2.2.2
      exact e.nv ⟨hy.1, hy.2.1, hy.2.2.1, fun g1 g2 => by omega⟩ nl
    · have : y = 508 + 4 * l ∨ y = 509 + 4 * l := by unfold leg23 at nl; omega
      rcases this with rfl | rfl
      · rw [a0, b0]
      · rw [a1, b1]
  · rw [b4 555 (by omega) (by omega) (by omega), hg 562 (by omega)]; exact e5
theorem p_addLeg {c : Nat} {σ : St} {x1 x2 : Int32} {H : Int32 → St → Prop} {K : Int32 → Int32 → St → Prop} (I : Inv c σ) (hH : ∀ v σ1, m_10_addLeg 354 x1 x2 (K v) σ1 → H v σ1) (h : ∀ v τ, Inv (c + 1) τ → K v v τ) : m_9_addLeg 0 x1 x2 H σ := by
  obtain ⟨n, l, ok, e, e5⟩ := id I.1
  have h6 := ok.1.2.1
  have h10 := ok.1.2.2.2
  have p0 : σ.1 355 0 = nI n := (e.lo vis_0 (by omega)).symm.trans ok.1.1
  have p507 : σ.1 355 507 = nI l := (e.set (x := 507) (by omega) (by omega)).symm.trans ok.1.2.2.1
  have same : ∀ v, v = -1 ∨ v = -3 → K v v σ := fun v _ => h _ _ (I.mono (by omega))
  unfold m_9_addLeg
  refine s_8_hasStreet (n := n) ok.1.1 (by omega) (fun i hi e1 => ?_) (fun hn => ⟨fun _ => hH _ _ ?_, fun q => absurd rfl q⟩)
  · subst e1
    refine ⟨fun q => absurd q (by decide), fun _ => ?_⟩
    have str : ∀ {σ' : St} {Q : Int32 → St → Prop}, σ'.1 355 0 = nI n → Q 1 σ' → m_10_isStreet 354 (nI i) Q σ' := fun hc hq =>
      s_10_isStreet (r0 := 354) hc (by omega) (fun _ _ _ => hq) (fun q => absurd rfl (q i hi))
    have bad : (∀ j, 0 ≤ j → j ≤ 1 → x2 ≠ nI j) → H (-1) σ := fun hq => hH _ _ (by
      unfold m_10_addLeg
      refine str p0 ⟨fun q => absurd q (by decide), fun _ => ?_⟩
      exact s_10_inN (a := 0) (b := 1) (by omega) (by omega) (fun j h1 h2 e => absurd e (hq j h1 h2)) (fun _ => ⟨fun q => absurd rfl q, fun _ => same _ (Or.inl rfl)⟩))
    rcases ix x2 2 with g | ⟨j, rfl, hj, hj2⟩ | ⟨s, rfl, hs⟩
    · exact ⟨fun _ => bad (fun j _ _ => neg_ne g (by omega)), fun q => absurd g q⟩
    · exact ⟨fun q => absurd q (nn0 hj2), fun _ => ⟨fun q => absurd ((ltI (b := 2) (by omega) (by omega)).mp q) (by omega), fun _ => bad (fun k' h1 h2 e => by rw [eqI (by omega) (by omega)] at e; omega)⟩⟩
    · refine ⟨fun q => absurd q (nn0 (by omega)), fun _ => ⟨fun _ => ?_, fun q => absurd ((ltI (b := 2) (by omega) (by omega)).mpr hs) q⟩⟩
      have sid : ∀ {σ' : St} {Q : Int32 → St → Prop}, Q 1 σ' → m_10_in (nI s) 0 1 Q σ' := fun hq => s_10_inN (a := 0) (b := 1) (by omega) (by omega) (fun _ _ _ _ => hq) (fun q => absurd rfl (q s (by omega) (by omega)))
      rw [show (0 + 7 : Nat) = 7 from rfl, g507, ok.1.2.2.1]
      refine ⟨fun q => ?_, fun q => hH _ _ ?_⟩
      · have hl : l < 10 := (ltI (b := 10) (by omega) (by omega)).mp q
        refine rem1 I (fun τ hτ hlow => ?_)
        have pg : pgW τ 7 = pgW σ 7 := pgW_cg (fun a h1 h2 => hlow a (by omega))
        have t3e : τ.1 7 3 = nI l := by rw [g507, pg]; exact ok.1.2.2.1
        unfold m_8_appendLeg
        rw [t3e, tn l (by omega)]
        refine ⟨vin hl, fun r3 er => ?_⟩
        subst er
        intro σ3 e3 σ4 e4 σ5 e5' σ6 e6
        have t3 := tw_le (toW.rf (σ := τ) (B := 7)) (a := l) (f := 0) (v := nI i) hl (by omega)
        rw [← e3, pg] at t3
        have t4 := tw_le t3 (a := l) (f := 1) (v := nI s) hl (by omega)
        rw [← e4] at t4
        have c4 : σ4.1 7 3 = nI l := by rw [g507, t4.g, upd_n (by omega), upd_n (by omega)]; exact ok.1.2.2.1
        rw [c4, li 1, nI_add] at e5'
        have t5 := tw_n507 t4 (v := nI (l + 1))
        rw [← e5'] at t5
        have t6 := tw_n548 t5 (v := 0)
        rw [← e6] at t6
        have hrec := hτ.toW t6
        have c6 : σ6.1 7 3 - 1 = nI l := by rw [g507, t6.g, upd_n (by omega), upd_s, show (1 : Int32) = nI 1 from rfl, pk_sub (by omega)]; rfl
        rw [c6]
        refine hH _ _ ?_
        have hfr : σ6.1 355 = σ.1 355 := hrec.cel (by omega)
        unfold m_10_addLeg
        refine str (by rw [hfr]; exact p0) ⟨fun q => absurd q (by decide), fun _ => sid ⟨fun _ => ?_, fun q => absurd q (by decide)⟩⟩
        rw [t507, show (354 + 1 : Nat) = 355 from rfl, hfr, p507]
        refine ⟨v507, fun _ => ?_, fun q => absurd ((eqi (b := 10) (by omega) (by omega)).mp q) (by omega)⟩
        refine rec1 I hrec (fun σ7 hR7 hfin => ?_)
        have R7 := hR7.at ok
        have q507 : σ7.1 355 507 = nI l := (R7.2.1.set (x := 507) (by omega) (by omega)).symm.trans ok.1.2.2.1
        rw [t548]
        refine ⟨v548, fun σ9 e9 => ?_⟩
        have w9 : σ9.1 355 = upd (σ7.1 355) 548 0 := by rw [e9]; exact wr_at
        have a9 : (508 : Int32) + 4 * σ9.1 355 507 = nI (508 + 4 * l) := by rw [w9, upd_n (by omega), q507]; exact legI0 l
        rw [a9, tn _ (by omega)]
        refine ⟨v507, vq (by omega), fun σ10 e10 => ?_⟩
        have w10 : σ10.1 355 = upd (upd (σ7.1 355) 548 0) (508 + 4 * l) (nI i) := by rw [e10, wr_at, w9]
        have a10 : (508 : Int32) + 4 * σ10.1 355 507 + 1 = nI (509 + 4 * l) := by rw [w10, upd_n (by omega), upd_n (by omega), q507, show (509 + 4 * l) = 508 + 4 * l + 1 by omega]; exact legI l 1
        rw [a10, tn _ (by omega)]
        refine ⟨v507, vq (by omega), fun σ11 e11 => ?_⟩
        have w11 : σ11.1 355 = upd (upd (upd (σ7.1 355) 548 0) (508 + 4 * l) (nI i)) (509 + 4 * l) (nI s) := by rw [e11, wr_at, w10]
        have a11 : σ11.1 355 507 + 1 = nI (l + 1) := by rw [w11, upd_n (by omega), upd_n (by omega), upd_n (by omega), q507]; exact nI_add l 1
        rw [a11]
        refine ⟨v507, v507, fun σ12 e12 => ?_⟩
        have w12 : σ12.1 355 = upd (upd (upd (upd (σ7.1 355) 548 0) (508 + 4 * l) (nI i)) (509 + 4 * l) (nI s)) 507 (nI (l + 1)) := by rw [e12, wr_at, w11]
        have a12 : σ12.1 355 507 - 1 = nI l := by rw [w12, upd_s, show (1 : Int32) = nI 1 from rfl, pk_sub (by omega)]; rfl
        rw [a12]
        refine ⟨v507, ?_⟩
        have M9 : modE σ7 σ9 := by rw [e9]; exact modE.rf.p (by omega)
        have M10 : modE σ7 σ10 := by rw [e10]; exact M9.p (by omega)
        have M11 : modE σ7 σ11 := by rw [e11]; exact M10.p (by omega)
        have M12 : modE σ7 σ12 := by rw [e12]; exact M11.p (by omega)
        refine h _ _ (hfin (c + 1) _ (by omega) M12 ((REL.of (n := n) (l := l + 1) (R7.addLeg hl hi hs ?_ ?_ ?_ ?_ (fun y h1 h2 h3 => ?_) ?_ ?_ ?_ ?_ (fun y h1 h2 h3 => ?_))).mono (c := c) (by omega)))
        · iterate 3 rw [upd_n (by omega)]
          exact upd_s
        · iterate 2 rw [upd_n (by omega)]
          rw [show 509 + 4 * l = 508 + 4 * l + 1 by omega]
          exact upd_s
        · rw [upd_n (by omega)]
          exact upd_s
        · exact upd_s
        · iterate 4 rw [upd_n (by omega)]
        · rw [w12]
          iterate 2 rw [upd_n (by omega)]
          exact upd_s
        · rw [w12]
          rw [upd_n (by omega)]
          exact upd_s
        · rw [w12]
          exact upd_s
        · rw [w12]
          iterate 3 rw [upd_n (by omega)]
          exact upd_s
        · rw [w12]
          iterate 4 rw [upd_n (by omega)]
      · have hl : l = 10 := by
          have := mt (ltI (a := l) (b := 10) (by omega) (by omega)).mpr q
          omega
        unfold m_10_addLeg
        refine str p0 ⟨fun q => absurd q (by decide), fun _ => sid ⟨fun _ => ?_, fun q => absurd q (by decide)⟩⟩
        rw [t507, show (354 + 1 : Nat) = 355 from rfl, p507, hl]
        exact ⟨v507, fun q => absurd rfl q, fun _ => same _ (Or.inr rfl)⟩
  · unfold m_10_addLeg
    exact s_10_isStreet (r0 := 354) p0 (by omega) (fun i hi e => absurd e (hn i hi)) (fun _ => ⟨fun _ => same _ (Or.inl rfl), fun q => absurd rfl q⟩)
-- a leg goes
theorem RN.dropLeg {c n l k : Nat} {P p P' p' : Nat → Int32} (h : RN c n l P p) (hk : k < l)
    (a0 : ∀ y, 508 + 4 * k ≤ y → y < 508 + 4 * (l - 1) → P' y = P (y + 4)) (a2 : P' 507 = nI (l - 1)) (a3 : P' 548 = 0) (a4 : ∀ y, y ≠ 507 → y ≠ 548 → (y < 508 + 4 * k ∨ 508 + 4 * (l - 1) ≤ y) → P' y = P y)
    (b0 : ∀ y, 508 + 4 * k ≤ y → y < 508 + 4 * (l - 1) → p' y = p (y + 4)) (b2 : p' 507 = nI (l - 1)) (b3 : p' 548 = 0) (b4 : ∀ y, y ≠ 507 → y ≠ 548 → (y < 508 + 4 * k ∨ 508 + 4 * (l - 1) ≤ y) → p' y = p y) : RN c n (l - 1) P' p' := by
  obtain ⟨⟨⟨h1, h2, h3, h4⟩, h5, h6, h7, s7, h9, h10⟩, e, e5⟩ := h
  have lo : ∀ y, y < 507 → P' y = P y := fun y hy => a4 y (by omega) (by omega) (by omega)
  have hg : ∀ y, 549 ≤ y → P' y = P y := fun y hy => a4 y (by omega) (by omega) (by omega)
  refine ⟨⟨⟨by rw [lo 0 (by omega)]; exact h1, h2, a2, by omega⟩, fun a ha => ?_, fun a b ha hb => ?_, fun j hj => ?_, ?_, ?_, ?_⟩, fun y hy hq => ?_, ?_⟩
  · rw [lo _ (by omega), lo _ (by omega), lo _ (by omega)]; exact h5 a ha
  · rw [lo _ (by omega), lo _ (by omega)]; exact h6 a b ha hb
  · by_cases q : j < k
    · rw [a4 _ (by omega) (by omega) (by omega), a4 _ (by omega) (by omega) (by omega)]
      exact h7 j (by omega)
    · rw [a0 _ (by omega) (by omega), a0 _ (by omega) (by omega), show 508 + 4 * j + 4 = 508 + 4 * (j + 1) by omega, show 509 + 4 * j + 4 = 509 + 4 * (j + 1) by omega]
      exact h7 (j + 1) (by omega)
  · rw [lo 499 (by omega), lo 500 (by omega), lo 501 (by omega), lo 502 (by omega), lo 503 (by omega), lo 504 (by omega), lo 505 (by omega), lo 506 (by omega)]
    exact s7
  · rw [a3]; exact isB0
  · rw [hg 562 (by omega)]; exact h10
  · have nl : ¬ leg23 y := fun q => hq q a3
    by_cases q1 : y = 507
    · subst q1; rw [a2, b2]
    by_cases q2 : y = 548
    · subst q2; rw [a3, b3]
    have hy4 := hy.2.2.2
    by_cases q3 : y < 508 + 4 * k ∨ 508 + 4 * (l - 1) ≤ y
    · rw [a4 y q1 q2 q3, b4 y q1 q2 q3]
      exact e.nv ⟨hy.1, hy.2.1, hy.2.2.1, fun g1 g2 => by omega⟩ nl
    · rw [a0 y (by omega) (by omega), b0 y (by omega) (by omega)]
      refine e.nv ⟨by omega, by omega, fun g1 g2 => by omega, fun g1 g2 => by omega⟩ ?_
      unfold leg23 at nl ⊢
      omega
  · rw [b4 555 (by omega) (by omega) (by omega), hg 562 (by omega)]; exact e5
theorem s_8_removeLeg {B l k : Nat} {P : Nat → Int32} {Q : St → Prop} {σ : St} (hl : pgW σ B 507 = nI l) (h10 : l ≤ 10) (hk : k < l) (h : ∀ τ P', toW σ τ B P' → (∀ y, 508 + 4 * k ≤ y → y < 508 + 4 * (l - 1) → P' y = pgW σ B (y + 4)) → P' 507 = nI (l - 1) → P' 548 = 0 → (∀ y, y ≠ 507 → y ≠ 548 → (y < 508 + 4 * k ∨ 508 + 4 * (l - 1) ≤ y) → P' y = pgW σ B y) → Q τ) : m_8_removeLeg B (nI k) Q σ := by
  unfold m_8_removeLeg
  refine it_from (fun (j : Nat) (A : Int32 → St → Prop) => ∀ τ P', toW σ τ B P' → (∀ y, 508 + 4 * k ≤ y → y < 508 + 4 * j → P' y = pgW σ B (y + 4)) → (∀ y, (y < 508 + 4 * k ∨ 508 + 4 * j ≤ y) → P' y = pgW σ B y) → A (nI j) τ) k (l - 1) (by omega) (by omega) ?_ ?_ σ _ toW.rf (fun y h1 h2 => by omega) (fun _ _ => rfl)
  · intro j hj1 hj A hA τ P' t h1 h2
    unfold m_8_removeLeg_2
    rw [g507, t.g, h2 507 (by omega), hl, show (1 : Int32) = nI 1 from rfl, pk_sub (by omega)]
    refine ⟨fun q => absurd q (nle_of hj (by omega)), fun _ => ?_⟩
    rw [nI_add, tn j (by omega), tn (j + 1) (by omega)]
    refine ⟨vin (by omega), vin (by omega), ?_⟩
    refine s_1_cp t (by omega) (by omega) (fun τ' t' x ex => ?_)
    have fl : ∀ f, f < 4 → τ.1 (B + 2 + 22 + (j + 1)) f = pgW σ B (508 + 4 * (j + 1) + f) := fun f hf => by rw [gle τ B (by omega) hf, t.g, h2 _ (by omega)]
    rw [fl 0 (by omega), fl 1 (by omega), fl 2 (by omega), fl 3 (by omega)] at t'
    rw [ex]
    refine hA τ' _ t' (fun y g1 g2 => ?_) (fun y g => ?_)
    · simp only [rd_upd]
      iterate 4 refine ite_e (fun q => by rw [q]; congr 1) (fun _ => ?_)
      exact h1 y g1 (by omega)
    · iterate 4 rw [upd_n (by omega)]
      exact h2 y (by omega)
  · intro A τ P' t h1 h2
    unfold m_8_removeLeg_2
    rw [g507, t.g, h2 507 (by omega), hl, show (1 : Int32) = nI 1 from rfl, pk_sub (by omega)]
    refine ⟨fun _ σ1 e1 σ2 e2 => ?_, fun q => absurd ((lei (by omega) (by omega)).mpr (Nat.le_refl (l - 1))) q⟩
    have t1 := tw_n507 t (v := nI (l - 1))
    rw [← e1] at t1
    have t2 := tw_n548 t1 (v := 0)
    rw [← e2] at t2
    refine h σ2 _ t2 (fun y g1 g2 => ?_) ?_ upd_s (fun y g1 g2 g3 => ?_)
    · rw [upd_n (by omega), upd_n (by omega)]; exact h1 y g1 g2
    · rw [upd_n (by omega)]; exact upd_s
    · rw [upd_n g2, upd_n g1]; exact h2 y g3
theorem p_dropLeg {c : Nat} {σ : St} {x1 : Int32} {H : Int32 → St → Prop} {K : Int32 → Int32 → St → Prop} (I : Inv c σ) (hH : ∀ v σ1, m_10_dropLeg 354 x1 (K v) σ1 → H v σ1) (h : ∀ v τ, Inv (c + 1) τ → K v v τ) : m_9_dropLeg 0 x1 H σ := by
  obtain ⟨n, l, ok, e, e5⟩ := id I.1
  have h10 := ok.1.2.2.2
  have hl := ok.1.2.2.1
  have p507 : σ.1 355 507 = nI l := (e.set (x := 507) (by omega) (by omega)).symm.trans hl
  unfold m_9_dropLeg
  refine s_8_hasLeg (n := l) hl (by omega) (fun k hk e1 => ?_) (fun hn => ⟨fun q => absurd rfl q, fun _ => hH _ _ ?_⟩)
  · subst e1
    refine ⟨fun _ => ?_, fun q => absurd q (by decide)⟩
    refine rem1 I (fun τ hτ hlow => ?_)
    have pg : pgW τ 7 = pgW σ 7 := pgW_cg (fun a h1 h2 => hlow a (by omega))
    refine s_8_removeLeg (B := 7) (P := pgW σ 7) (by rw [pg]; exact hl) h10 hk (fun σ6 P' t6 a0 a2 a3 a4 => ?_)
    rw [pg] at a0 a4
    have hrec := hτ.toW t6
    have hfr : σ6.1 355 = σ.1 355 := hrec.cel (by omega)
    show H (σ6.1 7 3) σ6
    rw [g507, t6.g, a2]
    refine hH _ _ ?_
    unfold m_10_dropLeg
    refine s_10_isLeg (r0 := 354) (n := l) (by rw [show (354 + 1 : Nat) = 355 from rfl, hfr]; exact p507) (by omega) (fun _ _ _ => ⟨fun _ => ?_, fun q => absurd q (by decide)⟩) (fun q => absurd rfl (q k hk))
    refine rec1 I hrec (fun σ7 hR7 hfin => ?_)
    have R7 := hR7.at ok
    have q507 : σ7.1 355 507 = nI l := (R7.2.1.set (x := 507) (by omega) (by omega)).symm.trans hl
    rw [t548, t507]
    refine ⟨v548, fun σ9 e9 => ⟨v507, v507, fun σ10 e10 x2 ex => ?_⟩⟩
    have w9 : σ9.1 355 = upd (σ7.1 355) 548 0 := by rw [e9]; exact wr_at
    have w10 : σ10.1 355 = upd (upd (σ7.1 355) 548 0) 507 (nI (l - 1)) := by
      rw [e10, wr_at, show (354 + 1 : Nat) = 355 from rfl, w9, upd_n (by omega), q507, show (1 : Int32) = nI 1 from rfl, pk_sub (by omega)]
    have M10 : modE σ7 σ10 := by rw [e10, e9]; exact (modE.rf.p (by omega)).p (by omega)
    have ex' : x2 = nI (508 + 4 * k) := ex.trans (legI0 k)
    rw [ex']
    refine it_from (fun (j : Nat) (A : Int32 → St → Prop) => ∀ τ, modE σ7 τ → (∀ y, 508 + 4 * k ≤ y → y < j → τ.1 355 y = σ7.1 355 (y + 4)) → (∀ y, y ≠ 507 → y ≠ 548 → (y < 508 + 4 * k ∨ j ≤ y) → τ.1 355 y = σ7.1 355 y) → τ.1 355 507 = nI (l - 1) → τ.1 355 548 = 0 → A (nI j) τ) (508 + 4 * k) (508 + 4 * (l - 1)) (by omega) (by omega) ?_ ?_ σ10 M10 (fun y h1 h2 => by omega) (fun y h1 h2 h3 => by rw [w10, upd_n (by omega), upd_n (by omega)]) (by rw [w10, upd_s]) (by rw [w10, upd_n (by omega), upd_s])
    · intro j hj1 hj A hA τ M h1 h2 h3 h4
      unfold m_10_dropLeg_43
      rw [t507, show (354 + 1 : Nat) = 355 from rfl, h3, show (508 : Int32) + 4 * nI (l - 1) = nI (508 + 4 * (l - 1)) from legI0 (l - 1)]
      refine ⟨v507, fun q => absurd q (nle_of hj (by omega)), fun _ => ?_⟩
      rw [li 4, nI_add, tn j (by omega), tn (j + 4) (by omega)]
      refine ⟨vq (by omega), vq (by omega), fun σ1 e1 x' ex' => ?_⟩
      rw [ex', li 1, nI_add]
      have w1 : σ1.1 355 = upd (τ.1 355) j (τ.1 355 (j + 4)) := by rw [e1]; exact wr_at
      refine hA σ1 (by rw [e1]; exact M.p (by omega)) (fun y g1 g2 => ?_) (fun y g1 g2 g3 => ?_) ?_ ?_
      · rw [w1, rd_upd]
        refine ite_e (fun q => by rw [q, h2 _ (by omega) (by omega) (by omega)]) (fun _ => h1 y g1 (by omega))
      · rw [w1, upd_n (by omega)]; exact h2 y g1 g2 (by omega)
      · rw [w1, upd_n (by omega)]; exact h3
      · rw [w1, upd_n (by omega)]; exact h4
    · intro A τ M h1 h2 h3 h4
      unfold m_10_dropLeg_43
      rw [t507, show (354 + 1 : Nat) = 355 from rfl, h3, show (508 : Int32) + 4 * nI (l - 1) = nI (508 + 4 * (l - 1)) from legI0 (l - 1)]
      refine ⟨v507, fun _ => ⟨v507, ?_⟩, fun q => absurd ((lei (by omega) (by omega)).mpr (Nat.le_refl _)) q⟩
      exact h _ _ (hfin (c + 1) _ (by omega) M ((REL.of (R7.dropLeg hk a0 a2 a3 a4 h1 h3 h4 h2)).mono (c := c) (by omega)))
  · unfold m_10_dropLeg
    exact s_10_isLeg (r0 := 354) p507 (by omega) (fun i hi e => absurd e (hn i hi)) (fun _ => ⟨fun q => absurd rfl q, fun _ => h _ _ (I.mono (by omega))⟩)
