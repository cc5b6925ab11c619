-- load
theorem clsRec.sw {c : Nat} {σ τ σ' τ' : St} {P : Nat → Int32} (h : clsRec c σ τ P) (h1 : ∀ a, a < 354 → σ'.1 a = σ.1 a) (h2 : ∀ a, a < 354 → τ'.1 a = τ.1 a) (h3 : ∀ a, 354 ≤ a → τ'.1 a = σ'.1 a) : clsRec c σ' τ' P := by
  obtain ⟨x, k, q1, q2, q3, q4, q5, q6, ⟨n, l, ok, hc⟩, q7, q8, q9⟩ := h
  have e7 : pgW σ' 7 = pgW σ 7 := pgW_cg (fun a _ _ => h1 a (by omega))
  refine ⟨x, k, q1, q2, by rw [h1 42 (by omega)]; exact q3, by rw [h1 42 (by omega)]; exact q4, by rw [h2 42 (by omega)]; exact q5, by rw [h2 42 (by omega)]; exact q6, ⟨n, l, by rw [e7]; exact ok, fun y hy => ?_⟩, fun w hw hx => ?_, ?_, fun a ha => ?_⟩
  · rw [e7, ← hc y hy]
    exact congrFun (pgW_cg (fun a _ _ => h2 a (by omega))) y
  · rw [pgW_cg (σ := τ) (τ := τ') (fun a _ _ => h2 a (by omega)), pgW_cg (σ := σ) (τ := σ') (fun a _ _ => h1 a (by omega))]
    exact q7 w hw hx
  · rw [pgW_cg (σ := τ) (τ := τ') (fun a _ _ => h2 a (by omega))]
    exact q8
  · by_cases q : a < 354
    · rw [h2 a q, h1 a q]
      exact q9 a (by omega)
    · exact h3 a (by omega)
theorem rec3 {c : Nat} {σ σ1 : St} {P : Nat → Int32} {Q : St → Prop} (I : Inv c σ) (h1 : clsRec c σ σ1 P) (h : ∀ σ2, (∀ a, a ≠ 354 → a ≠ 355 → σ2.1 a = σ1.1 a) → REL c (pgW σ 7) (σ2.1 355) → (∀ c' σ3, c ≤ c' → modE σ2 σ3 → REL c' P (σ3.1 355) → Inv c' σ3) → Q σ2) : m_10_records 354 Q σ1 := by
  obtain ⟨IR, IH, IT, IF⟩ := id I
  obtain ⟨k, x, q1, q2, q3, q4, q5, q6⟩ := id IH
  have h9 := h1
  obtain ⟨_, _, -, -, -, -, -, -, -, -, -, hfr⟩ := h9
  refine s_10_records (k := k) (by rw [hfr 354 (by omega)]; exact q5) q1 (fun σ2 m => ?_)
  refine h σ2 m.1 (IR.cg (fun i hi => by rw [m.2.2.2.1 i hi, hfr 355 (by omega)])) (fun c' σ3 hc d hR => ?_)
  obtain ⟨s1, s2, s3⟩ := step_rec IH IR IT hc q5 q1 h1 m (σ3 := σ3) (p := σ3.1 355) ⟨fun _ _ => rfl, d.1, d.2.1, fun j hj => d.2.2 j (by omega)⟩ hR
  refine ⟨s1, s2, s3, ?_⟩
  rw [d.2.1 0 (by omega), m.1 0 (by omega) (by omega), d.2.2 4 (by omega), m.2.1 4 (by omega), hfr 0 (by omega), hfr 354 (by omega)]
  exact IF
theorem rdA_le (T : Nat → Nat) : (rdA T).1 ≤ 2 := by
  have hD : (rdD T).1 ≤ 2 := by
    unfold rdD
    repeat' split
    all_goals first | exact Nat.zero_le _ | exact Nat.le_refl _ | exact (by decide : 1 ≤ 2)
  have hT : (rdT T (i1 T)).1 ≤ 2 := by
    unfold rdT
    repeat' split
    all_goals first | exact Nat.zero_le _ | exact (by decide : 1 ≤ 2)
  have hL : ∀ i w, (rdLw T i w).1 ≤ 2 := fun i w => by
    unfold rdLw
    repeat' split
    all_goals first | exact Nat.zero_le _ | exact (by decide : 1 ≤ 2)
  have hR : ∀ i n w, (rdRw T i n w).1 ≤ 2 := fun i n w => by
    unfold rdRw
    repeat' split
    all_goals first | exact Nat.zero_le _ | exact (by decide : 1 ≤ 2)
  unfold rdA
  split
  · split
    · split
      · exact hR _ _ _
      · exact hL _ _
    · exact hT
  · exact hD
theorem p_load {c : Nat} {σ : St} {x1 : Int32} {H : Int32 → St → Prop} {K : Int32 → Int32 → St → Prop} (I : Inv c σ) (hH : ∀ v σ1, m_10_load 354 x1 (K v) σ1 → H v σ1) (h : ∀ v τ, Inv (c + 1) τ → K v v τ) : m_9_load 0 x1 H σ := by
  obtain ⟨n, l, ok, e, e5⟩ := id I.1
  have h6 := ok.1.2.1
  have g1 : σ.1 (0 + 7) 1 = nI n := ok.1.1
  have p0 : σ.1 355 0 = nI n := (e.lo vis_0 (by omega)).symm.trans ok.1.1
  have I1 : Inv (c + 1) σ := I.mono (by omega)
  -- the text
  obtain ⟨m, T, hT, C, CM⟩ : ∃ (m : Nat) (T : Nat → Nat), TX m T ∧ TC m T σ ∧ TM m T σ := by
    obtain ⟨m, t1, t2, t3, t4⟩ := I.2.2.1
    refine ⟨m, fun j => if j < m then (σ.1 2 j).toNatClampNeg else 0, ⟨t1, fun j hj => ?_, fun j hj => ?_⟩, ⟨t2, fun j hj => ?_⟩, ⟨t3, fun j hj => ?_⟩⟩
    · obtain ⟨v, v1, v2, v3, v4⟩ := t4 j hj
      show 32 ≤ (if j < m then (σ.1 2 j).toNatClampNeg else 0) ∧ (if j < m then (σ.1 2 j).toNatClampNeg else 0) ≤ 126
      rw [if_pos hj, v3, tn v (by omega)]
      exact ⟨v1, v2⟩
    · show (if j < m then (σ.1 2 j).toNatClampNeg else 0) = 0
      rw [if_neg (by omega)]
    · obtain ⟨v, v1, v2, v3, v4⟩ := t4 j hj
      show σ.1 2 j = nI (if j < m then (σ.1 2 j).toNatClampNeg else 0)
      rw [if_pos hj, v3, tn v (by omega)]
    · obtain ⟨v, v1, v2, v3, v4⟩ := t4 j hj
      show σ.1 356 j = nI (if j < m then (σ.1 2 j).toNatClampNeg else 0)
      rw [if_pos hj, v3, tn v (by omega), v4]
  have bad : (∀ j, j ≤ n → x1 ≠ nI j) → H (-1) σ := fun hq => hH _ _ (by
    unfold m_10_load
    rw [tn0, show (354 + 1 : Nat) = 355 from rfl, p0]
    exact ⟨vq0, s_10_inN (a := 0) (b := n) (by omega) (by omega) (fun j _ h2 e => absurd e (hq j h2)) (fun _ => ⟨fun q => absurd rfl q, fun _ => h _ _ I1⟩)⟩)
  unfold m_9_load
  rw [g1]
  rcases ix x1 (n + 1) with g | ⟨j, rfl, hj, hj2⟩ | ⟨x, rfl, hx⟩
  · exact ⟨fun _ => bad (fun j _ => neg_ne g (by omega)), fun q => absurd g q⟩
  · exact ⟨fun q => absurd q (nn0 hj2), fun _ => ⟨fun q => absurd ((leI (by omega) (by omega)).mp q) (by omega), fun _ => bad (fun k' h1 e => by rw [eqI (by omega) (by omega)] at e; omega)⟩⟩
  refine ⟨fun q => absurd q (nn0 (by omega)), fun _ => ⟨fun _ => ⟨fun q6 => ?_, fun q6 => ?_⟩, fun q => absurd ((leI (by omega) (by omega)).mpr (by omega)) q⟩⟩
  rotate_left
  · refine hH _ _ ?_
    unfold m_10_load
    rw [tn0, show (354 + 1 : Nat) = 355 from rfl, p0]
    have hx6 : x = 6 := by
      have := mt (ltI (a := x) (b := 6) (by omega) (by omega)).mpr q6
      omega
    refine ⟨vq0, s_10_inN (a := 0) (b := n) (by omega) (by omega) (fun j _ h2 e => ⟨fun _ => ⟨fun q => absurd (by rw [hx6]; rfl) q, fun _ => h _ _ I1⟩, fun q => absurd q (by decide)⟩) (fun q => absurd rfl (q x (by omega) (by omega)))⟩
  have hx6 : x < 6 := (ltI (b := 6) (by omega) (by omega)).mp q6
  have nx6 : ¬ nI x = 6 := fun z => by
    have := (eqI (b := 6) (by omega) (by omega)).mp z
    omega
  refine s_3_read hT C (fun rk υ f d0 d1 d2 d5 d6 => ?_) (fun rk υ f d1 => ?_)
  · -- the text tells a street
    obtain ⟨r1, r2, r3, r4, r5, r6⟩ := rd_ok rk
    intro σ3 e3
    rw [show (0 : Nat) = 0 from rfl] at e3
    have f3 : ∀ a, a ≠ 0 → (a < 3 ∨ 6 < a) → σ3.1 a = σ.1 a := fun a h1 h2 => by rw [e3, wr_cell h1]; exact f a h2
    have z08 : σ3.1 0 8 = 0 := by rw [e3, wr_same]
    have w7 : pgW σ3 7 = pgW σ 7 := pgW_cg (fun a h1 h2 => f3 a (by omega) (by omega))
    refine ⟨fun _ => ?_, fun q => absurd z08 q⟩
    obtain ⟨kk, xx, q1, q2, q3, q4, q5, -⟩ := id I.2.1
    refine s_0_remember (c := c) (n := n) (l := l) (x := xx) (k := kk) (by rw [w7]; exact ok) (by rw [f3 42 (by omega) (by omega)]; exact q3) q2 (by rw [f3 42 (by omega) (by omega)]; exact q4) q1 (fun τ hτ hlow => ?_)
    have pg : pgW τ 7 = pgW σ 7 := (pgW_cg (fun a h1 h2 => hlow a (by omega))).trans w7
    have fd : ∀ a, 4 ≤ a → a < 7 → τ.1 a = υ.1 a := fun a h1 h2 => by rw [hlow a (by omega), e3, wr_cell (by omega)]
    refine s_8_putStreet (T := T) (x := x) (c := c) (n := n) (l := l) (by rw [pg]; exact ok) (by omega) hx6 r4 r6 (by rw [fd 4 (by omega) (by omega)]; exact d0) (by rw [fd 4 (by omega) (by omega)]; exact d1) (by rw [fd 4 (by omega) (by omega)]; exact d2) (fun y hy => by rw [fd 5 (by omega) (by omega)]; exact d5 y hy) (fun y hy => by rw [fd 6 (by omega) (by omega)]; exact d6 y hy) (fun σ6 P' t6 ls => ?_)
    rw [pg] at ls
    have hrec := hτ.toW t6
    have f6 : ∀ a, 354 ≤ a → σ6.1 a = σ.1 a := fun a ha => by rw [hrec.cel (by omega), f3 a (by omega) (by omega)]
    have z6 : σ6.1 (0 + 3 + 1) 0 = nI (vN T) := by
      show σ6.1 4 0 = nI (vN T)
      rw [t6.2.1 4 (by omega), fd 4 (by omega) (by omega)]
      exact d0
    show H (σ6.1 (0 + 3 + 1) 0) σ6
    rw [z6]
    refine hH _ _ ?_
    unfold m_10_load
    rw [tn0, show (354 + 1 : Nat) = 355 from rfl, f6 355 (by omega), p0]
    refine ⟨vq0, s_10_inN (a := 0) (b := n) (by omega) (by omega) (fun _ _ _ _ => ⟨fun _ => ⟨fun _ => ?_, fun q => absurd q nx6⟩, fun q => absurd q (by decide)⟩) (fun q => absurd rfl (q x (by omega) (by omega)))⟩
    intro σa ea σb eb
    have C6 : TM m T σ6 := ⟨by rw [f6 354 (by omega)]; exact CM.1, fun j hj => by rw [f6 356 (by omega)]; exact CM.2 j hj⟩
    have Sb : mS σ6 σb 0 (σb.1 357) := by
      rw [eb, ea]
      refine ⟨⟨fun a h1 h2 => by rw [wr_cell h1, wr_cell h1], fun j h1 h2 h3 => by rw [wr_else (by omega), wr_else (by omega)]⟩, by rw [wr_same]; rfl, by rw [wr_else (by omega), wr_same], rfl⟩
    refine s_10_read3 hT C6 Sb (fun q => absurd rk q) (fun _ υ2 N m1 m2 m3 n0 n1 n2 n3 => ?_)
    -- the model's record: as if the class had begun from here
    have IB : Inv c ((fun a => if a < 354 then σ3.1 a else υ2.1 a, υ2.2) : St) := by
      refine I.ld (fun a h0 h1 h2 h3 => ?_) (fun j hj => ?_) ?_
      · show (if a < 354 then σ3.1 a else υ2.1 a) = σ.1 a
        by_cases q : a < 354
        · rw [if_pos q]; exact f3 a h0 h1
        · rw [if_neg q, m1.1 a h2 h3, f6 a (by omega)]
      · show (if 354 < 354 then σ3.1 354 else υ2.1 354) j = σ.1 354 j
        rw [if_neg (by omega), m1.2 j (by omega) (by omega) (by omega), f6 354 (by omega)]
      · show (if 0 < 354 then σ3.1 0 else υ2.1 0) 8 = (if 354 < 354 then σ3.1 354 else υ2.1 354) 4
        rw [if_pos (by omega), if_neg (by omega), z08, m2]
    generalize hσB : ((fun a => if a < 354 then σ3.1 a else υ2.1 a, υ2.2) : St) = σB at IB
    have lB : ∀ a, a < 354 → σB.1 a = σ3.1 a := fun a ha => by rw [← hσB]; exact if_pos ha
    have hB : ∀ a, 354 ≤ a → σB.1 a = υ2.1 a := fun a ha => by rw [← hσB]; exact if_neg (by omega)
    have hrecB : clsRec c σB υ2 P' := hrec.sw lB (fun a ha => m1.1 a (by omega) (by omega)) (fun a ha => (hB a ha).symm)
    have w7B : pgW σB 7 = pgW σ 7 := (pgW_cg (fun a h1 h2 => lB a (by omega))).trans w7
    refine rec3 IB hrecB (fun σ7 h357 hR7 hfin => ?_)
    rw [w7B] at hR7
    have R7 := hR7.at ok
    have ok7 := ok.tr R7.2.1
    have q0 : σ7.1 355 0 = nI n := ok7.1.1
    have w357 : σ7.1 357 = N := by rw [h357 357 (by omega) (by omega)]; exact m3
    have fin : ∀ υ3, modE σ7 υ3 → ldS n x T (σ7.1 355) (υ3.1 355) → K (nI (vN T)) (nI (vN T)) υ3 := fun υ3 Mυ lsm =>
      h _ _ (hfin (c + 1) υ3 (by omega) Mυ ((REL.of (R7.load (by omega) hx6 ⟨r1, r2, r3, r4, r5, r6⟩ ls lsm)).mono (c := c) (by omega)))
    rw [t548]
    refine ⟨v548, fun σ13 e13 => ⟨vq0, fun q => ?_, fun q => ⟨vq0, vq0, fun σ20 e20 => ?_⟩⟩⟩
    · -- in place of one that there is
      have w13 : σ13.1 355 = upd (σ7.1 355) 548 0 := by rw [e13]; exact wr_at
      have M13 : modE σ7 σ13 := by rw [e13]; exact modE.rf.p (by omega)
      rw [w13, upd_n (by omega), q0] at q
      have hxn : x < n := by
        rcases Nat.lt_or_ge x n with z | z
        · exact z
        · exact absurd (by rw [show x = n by omega]) q
      obtain ⟨cx1, cx2, cx3⟩ := ok7.cells hxn
      have sq : ∀ s, s < 2 → sD (σ13.1 (354 + 1)) (4 + 83 * x + 20 * s) (cellsN (σ7.1 355) x) = sD (σ7.1 355) (4 + 83 * x + 20 * s) (cellsN (σ7.1 355) x) := fun s hs => sD_eq _ (fun j hj => by rw [show (354 + 1 : Nat) = 355 from rfl, w13, upd_n (by omega)])
      have hc13 : σ13.1 (354 + 1) (1 + 83 * x) = nI (cellsN (σ7.1 355) x) := by rw [show (354 + 1 : Nat) = 355 from rfl, w13, upd_n (by omega)]; exact cx1
      refine s_10_sideSum (s := 0) hx6 (by omega) hc13 cx3 (s_10_sideSum (s := 1) hx6 (by omega) hc13 cx3 ?_)
      rw [sq 0 (by omega), sq 1 (by omega), show 4 + 83 * x + 20 * 0 = 4 + 83 * x by omega, show 4 + 83 * x + 20 * 1 = 24 + 83 * x by omega]
      refine s_10_books (k := 2) (by omega) ?_
      have w14 : ∀ v, (wr σ13 (354 + 1) (556 + 2) v).1 355 = upd (upd (σ7.1 355) 548 0) 558 v := fun v => by
        refine wr_at.trans ?_
        rw [show (354 + 1 : Nat) = 355 from rfl, w13]
      have v14 : σ13.1 (354 + 1) (556 + 2) = σ7.1 355 558 := by rw [show (354 + 1 : Nat) = 355 from rfl, w13, upd_n (by omega)]
      rw [v14]
      refine s_10_load118 (n := n) (p := σ7.1 355) (N := N) (σ11 := σ7) hx6 r3 r4 (M13.p (by omega)) (by rw [wr_cell (by omega), e13, wr_cell (by omega)]; exact w357) n0 n1 n2 n3 ?_ ?_ ?_ (fun y y0 y1 y2 y3 => ?_) fin
      · rw [w14, upd_n (by omega), upd_n (by omega), if_pos hxn]; exact q0
      · rw [w14, upd_n (by omega), upd_s]
      · rw [w14, upd_s, if_pos hxn]
      · rw [w14, upd_n y3, upd_n y2]
    · -- a new one
      have w13 : σ13.1 355 = upd (σ7.1 355) 548 0 := by rw [e13]; exact wr_at
      have M13 : modE σ7 σ13 := by rw [e13]; exact modE.rf.p (by omega)
      rw [w13, upd_n (by omega), q0] at q
      have hxn : x = n := (eqI (by omega) (by omega)).mp q
      rw [w13, upd_n (by omega), q0, iplus] at e20
      have w20 : σ20.1 355 = upd (upd (σ7.1 355) 548 0) 0 (nI (n + 1)) := by rw [e20, wr_at, w13]
      refine s_10_load118 (n := n) (p := σ7.1 355) (N := N) (σ11 := σ7) hx6 r3 r4 (by rw [e20]; exact M13.p (by omega)) (by rw [e20, wr_cell (by omega), e13, wr_cell (by omega)]; exact w357) n0 n1 n2 n3 ?_ ?_ ?_ (fun y y0 y1 y2 y3 => ?_) fin
      · rw [w20, upd_s, if_neg (by omega)]
      · rw [w20, upd_n (by omega), upd_s]
      · rw [w20, upd_n (by omega), upd_n (by omega), if_neg (by omega)]
      · rw [w20, upd_n y1, upd_n y2]
  · -- a fault
    have k2 := rdA_le T
    intro σ3 e3
    have f3 : ∀ a, a ≠ 0 → (a < 3 ∨ 6 < a) → σ3.1 a = σ.1 a := fun a h1 h2 => by rw [e3, wr_cell h1]; exact f a h2
    have z08 : σ3.1 0 8 = nI (rdA T).1 := by rw [e3, wr_same]
    have z31 : σ3.1 (0 + 3) 1 = nI (rdA T).2 := by
      show σ3.1 3 1 = nI (rdA T).2
      rw [e3, wr_cell (by omega)]; exact d1
    refine ⟨fun q => absurd (z08.symm.trans q) (fun z => rk ((eqi (b := 0) (by omega) (by omega)).mp z)), fun _ => ?_⟩
    rw [z31]
    refine hH _ _ ?_
    unfold m_10_load
    rw [tn0, show (354 + 1 : Nat) = 355 from rfl, f3 355 (by omega) (by omega), p0]
    refine ⟨vq0, s_10_inN (a := 0) (b := n) (by omega) (by omega) (fun _ _ _ _ => ⟨fun _ => ⟨fun _ => ?_, fun q => absurd q nx6⟩, fun q => absurd q (by decide)⟩) (fun q => absurd rfl (q x (by omega) (by omega)))⟩
    intro σa ea σb eb
    have C3 : TM m T σ3 := ⟨by rw [f3 354 (by omega) (by omega)]; exact CM.1, fun j hj => by rw [f3 356 (by omega) (by omega)]; exact CM.2 j hj⟩
    have Sb : mS σ3 σb 0 (σb.1 357) := by
      rw [eb, ea]
      refine ⟨⟨fun a h1 h2 => by rw [wr_cell h1, wr_cell h1], fun j h1 h2 h3 => by rw [wr_else (by omega), wr_else (by omega)]⟩, by rw [wr_same]; rfl, by rw [wr_else (by omega), wr_same], rfl⟩
    refine s_10_read3 hT C3 Sb (fun _ υ2 es => ?_) (fun q => absurd q rk)
    rw [es.2.2]
    refine h _ _ (Inv.mono (I.ld (fun a h0 h1 h2 h3 => by rw [es.1.1 a h2 h3]; exact f3 a h0 h1) (fun j hj => by rw [es.1.2 j (by omega) (by omega) (by omega), f3 354 (by omega) (by omega)]) ?_) (by omega))
    rw [es.1.1 0 (by omega) (by omega), z08, es.2.1]
