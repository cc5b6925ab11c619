-- the best order: the model's search
theorem s_10_orders {c n l k : Nat} {P : Nat → Int32} {σ σa : St} {x2 : Int32} {Q : Int32 → St → Prop} (ok : okP c n l P) (e : EQP n l P (σ.1 355)) (hl1 : 1 ≤ l) (h6 : l ≤ 6) (hk : k < l) (fa : FM σ σa) (oa : OR 358 l (List.range l) σa)
    (hQ : ∀ τ, FM σ τ → Q (if x2 = 0 then nI (gO (srch l P 720 (List.range l) (-1, [])).2 k) else (srch l P 720 (List.range l) (-1, [])).1) τ) : itN (m_10_bestOrder_46 354 (nI k) x2 Q) (fun _ _ _ => False) FU (-1) 1 σa := by
  have h60 := ok.1.2.1
  generalize hR : srch l P 720 (List.range l) (-1, []) = R at hQ
  refine (it_lt (fun (m : Nat) (A : Int32 → Int32 → St → Prop) =>
    (∀ f τ o b, m = f + 1 → f ≤ 720 → runs l f o = true → FM σ τ → OR 358 l o τ → bOK 359 l b τ → srch l P f o b = R → A b.1 1 τ) ∧
    (∀ τ, FM σ τ → (∀ j, j < l → τ.1 359 j = nI (gO R.2 j)) → A R.1 0 τ)) ?_ 721 (by omega)).1 720 σa (List.range l) (-1, []) rfl (by omega) (runs_all l (by omega) hl1) fa oa (Or.inl rfl) hR
  intro m A hA
  refine ⟨fun f τ o b em hf720 hr fτ ho hb hv => ?_, fun τ fτ r2 => ?_⟩
  rotate_left
  · unfold m_10_bestOrder_46
    refine ⟨fun _ => ⟨fun q => ⟨vin (by omega), ?_⟩, fun q => ?_⟩, fun q => absurd rfl q⟩
    · have := hQ τ fτ
      rw [if_pos q] at this
      rw [tn k (by omega), show (354 + 5 : Nat) = 359 from rfl, r2 k hk]
      exact this
    · have := hQ τ fτ
      rw [if_neg q] at this
      exact this
  obtain ⟨f, rfl, hr'⟩ := runs_n hr
  have oko := ho.1
  have pe : ∀ τ', FM σ τ' → EQP n l P (τ'.1 355) := fun τ' f' x hx hl => (e x hx hl).trans (f'.1 x (by have := hx.1; omega)).symm
  have p507 : ∀ τ', FM σ τ' → τ'.1 355 507 = nI l := fun τ' f' => ((pe τ' f').set (x := 507) (by omega) (by omega)).symm.trans ok.1.2.2.1
  unfold m_10_bestOrder_46
  refine ⟨fun q => absurd q (by decide), fun _ => ⟨v499, ?_⟩⟩
  rw [t499, show (354 + 1 : Nat) = 355 from rfl]
  have es : upd (τ.1 355) 499 (τ.1 355 499) = τ.1 355 := upd_self rfl
  refine s_10_loadWith (c := c) (n := n) (l := l) (o := gO o) (by rw [es]; exact ok.tr (pe τ fτ)) oko.ord (fun j hj => ho.2 j hj) (fun τ1 f1 g1 _ => ?_)
  rw [es, ← out_ord ok (pe τ fτ) oko.ord]
  obtain ⟨t, ht1, ht2⟩ := outL_nn ok oko.ord
  have F1 := FM.tr fτ f1
  have o1 : OR 358 l o τ1 := ⟨oko, fun j hj => by rw [g1 358 (by omega)]; exact ho.2 j hj⟩
  have b1 : bOK 359 l b τ1 := by
    rcases hb with z | z
    · exact Or.inl z
    · exact Or.inr (fun j hj => by rw [g1 359 (by omega)]; exact z j hj)
  -- on to the next order
  have nx : ∀ τ4, FM σ τ4 → OR 358 l o τ4 → (∀ j, j < l → τ4.1 359 j = nI (gO (upB l P o b).2 j)) → m_10_bestOrder_107 354 (nI k) x2 b.1 (outL (gO o) l P) A Q τ4 := fun τ4 k1 k3 k5 => by
    have go : m_10_bestOrder_119 354 (nI k) x2 A Q (upB l P o b).1 τ4 := by
      unfold m_10_bestOrder_119
      refine s_10_ordersNext hl1 h6 (p507 τ4 k1) k3 (fun en => ?_) (fun o' τ5 en k6 k7 => ?_)
      · rw [srch_n en] at hv
        rw [hv] at k5 ⊢
        exact (hA 0 (by omega)).2 τ4 k1 k5
      · rw [srch_s en] at hv
        refine (hA (f + 1) (by omega)).1 f τ5 o' _ rfl (by omega) (hr' o' en) ?_ k6 (Or.inr (fun j hj => by rw [k7.1 359 (by omega)]; exact k5 j hj)) hv
        exact FM.tr k1 (lay_FM k7.1 k7.2)
    unfold m_10_bestOrder_107
    refine ⟨fun q => ?_, fun q => ?_⟩
    · have eu : (upB l P o b).1 = b.1 := by
        unfold upB
        rw [if_neg (fun z => nlt_le.mpr q z)]
      rw [eu] at go
      exact go
    · have eu : (upB l P o b).1 = outL (gO o) l P := by
        unfold upB
        rw [if_pos (nle_lt.mp q)]
      rw [eu] at go
      exact go
  refine it_cnt (fun (kk : Nat) (B : Int32 → St → Prop) => ∀ τ2, FM σ τ2 → OR 358 l o τ2 → (0 < kk → b.1 < outL (gO o) l P) → (∀ j, j < kk → τ2.1 359 j = nI (gO o j)) → (¬ b.1 < outL (gO o) l P → bOK 359 l b τ2) → B (nI kk) τ2) l (by omega) ?_ ?_ τ1 F1 o1 (fun q => absurd q (by omega)) (fun j hj => by omega) (fun _ => b1)
  · intro kk hkk B hB τ2 f2 o2 q0 q1 q2
    unfold m_10_bestOrder_68
    rw [t507, show (354 + 1 : Nat) = 355 from rfl, p507 τ2 f2]
    refine ⟨v507, fun q => absurd q (nle_of hkk (by omega)), fun _ => ⟨fun q => ?_, fun q => ⟨vin (by omega), vin (by omega), fun σ3 e3 x ex => ?_⟩⟩⟩
    · have nb : ¬ b.1 < outL (gO o) l P := fun z => nlt_le.mpr q z
      refine nx τ2 f2 o2 (fun j hj => ?_)
      have eu : upB l P o b = b := by
        unfold upB
        rw [if_neg nb]
      rw [eu]
      rcases q2 nb with z | z
      · exfalso
        rw [z, ht1] at q
        exact nle_lt.mpr (m1_nI (t := t) (by omega)) q
      · exact z j hj
    · rw [tn kk (by omega), show (354 + 5 : Nat) = 359 from rfl, show (354 + 4 : Nat) = 358 from rfl] at e3
      rw [ex, iplus]
      refine hB σ3 ⟨fun y hy => by rw [e3, wr_cell (by omega)]; exact f2.1 y hy, fun a ha => by rw [e3, wr_cell (by omega)]; exact f2.2.1 a ha, fun j hj => by rw [e3, wr_cell (by omega)]; exact f2.2.2.1 j hj, by rw [e3]; exact f2.2.2.2⟩ ⟨oko, fun j hj => by rw [e3, wr_cell (by omega)]; exact o2.2 j hj⟩ (fun _ => nle_lt.mp q) (fun j hj => ?_) (fun z => absurd (nle_lt.mp q) z)
      rw [e3, rd_wr, if_pos rfl]
      exact ite_e (fun q => by rw [q]; exact o2.2 kk hkk) (fun _ => q1 j (by omega))
  · intro B τ2 f2 o2 q0 q1 q2
    unfold m_10_bestOrder_68
    rw [t507, show (354 + 1 : Nat) = 355 from rfl, p507 τ2 f2]
    refine ⟨v507, fun _ => ?_, fun q => absurd ((lei (by omega) (by omega)).mpr (Nat.le_refl l)) q⟩
    refine nx τ2 f2 o2 (fun j hj => ?_)
    have hb1 := q0 (by omega)
    have eu : (upB l P o b).2 = o := by
      unfold upB
      rw [if_pos hb1]
    rw [eu]
    exact q1 j hj
theorem p_bestOrder {c : Nat} {σ : St} {x1 x2 : Int32} {H : Int32 → St → Prop} {K : Int32 → Int32 → St → Prop} (I : Inv c σ) (hH : ∀ v σ1, m_10_bestOrder 354 x1 x2 (K v) σ1 → H v σ1) (h : ∀ v τ, Inv (c + 1) τ → K v v τ) : m_9_bestOrder 0 x1 x2 H σ := by
  obtain ⟨n, l, ok, e, e5⟩ := id I.1
  have h10 := ok.1.2.2.2
  have hl := ok.1.2.2.1
  have g3 : σ.1 (0 + 7) 3 = nI l := hl
  have p507 : σ.1 355 507 = nI l := (e.set (x := 507) (by omega) (by omega)).symm.trans hl
  have I1 : Inv (c + 1) σ := I.mono (by omega)
  unfold m_9_bestOrder
  rw [g3]
  refine ⟨fun q0 => ⟨fun q6 => ⟨fun qk => ?_, fun qk => ?_⟩, fun q6 => ?_⟩, fun q0 => ?_⟩
  · have l6 := (lei (a := l) (b := 6) (by omega) (by decide)).mp q6
    rcases ix x1 l with g | ⟨j, rfl, hj, hj2⟩ | ⟨k, rfl, hk⟩
    · exact absurd q0 (nle_lt.mpr g)
    · exact absurd ((ltI (by omega) (by omega)).mp qk) (by omega)
    refine s_2_search ok (by omega) l6 (fun τ f r1 r2 => ?_)
    have e3 : τ.1 355 = σ.1 355 := f 355 (by omega)
    have fin : ∀ v, v = (if x2 = 0 then nI (gO (srch l (pgW σ 7) 720 (List.range l) (-1, [])).2 k) else (srch l (pgW σ 7) 720 (List.range l) (-1, [])).1) → H v τ := fun v ev => hH _ _ (by
      unfold m_10_bestOrder
      rw [t507, show (354 + 1 : Nat) = 355 from rfl, e3, p507]
      refine ⟨fun _ => ⟨v507, fun _ => ⟨v507, fun _ => ?_, fun q => absurd qk q⟩, fun q => absurd q6 q⟩, fun q => absurd q0 q⟩
      refine s_10_laysOrder (fun υ f8 o8 f2 => ?_)
      refine s_10_orders (P := pgW σ 7) (c := c) (n := n) (l := l) (σ := τ) ok (by rw [e3]; exact e) (by omega) l6 hk (lay_FM f8 f2) ⟨rng_okL (by omega), fun j hj => by rw [(rng_ok l (by omega)).2 j hj]; exact o8 j (by omega)⟩ (fun υ' g => ?_)
      rw [← ev]
      exact h _ _ ((g.inv (f.inv I)).mono (by omega)))
    refine ⟨fun qx => ⟨vin (by omega), ?_⟩, fun qx => ?_⟩
    · rw [tn k (by omega), show (0 + 351 + 1 : Nat) = 352 from rfl, r2 k hk]
      exact fin _ (by rw [if_pos qx])
    · rw [show (0 + 351 : Nat) = 351 from rfl, r1]
      exact fin _ (by rw [if_neg qx])
  · refine hH _ _ ?_
    unfold m_10_bestOrder
    rw [t507, show (354 + 1 : Nat) = 355 from rfl, p507]
    exact ⟨fun _ => ⟨v507, fun _ => ⟨v507, fun q => absurd q qk, fun _ => h _ _ I1⟩, fun q => absurd q6 q⟩, fun q => absurd q0 q⟩
  · refine hH _ _ ?_
    unfold m_10_bestOrder
    rw [t507, show (354 + 1 : Nat) = 355 from rfl, p507]
    exact ⟨fun _ => ⟨v507, fun q => absurd q q6, fun _ => h _ _ I1⟩, fun q => absurd q0 q⟩
  · refine hH _ _ ?_
    unfold m_10_bestOrder
    exact ⟨fun q => absurd q q0, fun _ => h _ _ I1⟩
