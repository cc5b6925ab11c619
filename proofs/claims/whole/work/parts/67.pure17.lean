theorem RN.addStreet {c n l a b t : Nat} {P p P' p' : Nat → Int32} (h : RN c n l P p) (hn : n < 6) (ha : 1 ≤ a ∧ a ≤ 20) (hb : b ≤ 60) (ht : t ≤ 9)
    (a0 : P' (1 + 83 * n) = nI a) (a1 : P' (2 + 83 * n) = nI b) (a2 : P' (3 + 83 * n) = nI t) (a3 : ∀ k, k < 80 → P' (4 + 83 * n + k) = 0) (a4 : P' 0 = nI (n + 1)) (a5 : P' 548 = 0) (a6 : ∀ y, y ≠ 0 → y ≠ 548 → (y < 1 + 83 * n ∨ 84 + 83 * n ≤ y) → P' y = P y)
    (b0 : p' (1 + 83 * n) = nI a) (b1 : p' (2 + 83 * n) = nI b) (b2 : p' (3 + 83 * n) = nI t) (b3 : ∀ k, k < 80 → p' (4 + 83 * n + k) = 0) (b4 : p' 0 = nI (n + 1)) (b5 : p' 548 = 0) (b6 : ∀ y, y ≠ 0 → y ≠ 548 → (y < 1 + 83 * n ∨ 84 + 83 * n ≤ y) → p' y = p y) : RN c (n + 1) l P' p' := by
  obtain ⟨⟨⟨h1, h2, h3, h4⟩, h5, h6, h7, s7, h9, h10⟩, e, e5⟩ := h
  have hg : ∀ y, 499 ≤ y → y ≠ 548 → P' y = P y := fun y hy h8 => a6 y (by omega) h8 (by omega)
  refine ⟨⟨⟨a4, by omega, by rw [hg 507 (by omega) (by omega)]; exact h3, h4⟩, fun i hi => ?_, fun i k hi hk => ?_, fun j hj => ?_, ?_, ?_, ?_⟩, fun y hy hq => ?_, ?_⟩
  · by_cases q : i = n
    · subst q
      rw [a0, a1, a2]
      exact ⟨⟨a, rfl, ha⟩, ⟨b, rfl, hb⟩, ⟨t, rfl, ht⟩⟩
    · rw [a6 _ (by omega) (by omega) (by omega), a6 _ (by omega) (by omega) (by omega), a6 _ (by omega) (by omega) (by omega)]
      exact h5 i (by omega)
  · by_cases q : i = n
    · subst q
      have e1 := a3 k (by omega)
      have e2 := a3 (40 + k) (by omega)
      rw [show 4 + 83 * i + (40 + k) = 44 + 83 * i + k by omega] at e2
      rw [e1, e2]
      exact ⟨⟨0, rfl, by omega⟩, isB0⟩
    · rw [a6 _ (by omega) (by omega) (by omega), a6 _ (by omega) (by omega) (by omega)]
      exact h6 i k (by omega) hk
  · rw [hg _ (by omega) (by omega), hg _ (by omega) (by omega)]
    obtain ⟨⟨v, v1, v2⟩, w⟩ := h7 j hj
    exact ⟨⟨v, v1, by omega⟩, w⟩
  · rw [hg 499 (by omega) (by omega), hg 500 (by omega) (by omega), hg 501 (by omega) (by omega), hg 502 (by omega) (by omega), hg 503 (by omega) (by omega), hg 504 (by omega) (by omega), hg 505 (by omega) (by omega), hg 506 (by omega) (by omega)]
    exact s7
  · rw [a5]; exact isB0
  · rw [hg 562 (by omega) (by omega)]; exact h10
  · have nl : ¬ leg23 y := fun q => hq q a5
    by_cases q1 : y = 0
    · subst q1; rw [a4, b4]
    by_cases q2 : y = 548
    · subst q2; rw [a5, b5]
    by_cases q3 : y < 1 + 83 * n ∨ 84 + 83 * n ≤ y
    · rw [a6 y q1 q2 q3, b6 y q1 q2 q3]
      have hy3 := hy.2.2.1
      exact e.nv ⟨hy.1, hy.2.1, fun g1 g2 => by omega, hy.2.2.2⟩ nl
    · rcases (by omega : y = 1 + 83 * n ∨ y = 2 + 83 * n ∨ y = 3 + 83 * n ∨ 4 + 83 * n ≤ y) with rfl | rfl | rfl | q4
      · rw [a0, b0]
      · rw [a1, b1]
      · rw [a2, b2]
      · obtain ⟨k, rfl⟩ : ∃ k, y = 4 + 83 * n + k := ⟨y - (4 + 83 * n), by omega⟩
        rw [a3 k (by omega), b3 k (by omega)]
  · rw [b6 555 (by omega) (by omega) (by omega), hg 562 (by omega) (by omega)]; exact e5
theorem s_10_empties {i : Nat} {a b t : Int32} {Q : St → Prop} {σ : St} (hi : i < 6) (h : ∀ τ, modE σ τ → τ.1 355 (1 + 83 * i) = a → τ.1 355 (2 + 83 * i) = b → τ.1 355 (3 + 83 * i) = t → (∀ k, k < 80 → τ.1 355 (4 + 83 * i + k) = 0) → (∀ y, (y < 1 + 83 * i ∨ 84 + 83 * i ≤ y) → τ.1 355 y = σ.1 355 y) → (∀ b, b ≠ 355 → τ.1 b = σ.1 b) → Q τ) : m_10_empties 354 (nI i) a b t Q σ := by
  unfold m_10_empties
  refine it_cnt (fun (k : Nat) (B : Int32 → St → Prop) => ∀ τ, modE σ τ → (∀ j, j < k → τ.1 355 (1 + 83 * i + j) = 0) → (∀ y, (y < 1 + 83 * i ∨ 84 + 83 * i ≤ y) → τ.1 355 y = σ.1 355 y) → (∀ b, b ≠ 355 → τ.1 b = σ.1 b) → B (nI k) τ) 83 (by decide) ?_ ?_ σ modE.rf (fun j hj => by omega) (fun _ _ => rfl) (fun _ _ => rfl)
  · intro k hk B hB τ M h1 h2 h3
    unfold m_10_empties_3
    refine ⟨fun q => absurd ((lei (a := 83) (by decide) (by omega)).mp q) (by omega), fun _ => ?_⟩
    refine s_10_sets hi hk (fun x ex => ?_)
    rw [ex, li 1, nI_add]
    refine hB _ (M.p (by omega)) (fun j hj => ?_) (fun y hy => ?_) (fun c hc => ?_)
    · rw [show (wr τ (354 + 1) (1 + 83 * i + k) 0).1 355 = upd (τ.1 355) (1 + 83 * i + k) 0 from wr_at, rd_upd]
      refine ite_e (fun _ => rfl) (fun q => h1 j (by omega))
    · rw [show (wr τ (354 + 1) (1 + 83 * i + k) 0).1 355 = upd (τ.1 355) (1 + 83 * i + k) 0 from wr_at, upd_n (by omega)]
      exact h2 y hy
    · rw [wr_cell (by omega)]; exact h3 c hc
  · intro B τ M h1 h2 h3
    unfold m_10_empties_3
    refine ⟨fun _ => ?_, fun q => absurd ((lei (a := 83) (by decide) (by decide)).mpr (Nat.le_refl 83)) q⟩
    refine s_10_sets (k := 0) hi (by omega) ?_
    refine s_10_sets (k := 1) hi (by omega) ?_
    refine s_10_sets (k := 2) hi (by omega) ?_
    have w : (wr (wr (wr τ (354 + 1) (1 + 83 * i + 0) a) (354 + 1) (1 + 83 * i + 1) b) (354 + 1) (1 + 83 * i + 2) t).1 355 = upd (upd (upd (τ.1 355) (1 + 83 * i + 0) a) (1 + 83 * i + 1) b) (1 + 83 * i + 2) t := by
      refine wr_at.trans ?_
      rw [wr_at, wr_at]
    refine h _ (((M.p (by omega)).p (by omega)).p (by omega)) ?_ ?_ ?_ (fun k hk => ?_) (fun y hy => ?_) (fun c hc => ?_)
    · rw [w, upd_n (by omega), upd_n (by omega)]; exact upd_s
    · rw [w, upd_n (by omega), show 2 + 83 * i = 1 + 83 * i + 1 by omega]; exact upd_s
    · rw [w, show 3 + 83 * i = 1 + 83 * i + 2 by omega]; exact upd_s
    · rw [w, upd_n (by omega), upd_n (by omega), upd_n (by omega), show 4 + 83 * i + k = 1 + 83 * i + (3 + k) by omega]
      exact h1 (3 + k) (by omega)
    · rw [w, upd_n (by omega), upd_n (by omega), upd_n (by omega)]
      exact h2 y hy
    · rw [wr_cell (by omega), wr_cell (by omega), wr_cell (by omega)]
      exact h3 c hc
/-- three numbers between their bounds, or not -/
def okA (x1 x2 x3 : Int32) : Prop := ∃ a b t, 1 ≤ a ∧ a ≤ 20 ∧ b ≤ 60 ∧ t ≤ 9 ∧ x1 = nI a ∧ x2 = nI b ∧ x3 = nI t
theorem s_8_appendStreet {B n : Nat} {a b t : Int32} {Q : Int32 → St → Prop} {σ : St} (hn : pgW σ B 0 = nI n) (h6 : n < 6) (h : ∀ τ P', toW σ τ B P' → P' (1 + 83 * n) = a → P' (2 + 83 * n) = b → P' (3 + 83 * n) = t → (∀ k, k < 80 → P' (4 + 83 * n + k) = 0) → P' 0 = nI (n + 1) → P' 548 = 0 → (∀ y, y ≠ 0 → y ≠ 548 → (y < 1 + 83 * n ∨ 84 + 83 * n ≤ y) → P' y = pgW σ B y) → Q (nI n) τ) : m_8_appendStreet B a b t Q σ := by
  unfold m_8_appendStreet
  rw [g0, hn, tn n (by omega)]
  refine ⟨vin (by omega), fun r4 er => ?_⟩
  subst er
  refine s_6_clear (fun σ5 e5 σ6 e6 σ7 e7 σ8 e8 σ9 e9 => ?_)
  obtain ⟨P1, t1, q1, q2, q3, q4⟩ := (toW.rf (σ := σ) (B := B)).wrS (i := n) (c := fun j => if j < 3 then 0 else σ.1 (B + 1 + 5 + 3 * n) j) (d := fun j => if j < 40 then 0 else σ.1 (B + 1 + 5 + 3 * n + 1) j) (k := fun j => if j < 40 then 0 else σ.1 (B + 1 + 5 + 3 * n + 2) j) h6
  have t5 := tw_st t1 (i := n) (k := 0) (v := a) h6 (by omega)
  rw [← e5] at t5
  have t6 := tw_st t5 (i := n) (k := 1) (v := b) h6 (by omega)
  rw [← e6] at t6
  have t7 := tw_st t6 (i := n) (k := 2) (v := t) h6 (by omega)
  rw [← e7] at t7
  have z7 : σ7.1 B 1 = nI n := by rw [g0, t7.g, upd_n (by omega), upd_n (by omega), upd_n (by omega), q1 0 (by omega)]; exact hn
  rw [z7, li 1, nI_add] at e8
  have t8 := tw_n0 t7 (v := nI (n + 1))
  rw [← e8] at t8
  have t9 := tw_n548 t8 (v := 0)
  rw [← e9] at t9
  have z9 : σ9.1 B 1 - 1 = nI n := by rw [g0, t9.g, upd_n (by omega), upd_s, show (1 : Int32) = nI 1 from rfl, pk_sub (by omega)]; rfl
  rw [z9]
  refine h σ9 _ t9 ?_ ?_ ?_ (fun k hk => ?_) ?_ upd_s (fun y g1 g2 g3 => ?_)
  · iterate 4 rw [upd_n (by omega)]
    exact upd_s
  · iterate 3 rw [upd_n (by omega)]
    rw [show 2 + 83 * n = 1 + 83 * n + 1 by omega]
    exact upd_s
  · iterate 2 rw [upd_n (by omega)]
    rw [show 3 + 83 * n = 1 + 83 * n + 2 by omega]
    exact upd_s
  · iterate 5 rw [upd_n (by omega)]
    by_cases q : k < 40
    · rw [q3 k q, if_pos q]
    · have := q4 (k - 40) (by omega)
      rw [show 44 + 83 * n + (k - 40) = 4 + 83 * n + k by omega] at this
      rw [this, if_pos (by omega)]
  · rw [upd_n (by omega)]; exact upd_s
  · iterate 5 rw [upd_n (by omega)]
    exact q1 y g3
theorem p_addStreet {c : Nat} {σ : St} {x1 x2 x3 : Int32} {H : Int32 → St → Prop} {K : Int32 → Int32 → St → Prop} (I : Inv c σ) (hH : ∀ v σ1, m_10_addStreet 354 x1 x2 x3 (K v) σ1 → H v σ1) (h : ∀ v τ, Inv (c + 1) τ → K v v τ) : m_9_addStreet 0 x1 x2 x3 H σ := by
  obtain ⟨n, l, ok, e, e5⟩ := id I.1
  have h6 := ok.1.2.1
  have p0 : σ.1 355 0 = nI n := (e.lo vis_0 (by omega)).symm.trans ok.1.1
  have same : ∀ v, v = -1 ∨ v = -3 → K v v σ := fun v _ => h _ _ (I.mono (by omega))
  have bad : ¬ okA x1 x2 x3 → H (-1) σ := fun hn => hH _ _ (by
    unfold m_10_addStreet
    refine s_10_inN (a := 1) (b := 20) (by omega) (by omega) (fun a a1 a2 ea => ⟨fun q => absurd q (by decide), fun _ => ?_⟩) (fun _ => ⟨fun _ => same _ (Or.inl rfl), fun q => absurd rfl q⟩)
    refine s_10_inN (a := 0) (b := 60) (by omega) (by omega) (fun b b1 b2 eb => ⟨fun q => absurd q (by decide), fun _ => ?_⟩) (fun _ => ⟨fun _ => same _ (Or.inl rfl), fun q => absurd rfl q⟩)
    exact s_10_inN (a := 0) (b := 9) (by omega) (by omega) (fun t t1 t2 et => absurd ⟨a, b, t, a1, a2, b2, t2, ea, eb, et⟩ hn) (fun _ => ⟨fun q => absurd rfl q, fun _ => same _ (Or.inl rfl)⟩))
  have inj : ∀ {a b : Nat}, nI a = nI b → a < 2147483648 → b < 2147483648 → a = b := fun h ha hb => (eqI ha hb).mp h
  unfold m_9_addStreet
  rcases ix x1 21 with g | ⟨j, rfl, hj, hj2⟩ | ⟨a, rfl, ha⟩
  · exact ⟨fun _ => bad (by rintro ⟨a, b, t, a1, a2, b2, t2, ea, eb, et⟩; exact neg_ne g (by omega) ea), fun q => absurd (Int32.lt_trans g (by decide)) q⟩
  · exact ⟨fun q => absurd ((ltI (b := 1) (by omega) (by omega)).mp q) (by omega), fun _ => ⟨fun _ => bad (by rintro ⟨a, b, t, a1, a2, b2, t2, ea, eb, et⟩; have := inj ea (by omega) (by omega); omega), fun q => absurd ((ltI (a := 20) (by omega) (by omega)).mpr (by omega)) q⟩⟩
  refine ⟨fun q => bad (by rintro ⟨a', b, t, a1, a2, b2, t2, ea, eb, et⟩; have := inj ea (by omega) (by omega); have := (ltI (b := 1) (by omega) (by omega)).mp q; omega), fun q1 => ⟨fun q => absurd ((ltI (a := 20) (by omega) (by omega)).mp q) (by omega), fun _ => ?_⟩⟩
  have ha1 : 1 ≤ a := by
    have := mt (ltI (a := a) (b := 1) (by omega) (by omega)).mpr q1
    omega
  rcases ix x2 61 with g | ⟨j, rfl, hj, hj2⟩ | ⟨b, rfl, hb⟩
  · exact ⟨fun _ => bad (by rintro ⟨a, b, t, a1, a2, b2, t2, ea, eb, et⟩; exact neg_ne g (by omega) eb), fun q => absurd g q⟩
  · exact ⟨fun q => absurd q (nn0 hj2), fun _ => ⟨fun _ => bad (by rintro ⟨a, b, t, a1, a2, b2, t2, ea, eb, et⟩; have := inj eb (by omega) (by omega); omega), fun q => absurd ((ltI (a := 60) (by omega) (by omega)).mpr (by omega)) q⟩⟩
  refine ⟨fun q => absurd q (nn0 (by omega)), fun _ => ⟨fun q => absurd ((ltI (a := 60) (by omega) (by omega)).mp q) (by omega), fun _ => ?_⟩⟩
  rcases ix x3 10 with g | ⟨j, rfl, hj, hj2⟩ | ⟨t, rfl, ht⟩
  · exact ⟨fun _ => bad (by rintro ⟨a, b, t, a1, a2, b2, t2, ea, eb, et⟩; exact neg_ne g (by omega) et), fun q => absurd g q⟩
  · exact ⟨fun q => absurd q (nn0 hj2), fun _ => ⟨fun q => absurd ((leI (b := 9) (by omega) (by omega)).mp q) (by omega), fun _ => bad (by rintro ⟨a, b, t, a1, a2, b2, t2, ea, eb, et⟩; have := inj et (by omega) (by omega); omega)⟩⟩
  refine ⟨fun q => absurd q (nn0 (by omega)), fun _ => ⟨fun _ => ?_, fun q => absurd ((leI (b := 9) (by omega) (by omega)).mpr (by omega)) q⟩⟩
  have mod : ∀ {σ' : St} {v : Int32}, (σ'.1 355 0 = nI n) → ((n ≠ 6 → m_10_records 354 (fun (σ_7 : St) => vp_in 548 5640 ∧ ∀ σ_9 : St, σ_9 = wr σ_7 (354 + 1) ((548 : Int32)).toNatClampNeg 0 → vp_in 0 5640 ∧ m_10_empties 354 (σ_9.1 (354 + 1) ((0 : Int32)).toNatClampNeg) (nI a) (nI b) (nI t) (fun (σ_10 : St) => vp_in 0 5640 ∧ vp_in 0 5640 ∧ ∀ σ_12 : St, σ_12 = wr σ_10 (354 + 1) ((0 : Int32)).toNatClampNeg ((σ_10.1 (354 + 1) ((0 : Int32)).toNatClampNeg) + 1) → vp_in 0 5640 ∧ K v ((σ_12.1 (354 + 1) ((0 : Int32)).toNatClampNeg) - 1) σ_12) σ_9) σ') ∧ (n = 6 → K v (-3) σ')) → m_10_addStreet 354 (nI a) (nI b) (nI t) (K v) σ' := fun hz hq => by
    unfold m_10_addStreet
    refine s_10_inN (a := 1) (b := 20) (by omega) (by omega) (fun _ _ _ _ => ⟨fun q => absurd q (by decide), fun _ => ?_⟩) (fun q => absurd rfl (q a ha1 (by omega)))
    refine s_10_inN (a := 0) (b := 60) (by omega) (by omega) (fun _ _ _ _ => ⟨fun q => absurd q (by decide), fun _ => ?_⟩) (fun q => absurd rfl (q b (by omega) (by omega)))
    refine s_10_inN (a := 0) (b := 9) (by omega) (by omega) (fun _ _ _ _ => ⟨fun _ => ⟨vq0, ?_⟩, fun q => absurd q (by decide)⟩) (fun q => absurd rfl (q t (by omega) (by omega)))
    rw [tn0, show (354 + 1 : Nat) = 355 from rfl, hz]
    exact ⟨fun q => hq.1 (fun e => q (by rw [e]; rfl)), fun q => hq.2 ((eqi (b := 6) (by omega) (by omega)).mp q)⟩
  rw [show (0 + 7 : Nat) = 7 from rfl, g0, ok.1.1]
  refine ⟨fun q => ?_, fun q => hH _ _ (mod p0 ⟨fun q2 => absurd ((ltI (b := 6) (by omega) (by omega)).mpr (by omega)) q, fun _ => same _ (Or.inr rfl)⟩)⟩
  have hn6 : n < 6 := (ltI (b := 6) (by omega) (by omega)).mp q
  refine rem1 I (fun τ hτ hlow => ?_)
  have pg : pgW τ 7 = pgW σ 7 := pgW_cg (fun a h1 h2 => hlow a (by omega))
  refine s_8_appendStreet (B := 7) (by rw [pg]; exact ok.1.1) hn6 (fun σ6 P' t6 a0 a1 a2 a3 a4 a5 a6 => ?_)
  rw [pg] at a6
  have hrec := hτ.toW t6
  have hfr : σ6.1 355 = σ.1 355 := hrec.cel (by omega)
  refine hH _ _ (mod (by rw [hfr]; exact p0) ⟨fun _ => ?_, fun q2 => by omega⟩)
  refine rec1 I hrec (fun σ7 hR7 hfin => ?_)
  have R7 := hR7.at ok
  have q0 : σ7.1 355 0 = nI n := (R7.2.1.lo vis_0 (by omega)).symm.trans ok.1.1
  rw [t548, tn0, show (354 + 1 : Nat) = 355 from rfl]
  refine ⟨v548, fun σ9 e9 => ⟨vq0, ?_⟩⟩
  have w9 : σ9.1 355 = upd (σ7.1 355) 548 0 := by rw [e9]; exact wr_at
  have M9 : modE σ7 σ9 := by rw [e9]; exact modE.rf.p (by omega)
  rw [w9, upd_n (by omega), q0]
  refine s_10_empties hn6 (fun σ10 M b0 b1 b2 b3 b6 _ => ⟨vq0, vq0, fun σ12 e12 => ⟨vq0, ?_⟩⟩)
  have z10 : σ10.1 355 0 + 1 = nI (n + 1) := by rw [b6 0 (by omega), w9, upd_n (by omega), q0]; exact nI_add n 1
  rw [z10] at e12
  have w12 : σ12.1 355 = upd (σ10.1 355) 0 (nI (n + 1)) := by rw [e12]; exact wr_at
  have z12 : σ12.1 355 0 - 1 = nI n := by rw [w12, upd_s, show (1 : Int32) = nI 1 from rfl, pk_sub (by omega)]; rfl
  rw [z12]
  have M12 : modE σ7 σ12 := by rw [e12]; exact (M9.tr M).p (by omega)
  refine h _ _ (hfin (c + 1) _ (by omega) M12 ((REL.of (R7.addStreet hn6 ⟨ha1, by omega⟩ (by omega) (by omega) a0 a1 a2 a3 a4 a5 a6 ?_ ?_ ?_ (fun k hk => ?_) ?_ ?_ (fun y g1 g2 g3 => ?_))).mono (c := c) (by omega)))
  · rw [w12, upd_n (by omega)]; exact b0
  · rw [w12, upd_n (by omega)]; exact b1
  · rw [w12, upd_n (by omega)]; exact b2
  · rw [w12, upd_n (by omega)]; exact b3 k hk
  · rw [w12, upd_s]
  · rw [w12, upd_n (by omega), b6 548 (by omega), w9, upd_s]
  · rw [w12, upd_n g1, b6 y g3, w9, upd_n g2]
