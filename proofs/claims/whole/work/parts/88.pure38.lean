-- the best order: the class's search
theorem out_ord {c n l : Nat} {o : Nat → Nat} {P p : Nat → Int32} (ok : okP c n l P) (e : EQP n l P p) (ho : ordO l o) : outL o l P = outL o l p := by
  have h6 := ok.1.2.1
  have h10 := ok.1.2.2.2
  have hc := clF_clr (P := P) h10
  have hL := (hc.ok ok).1.lego
  have h := clr_id h10 e hc (clF_clr (P := p) h10)
  have g := (ag_legs2 h hL h6 h10 (ord_id l) ho l (Nat.le_refl l)).1
  exact g.hi (x := 552) (by omega) (by omega) (by omega) (by omega)
theorem out_perm {c n l : Nat} {o : Nat → Nat} {P P2 : Nat → Int32} (ok2 : okP c n l P2) (ho : ordO l o) (h0 : ∀ x, vis n l x → (x < 508 ∨ 548 ≤ x) → P2 x = P x) (h1 : ∀ j f, j < l → f < 2 → P2 (508 + 4 * j + f) = P (508 + 4 * o j + f)) : outL id l P2 = outL o l P := by
  have h10 := ok2.1.2.2.2
  exact (out_eq ok2 ho (clr_ag h10 ho h0 h1 (clF_clr h10) (clF_clr h10)) (clF_clr h10)).1
theorem okP.perm {c n l : Nat} {o : Nat → Nat} {P P2 : Nat → Int32} (ok : okP c n l P) (ho : ordO l o) (h0 : ∀ x, vis n l x → (x < 508 ∨ 548 ≤ x) → P2 x = P x) (h1 : ∀ j f, j < l → f < 2 → P2 (508 + 4 * j + f) = P (508 + 4 * o j + f)) : okP c n l P2 := by
  obtain ⟨⟨g1, g2, g3, g4⟩, h5, h6, h7, ⟨s1, s2, s3, s4, s5, s6, s7⟩, h9, h10⟩ := ok
  have S : ∀ x, 499 ≤ x → x < 508 → P2 x = P x := fun x a b => h0 x (vis_set a b) (by omega)
  refine ⟨⟨by rw [h0 0 vis_0 (by omega)]; exact g1, g2, by rw [S 507 (by omega) (by omega)]; exact g3, g4⟩, fun i hi => ?_, fun i k hi hk => ?_, fun j hj => ?_, ⟨?_, ?_, ?_, ?_, ?_, ?_, ?_⟩, ?_, ?_⟩
  · obtain ⟨a, b, d⟩ := h5 i hi
    have v : ∀ k, k < 3 → P2 (1 + 83 * i + k) = P (1 + 83 * i + k) := fun k hk => h0 _ (vis_st hi g2 (by omega)) (by omega)
    have e1 := v 0 (by omega)
    have e2 := v 1 (by omega)
    have e3 := v 2 (by omega)
    rw [show 1 + 83 * i + 0 = 1 + 83 * i by omega] at e1
    rw [show 1 + 83 * i + 1 = 2 + 83 * i by omega] at e2
    rw [show 1 + 83 * i + 2 = 3 + 83 * i by omega] at e3
    rw [e1, e2, e3]
    exact ⟨a, b, d⟩
  · obtain ⟨a, b⟩ := h6 i k hi hk
    have e1 := h0 (1 + 83 * i + (3 + k)) (vis_st hi g2 (by omega)) (by omega)
    have e2 := h0 (1 + 83 * i + (43 + k)) (vis_st hi g2 (by omega)) (by omega)
    rw [show 1 + 83 * i + (3 + k) = 4 + 83 * i + k by omega] at e1
    rw [show 1 + 83 * i + (43 + k) = 44 + 83 * i + k by omega] at e2
    rw [e1, e2]
    exact ⟨a, b⟩
  · obtain ⟨a, b⟩ := h7 (o j) (ho.1 j hj)
    have e1 := h1 j 0 hj (by omega)
    have e2 := h1 j 1 hj (by omega)
    rw [show 508 + 4 * j + 0 = 508 + 4 * j by omega, show 508 + 4 * o j + 0 = 508 + 4 * o j by omega] at e1
    rw [show 508 + 4 * j + 1 = 509 + 4 * j by omega, show 508 + 4 * o j + 1 = 509 + 4 * o j by omega] at e2
    rw [e1, e2]
    exact ⟨a, b⟩
  · rw [S 499 (by omega) (by omega)]; exact s1
  · rw [S 500 (by omega) (by omega), S 506 (by omega) (by omega)]; exact s2
  · rw [S 501 (by omega) (by omega)]; exact s3
  · rw [S 502 (by omega) (by omega)]; exact s4
  · rw [S 503 (by omega) (by omega)]; exact s5
  · rw [S 504 (by omega) (by omega)]; exact s6
  · rw [S 505 (by omega) (by omega)]; exact s7
  · rw [h0 548 (vis_hi (by omega) (by omega) (by omega)) (by omega)]; exact h9
  · rw [h0 562 (vis_hi (by omega) (by omega) (by omega)) (by omega)]; exact h10
/-- the better one of what is the best so far and the order o -/
def upB (l : Nat) (P : Nat → Int32) (o : List Nat) (b : Int32 × List Nat) : Int32 × List Nat := if b.1 < outL (gO o) l P then (outL (gO o) l P, o) else b
def srch (l : Nat) (P : Nat → Int32) : Nat → List Nat → Int32 × List Nat → Int32 × List Nat
  | 0, _, b => b
  | f + 1, o, b => match nxt l o with
    | none => upB l P o b
    | some o' => srch l P f o' (upB l P o b)
theorem srch_n {l f : Nat} {P : Nat → Int32} {o : List Nat} {b : Int32 × List Nat} (h : nxt l o = none) : srch l P (f + 1) o b = upB l P o b := by
  unfold srch
  rw [h]
theorem srch_s {l f : Nat} {P : Nat → Int32} {o o' : List Nat} {b : Int32 × List Nat} (h : nxt l o = some o') : srch l P (f + 1) o b = srch l P f o' (upB l P o b) := by
  rw [srch]
  rw [h]
theorem FC.w {σ τ : St} {a j : Nat} {v : Int32} (h : FC σ τ) (h1 : 316 ≤ a) (h2 : a < 354) : FC σ (wr τ a j v) := fun b hb => by rw [wr_cell (by omega)]; exact h b hb
/-- what is known of the best so far, in cell C -/
def bOK (C l : Nat) (b : Int32 × List Nat) (τ : St) : Prop := b.1 = -1 ∨ ∀ j, j < l → τ.1 C j = nI (gO b.2 j)
theorem s_2_search {c n l : Nat} {σ : St} {Q : St → Prop} (ok : okP c n l (pgW σ 7)) (hl1 : 1 ≤ l) (h6 : l ≤ 6) (hQ : ∀ τ, FC σ τ → τ.1 351 1 = (srch l (pgW σ 7) 720 (List.range l) (-1, [])).1 → (∀ j, j < l → τ.1 352 j = nI (gO (srch l (pgW σ 7) 720 (List.range l) (-1, [])).2 j)) → Q τ) : m_2_search 351 7 316 350 Q σ := by
  have l3 : σ.1 7 3 = nI l := ok.1.2.2.1
  unfold m_2_search
  intro σ1 e1
  rw [l3, if_neg (show ¬ (6 : Int32) < nI l from fun q => absurd ((lti (a := 6) (by decide) (by omega)).mp q) (by omega))] at e1
  have f1 : FC σ σ1 := by rw [e1]; exact FC.rf.w (by omega) (by omega)
  have s1 : σ1.1 351 3 = nI l := by rw [e1, wr_same]
  refine it_cnt (fun (k : Nat) (A : Int32 → St → Prop) => ∀ τ, FC σ τ → τ.1 351 3 = nI l → (∀ j, j < k → τ.1 353 j = nI j) → A (nI k) τ) l (by omega) ?_ ?_ σ1 f1 s1 (fun j hj => by omega)
  · intro k hk A hA τ f g3 go
    unfold m_2_search_16
    rw [g3]
    refine ⟨fun q => absurd q (nle_of hk (by omega)), fun _ => ⟨vin (by omega), fun σ2 e2 x ex => ?_⟩⟩
    rw [tn k (by omega), show (351 + 2 : Nat) = 353 from rfl] at e2
    rw [ex, iplus]
    refine hA σ2 (by rw [e2]; exact f.w (by omega) (by omega)) (by rw [e2, wr_cell (by omega)]; exact g3) (fun j hj => ?_)
    rw [e2, rd_wr, if_pos rfl]
    exact ite_e (fun q => by rw [q]) (fun _ => go j (by omega))
  intro A0 τ0 f0 g0 go0
  unfold m_2_search_16
  rw [g0]
  refine ⟨fun _ σa ea => ?_, fun q => absurd ((lei (by omega) (by omega)).mpr (Nat.le_refl l)) q⟩
  have fa : FC σ σa := by rw [ea]; exact f0.w (by omega) (by omega)
  have ga : σa.1 351 3 = nI l := by rw [ea, wr_else (by omega)]; exact g0
  have oa : OR 353 l (List.range l) σa := ⟨rng_okL (by omega), fun k hk => by rw [ea, wr_cell (by omega), (rng_ok l (by omega)).2 k hk]; exact go0 k hk⟩
  have ba : σa.1 351 1 = -1 := by rw [ea, wr_same]
  clear go0 g0 f0 ea f1 s1 e1
  generalize hR : srch l (pgW σ 7) 720 (List.range l) (-1, []) = R at hQ
  refine (it_lt (fun (m : Nat) (A : Int32 → Int32 → St → Prop) =>
    (∀ f τ o b, m = f + 1 → f ≤ 720 → runs l f o = true → FC σ τ → τ.1 351 3 = nI l → OR 353 l o τ → τ.1 351 1 = b.1 → bOK 352 l b τ → srch l (pgW σ 7) f o b = R → A 1 (nI (720 - f)) τ) ∧
    (∀ τ x, FC σ τ → τ.1 351 1 = R.1 → (∀ j, j < l → τ.1 352 j = nI (gO R.2 j)) → A 0 x τ)) ?_ 721 (by omega)).1 720 σa (List.range l) (-1, []) rfl (by omega) (runs_all l (by omega) hl1) fa ga oa ba (Or.inl rfl) hR
  intro m A hA
  refine ⟨fun f τ o b em hf720 hr fτ g3 ho gb hb hv => ?_, fun τ x fτ r1 r2 => ?_⟩
  rotate_left
  · unfold m_2_search_51
    exact ⟨fun _ => hQ τ fτ r1 r2, fun _ => ⟨fun _ => hQ τ fτ r1 r2, fun q => absurd rfl q⟩⟩
  obtain ⟨f, rfl, hr'⟩ := runs_n hr
  unfold m_2_search_51
  refine ⟨fun q => absurd ((lei (a := 720) (by decide) (by omega)).mp q) (by omega), fun _ => ⟨fun q => absurd q (by decide), fun _ => ?_⟩⟩
  -- on to the next order
  have nx : ∀ τ4, FC σ τ4 → τ4.1 351 3 = nI l → OR 353 l o τ4 → τ4.1 351 1 = (upB l (pgW σ 7) o b).1 → (∀ j, j < l → τ4.1 352 j = nI (gO (upB l (pgW σ 7) o b).2 j)) → m_2_search_155 351 7 316 350 (nI (720 - (f + 1))) A Q τ4 := fun τ4 k1 k2 k3 k4 k5 => by
    unfold m_2_search_155
    refine s_2_stepOrder hl1 h6 k2 k3 (fun en x ex => ?_) (fun o' τ5 en k6 k7 x ex => ?_)
    · rw [srch_n en] at hv
      exact (hA 0 (by omega)).2 τ4 x k1 (by rw [← hv]; exact k4) (by rw [← hv]; exact k5)
    · rw [srch_s en] at hv
      rw [ex, iplus, show 720 - (f + 1) + 1 = 720 - f by omega]
      refine (hA (f + 1) (by omega)).1 f τ5 o' _ rfl (by omega) (hr' o' en) (fun a ha => by rw [k7.1 a (by omega)]; exact k1 a ha) (by rw [k7.1 351 (by omega)]; exact k2) k6 (by rw [k7.1 351 (by omega)]; exact k4) (Or.inr (fun j hj => by rw [k7.1 352 (by omega)]; exact k5 j hj)) hv
  have pg : pgW τ 7 = pgW σ 7 := fτ.pg
  refine s_8_copyFrom (B0 := 316) (B1 := 7) (by rw [pg]; exact ok) (by omega) (fun τ1 P1 t1 hP1 => ?_)
  rw [pg] at hP1
  have oko := ho.1
  refine it_cnt (fun (k : Nat) (B : Int32 → St → Prop) => ∀ τ2 P2, toW τ τ2 316 P2 → (∀ y, vis n l y → (y < 508 ∨ 548 ≤ y) → P2 y = pgW σ 7 y) → (∀ j r, j < k → r < 4 → P2 (508 + 4 * j + r) = pgW σ 7 (508 + 4 * gO o j + r)) → B (nI k) τ2) l (by omega) ?_ ?_ τ1 P1 t1 (fun y hy _ => hP1 y hy) (fun j r hj => by omega)
  · intro k hk B hB τ2 P2 t2 p1 p2
    unfold m_2_search_72
    have ok1 := oko.2.1 k hk
    rw [t2.2.1 351 (by omega), g3, show (351 + 2 : Nat) = 353 from rfl, t2.2.1 353 (by omega), tn k (by omega), ho.2 k hk, tn (gO o k) (by omega)]
    refine ⟨fun q => absurd q (nle_of hk (by omega)), fun _ => ⟨vin (by omega), vin (by omega), vin (by omega), ?_⟩⟩
    refine s_1_cp (B0 := 316) t2 (by omega) (by omega) (fun τ3 t3 x ex => ?_)
    rw [ex, iplus]
    have v : ∀ r, r < 4 → τ2.1 (7 + 2 + 22 + gO o k) r = pgW σ 7 (508 + 4 * gO o k + r) := fun r hr => by
      rw [gle τ2 7 (by omega) hr, pgW_far t2 (by omega), pg]
    rw [v 0 (by omega), v 1 (by omega), v 2 (by omega), v 3 (by omega)] at t3
    refine hB τ3 _ t3 (fun y hy h2 => by rw [upd_n (by omega), upd_n (by omega), upd_n (by omega), upd_n (by omega)]; exact p1 y hy h2) (fun j r hj hr => ?_)
    by_cases q : j = k
    · subst q
      rcases (by omega : r = 0 ∨ r = 1 ∨ r = 2 ∨ r = 3) with rfl | rfl | rfl | rfl
      · rw [upd_n (by omega), upd_n (by omega), upd_n (by omega), upd_s]
      · rw [upd_n (by omega), upd_n (by omega), upd_s]
      · rw [upd_n (by omega), upd_s]
      · rw [upd_s]
    · rw [upd_n (by omega), upd_n (by omega), upd_n (by omega), upd_n (by omega)]
      exact p2 j r (by omega) hr
  intro B τ2 P2 t2 p1 p2
  unfold m_2_search_72
  rw [t2.2.1 351 (by omega), g3]
  refine ⟨fun _ => ?_, fun q => absurd ((lei (by omega) (by omega)).mpr (Nat.le_refl l)) q⟩
  have ok2 : okP c n l P2 := ok.perm oko.ord p1 (fun j r hj hr => p2 j r hj (by omega))
  have eL : outL id l P2 = outL (gO o) l (pgW σ 7) := out_perm ok2 oko.ord p1 (fun j r hj hr => p2 j r hj (by omega))
  obtain ⟨t, ht1, ht2⟩ := outL_nn ok oko.ord
  refine s_trial (c := c) (n := n) (l := l) (P := P2) (by rw [t2.1]; exact ok2) (by rw [t2.1]; exact EQP.rf) (fun τ3 fc h552 h550 hfr => ?_)
  have g5 : τ3.1 (316 + 5) 3 = outL (gO o) l (pgW σ 7) := by
    rw [grep τ3 316 (k := 3) (by omega)]
    exact h552.trans eL
  have F3 : FC σ τ3 := FC.tr fτ (FC.tr (fun a ha => t2.2.1 a (by omega)) fc)
  have same : ∀ a, 351 ≤ a → a < 354 → τ3.1 a = τ.1 a := fun a h1 h2 => by rw [hfr a (by omega), t2.2.1 a (by omega)]
  have o3 : OR 353 l o τ3 := ⟨oko, fun k hk => by rw [same 353 (by omega) (by omega)]; exact ho.2 k hk⟩
  have g33 : τ3.1 351 3 = nI l := by rw [same 351 (by omega) (by omega)]; exact g3
  rw [g5, same 351 (by omega) (by omega), gb, ht1]
  refine ⟨fun q => ?_, fun q σ5 e5 => ?_⟩
  · have eu : upB l (pgW σ 7) o b = b := by
      unfold upB
      rw [ht1, if_neg (fun z => nlt_le.mpr q z)]
    refine nx τ3 F3 g33 o3 (by rw [eu, same 351 (by omega) (by omega)]; exact gb) (fun j hj => ?_)
    rw [eu, same 352 (by omega) (by omega)]
    rcases hb with z | z
    · exfalso
      rw [z] at q
      exact nle_lt.mpr (m1_nI (t := t) (by omega)) q
    · exact z j hj
  · have eu : upB l (pgW σ 7) o b = (nI t, o) := by
      unfold upB
      rw [ht1, if_pos (nle_lt.mp q)]
    have g53 : σ5.1 351 3 = nI l := by rw [e5, wr_else (by omega)]; exact g33
    rw [g53, tn l (by omega)]
    refine ⟨nn0 (by omega), h6, h6, fun σ6 e6 => ?_⟩
    have F6 : FC σ σ6 := fun a ha => by rw [e6, wrA_ne (by omega), e5, wr_cell (by omega)]; exact F3 a ha
    refine nx σ6 F6 (by rw [e6, wrA_ne (by omega)]; exact g53) ⟨oko, fun k hk => by rw [e6, wrA_ne (by omega), e5, wr_cell (by omega)]; exact o3.2 k hk⟩ (by rw [eu, e6, wrA_ne (by omega), e5, wr_same]) (fun j hj => ?_)
    rw [eu, e6, show (351 + 1 : Nat) = 352 from rfl, wrA_at]
    unfold va_cpy
    rw [if_pos (by omega), show 0 + (j - 0) = j by omega, show (351 + 2 : Nat) = 353 from rfl, e5, wr_cell (by omega)]
    exact o3.2 j hj
