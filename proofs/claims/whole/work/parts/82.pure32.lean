def clF (l : Nat) (P : Nat → Int32) (y : Nat) : Int32 := if 549 ≤ y ∧ y < 555 then 0 else if 508 ≤ y ∧ y < 508 + 4 * l ∧ 2 ≤ (y - 508) % 4 then 0 else P y
theorem clF_clr {l : Nat} {P : Nat → Int32} (hl : l ≤ 10) : clrP l P (clF l P) := by
  refine ⟨fun y h1 h2 => if_pos ⟨h1, h2⟩, fun j hj => ⟨?_, ?_⟩, fun y hy => ?_⟩
  · unfold clF
    rw [if_neg (by omega), if_pos (by omega)]
  · unfold clF
    rw [if_neg (by omega), if_pos (by omega)]
  · unfold clF
    rw [if_neg (by omega), if_neg (by omega)]
/-- two cleared pages, the legs of one in another order -/
theorem clr_ag {n l : Nat} {o : Nat → Nat} {P p P1 p1 : Nat → Int32} (hl : l ≤ 10) (ho : ordO l o) (h0 : ∀ x, vis n l x → (x < 508 ∨ 548 ≤ x) → P x = p x) (h1 : ∀ j f, j < l → f < 2 → P (508 + 4 * j + f) = p (508 + 4 * o j + f)) (a : clrP l P P1) (b : clrP l p p1) : AG n l o P1 p1 := by
  intro x hx
  by_cases q : 508 ≤ x ∧ x < 548
  · have hj : (x - 508) / 4 < l := by have := hx.1.2.2.2 q.1 q.2; omega
    have hoj := ho.1 _ hj
    obtain ⟨f, hf, e⟩ : ∃ f, f < 4 ∧ x = 508 + 4 * ((x - 508) / 4) + f := ⟨(x - 508) % 4, by omega, by omega⟩
    rw [e, pm_leg (by omega) hf]
    by_cases f2 : f < 2
    · rw [a.2.2 _ (by omega), b.2.2 _ (by omega)]
      exact h1 _ _ hj f2
    · obtain ⟨a2, a3⟩ := a.2.1 _ hj
      obtain ⟨b2, b3⟩ := b.2.1 _ hoj
      rcases (by omega : f = 2 ∨ f = 3) with rfl | rfl
      · rw [a2, b2]
      · rw [a3, b3]
  · rw [pm_non (by omega)]
    by_cases q2 : 549 ≤ x ∧ x < 555
    · rw [a.1 x q2.1 q2.2, b.1 x q2.1 q2.2]
    · rw [a.2.2 x (by omega), b.2.2 x (by omega)]
      exact h0 x hx.1 (by omega)
theorem clr_id {n l : Nat} {P p P1 p1 : Nat → Int32} (hl : l ≤ 10) (e : EQP n l P p) (a : clrP l P P1) (b : clrP l p p1) : AG n l id P1 p1 :=
  clr_ag hl (ord_id l) (fun x hx h => e.lo hx h) (fun j f hj hf => e.le hj hl hf) a b
def outL (o : Nat → Nat) (l : Nat) (P : Nat → Int32) : Int32 := (legsF o (clF l P) l).1 552
def outU (o : Nat → Nat) (l : Nat) (P : Nat → Int32) : Int32 := (legsF o (clF l P) l).1 550 + hmV (legsF o (clF l P) l).1 (legsF o (clF l P) l).2
/-- what a shift brings, by agreement -/
theorem out_eq {c n l : Nat} {o : Nat → Nat} {P P1 p1 : Nat → Int32} (ok : okP c n l P) (ho : ordO l o) (h : AG n l o P1 p1) (a : clrP l P P1) : (legsF id P1 l).1 552 = (legsF o p1 l).1 552 ∧ (legsF id P1 l).1 550 + hmV (legsF id P1 l).1 (legsF id P1 l).2 = (legsF o p1 l).1 550 + hmV (legsF o p1 l).1 (legsF o p1 l).2 := by
  have h6 := ok.1.2.1
  have h10 := ok.1.2.2.2
  have hL := (a.ok ok).1.lego
  obtain ⟨g1, g2, g3⟩ := ag_legs h hL h6 h10 ho l (Nat.le_refl l)
  have hp := (legsF_k hL h6 h10 (ord_id l) l (Nat.le_refl l)).2
  refine ⟨g1.hi (by omega) (by omega) (by omega) (by omega), ?_⟩
  rw [g1.hi (x := 550) (by omega) (by omega) (by omega) (by omega), g1.hm h6 hp, g2]
theorem shift_ev {c n l : Nat} {P p P1 p1 : Nat → Int32} (ok : okP c n l P) (e : EQP n l P p) (a : clrP l P P1) (b : clrP l p p1) : EV n l (endF (upd (legsF id P1 l).1 554 (nI (doneF id P1 l))) (legsF id P1 l).2) (endF (upd (legsF id p1 l).1 554 (nI (doneF id p1 l))) (legsF id p1 l).2) := by
  have h6 := ok.1.2.1
  have h10 := ok.1.2.2.2
  have hL := (a.ok ok).1.lego
  have h := clr_id h10 e a b
  obtain ⟨g1, g2, g3⟩ := ag_legs h hL h6 h10 (ord_id l) l (Nat.le_refl l)
  have hp := (legsF_k hL h6 h10 (ord_id l) l (Nat.le_refl l)).2
  rw [← g2, ← g3]
  refine EV.en (fun x hx => ?_) h6 hp
  rw [rd_upd, rd_upd]
  by_cases q : x = 554
  · rw [if_pos q, if_pos q]
  · rw [if_neg q, if_neg q]
    exact g1.id x ⟨hx, q⟩
theorem s_10_laysOrder {σ : St} {Q : St → Prop} (hQ : ∀ τ, (∀ a, a ≠ 358 → τ.1 a = σ.1 a) → (∀ j, j < 10 → τ.1 358 j = nI j) → τ.2 = σ.2 → Q τ) : m_10_laysOrder 354 Q σ := by
  unfold m_10_laysOrder
  refine it_cnt (fun (k : Nat) (A : Int32 → St → Prop) => ∀ τ, (∀ a, a ≠ 358 → τ.1 a = σ.1 a) → (∀ j, j < k → τ.1 358 j = nI j) → τ.2 = σ.2 → A (nI k) τ) 10 (by decide) ?_ ?_ σ (fun _ _ => rfl) (fun j hj => by omega) rfl
  · intro k hk A hA τ f1 f2 f3
    unfold m_10_laysOrder_2
    refine ⟨fun q => absurd ((lei (a := 10) (by decide) (by omega)).mp q) (by omega), fun _ => ⟨vin hk, fun σ1 e1 x ex => ?_⟩⟩
    rw [tn k (by omega), show (354 + 4 : Nat) = 358 from rfl] at e1
    rw [ex, li 1, nI_add]
    refine hA σ1 (fun a ha => by rw [e1, wr_cell ha]; exact f1 a ha) (fun j hj => ?_) (by rw [e1]; exact f3)
    rw [e1, rd_wr, if_pos rfl]
    refine ite_e (fun q => by rw [q]) (fun _ => f2 j (by omega))
  · intro A τ f1 f2 f3
    unfold m_10_laysOrder_2
    exact ⟨fun _ => hQ τ f1 f2 f3, fun q => absurd ((lei (a := 10) (by decide) (by decide)).mpr (Nat.le_refl 10)) q⟩
theorem moF.modE {σ τ : St} (h : moF σ τ) (hp : ∀ y, 564 ≤ y → y < 5076 → τ.1 355 y = σ.1 355 y) : modE σ τ :=
  ⟨hp, fun a ha => h.1 a (by omega) (by omega), fun j hj => h.2.1 j (by omega) (by omega)⟩
theorem cellF_f {j i s k y : Nat} (hy : 564 ≤ y) (hj : j < 10) (hi : i < 6) (hs : s < 2) (hk : k < 20) : ∀ f (P : Nat → Int32), cellF j i s k f P y = P y := by
  have kC : ∀ P : Nat → Int32, cC j i s k P y = P y := fun P => by
    unfold cC
    rw [cnt2_ne (by omega), swp_ne (by omega) (by omega) (by omega) (by omega) (by omega) (by omega)]
    unfold cB
    rw [upd_n (by omega)]
  have kD : ∀ P C : Nat → Int32, cD i P C y = C y := fun P C => by
    unfold cD dmp
    rw [upd_n (by omega), upd_n (by omega), upd_n (by omega), upd_n (by omega)]
  intro f
  induction f with
  | zero => intro P; rfl
  | succ f ih =>
    intro P
    rw [cellF_s]
    split
    · rw [upd_n (by omega)]
    · split
      · split
        · rw [upd_n (by omega), kC]
        · split
          · rw [kD, kC]
          · rw [ih, kD, kC]
      · rw [kC]
theorem cellsF_f {j i s y : Nat} {P : Nat → Int32} (hy : 564 ≤ y) (hj : j < 10) (hi : i < 6) (hs : s < 2) : ∀ k, k ≤ 20 → cellsF j i s k P y = P y := by
  intro k
  induction k with
  | zero => intro _; rfl
  | succ k ih =>
    intro hk
    unfold cellsF
    split
    · rw [cellF_f hy hj hi hs (by omega), ih (by omega)]
    · exact ih (by omega)
theorem legsF_f {n l : Nat} {o : Nat → Nat} {P : Nat → Int32} {y : Nat} (hy : 564 ≤ y) (hL : legO n l P) (hn : n ≤ 6) (hl : l ≤ 10) (ho : ordO l o) : ∀ k, k ≤ l → (legsF o P k).1 y = P y := by
  intro k
  induction k with
  | zero => intro _; rfl
  | succ k ih =>
    intro hk
    have hL' := hL.cg hn hl (legsF_k hL hn hl ho k (by omega)).1
    obtain ⟨a1, a2, a3, a4⟩ := hL'.1 (o k) (ho.1 k (by omega))
    have hok := ho.1 k (by omega)
    have e : legsF o P (k + 1) = if (legsF o P k).1 549 = 0 then legF (o k) (legsF o P k).1 (legsF o P k).2 else legsF o P k := rfl
    rw [e]
    split
    · unfold legF
      split
      · show upd _ 549 1 y = P y
        rw [upd_n (by omega)]; exact ih (by omega)
      · show cellsF _ _ _ _ _ y = P y
        rw [cellsF_f hy (by omega) (by omega) a3 _ (hL'.2 _ a1), upd_n (by omega)]
        exact ih (by omega)
    · exact ih (by omega)
theorem p_shift {c : Nat} {σ : St} {H : Int32 → St → Prop} {K : Int32 → Int32 → St → Prop} (hc : c < 100000) (I : Inv c σ) (hH : ∀ v σ1, m_10_shift 354 (K v) σ1 → H v σ1) (h : ∀ v τ, Inv (c + 1) τ → K v v τ) : m_9_shift 0 H σ := by
  obtain ⟨n, l, ok, e, e5⟩ := id I.1
  have h6 := ok.1.2.1
  have h10 := ok.1.2.2.2
  unfold m_9_shift
  refine rem1 I (fun τ hτ hlow => ?_)
  have pg : pgW τ 7 = pgW σ 7 := pgW_cg (fun a h1 h2 => hlow a (by omega))
  refine s_5_carryOut (R := 41) (B := 7) (c := c) (n := n) (l := l) (by decide) (by omega) (by rw [pg]; exact ok) (fun τ1 P1 hclr hfr ok1 hev => ?_)
  rw [pg] at hclr
  have hrec : clsRec c σ τ1 (pgW τ1 7) := hτ.end rfl (fun a ha => hfr a (by omega) (by omega))
  refine hH _ _ ?_
  unfold m_10_shift
  refine rec1 I hrec (fun σ7 hR7 hfin => ?_)
  have R7 := hR7.at ok
  have ok7 := ok.tr R7.2.1
  refine s_10_laysOrder (fun σ8 f8 o8 _ => ?_)
  have e8 : σ8.1 355 = σ7.1 355 := f8 355 (by omega)
  refine s_10_goesThrough (o := id) (c := c) (n := n) (l := l) (by rw [e8]; exact ok7) (ord_id l) (fun j hj => o8 j (by omega)) (fun τ9 p1 q hclr9 hmo hq hqy hq5 => ?_)
  rw [e8] at hclr9
  refine s_10_latestOf (k := 3) (by omega) ?_
  have hev9 := shift_ev ok R7.2.1 hclr hclr9
  have hL9 := (hclr9.ok ok7).1.lego
  have eqv : ∀ x, vis n l x → pgW τ1 7 x = q x := fun x hx => by rw [hev x hx, hev9 x hx, hqy x hx.2.1]
  have RN1 : RN (c + 1) n l (pgW τ1 7) q := by
    refine ⟨ok1, fun x hx _ => eqv x hx, ?_⟩
    have hL := (hclr.ok ok).1.lego
    have v562 : pgW τ1 7 562 = pgW σ 7 562 + 1 := by
      rw [hev 562 (vis_hi (by omega) (by omega) (by omega)), endF_562, upd_n (by omega), (legsF_k hL h6 h10 (ord_id l) l (Nat.le_refl l)).1 562 (Or.inr (Or.inr (Or.inr (Or.inr (Or.inr (Or.inr (Or.inr rfl)))))))]
      rw [hclr.2.2 562 (by omega)]
    obtain ⟨v, v1, v2⟩ := ok.2.2.2.2.2.2
    rw [hq5, v562, v1, show (1 : Int32) = nI 1 from rfl, nI_add, show (0 : Int32) = nI 0 from rfl, if_neg (fun z => by rw [eqi (by omega) (by omega)] at z; omega)]
  have M9 : modE σ7 τ9 := by
    refine modE.tr (υ := σ8) ⟨fun y _ _ => by rw [e8], fun a ha => f8 a (by omega), fun j hj => by rw [f8 354 (by omega)]⟩ (hmo.modE (fun y h1 h2 => ?_))
    have hp1 : p1 y = σ7.1 355 y := hclr9.2.2 y (by omega)
    rw [hq, hqy y (by omega), endF_y (by omega) (by omega) (by omega) (by omega) (by omega) (by omega) (by omega), upd_n (by omega), legsF_f h1 hL9 h6 h10 (ord_id l) l (Nat.le_refl l), hp1, e8]
  have ea : τ1.1 (0 + 7 + 5) 3 = τ9.1 (354 + 1) (549 + 3) := by
    rw [show (0 + 7 + 5 : Nat) = 7 + 5 from rfl, grep τ1 7 (k := 3) (by omega), show (354 + 1 : Nat) = 355 from rfl, hq]
    exact eqv (549 + 3) (vis_hi (by omega) (by omega) (by omega))
  rw [← ea]
  exact h _ _ (hfin (c + 1) τ9 (by omega) M9 (by rw [hq]; exact REL.of RN1))
