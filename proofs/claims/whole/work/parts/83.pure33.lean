theorem ag_legs2 {n l : Nat} {o o1 : Nat → Nat} {P p : Nat → Int32} (h : AG n l o P p) (hL : legO n l P) (hn : n ≤ 6) (hl : l ≤ 10) (ho : ordO l o) (h1 : ordO l o1) : ∀ k, k ≤ l → AG n l o (legsF o1 P k).1 (legsF (fun j => o (o1 j)) p k).1 ∧ (legsF o1 P k).2 = (legsF (fun j => o (o1 j)) p k).2 := by
  intro k
  induction k with
  | zero => intro _; exact ⟨h, rfl⟩
  | succ k ih =>
    intro hk
    obtain ⟨i1, i2⟩ := ih (by omega)
    obtain ⟨k1, k2⟩ := legsF_k hL hn hl h1 k (by omega)
    have hL' := hL.cg hn hl k1
    have e : legsF o1 P (k + 1) = if (legsF o1 P k).1 549 = 0 then legF (o1 k) (legsF o1 P k).1 (legsF o1 P k).2 else legsF o1 P k := rfl
    have e' : legsF (fun j => o (o1 j)) p (k + 1) = if (legsF (fun j => o (o1 j)) p k).1 549 = 0 then legF (o (o1 k)) (legsF (fun j => o (o1 j)) p k).1 (legsF (fun j => o (o1 j)) p k).2 else legsF (fun j => o (o1 j)) p k := rfl
    have e5 : (legsF o1 P k).1 549 = (legsF (fun j => o (o1 j)) p k).1 549 := i1.hi (by omega) (by omega) (by omega) (by omega)
    obtain ⟨j1, j2⟩ := i1.leF ho hl hn (h1.1 k (by omega)) hL' k2
    rw [e, e', ← e5, ← i2]
    split
    · exact ⟨j1, j2⟩
    · exact ⟨i1, i2⟩
-- trials: only scratch is touched
def FC (σ τ : St) : Prop := ∀ a, (a < 316 ∨ 354 ≤ a) → τ.1 a = σ.1 a
def FM (σ τ : St) : Prop := (∀ y, y < 5076 → τ.1 355 y = σ.1 355 y) ∧ (∀ a, a < 354 ∨ a = 356 → τ.1 a = σ.1 a) ∧ (∀ j, j < 9 → τ.1 354 j = σ.1 354 j) ∧ τ.2 = σ.2
theorem FC.rf {σ : St} : FC σ σ := fun _ _ => rfl
theorem FC.tr {σ τ υ : St} (h : FC σ τ) (h' : FC τ υ) : FC σ υ := fun a ha => (h' a ha).trans (h a ha)
theorem FM.rf {σ : St} : FM σ σ := ⟨fun _ _ => rfl, fun _ _ => rfl, fun _ _ => rfl, rfl⟩
theorem FM.tr {σ τ υ : St} (h : FM σ τ) (h' : FM τ υ) : FM σ υ := ⟨fun y hy => (h'.1 y hy).trans (h.1 y hy), fun a ha => (h'.2.1 a ha).trans (h.2.1 a ha), fun j hj => (h'.2.2.1 j hj).trans (h.2.2.1 j hj), h'.2.2.2.trans h.2.2.2⟩
theorem FC.inv {c : Nat} {σ τ : St} (h : FC σ τ) (I : Inv c σ) : Inv c τ := by
  obtain ⟨hR, ⟨k, x, q1, q2, q3, q4, q5, q6⟩, ⟨m, t1, t2, t3, t4⟩, hF⟩ := I
  refine ⟨?_, ⟨k, x, q1, q2, by rw [h 42 (by omega)]; exact q3, by rw [h 42 (by omega)]; exact q4, by rw [h 354 (by omega)]; exact q5, fun j hj => ?_⟩, ⟨m, t1, by rw [h 1 (by omega)]; exact t2, by rw [h 354 (by omega)]; exact t3, fun j hj => by rw [h 2 (by omega), h 356 (by omega)]; exact t4 j hj⟩, by rw [h 0 (by omega), h 354 (by omega)]; exact hF⟩
  · rw [pgW_cg (σ := σ) (fun a h1 h2 => h a (by omega)), h 355 (by omega)]; exact hR
  · rw [pgW_cg (σ := σ) (fun a h1 h2 => h a (by omega)), h 355 (by omega)]; exact q6 j hj
theorem FM.inv {c : Nat} {σ τ : St} (h : FM σ τ) (I : Inv c σ) : Inv c τ := by
  obtain ⟨hR, ⟨k, x, q1, q2, q3, q4, q5, q6⟩, ⟨m, t1, t2, t3, t4⟩, hF⟩ := I
  obtain ⟨f1, f2, f3, -⟩ := h
  refine ⟨?_, ⟨k, x, q1, q2, by rw [f2 42 (by omega)]; exact q3, by rw [f2 42 (by omega)]; exact q4, by rw [f3 1 (by omega)]; exact q5, fun j hj => ?_⟩, ⟨m, t1, by rw [f2 1 (by omega)]; exact t2, by rw [f3 3 (by omega)]; exact t3, fun j hj => by rw [f2 2 (by omega), f2 356 (by omega)]; exact t4 j hj⟩, by rw [f2 0 (by omega), f3 4 (by omega)]; exact hF⟩
  · rw [pgW_cg (σ := σ) (fun a h1 h2 => f2 a (by omega))]
    exact hR.cg (fun i hi => f1 i (by omega))
  · rw [pgW_cg (σ := σ) (fun a h1 h2 => f2 a (by omega))]
    exact (q6 j hj).cg (fun i hi => f1 _ (by omega))
/-- the trial world carries out a shift -/
theorem s_trial {c n l : Nat} {σ : St} {P : Nat → Int32} {Q : St → Prop} (ok : okP c n l (pgW σ 316)) (hP : EQP n l (pgW σ 316) P) (hQ : ∀ τ, FC σ τ → pgW τ 316 552 = outL id l P → pgW τ 316 550 = outU id l P → (∀ a, a < 316 ∨ 351 ≤ a → τ.1 a = σ.1 a) → Q τ) : m_5_carryOut 350 Q σ := by
  have h6 := ok.1.2.1
  have h10 := ok.1.2.2.2
  refine s_5_carryOut (R := 350) (B := 316) (c := c) (n := n) (l := l) (by decide) (by omega) ok (fun τ1 P1 hclr hfr ok1 hev => ?_)
  have h := clr_id h10 hP hclr (clF_clr (P := P) h10)
  obtain ⟨g1, g2⟩ := out_eq ok (ord_id l) h hclr
  refine hQ τ1 (fun a ha => hfr a (by omega) (by omega)) ?_ ?_ (fun a ha => hfr a (by omega) (by omega))
  · rw [hev 552 (vis_hi (by omega) (by omega) (by omega)), endF_y (by omega) (by omega) (by omega) (by omega) (by omega) (by omega) (by omega), upd_n (by omega)]
    exact g1
  · rw [hev 550 (vis_hi (by omega) (by omega) (by omega)), endF_550, upd_n (by omega)]
    have : hmV (upd (legsF id P1 l).1 554 (nI (doneF id P1 l))) (legsF id P1 l).2 = hmV (legsF id P1 l).1 (legsF id P1 l).2 := by
      unfold hmV
      split
      · rfl
      · rename_i q
        rcases (legsF_k (hclr.ok ok).1.lego h6 h10 (ord_id l) l (Nat.le_refl l)).2 with z | ⟨i, hi, z⟩
        · exact absurd z q
        · rw [z, tn i (by omega), upd_n (by omega)]
    rw [this]
    exact g2
theorem EQP.rf {n l : Nat} {P : Nat → Int32} : EQP n l P P := fun _ _ _ => rfl
theorem s_9_trySpeed {c n l v : Nat} {σ : St} {Q : St → Prop} (ok : okP c n l (pgW σ 7)) (hv : 1 ≤ v ∧ v ≤ 4) (hQ : ∀ τ, FC σ τ → τ.1 (316 + 5) 3 = outL id l (upd (pgW σ 7) 499 (nI v)) → τ.1 (316 + 5) 1 = outU id l (upd (pgW σ 7) 499 (nI v)) → Q τ) : m_9_trySpeed 0 (nI v) Q σ := by
  unfold m_9_trySpeed
  refine s_8_copyFrom (B0 := 316) (B1 := 7) ok (by omega) (fun τ P t hP => ⟨vi0, fun σ3 e3 => ?_⟩)
  have t3 := tw_seti t (k := 0) (v := nI v) (by omega)
  rw [tn0, show (0 + 316 + 3 : Nat) = 316 + 3 from rfl] at e3
  rw [← e3] at t3
  have okP' : okP c n l P := ok.cg (fun x _ hv => hP x hv)
  have ok3 : okP c n l (upd P (499 + 0) (nI v)) := okP'.set1 (k := 0) (by omega) ⟨v, hv.1, hv.2, rfl, fun q => absurd q (by omega)⟩
  refine s_trial (P := upd (pgW σ 7) 499 (nI v)) (by rw [t3.1]; exact ok3) (by rw [t3.1]; exact EQP.up (fun x hx _ => hP x hx) (by omega) rfl) (fun τ4 h1 h2 h3 _ => ?_)
  refine hQ τ4 (FC.tr (fun a ha => t3.2.1 a (by omega)) h1) ?_ ?_
  · rw [grep τ4 316 (k := 3) (by omega)]; exact h2
  · rw [grep τ4 316 (k := 1) (by omega)]; exact h3
theorem s_10_loadWith {c n l : Nat} {o : Nat → Nat} {σ : St} {x : Int32} {Q : Int32 → St → Prop} (ok : okP c n l (upd (σ.1 355) 499 x)) (ho : ordO l o) (hor : ∀ j, j < l → σ.1 358 j = nI (o j)) (hQ : ∀ τ, FM σ τ → (∀ a, 357 ≤ a → τ.1 a = σ.1 a) → τ.1 354 11 = outU o l (upd (σ.1 355) 499 x) → Q (outL o l (upd (σ.1 355) 499 x)) τ) : m_10_loadWith 354 x Q σ := by
  have h6 := ok.1.2.1
  have h10 := ok.1.2.2.2
  unfold m_10_loadWith
  refine s_10_copies (a := 0) (b := 9) (by omega) (by omega) (by omega) ?_
  rw [t499]
  refine ⟨v499, fun σ3 e3 => ?_⟩
  have w3 : σ3.1 355 = upd (cpg 0 9 (σ.1 355)) 499 x := by rw [e3, wr_at, wrA_at]
  have g3 : ∀ a, a ≠ 355 → σ3.1 a = σ.1 a := fun a ha => by rw [e3, wr_cell ha, wrA_ne ha]
  have lo : ∀ y, y < 564 → σ3.1 355 y = upd (σ.1 355) 499 x y := fun y hy => by
    rw [w3, rd_upd, rd_upd]
    unfold cpg
    rw [if_neg (show ¬ (564 * 9 ≤ y ∧ y < 564 * 9 + 564) by omega)]
  have ok3 : okP c n l (σ3.1 355) := ok.cg (fun y _ hv => lo y hv.1)
  refine s_10_goesThrough ok3 ho (fun j hj => by rw [g3 358 (by omega)]; exact hor j hj) (fun τ4 p1 q hclr hmo hq hqy hq5 => ?_)
  have hL := (hclr.ok ok3).1.lego
  have hA : AG n l id p1 (clF l (upd (σ.1 355) 499 x)) := clr_id h10 (fun y hy _ => lo y hy.1) hclr (clF_clr h10)
  have kk := legsF_k hL h6 h10 ho l (Nat.le_refl l)
  -- the same by agreement, in the order o
  have g := ag_legs2 hA hL h6 h10 (ord_id l) ho l (Nat.le_refl l)
  have g1 : AG n l id (legsF o p1 l).1 (legsF o (clF l (upd (σ.1 355) 499 x)) l).1 := g.1
  have g2 : (legsF o p1 l).2 = (legsF o (clF l (upd (σ.1 355) 499 x)) l).2 := g.2
  have r552 : q 552 = outL o l (upd (σ.1 355) 499 x) ∧ q 550 = outU o l (upd (σ.1 355) 499 x) := by
    refine ⟨?_, ?_⟩
    · rw [hqy 552 (by omega), endF_y (by omega) (by omega) (by omega) (by omega) (by omega) (by omega) (by omega), upd_n (by omega)]
      exact g1.hi (by omega) (by omega) (by omega) (by omega)
    · rw [hqy 550 (by omega), endF_550, upd_n (by omega)]
      have : hmV (upd (legsF o p1 l).1 554 (nI (doneF o p1 l))) (legsF o p1 l).2 = hmV (legsF o p1 l).1 (legsF o p1 l).2 := by
        unfold hmV
        split
        · rfl
        · rename_i z0
          rcases kk.2 with z | ⟨i, hi, z⟩
          · exact absurd z z0
          · rw [z, tn i (by omega), upd_n (by omega)]
      rw [this, g1.hm h6 kk.2, g1.hi (x := 550) (by omega) (by omega) (by omega) (by omega), g2]
      rfl
  refine s_10_latestOf (k := 3) (by omega) (s_10_latestOf (k := 1) (by omega) (fun σ10 e10 => ?_))
  rw [show (354 + 1 : Nat) = 355 from rfl, hq, show (549 + 1 : Nat) = 550 from rfl, r552.2] at e10
  rw [show (354 + 1 : Nat) = 355 from rfl, hq, show (549 + 3 : Nat) = 552 from rfl, r552.1]
  refine s_10_copies (a := 9) (b := 0) (by omega) (by omega) (by omega) ?_
  have w10 : σ10.1 355 = q := by rw [e10, wr_cell (by omega), hq]
  have qf : ∀ y, 564 ≤ y → q y = σ3.1 355 y := fun y hy => by
    rw [hqy y (by omega), endF_y (by omega) (by omega) (by omega) (by omega) (by omega) (by omega) (by omega), upd_n (by omega), legsF_f hy hL h6 h10 ho l (Nat.le_refl l), hclr.2.2 y (by omega)]
  refine hQ _ ⟨fun y hy => ?_, fun a ha => ?_, fun j hj => ?_, by rw [show ∀ f, (wrA σ10 355 f).2 = σ10.2 from fun _ => rfl, e10]; exact hmo.2.2.trans (by rw [e3]; rfl)⟩ (fun a ha => ?_) ?_
  · rw [wrA_at, show (354 + 1 : Nat) = 355 from rfl, w10]
    unfold cpg
    by_cases z : y < 564
    · rw [if_pos (by omega), qf _ (by omega), w3, upd_n (by omega)]
      unfold cpg
      rw [if_pos (by omega)]
      rw [show 564 * 0 + (564 * 9 + (y - 564 * 0) - 564 * 9) = y by omega]
    · rw [if_neg (by omega), qf y (by omega), w3, upd_n (by omega)]
      unfold cpg
      rw [if_neg (by omega)]
  · rw [wrA_ne (by omega), e10, wr_cell (by omega), hmo.1 a (by omega) (by omega), g3 a (by omega)]
  · rw [wrA_ne (by omega), e10, wr_else (by omega), hmo.2.1 j (by omega) (by omega), g3 354 (by omega)]
  · rw [wrA_ne (by omega), e10, wr_cell (by omega), hmo.1 a (by omega) (by omega), g3 a (by omega)]
  · rw [wrA_ne (by omega), e10, wr_same]
