theorem cellsF_k {j i s y : Nat} {P : Nat → Int32} (h : kp y) (hj : j < 10) (hi : i < 6) (hs : s < 2) : ∀ k, k ≤ 20 → cellsF j i s k P y = P y := by
  intro k
  induction k with
  | zero => intro _; rfl
  | succ k ih =>
    intro hk
    unfold cellsF
    split
    · rw [cellF_k h hj hi hs (by omega), ih (by omega)]
    · exact ih (by omega)
theorem legF_k {n l j y : Nat} {P : Nat → Int32} {x : Int32} (hL : legO n l P) (hn : n ≤ 6) (hl : l ≤ 10) (hj : j < l) (h : kp y) : (legF j P x).1 y = P y := by
  obtain ⟨a1, a2, a3, a4⟩ := hL.1 j hj
  have kx := kp_x h
  unfold legF
  split
  · exact upd_n kx.2.2.2.2.1
  · show cellsF j (lgI P j) (lgS P j) (cellsN P (lgI P j)) _ y = P y
    rw [cellsF_k h (by omega) (by omega) a3 _ (hL.2 _ a1), upd_n kx.2.2.2.2.2.1]
theorem legO.cg {n l : Nat} {P P' : Nat → Int32} (hL : legO n l P) (hn : n ≤ 6) (hl : l ≤ 10) (h : ∀ y, kp y → P' y = P y) : legO n l P' := by
  refine ⟨fun j hj => ?_, fun i hi => ?_⟩
  · have e0 : P' (508 + 4 * j) = P (508 + 4 * j) := h _ (Or.inr (Or.inr (Or.inr (Or.inr (Or.inl ⟨by omega, by omega, by omega⟩)))))
    have e1 : P' (508 + 4 * j + 1) = P (508 + 4 * j + 1) := h _ (Or.inr (Or.inr (Or.inr (Or.inr (Or.inl ⟨by omega, by omega, by omega⟩)))))
    have := hL.1 j hj
    unfold lgI lgS at *
    rw [e0, e1]
    exact this
  · have e0 : P' (1 + 83 * i) = P (1 + 83 * i) := h _ (Or.inr (Or.inl ⟨i, 0, by omega, by omega, by omega⟩))
    have := hL.2 i hi
    unfold cellsN at *
    rw [e0]
    exact this
theorem legsF_k {n l : Nat} {o : Nat → Nat} {P : Nat → Int32} (hL : legO n l P) (hn : n ≤ 6) (hl : l ≤ 10) (ho : ordO l o) : ∀ k, k ≤ l → (∀ y, kp y → (legsF o P k).1 y = P y) ∧ posO n (legsF o P k).2 := by
  intro k
  induction k with
  | zero => intro _; exact ⟨fun _ _ => rfl, Or.inl rfl⟩
  | succ k ih =>
    intro hk
    obtain ⟨i1, i2⟩ := ih (by omega)
    have hL' := hL.cg hn hl i1
    have e : legsF o P (k + 1) = if (legsF o P k).1 549 = 0 then legF (o k) (legsF o P k).1 (legsF o P k).2 else legsF o P k := rfl
    rw [e]
    split
    · refine ⟨fun y hy => ?_, ?_⟩
      · rw [legF_k hL' hn hl (ho.1 k (by omega)) hy]
        exact i1 y hy
      · unfold legF
        split
        · exact i2
        · exact Or.inr ⟨_, (hL'.1 (o k) (ho.1 k (by omega))).1, rfl⟩
    · exact ⟨i1, i2⟩
theorem ag_legs {n l : Nat} {o : Nat → Nat} {P p : Nat → Int32} (h : AG n l o P p) (hL : legO n l P) (hn : n ≤ 6) (hl : l ≤ 10) (ho : ordO l o) : ∀ k, k ≤ l → AG n l o (legsF id P k).1 (legsF o p k).1 ∧ (legsF id P k).2 = (legsF o p k).2 ∧ doneF id P k = doneF o p k := by
  intro k
  induction k with
  | zero => intro _; exact ⟨h, rfl, rfl⟩
  | succ k ih =>
    intro hk
    obtain ⟨i1, i2, i3⟩ := ih (by omega)
    obtain ⟨k1, k2⟩ := legsF_k hL hn hl (ord_id l) k (by omega)
    have hL' := hL.cg hn hl k1
    have e : legsF id P (k + 1) = if (legsF id P k).1 549 = 0 then legF k (legsF id P k).1 (legsF id P k).2 else legsF id P k := rfl
    have e' : legsF o p (k + 1) = if (legsF o p k).1 549 = 0 then legF (o k) (legsF o p k).1 (legsF o p k).2 else legsF o p k := rfl
    have e5 : (legsF id P k).1 549 = (legsF o p k).1 549 := i1.hi (by omega) (by omega) (by omega) (by omega)
    obtain ⟨j1, j2⟩ := i1.leF ho hl hn (show k < l by omega) hL' k2
    have step : AG n l o (legsF id P (k + 1)).1 (legsF o p (k + 1)).1 ∧ (legsF id P (k + 1)).2 = (legsF o p (k + 1)).2 := by
      rw [e, e', ← e5, ← i2]
      split
      · exact ⟨j1, j2⟩
      · exact ⟨i1, i2⟩
    refine ⟨step.1, step.2, ?_⟩
    have d : doneF id P (k + 1) = if (legsF id P k).1 549 = 0 ∧ (legsF id P (k + 1)).1 549 = 0 then k + 1 else doneF id P k := rfl
    have d' : doneF o p (k + 1) = if (legsF o p k).1 549 = 0 ∧ (legsF o p (k + 1)).1 549 = 0 then k + 1 else doneF o p k := rfl
    rw [d, d', e5, i3, step.1.hi (x := 549) (by omega) (by omega) (by omega) (by omega)]
theorem endC_y {P : Nat → Int32} {y : Nat} (h4 : y ≠ 505) (h5 : y ≠ 501) : endC P y = P y := by
  unfold endC
  split
  · rfl
  · split
    · rfl
    · rw [upd_n h5, upd_n h4]
theorem endB_y {P : Nat → Int32} {y : Nat} (h2 : y ≠ 561) (h3 : y ≠ 506) : endB P y = P y := by
  unfold endB dmp
  split
  · rfl
  · rw [upd_n h3, upd_n h2]
theorem endF_y {P : Nat → Int32} {x : Int32} {y : Nat} (h1 : y ≠ 550) (h2 : y ≠ 561) (h3 : y ≠ 506) (h4 : y ≠ 505) (h5 : y ≠ 501) (h6 : y ≠ 562) (h7 : y ≠ 548) : endF P x y = P y := by
  unfold endF endD
  rw [upd_n h7, upd_n h6, endC_y h4 h5, endB_y h2 h3]
  unfold endA
  rw [upd_n h1]
theorem endF_562 {P : Nat → Int32} {x : Int32} : endF P x 562 = P 562 + 1 := by
  unfold endF endD
  rw [upd_n (by omega), upd_s, endC_y (by omega) (by omega), endB_y (by omega) (by omega)]
  unfold endA
  rw [upd_n (by omega)]
theorem endF_550 {P : Nat → Int32} {x : Int32} : endF P x 550 = P 550 + hmV P x := by
  unfold endF endD
  rw [upd_n (by omega), upd_n (by omega), endC_y (by omega) (by omega), endB_y (by omega) (by omega)]
  unfold endA
  rw [upd_s]
def clF (l : Nat) (P : Nat → Int32) (y : Nat) : Int32 := if 549 ≤ y ∧ y < 555 then 0 else if 508 ≤ y ∧ y < 508 + 4 * l ∧ 2 ≤ (y - 508) % 4 then 0 else P y
theorem clF_clr {l : Nat} {P : Nat → Int32} (hl : l ≤ 10) : clrP l P (clF l P) := by
  refine ⟨fun y h1 h2 => if_pos ⟨h1, h2⟩, fun j hj => ⟨?_, ?_⟩, fun y hy => ?_⟩
  · unfold clF
    rw [if_neg (by omega), if_pos (by omega)]
  · unfold clF
    rw [if_neg (by omega), if_pos (by omega)]
  · unfold clF
    rw [if_neg (by omega), if_neg (by omega)]
/-- two cleared pages, the legs of one in another order -/
theorem clr_ag {n l : Nat} {o : Nat → Nat} {P p P1 p1 : Nat → Int32} (hl : l ≤ 10) (ho : ordO l o) (h0 : ∀ x, vis n l x → (x < 508 ∨ 548 ≤ x) → P x = p x) (h1 : ∀ j f, j < l → f < 2 → P (508 + 4 * j + f) = p (508 + 4 * o j + f)) (a : clrP l P P1) (b : clrP l p p1) : AG n l o P1 p1 := by
  intro x hx
  by_cases q : 508 ≤ x ∧ x < 548
  · have hj : (x - 508) / 4 < l := by have := hx.1.2.2.2 q.1 q.2; omega
    have hoj := ho.1 _ hj
    obtain ⟨f, hf, e⟩ : ∃ f, f < 4 ∧ x = 508 + 4 * ((x - 508) / 4) + f := ⟨(x - 508) % 4, by omega, by omega⟩
    rw [e, pm_leg (by omega) hf]
    by_cases f2 : f < 2
    · rw [a.2.2 _ (by omega), b.2.2 _ (by omega)]
      exact h1 _ _ hj f2
    · obtain ⟨a2, a3⟩ := a.2.1 _ hj
      obtain ⟨b2, b3⟩ := b.2.1 _ hoj
      rcases (by omega : f = 2 ∨ f = 3) with rfl | rfl
      · rw [a2, b2]
      · rw [a3, b3]
  · rw [pm_non (by omega)]
    by_cases q2 : 549 ≤ x ∧ x < 555
    · rw [a.1 x q2.1 q2.2, b.1 x q2.1 q2.2]
    · rw [a.2.2 x (by omega), b.2.2 x (by omega)]
      exact h0 x hx.1 (by omega)
theorem clr_id {n l : Nat} {P p P1 p1 : Nat → Int32} (hl : l ≤ 10) (e : EQP n l P p) (a : clrP l P P1) (b : clrP l p p1) : AG n l id P1 p1 :=
  clr_ag hl (ord_id l) (fun x hx h => e.lo hx h) (fun j f hj hf => e.le hj hl hf) a b
def outL (o : Nat → Nat) (l : Nat) (P : Nat → Int32) : Int32 := (legsF o (clF l P) l).1 552
def outU (o : Nat → Nat) (l : Nat) (P : Nat → Int32) : Int32 := (legsF o (clF l P) l).1 550 + hmV (legsF o (clF l P) l).1 (legsF o (clF l P) l).2
/-- what a shift brings, by agreement -/
theorem out_eq {c n l : Nat} {o : Nat → Nat} {P P1 p1 : Nat → Int32} (ok : okP c n l P) (ho : ordO l o) (h : AG n l o P1 p1) (a : clrP l P P1) : (legsF id P1 l).1 552 = (legsF o p1 l).1 552 ∧ (legsF id P1 l).1 550 + hmV (legsF id P1 l).1 (legsF id P1 l).2 = (legsF o p1 l).1 550 + hmV (legsF o p1 l).1 (legsF o p1 l).2 := by
  have h6 := ok.1.2.1
  have h10 := ok.1.2.2.2
  have hL := (a.ok ok).1.lego
  obtain ⟨g1, g2, g3⟩ := ag_legs h hL h6 h10 ho l (Nat.le_refl l)
  have hp := (legsF_k hL h6 h10 (ord_id l) l (Nat.le_refl l)).2
  refine ⟨g1.hi (by omega) (by omega) (by omega) (by omega), ?_⟩
  rw [g1.hi (x := 550) (by omega) (by omega) (by omega) (by omega), g1.hm h6 hp, g2]
theorem shift_ev {c n l : Nat} {P p P1 p1 : Nat → Int32} (ok : okP c n l P) (e : EQP n l P p) (a : clrP l P P1) (b : clrP l p p1) : EV n l (endF (upd (legsF id P1 l).1 554 (nI (doneF id P1 l))) (legsF id P1 l).2) (endF (upd (legsF id p1 l).1 554 (nI (doneF id p1 l))) (legsF id p1 l).2) := by
  have h6 := ok.1.2.1
  have h10 := ok.1.2.2.2
  have hL := (a.ok ok).1.lego
  have h := clr_id h10 e a b
  obtain ⟨g1, g2, g3⟩ := ag_legs h hL h6 h10 (ord_id l) l (Nat.le_refl l)
  have hp := (legsF_k hL h6 h10 (ord_id l) l (Nat.le_refl l)).2
  rw [← g2, ← g3]
  refine EV.en (fun x hx => ?_) h6 hp
  rw [rd_upd, rd_upd]
  by_cases q : x = 554
  · rw [if_pos q, if_pos q]
  · rw [if_neg q, if_neg q]
    exact g1.id x ⟨hx, q⟩
-- trials: only scratch is touched
def FC (σ τ : St) : Prop := ∀ a, (a < 316 ∨ 354 ≤ a) → τ.1 a = σ.1 a
theorem FC.rf {σ : St} : FC σ σ := fun _ _ => rfl
theorem FC.tr {σ τ υ : St} (h : FC σ τ) (h' : FC τ υ) : FC σ υ := fun a ha => (h' a ha).trans (h a ha)
/-- the trial world carries out a shift -/
theorem s_trial {c n l : Nat} {σ : St} {P : Nat → Int32} {Q : St → Prop} (ok : okP c n l (pgW σ 316)) (hP : EQP n l (pgW σ 316) P) (hQ : ∀ τ, FC σ τ → pgW τ 316 552 = outL id l P → pgW τ 316 550 = outU id l P → (∀ a, a < 316 ∨ 351 ≤ a → τ.1 a = σ.1 a) → Q τ) : m_5_carryOut 350 Q σ := by
  have h6 := ok.1.2.1
  have h10 := ok.1.2.2.2
  refine s_5_carryOut (R := 350) (B := 316) (c := c) (n := n) (l := l) (by decide) (by omega) ok (fun τ1 P1 hclr hfr ok1 hev => ?_)
  have h := clr_id h10 hP hclr (clF_clr (P := P) h10)
  obtain ⟨g1, g2⟩ := out_eq ok (ord_id l) h hclr
  refine hQ τ1 (fun a ha => hfr a (by omega) (by omega)) ?_ ?_ (fun a ha => hfr a (by omega) (by omega))
  · rw [hev 552 (vis_hi (by omega) (by omega) (by omega)), endF_y (by omega) (by omega) (by omega) (by omega) (by omega) (by omega) (by omega), upd_n (by omega)]
    exact g1
  · rw [hev 550 (vis_hi (by omega) (by omega) (by omega)), endF_550, upd_n (by omega)]
    have : hmV (upd (legsF id P1 l).1 554 (nI (doneF id P1 l))) (legsF id P1 l).2 = hmV (legsF id P1 l).1 (legsF id P1 l).2 := by
      unfold hmV
      split
      · rfl
      · rename_i q
        rcases (legsF_k (hclr.ok ok).1.lego h6 h10 (ord_id l) l (Nat.le_refl l)).2 with z | ⟨i, hi, z⟩
        · exact absurd z q
        · rw [z, tn i (by omega), upd_n (by omega)]
    rw [this]
    exact g2
theorem EQP.rf {n l : Nat} {P : Nat → Int32} : EQP n l P P := fun _ _ _ => rfl
theorem s_9_trySpeed {c n l v : Nat} {σ : St} {Q : St → Prop} (ok : okP c n l (pgW σ 7)) (hv : 1 ≤ v ∧ v ≤ 4) (hQ : ∀ τ, FC σ τ → τ.1 (316 + 5) 3 = outL id l (upd (pgW σ 7) 499 (nI v)) → τ.1 (316 + 5) 1 = outU id l (upd (pgW σ 7) 499 (nI v)) → Q τ) : m_9_trySpeed 0 (nI v) Q σ := by
  unfold m_9_trySpeed
  refine s_8_copyFrom (B0 := 316) (B1 := 7) ok (by omega) (fun τ P t hP => ⟨vi0, fun σ3 e3 => ?_⟩)
  have t3 := tw_seti t (k := 0) (v := nI v) (by omega)
  rw [tn0, show (0 + 316 + 3 : Nat) = 316 + 3 from rfl] at e3
  rw [← e3] at t3
  have okP' : okP c n l P := ok.cg (fun x _ hv => hP x hv)
  have ok3 : okP c n l (upd P (499 + 0) (nI v)) := okP'.set1 (k := 0) (by omega) ⟨v, hv.1, hv.2, rfl, fun q => absurd q (by omega)⟩
  refine s_trial (P := upd (pgW σ 7) 499 (nI v)) (by rw [t3.1]; exact ok3) (by rw [t3.1]; exact EQP.up (fun x hx _ => hP x hx) (by omega) rfl) (fun τ4 h1 h2 h3 _ => ?_)
  refine hQ τ4 (FC.tr (fun a ha => t3.2.1 a (by omega)) h1) ?_ ?_
  · rw [grep τ4 316 (k := 3) (by omega)]; exact h2
  · rw [grep τ4 316 (k := 1) (by omega)]; exact h3
-- what a shift brings is no negative number
def okT (c n l u : Nat) (P : Nat → Int32) : Prop := okU c n l u P ∧ ∃ t, P 552 = nI t ∧ t ≤ 33 * u
theorem okT.w {c n l u : Nat} {P : Nat → Int32} {v : Int32} (h : okT c n l u P) : okT c n l u (upd P 549 v) := by
  obtain ⟨⟨a1, a2, a3⟩, t, b1, b2⟩ := h
  exact ⟨⟨a1.inert (inert_hi (by omega) (by omega)), by rw [upd_n (by omega)]; exact a2, a3⟩, t, by rw [upd_n (by omega)]; exact b1, b2⟩
theorem okT.turn {c n l i s k j u u1 cap g cv : Nat} {P : Nat → Int32} (h : okT c n l u P) (hj : j < 10) (hs : s < 2) (hi : i < 6) (hk : k < 20) (hu : u + 3 ≤ u1) (h1 : cv ≤ 99) (h2 : cap ≤ 2000) (e1 : coV (cB P) (83 * i + (20 * s + k)) = nI cv) (e2 : P 500 - P 506 = nI (cap - g)) (ok : okU c n l u1 (cC j i s k P)) : okT c n l u1 (cC j i s k P) := by
  obtain ⟨-, t, b1, b2⟩ := h
  refine ⟨ok, t + min cv (cap - g), ?_, by omega⟩
  have hu6 := ok.2.2
  unfold cC
  rw [cnt2_ne (by omega)]
  unfold swp
  rw [upd_n (by omega), upd_n (by omega), upd_s]
  have b5 : cB P 500 = P 500 := by unfold cB; rw [upd_n (by omega)]
  have b6 : cB P 506 = P 506 := by unfold cB; rw [upd_n (by omega)]
  have b2' : cB P 552 = P 552 := by unfold cB; rw [upd_n (by omega)]
  rw [b5, b6, b2', e1, e2, mnI_nat (by omega) (by omega), b1, nI_add]
theorem okT.cell {c n l i s k j : Nat} (hi : i < n) (hs : s < 2) (hk : k < 20) (hj : j < 10) : ∀ (f u : Nat) (P : Nat → Int32), okT c n l u P → ∃ u', okT c n l u' (cellF j i s k f P) := by
  intro f
  induction f with
  | zero => intro u P h; exact ⟨u, h⟩
  | succ f ih =>
    intro u P h
    have h6 := h.1.1.1.2.1
    rw [cellF_s]
    split
    · exact ⟨u, h.w⟩
    · rename_i hfit
      obtain ⟨u1, cap, g, cv, q1, q2, q3, q4, q5, q6, q7, q8, q9, q10, q11, q12, q13, q14, q15, q16⟩ := h.1.cell hi hs hk hj hfit
      have hC : okT c n l u1 (cC j i s k P) := h.turn hj hs (by omega) hk q1 q8 q7 q9 q10 q12
      split
      · split
        · exact ⟨u1, hC.w⟩
        · rename_i hfit2
          obtain ⟨u2, le, okD⟩ := okU.dump h.1 hC.1 hi (q15 502 (by omega) (by omega)) hfit2
          obtain ⟨-, t, b1, b2⟩ := hC
          have hD : okT c n l u2 (cD i P (cC j i s k P)) := ⟨okD, t, by unfold cD dmp; rw [upd_n (by omega), upd_n (by omega), upd_n (by omega), upd_n (by omega)]; exact b1, by omega⟩
          split
          · exact ⟨u2, hD⟩
          · exact ih u2 _ hD
      · exact ⟨u1, hC⟩
theorem okT.cells {c n l i s j : Nat} {P : Nat → Int32} (hi : i < n) (hs : s < 2) (hj : j < 10) (h : ∃ u, okT c n l u P) : ∀ k, k ≤ 20 → ∃ u', okT c n l u' (cellsF j i s k P) := by
  intro k
  induction k with
  | zero => intro _; exact h
  | succ k ih =>
    intro hk
    obtain ⟨u, hu⟩ := ih (by omega)
    unfold cellsF
    split
    · exact okT.cell hi hs (by omega) hj 7000 u _ hu
    · exact ⟨u, hu⟩
theorem okT.drv {c n l i u : Nat} {P : Nat → Int32} {x : Int32} (h : okT c n l u P) (hi : i < n) (hx : posO n x) (hf : ¬ P 502 < P 550 + driV P x i + 10 * P (2 + 83 * i)) : ∃ u', okT c n l u' (upd P 550 (P 550 + driV P x i)) := by
  obtain ⟨h, t, b1, b2⟩ := h
  obtain ⟨v, v1, v2⟩ := h.1.dr hi hx
  obtain ⟨d, d1, d2⟩ := h.1.ds hi
  obtain ⟨len, l1, l2⟩ := h.1.len
  have hu := h.2.2
  rw [v1, d1, l1, h.2.1, li 10, pk_mul, nI_add, nI_add, lti (by omega) (by omega)] at hf
  exact ⟨u + v, ⟨h.1.inert (inert_hi (by omega) (by omega)), by rw [upd_s, v1, h.2.1, nI_add], by omega⟩, t, by rw [upd_n (by omega)]; exact b1, by omega⟩
theorem okT.legs {c n l : Nat} {o : Nat → Nat} {P : Nat → Int32} (h : ∃ u, okT c n l u P) (ok : okP c n l P) (ho : ordO l o) : ∀ k, k ≤ l → ∃ u', okT c n l u' (legsF o P k).1 := by
  have h6 := ok.1.2.1
  have h10 := ok.1.2.2.2
  intro k
  induction k with
  | zero => intro _; exact h
  | succ k ih =>
    intro hk
    obtain ⟨u, hu⟩ := ih (by omega)
    have hp := (legsF_k ok.lego h6 h10 ho k (by omega)).2
    obtain ⟨a1, a2, a3, a4⟩ := hu.1.1.lego.1 (o k) (ho.1 k (by omega))
    have hok := ho.1 k (by omega)
    have e : legsF o P (k + 1) = if (legsF o P k).1 549 = 0 then legF (o k) (legsF o P k).1 (legsF o P k).2 else legsF o P k := rfl
    rw [e]
    split
    · unfold legF
      split
      · exact ⟨u, hu.w⟩
      · rename_i hf
        exact okT.cells a1 a3 (by omega) (hu.drv a1 hp hf) _ (hu.1.1.lego.2 _ a1)
    · exact ⟨u, hu⟩
theorem sp_of {x : Int32} (h1 : ¬ x < 1) (h2 : x ≤ 4) : ∃ v, 1 ≤ v ∧ v ≤ 4 ∧ x = nI v := by
  rcases ix x 5 with g | ⟨j, rfl, hj, hj2⟩ | ⟨v, rfl, hv⟩
  · exact absurd (Int32.lt_trans g (by decide)) h1
  · exact absurd ((leI (b := 4) (by omega) (by omega)).mp h2) (by omega)
  · refine ⟨v, ?_, by omega, rfl⟩
    have := mt (ltI (a := v) (b := 1) (by omega) (by omega)).mpr h1
    omega
/-- what ifSpeed(x) tells -/
def vIf (l : Nat) (P : Nat → Int32) (x : Int32) : Int32 := if x < 1 then -1 else if x ≤ 4 then outL id l (upd P 499 x) else -1
theorem s_9_ifSpeed {c n l : Nat} {σ : St} {x : Int32} {Q : Int32 → St → Prop} (ok : okP c n l (pgW σ 7)) (hQ : ∀ τ, FC σ τ → Q (vIf l (pgW σ 7) x) τ) : m_9_ifSpeed 0 x Q σ := by
  unfold m_9_ifSpeed
  unfold vIf at hQ
  refine ⟨fun h1 => ?_, fun h1 => ⟨fun h2 => ?_, fun h2 => ?_⟩⟩
  · have := hQ σ FC.rf
    rw [if_pos h1] at this
    exact this
  · obtain ⟨v, a, b, rfl⟩ := sp_of h1 h2
    refine s_9_trySpeed ok ⟨a, b⟩ (fun τ f g _ => ?_)
    have := hQ τ f
    rw [if_neg h1, if_pos h2, ← g] at this
    exact this
  · have := hQ σ FC.rf
    rw [if_neg h1, if_neg h2] at this
    exact this
theorem FC.pg {σ τ : St} (f : FC σ τ) : pgW τ 7 = pgW σ 7 := pgW_cg (fun a h1 h2 => f a (by omega))
def eC (C : Nat) (σ τ : St) : Prop := (∀ a, a ≠ C → τ.1 a = σ.1 a) ∧ τ.2 = σ.2
