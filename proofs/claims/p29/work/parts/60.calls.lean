-- the class's calls at inputs that they take: what each leaves
/-- where the history writes next, and how much it holds -/
def hst (σ : St) : Prop := ∃ x k, x < 8 ∧ k ≤ 8 ∧ σ.1 42 1 = nI x ∧ σ.1 42 2 = nI k
/-- what a call leaves: the page P, and the law's own cells as they were -/
def CL (σ τ : St) (P : Nat → Int32) : Prop := pgW τ 7 = P ∧ hst τ ∧ ∀ a, 354 ≤ a → τ.1 a = σ.1 a
theorem CL.tw {σ τ υ : St} {P P' : Nat → Int32} (h : CL σ τ P) (t : toW τ υ 7 P') : CL σ υ P' := by
  obtain ⟨h1, ⟨x, k, a1, a2, a3, a4⟩, h3⟩ := h
  refine ⟨t.1, ⟨x, k, a1, a2, ?_, ?_⟩, fun a ha => ?_⟩
  · rw [t.2.1 42 (by omega)]; exact a3
  · rw [t.2.1 42 (by omega)]; exact a4
  · rw [t.2.1 a (by omega), h3 a ha]
theorem CL.tr {σ τ υ : St} {P P' : Nat → Int32} (h : CL σ τ P) (h' : CL τ υ P') : CL σ υ P' := ⟨h'.1, h'.2.1, fun a ha => (h'.2.2 a ha).trans (h.2.2 a ha)⟩
theorem CL.rf {σ : St} (I : hst σ) : CL σ σ (pgW σ 7) := ⟨rfl, I, fun _ _ => rfl⟩
theorem krem {c n l : Nat} {σ : St} {Q : St → Prop} (ok : okP c n l (pgW σ 7)) (I : hst σ) (h : ∀ τ, CL σ τ (pgW σ 7) → Q τ) : m_0_remember 42 7 Q σ := by
  obtain ⟨x, k, a1, a2, a3, a4⟩ := I
  refine s_0_remember ok a3 a1 a4 a2 (fun τ hτ hlow => h τ ?_)
  obtain ⟨x', k', h1, h2, h3, h4, h5, h6, -, -, h9, h10⟩ := hτ
  exact ⟨h9, ⟨(x' + 1) % 8, min (k' + 1) 8, by omega, by omega, h5, h6⟩, fun a ha => h10 a (by omega)⟩
theorem k_lay {c n l i s k w : Nat} {σ : St} {Q : Int32 → St → Prop} (ok : okP c n l (pgW σ 7)) (I : hst σ) (hi : i < n) (hs : s < 2) (hk : k < cellsN (pgW σ 7) i) (hw : w ≤ 99) (hQ : ∀ τ o, pgW σ 7 (4 + 83 * i + (20 * s + k)) = nI o → o ≤ 99 → CL σ τ (layP (pgW σ 7) (4 + 83 * i + (20 * s + k)) o w) → Q (nI o) τ) : m_9_lay 0 (nI i) (nI s) (nI k) (nI w) Q σ := by
  have h6 := ok.1.2.1
  obtain ⟨cv, cv1, cv2⟩ := ok.cells hi
  unfold m_9_lay
  refine s_8_hasCell (B := 7) ok (fun _ _ _ _ _ _ _ _ _ _ _ _ => ?_) (fun hn => absurd ⟨i, s, k, n, cellsN (pgW σ 7) i, ok.1.1, hi, h6, rfl, hs, rfl, cv, cv2, hk, rfl⟩ hn)
  refine ⟨fun q => absurd q (by decide), fun _ => ?_⟩
  refine ⟨fun q => absurd q (nn0 (by omega)), fun _ => ⟨fun _ => ?_, fun q => absurd ((leI (b := 99) (by omega) (by omega)).mpr (by omega)) q⟩⟩
  refine krem ok I (fun τ hτ => ?_)
  refine s_9_placeOf ?_
  obtain ⟨⟨o, ho, ho99⟩, hpk⟩ := ok.2.2.1 i (20 * s + k) hi (by omega)
  have pg : pgW τ 7 = pgW σ 7 := hτ.1
  unfold m_8_layDirt
  rw [tn i (by omega), tn (20 * s + k) (by omega)]
  refine ⟨vin (by omega), fun r4 er4 => ?_⟩
  rw [er4]
  have ed : τ.1 (7 + 1 + 5 + 3 * i + 1) (20 * s + k) = nI o := by rw [gdi τ 7 (by omega) (by omega), pg]; exact ho
  rw [show (0 + 7 : Nat) = 7 from rfl, ed]
  refine ⟨vin (by omega), fun x5 e5' => ⟨vin (by omega), fun σ4 e4 => ⟨vi0, vi0, fun σ5 e5 => ⟨vi2, vi2, fun σ6 e6 => ?_⟩⟩⟩⟩
  subst e5'
  have t4 := tw_di (toW.rf (σ := τ) (B := 7)) (i := i) (k := 20 * s + k) (v := nI w) (by omega) (by omega)
  rw [← e4, pg] at t4
  have s0 : σ4.1 (7 + 4) 0 = pgW σ 7 556 := by rw [gsum σ4 7 (by omega), t4.g, upd_n (by omega)]
  rw [tn0, s0] at e5
  have t5 := tw_sum t4 (k := 0) (v := pgW σ 7 556 + (if 0 < nI w - nI o then nI w - nI o else 0)) (by omega)
  rw [← e5] at t5
  have s2 : σ5.1 (7 + 4) 2 = pgW σ 7 558 := by rw [gsum σ5 7 (by omega), t5.g, upd_n (by omega), upd_n (by omega)]
  rw [tn2, s2] at e6
  have t6 := tw_sum t5 (k := 2) (v := pgW σ 7 558 + (if 0 < nI o - nI w then nI o - nI w else 0)) (by omega)
  rw [← e6] at t6
  have pe : upd (upd (upd (pgW σ 7) (4 + 83 * i + (20 * s + k)) (nI w)) (556 + 0) (pgW σ 7 556 + (if 0 < nI w - nI o then nI w - nI o else 0))) (556 + 2) (pgW σ 7 558 + (if 0 < nI o - nI w then nI o - nI w else 0)) = layP (pgW σ 7) (4 + 83 * i + (20 * s + k)) o w := by
    unfold layP
    by_cases q : w ≤ o
    · rw [if_pos q, if_neg (fun q2 => by rw [subpos (by omega) (by omega)] at q2; omega), i0]
      rw [upd_self (x := 556 + 0) (by rw [upd_n (by omega)])]
      by_cases q3 : w = o
      · subst q3
        rw [if_neg (fun q2 => by rw [subpos (by omega) (by omega)] at q2; omega), pk_sub (Nat.le_refl _), Nat.sub_self]
        rfl
      · rw [if_pos ((subpos (by omega) (by omega)).mpr (by omega))]
    · rw [if_neg q, if_pos ((subpos (by omega) (by omega)).mpr (by omega)), if_neg (fun q2 => by rw [subpos (by omega) (by omega)] at q2; omega), i0]
      exact upd_self (by rw [upd_n (by omega), upd_n (by omega)])
  rw [pe] at t6
  exact hQ σ6 o ho ho99 (hτ.tw t6)
theorem k_park {c n l i s k : Nat} {x4 : Int32} {σ : St} {Q : Int32 → St → Prop} (ok : okP c n l (pgW σ 7)) (I : hst σ) (hi : i < n) (hs : s < 2) (hk : k < cellsN (pgW σ 7) i) (hx4 : isB x4) (hQ : ∀ τ, CL σ τ (upd (pgW σ 7) (44 + 83 * i + (20 * s + k)) x4) → Q (pgW σ 7 (44 + 83 * i + (20 * s + k))) τ) : m_9_park 0 (nI i) (nI s) (nI k) x4 Q σ := by
  have h6 := ok.1.2.1
  obtain ⟨cv, cv1, cv2⟩ := ok.cells hi
  unfold m_9_park
  refine s_8_hasCell (B := 7) ok (fun _ _ _ _ _ _ _ _ _ _ _ _ => ?_) (fun hn => absurd ⟨i, s, k, n, cellsN (pgW σ 7) i, ok.1.1, hi, h6, rfl, hs, rfl, cv, cv2, hk, rfl⟩ hn)
  refine ⟨fun _ => ?_, fun q => absurd q (by decide)⟩
  refine krem ok I (fun τ hτ => ?_)
  have pg : pgW τ 7 = pgW σ 7 := hτ.1
  have hpk := (ok.2.2.1 i (20 * s + k) hi (by omega)).2
  rw [tn i (by omega)]
  refine ⟨vin (by omega), fun r5 er5 => ?_⟩
  rw [er5]
  refine s_9_placeOf ?_
  rw [tn (20 * s + k) (by omega)]
  refine ⟨vin (by omega), fun x7 e7 => ⟨vin (by omega), fun σ6 e6 => ?_⟩⟩
  rw [show (0 + 7 : Nat) = 7 from rfl, gpa τ 7 (by omega) (by omega), pg] at e7
  rw [show (0 + 7 : Nat) = 7 from rfl, narI hx4] at e6
  have t6 := tw_pa (toW.rf (σ := τ) (B := 7)) (i := i) (k := 20 * s + k) (v := x4) (by omega) (by omega)
  rw [← e6, pg] at t6
  have fin : Q x7 σ6 := by
    rw [e7]
    exact hQ σ6 (hτ.tw t6)
  have hb : x7 = 0 ∨ x7 = 1 := by rw [e7]; exact hpk
  rcases hb with q | q
  · rw [q] at fin
    exact ⟨fun _ => fin, fun q2 => absurd q q2⟩
  · rw [q] at fin
    exact ⟨fun q2 => absurd (q.symm.trans q2) (by decide), fun _ => fin⟩
theorem k_set {c n l k : Nat} {x2 : Int32} {σ : St} {Q : Int32 → St → Prop} (ok : okP c n l (pgW σ 7)) (I : hst σ) (hk : k < 6) (hs : okS (pgW σ 7) k x2) (hQ : ∀ τ, CL σ τ (upd (pgW σ 7) (499 + k) x2) → Q (pgW σ 7 (499 + k)) τ) : m_9_set 0 (nI k) x2 Q σ := by
  have h6 := ok.1.2.1
  obtain ⟨b1, b2, b3, b4⟩ := stV_lo k hk
  obtain ⟨cap, g, q1, q2, q3, q4, q5⟩ := ok.2.2.2.2.1.2.1
  obtain ⟨j, a1, a2, a3, a4⟩ := id hs
  unfold m_9_set
  refine ⟨fun q => absurd q (nn0 (by omega)), fun _ => ⟨fun q => absurd ((leI (a := 6) (by omega) (by omega)).mp q) (by omega), fun _ => ?_⟩⟩
  have good : m_0_remember (0 + 42) (0 + 7) (fun σ_3 => vp_in (nI k) 6 ∧ ∀ x3_5 : Int32, x3_5 = (σ_3.1 ((0 + 7) + 3) (nI k).toNatClampNeg) → vp_in (nI k) 6 ∧ ∀ σ_6 : St, σ_6 = wr σ_3 ((0 + 7) + 3) (nI k).toNatClampNeg x2 → Q x3_5 σ_6) σ := by
    refine krem ok I (fun τ hτ => ?_)
    have pg : pgW τ 7 = pgW σ 7 := hτ.1
    rw [tn k (by omega), show (0 + 7 + 3 : Nat) = 7 + 3 from rfl, gset τ 7 hk, pg]
    refine ⟨vin (by omega), fun x3 e3 => ⟨vin (by omega), fun σ6 e6 => ?_⟩⟩
    have t6 := tw_seti (toW.rf (σ := τ) (B := 7)) (k := k) (v := x2) hk
    rw [← e6, pg] at t6
    rw [e3]
    exact hQ σ6 (hτ.tw t6)
  have main : ∀ lo : Nat, lo ≤ 2000 → lo ≤ j → ((x2 < nI lo → Q (-1) σ) ∧ (¬ x2 < nI lo → vp_in (nI k) 6 ∧ ((x2 ≤ (stV 2 (nI k).toNatClampNeg) → m_0_remember (0 + 42) (0 + 7) (fun σ_3 => vp_in (nI k) 6 ∧ ∀ x3_5 : Int32, x3_5 = (σ_3.1 ((0 + 7) + 3) (nI k).toNatClampNeg) → vp_in (nI k) 6 ∧ ∀ σ_6 : St, σ_6 = wr σ_3 ((0 + 7) + 3) (nI k).toNatClampNeg x2 → Q x3_5 σ_6) σ) ∧ (¬ x2 ≤ (stV 2 (nI k).toNatClampNeg) → Q (-1) σ)))) := fun lo hlo hj => by
    refine ⟨fun q => absurd q (by rw [a3, ltI (by omega) (by omega)]; omega), fun _ => ⟨vin (by omega), fun _ => good, fun q => absurd ?_ q⟩⟩
    rw [tn k (by omega), b2, a3]
    exact (leI (by omega) (by omega)).mpr a2
  unfold m_8_leastSetting
  rw [show (0 + 7 : Nat) = 7 from rfl, g506, q2, tn k (by omega), b1]
  rw [tn k (by omega)] at main
  refine ⟨fun q => ⟨vin (by omega), ?_⟩, fun q => ⟨vin (by omega), ?_⟩⟩
  · exact main (loS k) (by omega) a1
  · have hk1 : k = 1 := (eqi (b := 1) (by omega) (by omega)).mp q
    subst hk1
    have el : (if nI (loS 1) < nI g then nI g else nI (loS 1)) = nI (max g 20) := by
      rw [show loS 1 = 20 from rfl]
      by_cases z : 20 < g
      · rw [if_pos ((lti (by omega) (by omega)).mpr z), Nat.max_eq_left (by omega)]
      · rw [if_neg (fun z2 => z ((lti (by omega) (by omega)).mp z2)), Nat.max_eq_right (by omega)]
    rw [el]
    have a5 := a4 rfl
    have a6 : hiS 1 = 2000 := rfl
    rw [q2, a3, ltI (by omega) (by omega)] at a5
    rw [show loS 1 = 20 from rfl] at a1
    exact main (max g 20) (by omega) (by omega)
theorem k_addLeg {c n l i s : Nat} {σ : St} {Q : Int32 → St → Prop} (ok : okP c n l (pgW σ 7)) (I : hst σ) (hi : i < n) (hs : s < 2) (hl : l < 10) (hQ : ∀ τ, CL σ τ (upd (upd (upd (upd (pgW σ 7) (508 + 4 * l + 0) (nI i)) (508 + 4 * l + 1) (nI s)) 507 (nI (l + 1))) 548 0) → Q (nI l) τ) : m_9_addLeg 0 (nI i) (nI s) Q σ := by
  have h6 := ok.1.2.1
  unfold m_9_addLeg
  refine s_8_hasStreet (n := n) ok.1.1 (by omega) (fun _ _ _ => ?_) (fun hn => absurd rfl (hn i hi))
  refine ⟨fun q => absurd q (by decide), fun _ => ?_⟩
  refine ⟨fun q => absurd q (nn0 (by omega)), fun _ => ⟨fun _ => ?_, fun q => absurd ((ltI (b := 2) (by omega) (by omega)).mpr hs) q⟩⟩
  rw [show (0 + 7 : Nat) = 7 from rfl, g507, ok.1.2.2.1]
  refine ⟨fun q => ?_, fun q => absurd ((ltI (b := 10) (by omega) (by omega)).mpr hl) q⟩
  refine krem ok I (fun τ hτ => ?_)
  have pg : pgW τ 7 = pgW σ 7 := hτ.1
  have t3e : τ.1 7 3 = nI l := by rw [g507, pg]; exact ok.1.2.2.1
  unfold m_8_appendLeg
  rw [t3e, tn l (by omega)]
  refine ⟨vin hl, fun r3 er => ?_⟩
  subst er
  intro σ3 e3 σ4 e4 σ5 e5' σ6 e6
  have t3 := tw_le (toW.rf (σ := τ) (B := 7)) (a := l) (f := 0) (v := nI i) hl (by omega)
  rw [← e3, pg] at t3
  have t4 := tw_le t3 (a := l) (f := 1) (v := nI s) hl (by omega)
  rw [← e4] at t4
  have c4 : σ4.1 7 3 = nI l := by rw [g507, t4.g, upd_n (by omega), upd_n (by omega)]; exact ok.1.2.2.1
  rw [c4, li 1, nI_add] at e5'
  have t5 := tw_n507 t4 (v := nI (l + 1))
  rw [← e5'] at t5
  have t6 := tw_n548 t5 (v := 0)
  rw [← e6] at t6
  have c6 : σ6.1 7 3 - 1 = nI l := by rw [g507, t6.g, upd_n (by omega), upd_s, show (1 : Int32) = nI 1 from rfl, pk_sub (by omega)]; rfl
  rw [c6]
  exact hQ σ6 (hτ.tw t6)
/-- the page with one street more -/
def asP (n : Nat) (a b t : Int32) (P P' : Nat → Int32) : Prop := P' (1 + 83 * n) = a ∧ P' (2 + 83 * n) = b ∧ P' (3 + 83 * n) = t ∧ (∀ k, k < 80 → P' (4 + 83 * n + k) = 0) ∧ P' 0 = nI (n + 1) ∧ P' 548 = 0 ∧ ∀ y, y ≠ 0 → y ≠ 548 → (y < 1 + 83 * n ∨ 84 + 83 * n ≤ y) → P' y = P y
theorem k_addStreet {c n l a b t : Nat} {σ : St} {Q : Int32 → St → Prop} (ok : okP c n l (pgW σ 7)) (I : hst σ) (hn6 : n < 6) (ha1 : 1 ≤ a) (ha : a ≤ 20) (hb : b ≤ 60) (ht : t ≤ 9) (hQ : ∀ τ P', CL σ τ P' → asP n (nI a) (nI b) (nI t) (pgW σ 7) P' → Q (nI n) τ) : m_9_addStreet 0 (nI a) (nI b) (nI t) Q σ := by
  unfold m_9_addStreet
  refine ⟨fun q => absurd ((ltI (b := 1) (by omega) (by omega)).mp q) (by omega), fun q1 => ⟨fun q => absurd ((ltI (a := 20) (by omega) (by omega)).mp q) (by omega), fun _ => ?_⟩⟩
  refine ⟨fun q => absurd q (nn0 (by omega)), fun _ => ⟨fun q => absurd ((ltI (a := 60) (by omega) (by omega)).mp q) (by omega), fun _ => ?_⟩⟩
  refine ⟨fun q => absurd q (nn0 (by omega)), fun _ => ⟨fun _ => ?_, fun q => absurd ((leI (b := 9) (by omega) (by omega)).mpr (by omega)) q⟩⟩
  rw [show (0 + 7 : Nat) = 7 from rfl, g0, ok.1.1]
  refine ⟨fun q => ?_, fun q => absurd ((ltI (b := 6) (by omega) (by omega)).mpr hn6) q⟩
  refine krem ok I (fun τ hτ => ?_)
  have pg : pgW τ 7 = pgW σ 7 := hτ.1
  refine s_8_appendStreet (B := 7) (by rw [pg]; exact ok.1.1) hn6 (fun σ6 P' t6 a0 a1 a2 a3 a4 a5 a6 => ?_)
  rw [pg] at a6
  exact hQ σ6 P' (hτ.tw t6) ⟨a0, a1, a2, a3, a4, a5, a6⟩
theorem k_shift {c n l : Nat} {σ : St} {Q : Int32 → St → Prop} (ok : okP c n l (pgW σ 7)) (I : hst σ) (hQ : ∀ τ P1, CL σ τ (pgW τ 7) → clrP l (pgW σ 7) P1 → okP (c + 1) n l (pgW τ 7) → EV n l (pgW τ 7) (endF (upd (legsF id P1 l).1 554 (nI (doneF id P1 l))) (legsF id P1 l).2) → Q (pgW τ 7 552) τ) : m_9_shift 0 Q σ := by
  unfold m_9_shift
  refine krem ok I (fun τ hτ => ?_)
  have pg : pgW τ 7 = pgW σ 7 := hτ.1
  refine s_5_carryOut (R := 41) (B := 7) (c := c) (n := n) (l := l) (by decide) (by omega) (by rw [pg]; exact ok) (fun τ1 P1 hclr hfr ok1 hev => ?_)
  rw [pg] at hclr
  rw [show (0 + 7 + 5 : Nat) = 7 + 5 from rfl, grep τ1 7 (k := 3) (by omega)]
  obtain ⟨-, ⟨x, k, b1, b2, b3, b4⟩, h3⟩ := hτ
  refine hQ τ1 P1 ⟨rfl, ⟨x, k, b1, b2, ?_, ?_⟩, fun a ha => ?_⟩ hclr ok1 hev
  · rw [hfr 42 (by omega) (by omega)]; exact b3
  · rw [hfr 42 (by omega) (by omega)]; exact b4
  · rw [hfr a (by omega) (by omega), h3 a ha]
theorem k_night {c n l nn : Nat} {σ : St} {Q : Int32 → St → Prop} (ok : okP c n l (pgW σ 7)) (I : hst σ) (h1 : 1 ≤ nn) (hn : nn ≤ 30) (hQ : ∀ τ P', CL σ τ (upd P' 563 (pgW σ 7 563 + nI nn)) → nG n (pgW σ 7) (fun _ _ _ => nn) (nI nn * fS (pgW σ 7) n) P' → okP c n l (pgW τ 7) → Q (oS (pgW τ 7) n) τ) : m_9_night 0 (nI nn) Q σ := by
  unfold m_9_night
  refine ⟨fun q => absurd ((ltI (b := 1) (by omega) (by omega)).mp q) (by omega), fun q => ⟨fun _ => ?_, fun q => absurd ((leI (b := 30) (by omega) (by omega)).mpr (by omega)) q⟩⟩
  refine krem ok I (fun τ hτ => ?_)
  have pg : pgW τ 7 = pgW σ 7 := hτ.1
  refine s_8_passNights (B := 7) (by rw [pg]; exact ok) (by omega) (fun σ6 P' t6 a6 => ?_)
  rw [pg] at t6 a6
  have ok6 : okP c n l (pgW σ6 7) := by
    rw [t6.1]
    exact (ok.night a6).inert (inert_hi (by omega) (by omega))
  refine s_8_dirtOnStreets ok6 ?_
  exact hQ σ6 P' (hτ.tw t6) a6 ok6
theorem k_rain {c n l nn : Nat} {σ : St} {Q : Int32 → St → Prop} (ok : okP c n l (pgW σ 7)) (I : hst σ) (h1 : 1 ≤ nn) (hn : nn ≤ 100) (hQ : ∀ τ acc, CL σ τ (rnA (nI nn) (pgW σ 7) n) → rnA (nI nn) (pgW σ 7) n 560 = pgW σ 7 560 + acc → Q acc τ) : m_9_rain 0 (nI nn) Q σ := by
  unfold m_9_rain
  refine ⟨fun q => absurd ((ltI (b := 1) (by omega) (by omega)).mp q) (by omega), fun q => ⟨fun _ => ?_, fun q => absurd ((leI (b := 100) (by omega) (by omega)).mpr (by omega)) q⟩⟩
  refine krem ok I (fun τ hτ => ?_)
  have pg : pgW τ 7 = pgW σ 7 := hτ.1
  refine s_8_washStreets (B := 7) (q := nn) (by rw [pg]; exact ok) (by omega) (fun σ6 acc t6 a6 => ?_)
  rw [pg] at t6 a6
  exact hQ σ6 acc (hτ.tw t6) a6
