theorem narI {v : Int32} (h : isB v) : vp_nar .boolean v = v := nar_b h
theorem p_park {c : Nat} {σ : St} {x1 x2 x3 x4 : Int32} {H : Int32 → St → Prop} {K : Int32 → Int32 → St → Prop} (hx4 : isB x4) (I : Inv c σ) (hH : ∀ v σ1, m_10_park 354 x1 x2 x3 x4 (K v) σ1 → H v σ1) (h : ∀ v τ, Inv (c + 1) τ → K v v τ) : m_9_park 0 x1 x2 x3 x4 H σ := by
  obtain ⟨n, l, ok, e, e5⟩ := id I.1
  have h6 := ok.1.2.1
  unfold m_9_park
  refine s_8_hasCell (B := 7) ok (fun i s k v hi e1 hs e2 hv hv20 hk e3 => ?_) (fun hn => ?_)
  · subst e1 e2 e3
    refine ⟨fun _ => ?_, fun q => absurd q (by decide)⟩
    refine rem1 I (fun τ hτ hlow => ?_)
    have pg : pgW τ 7 = pgW σ 7 := pgW_cg (fun a h1 h2 => hlow a (by omega))
    have hpk := (ok.2.2.1 i (20 * s + k) hi (by omega)).2
    rw [tn i (by omega)]
    refine ⟨vin (by omega), fun r5 er5 => ?_⟩
    rw [er5]
    refine s_9_placeOf ?_
    rw [tn (20 * s + k) (by omega)]
    refine ⟨vin (by omega), fun x7 e7 => ⟨vin (by omega), fun σ6 e6 => ?_⟩⟩
    rw [show (0 + 7 : Nat) = 7 from rfl, gpa τ 7 (by omega) (by omega), pg] at e7
    rw [show (0 + 7 : Nat) = 7 from rfl, narI hx4] at e6
    have t6 := tw_pa (toW.rf (σ := τ) (B := 7)) (i := i) (k := 20 * s + k) (v := x4) (by omega) (by omega)
    rw [← e6, pg] at t6
    have hrec := hτ.toW t6
    have hfr : σ6.1 355 = σ.1 355 := by
      obtain ⟨_, _, -, -, -, -, -, -, -, -, -, hfr⟩ := hrec
      exact hfr 355 (by omega)
    have fin : H x7 σ6 := by
      refine hH _ _ ?_
      unfold m_10_park
      have ev := vis_st (k := 0) (l := l) hi h6 (by omega)
      have es := e.st hi h6 (k := 0) (by omega)
      refine s_10_isCell (r0 := 354) (by rw [show (354 + 1 : Nat) = 355 from rfl, hfr]; exact ok.tr e) (fun _ _ _ _ _ _ _ _ _ _ _ _ => ?_) (fun q => absurd ⟨i, s, k, n, v, ?_, hi, h6, rfl, hs, rfl, ?_, hv20, hk, rfl⟩ q)
      · refine ⟨fun _ => ?_, fun q => absurd q (by decide)⟩
        refine rec1 I hrec (fun σ7 hR7 hfin => ?_)
        have R7 := hR7.at ok
        refine s_10_placeOf ?_
        rw [li 43, nI_add]
        refine s_10_of (by omega) (by omega) ?_
        refine s_10_placeOf ?_
        have eo : σ7.1 (354 + 1) (1 + 83 * i + (43 + (20 * s + k))) = x7 := by
          rw [e7, show 1 + 83 * i + (43 + (20 * s + k)) = 4 + 83 * i + (40 + (20 * s + k)) by omega, show 44 + 83 * i + (20 * s + k) = 4 + 83 * i + (40 + (20 * s + k)) by omega]
          exact (R7.2.1.k hi h6 (by omega)).symm
        rw [eo]
        have RD : RN c n l (upd (pgW σ 7) (44 + 83 * i + (20 * s + k)) x4) (upd (σ7.1 355) (44 + 83 * i + (20 * s + k)) x4) := R7.up (by omega) (by omega) (by omega) (ok.park hi (by omega) hx4)
        have go : m_10_sets 354 (nI i) (nI (43 + (20 * s + k))) x4 (fun σ_1 => K x7 x7 σ_1) σ7 := by
          refine s_10_sets (by omega) (by omega) ?_
          rw [show 1 + 83 * i + (43 + (20 * s + k)) = 44 + 83 * i + (20 * s + k) by omega]
          refine h _ _ (hfin (c + 1) _ (by omega) (modE.rf.p (by omega)) ((REL.of (n := n) (l := l) ?_).mono (c := c) (by omega)))
          rw [show (wr σ7 (354 + 1) (44 + 83 * i + (20 * s + k)) x4).1 355 = upd (σ7.1 355) (44 + 83 * i + (20 * s + k)) x4 from wr_at]
          exact RD
        rw [nI_add]
        rcases hx4 with rfl | rfl
        · refine ⟨fun _ => ?_, fun q => absurd rfl q⟩
          unfold m_10_park_51
          exact go
        · refine ⟨fun q => absurd q (by decide), fun _ => ?_⟩
          unfold m_10_park_51
          exact go
      · exact (congrFun hfr 0).trans ((e.lo vis_0 (by omega)).symm.trans ok.1.1)
      · exact (congrFun hfr _).trans (es.symm.trans hv)
    have hb : x7 = 0 ∨ x7 = 1 := by rw [e7]; exact hpk
    rcases hb with q | q
    · rw [q] at fin
      exact ⟨fun _ => fin, fun q2 => absurd q q2⟩
    · rw [q] at fin
      exact ⟨fun q2 => absurd (q.symm.trans q2) (by decide), fun _ => fin⟩
  · refine ⟨fun q => absurd rfl q, fun _ => hH _ _ ?_⟩
    unfold m_10_park
    refine s_10_isCell (r0 := 354) (ok.tr e) (fun i s k v hi e1 hs e2 hv hv20 hk e3 => absurd ?_ hn) (fun _ => ⟨fun q => absurd rfl q, fun _ => h _ _ (I.mono (by omega))⟩)
    have := e.st hi h6 (k := 0) (by omega)
    exact ⟨i, s, k, n, v, ok.1.1, hi, h6, e1, hs, e2, this.trans hv, hv20, hk, e3⟩
-- settings
def loS (k : Nat) : Nat := if k = 0 then 1 else if k = 1 then 20 else if k = 3 then 100 else 0
def hiS (k : Nat) : Nat := if k = 0 then 4 else if k = 1 then 2000 else if k = 2 then 9 else if k = 3 then 6000 else if k = 4 then 1000 else 400
theorem stV_lo : ∀ k, k < 6 → stV 1 k = nI (loS k) ∧ stV 2 k = nI (hiS k) ∧ hiS k ≤ 6000 ∧ loS k ≤ 100 := by decide +kernel
def okS (P : Nat → Int32) (k : Nat) (x : Int32) : Prop := ∃ j, loS k ≤ j ∧ j ≤ hiS k ∧ x = nI j ∧ (k = 1 → ¬ x < P 506)
theorem s_10_isNumber {r0 k : Nat} {x : Int32} {Q : Int32 → St → Prop} {σ : St} (hk : k < 6) (h1 : okS (σ.1 (r0 + 1)) k x → Q 1 σ) (h0 : ¬ okS (σ.1 (r0 + 1)) k x → Q 0 σ) : m_10_isNumber r0 (nI k) x Q σ := by
  unfold m_10_isNumber
  have b := stV_lo k hk
  have io : ∀ (a d : Nat), loS k = a → hiS k = d → k ≠ 1 → m_10_in x (nI a) (nI d) (fun v_3 σ_2 => (isB v_3 ∧ Q v_3 σ_2)) σ := fun a d ha hd hk1 =>
    s_10_inN (by omega) (by omega) (fun j q1 q2 e => ⟨isB1, h1 ⟨j, by omega, by omega, e, fun q => absurd q hk1⟩⟩) (fun q => ⟨isB0, h0 (by rintro ⟨j, q1, q2, e, -⟩; exact q j (by omega) (by omega) e)⟩)
  refine ⟨fun q => ?_, fun q => ?_, fun q => ?_, fun q => ?_, fun q => ?_, fun q => ?_, fun q => ?_⟩
  · rw [nI_toI (by omega)] at q
    omega
  · have : k = 0 := (eqi (b := 0) (by omega) (by omega)).mp q
    subst this
    exact io 1 4 rfl rfl (by omega)
  · have : k = 1 := (eqi (b := 1) (by omega) (by omega)).mp q
    subst this
    refine s_10_inN (a := 20) (b := 2000) (by omega) (by omega) (fun j q1 q2 e => ⟨fun q => absurd q (by decide), fun _ => ?_⟩) (fun q => ⟨fun _ => h0 (by rintro ⟨j, q1, q2, e, -⟩; exact q j q1 q2 e), fun q => absurd rfl q⟩)
    rw [t506]
    exact ⟨v506, fun q => h0 (by rintro ⟨j, -, -, -, q3⟩; exact q3 rfl q), fun q => h1 ⟨j, q1, q2, e, fun _ => q⟩⟩
  · have : k = 2 := (eqi (b := 2) (by omega) (by omega)).mp q
    subst this
    exact io 0 9 rfl rfl (by omega)
  · have : k = 3 := (eqi (b := 3) (by omega) (by omega)).mp q
    subst this
    exact io 100 6000 rfl rfl (by omega)
  · have : k = 4 := (eqi (b := 4) (by omega) (by omega)).mp q
    subst this
    exact io 0 1000 rfl rfl (by omega)
  · have : k = 5 := (eqi (b := 5) (by omega) (by omega)).mp q
    subst this
    exact io 0 400 rfl rfl (by omega)
theorem okP.set1 {c n l k : Nat} {P : Nat → Int32} {x : Int32} (ok : okP c n l P) (hk : k < 6) (hs : okS P k x) : okP c n l (upd P (499 + k) x) := by
  obtain ⟨j, j1, j2, rfl, j4⟩ := hs
  obtain ⟨s1, s2, s3, s4, s5, s6, s7⟩ := ok.2.2.2.2.1
  refine ok.sets (by omega) (by omega) ?_
  rcases (by omega : k = 0 ∨ k = 1 ∨ k = 2 ∨ k = 3 ∨ k = 4 ∨ k = 5) with rfl | rfl | rfl | rfl | rfl | rfl
  · exact ⟨⟨j, upd_s, j1, j2⟩, s2, s3, s4, s5, s6, s7⟩
  · obtain ⟨cap, g, q1, q2, q3, q4, q5⟩ := s2
    refine ⟨s1, ⟨j, g, upd_s, q2, j1, j2, ?_⟩, s3, s4, s5, s6, s7⟩
    have := j4 rfl
    have j2' : j ≤ 2000 := j2
    rw [q2, lti (by omega) (by omega)] at this
    omega
  · exact ⟨s1, s2, ⟨j, upd_s, j2⟩, s4, s5, s6, s7⟩
  · exact ⟨s1, s2, s3, ⟨j, upd_s, j1, j2⟩, s5, s6, s7⟩
  · exact ⟨s1, s2, s3, s4, ⟨j, upd_s, j2⟩, s6, s7⟩
  · exact ⟨s1, s2, s3, s4, s5, ⟨j, upd_s, j2⟩, s7⟩
theorem p_set {c : Nat} {σ : St} {x1 x2 : Int32} {H : Int32 → St → Prop} {K : Int32 → Int32 → St → Prop} (I : Inv c σ) (hH : ∀ v σ1, m_10_set 354 x1 x2 (K v) σ1 → H v σ1) (h : ∀ v τ, Inv (c + 1) τ → K v v τ) : m_9_set 0 x1 x2 H σ := by
  obtain ⟨n, l, ok, e, e5⟩ := id I.1
  have h6 := ok.1.2.1
  have no : ∀ {v : Int32}, v = 0 → ∀ {a b : Prop}, b → ((¬ v = 0 → a) ∧ (v = 0 → b)) := fun e _ _ hb => ⟨fun q => absurd e q, fun _ => hb⟩
  have out : (∀ k, k < 6 → x1 ≠ nI k) → H (-1) σ := fun hn => hH _ _ (by
    unfold m_10_set m_10_isNumber
    have nk : ∀ k, k < 6 → ¬ x1 = nI k := hn
    refine ⟨fun _ => no rfl (h _ _ (I.mono (by omega))), fun q => absurd q (nk 0 (by omega)), fun q => absurd q (nk 1 (by omega)), fun q => absurd q (nk 2 (by omega)), fun q => absurd q (nk 3 (by omega)), fun q => absurd q (nk 4 (by omega)), fun q => absurd q (nk 5 (by omega))⟩)
  unfold m_9_set
  rcases ix x1 6 with g | ⟨j, rfl, hj, hj2⟩ | ⟨k, rfl, hk⟩
  · exact ⟨fun _ => out (fun k hk => neg_ne g (by omega)), fun q => absurd g q⟩
  · exact ⟨fun q => absurd q (nn0 hj2), fun _ => ⟨fun _ => out (fun k hk e => by rw [eqI (by omega) (by omega)] at e; omega), fun q => absurd ((leI (a := 6) (by omega) (by omega)).mpr hj) q⟩⟩
  · refine ⟨fun q => absurd q (nn0 (by omega)), fun _ => ⟨fun q => absurd ((leI (a := 6) (by omega) (by omega)).mp q) (by omega), fun _ => ?_⟩⟩
    obtain ⟨b1, b2, b3, b4⟩ := stV_lo k hk
    obtain ⟨cap, g, q1, q2, q3, q4, q5⟩ := ok.2.2.2.2.1.2.1
    have bad : ¬ okS (pgW σ 7) k x2 → H (-1) σ := fun hn => hH _ _ (by
      unfold m_10_set
      refine s_10_isNumber hk (fun q => absurd ?_ hn) (fun _ => no rfl (h _ _ (I.mono (by omega))))
      obtain ⟨j, a1, a2, a3, a4⟩ := q
      exact ⟨j, a1, a2, a3, fun q => by rw [e.set (x := 506) (by omega) (by omega)]; exact a4 q⟩)
    have good : okS (pgW σ 7) k x2 → m_0_remember (0 + 42) (0 + 7) (fun σ_3 => vp_in (nI k) 6 ∧ ∀ x3_5 : Int32, x3_5 = (σ_3.1 ((0 + 7) + 3) (nI k).toNatClampNeg) → vp_in (nI k) 6 ∧ ∀ σ_6 : St, σ_6 = wr σ_3 ((0 + 7) + 3) (nI k).toNatClampNeg x2 → H x3_5 σ_6) σ := fun hs => by
      refine rem1 I (fun τ hτ hlow => ?_)
      have pg : pgW τ 7 = pgW σ 7 := pgW_cg (fun a h1 h2 => hlow a (by omega))
      rw [tn k (by omega), show (0 + 7 + 3 : Nat) = 7 + 3 from rfl, gset τ 7 hk, pg]
      refine ⟨vin (by omega), fun x3 e3 => ⟨vin (by omega), fun σ6 e6 => ?_⟩⟩
      have t6 := tw_seti (toW.rf (σ := τ) (B := 7)) (k := k) (v := x2) hk
      rw [← e6, pg] at t6
      have hrec := hτ.toW t6
      have hfr : σ6.1 355 = σ.1 355 := by
        obtain ⟨_, _, -, -, -, -, -, -, -, -, -, hfr⟩ := hrec
        exact hfr 355 (by omega)
      refine hH _ _ ?_
      unfold m_10_set
      refine s_10_isNumber hk (fun _ => ⟨fun _ => ?_, fun q => absurd q (by decide)⟩) (fun q => absurd ?_ q)
      · refine rec1 I hrec (fun σ7 hR7 hfin => ?_)
        have R7 := hR7.at ok
        rw [li 499, nI_add, tn _ (by omega), show (354 + 1 : Nat) = 355 from rfl, ← R7.2.1.set (x := 499 + k) (by omega) (by omega)]
        refine ⟨vq (by omega), fun x' e' => ⟨vq (by omega), fun σ8 e8 => ?_⟩⟩
        rw [e', ← e3]
        refine h _ _ (hfin (c + 1) _ (by omega) (by rw [e8]; exact modE.rf.p (by omega)) ((REL.of (n := n) (l := l) ?_).mono (c := c) (by omega)))
        rw [e8, wr_at]
        exact R7.up (by omega) (by omega) (by omega) (ok.set1 hk hs)
      · obtain ⟨j, a1, a2, a3, a4⟩ := hs
        exact ⟨j, a1, a2, a3, fun q => by rw [show (354 + 1 : Nat) = 355 from rfl, hfr, ← e.set (x := 506) (by omega) (by omega)]; exact a4 q⟩
    have main : ∀ lo : Nat, lo ≤ 2000 → loS k ≤ lo → (∀ j, j ≤ hiS k → x2 = nI j → lo ≤ j → okS (pgW σ 7) k x2) → (okS (pgW σ 7) k x2 → ∀ j, x2 = nI j → j < 1000000 → lo ≤ j) → ((x2 < nI lo → H (-1) σ) ∧ (¬ x2 < nI lo → vp_in (nI k) 6 ∧ ((x2 ≤ (stV 2 (nI k).toNatClampNeg) → m_0_remember (0 + 42) (0 + 7) (fun σ_3 => vp_in (nI k) 6 ∧ ∀ x3_5 : Int32, x3_5 = (σ_3.1 ((0 + 7) + 3) (nI k).toNatClampNeg) → vp_in (nI k) 6 ∧ ∀ σ_6 : St, σ_6 = wr σ_3 ((0 + 7) + 3) (nI k).toNatClampNeg x2 → H x3_5 σ_6) σ) ∧ (¬ x2 ≤ (stV 2 (nI k).toNatClampNeg) → H (-1) σ)))) := fun lo hlo hlo2 hy hn => by
      rw [tn k (by omega), b2]
      rw [tn k (by omega)] at good
      rcases ix x2 6001 with g | ⟨j, rfl, hj, hj2⟩ | ⟨j, rfl, hj⟩
      · have nb : ¬ okS (pgW σ 7) k x2 := by rintro ⟨j, a1, a2, a3, a4⟩; exact neg_ne g (by omega) a3
        exact ⟨fun _ => bad nb, fun q => ⟨vin (by omega), fun q2 => absurd (by
          rw [Int32.lt_iff_toInt_lt] at g ⊢
          rw [nI_toInt (by omega)]
          rw [show (0 : Int32).toInt = 0 from rfl] at g
          omega) q, fun _ => bad nb⟩⟩
      · have nb : ¬ okS (pgW σ 7) k (nI j) := by rintro ⟨j', a1, a2, a3, a4⟩; rw [eqI (by omega) (by omega)] at a3; omega
        exact ⟨fun _ => bad nb, fun q => ⟨vin (by omega), fun q2 => absurd ((leI (by omega) (by omega)).mp q2) (by omega), fun _ => bad nb⟩⟩
      · refine ⟨fun q => bad (fun q2 => ?_), fun q => ⟨vin (by omega), fun q2 => ?_, fun q2 => bad ?_⟩⟩
        · have := hn q2 j rfl (by omega)
          rw [ltI (by omega) (by omega)] at q
          omega
        · rw [ltI (by omega) (by omega)] at q
          rw [leI (by omega) (by omega)] at q2
          exact good (hy j q2 rfl (by omega))
        · rintro ⟨j', a1, a2, a3, a4⟩
          rw [eqI (by omega) (by omega)] at a3
          rw [leI (by omega) (by omega)] at q2
          omega
    unfold m_8_leastSetting
    rw [show (0 + 7 : Nat) = 7 from rfl, g506, q2, tn k (by omega), b1]
    rw [tn k (by omega)] at main
    refine ⟨fun q => ⟨vin (by omega), ?_⟩, fun q => ⟨vin (by omega), ?_⟩⟩
    · have hk1 : k ≠ 1 := fun e => q (by rw [e]; rfl)
      refine main (loS k) (by omega) (Nat.le_refl _) (fun j a1 a2 a3 => ⟨j, a3, a1, a2, fun q => absurd q hk1⟩) (fun q j ej hj => ?_)
      obtain ⟨j', a1, a2, a3, a4⟩ := q
      rw [ej, eqI (by omega) (by omega)] at a3
      omega
    · have hk1 : k = 1 := (eqi (b := 1) (by omega) (by omega)).mp q
      subst hk1
      have el : (if nI (loS 1) < nI g then nI g else nI (loS 1)) = nI (max g 20) := by
        rw [show loS 1 = 20 from rfl]
        by_cases z : 20 < g
        · rw [if_pos ((lti (by omega) (by omega)).mpr z), Nat.max_eq_left (by omega)]
        · rw [if_neg (fun z2 => z ((lti (by omega) (by omega)).mp z2)), Nat.max_eq_right (by omega)]
      rw [el]
      refine main (max g 20) (by omega) (by rw [show loS 1 = 20 from rfl]; omega) (fun j a1 a2 a3 => ⟨j, by rw [show loS 1 = 20 from rfl]; omega, a1, a2, fun _ => ?_⟩) (fun q j ej hj => ?_)
      · rw [q2, a2, ltI (by omega) (by omega)]
        omega
      · obtain ⟨j', a1, a2, a3, a4⟩ := q
        have a4 := a4 rfl
        rw [q2, ej, ltI (by omega) (by omega)] at a4
        rw [ej, eqI (by omega) (by omega)] at a3
        rw [show loS 1 = 20 from rfl] at a1
        omega
