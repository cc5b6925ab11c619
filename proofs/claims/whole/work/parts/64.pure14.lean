-- the calls that change: record, then change
def modE (τ υ : St) : Prop := (∀ y, 564 ≤ y → y < 5076 → υ.1 355 y = τ.1 355 y) ∧ (∀ a, a < 354 ∨ a = 356 → υ.1 a = τ.1 a) ∧ (∀ j, j = 1 ∨ j = 3 ∨ j = 4 → υ.1 354 j = τ.1 354 j)
theorem modE.rf {τ : St} : modE τ τ := ⟨fun _ _ _ => rfl, fun _ _ => rfl, fun _ _ => rfl⟩
theorem modE.tr {τ υ φ : St} (h : modE τ υ) (h' : modE υ φ) : modE τ φ := ⟨fun y h1 h2 => (h'.1 y h1 h2).trans (h.1 y h1 h2), fun a ha => (h'.2.1 a ha).trans (h.2.1 a ha), fun j hj => (h'.2.2 j hj).trans (h.2.2 j hj)⟩
theorem modE.p {τ υ : St} {x : Nat} {v : Int32} (h : modE τ υ) (hx : x < 564 ∨ 5076 ≤ x) : modE τ (wr υ 355 x v) := by
  refine ⟨fun y h1 h2 => ?_, fun a ha => ?_, fun j hj => ?_⟩
  · rw [wr_else (by omega)]; exact h.1 y h1 h2
  · rw [wr_cell (by omega)]; exact h.2.1 a ha
  · rw [wr_cell (by omega)]; exact h.2.2 j hj
theorem modE.f {τ υ : St} {x : Nat} {v : Int32} (h : modE τ υ) (hx : 5 ≤ x) : modE τ (wr υ 354 x v) := by
  refine ⟨fun y h1 h2 => ?_, fun a ha => ?_, fun j hj => ?_⟩
  · rw [wr_cell (by omega)]; exact h.1 y h1 h2
  · rw [wr_cell (by omega)]; exact h.2.1 a ha
  · rw [wr_else (by omega)]; exact h.2.2 j hj
theorem modE.o {τ υ : St} {a x : Nat} {v : Int32} (h : modE τ υ) (ha : 357 ≤ a) : modE τ (wr υ a x v) := by
  refine ⟨fun y h1 h2 => ?_, fun b hb => ?_, fun j hj => ?_⟩
  · rw [wr_cell (by omega)]; exact h.1 y h1 h2
  · rw [wr_cell (by omega)]; exact h.2.1 b hb
  · rw [wr_cell (by omega)]; exact h.2.2 j hj
theorem rem1 {c : Nat} {σ : St} {Q : St → Prop} (I : Inv c σ) (h : ∀ τ, clsRec c σ τ (pgW σ 7) → (∀ a, a < 42 → τ.1 a = σ.1 a) → Q τ) : m_0_remember 42 7 Q σ := by
  obtain ⟨⟨n, l, ok, -, -⟩, ⟨k, x, q1, q2, q3, q4, -, -⟩, -, -⟩ := I
  exact s_0_remember ok q3 q2 q4 q1 h
theorem rec2 {c : Nat} {σ σ1 : St} {P : Nat → Int32} {Q : St → Prop} (IR : REL c (pgW σ 7) (σ.1 355)) (IH : HIST c σ) (IT : TXT σ) (h1 : clsRec c σ σ1 P) (hF : σ1.1 0 8 = σ1.1 354 4) (h : ∀ σ2, REL c (pgW σ 7) (σ2.1 355) → (∀ c' σ3, c ≤ c' → modE σ2 σ3 → REL c' P (σ3.1 355) → Inv c' σ3) → Q σ2) : m_10_records 354 Q σ1 := by
  obtain ⟨k, x, q1, q2, q3, q4, q5, q6⟩ := id IH
  have h9 := h1
  obtain ⟨_, _, -, -, -, -, -, -, -, -, -, hfr⟩ := h9
  refine s_10_records (k := k) (by rw [hfr 354 (by omega)]; exact q5) q1 (fun σ2 m => ?_)
  refine h σ2 (IR.cg (fun i hi => by rw [m.2.2.2.1 i hi, hfr 355 (by omega)])) (fun c' σ3 hc d hR => ?_)
  obtain ⟨s1, s2, s3⟩ := step_rec IH IR IT hc q5 q1 h1 m (σ3 := σ3) (p := σ3.1 355) ⟨fun _ _ => rfl, d.1, d.2.1, fun j hj => d.2.2 j (by omega)⟩ hR
  refine ⟨s1, s2, s3, ?_⟩
  rw [d.2.1 0 (by omega), m.1 0 (by omega) (by omega), d.2.2 4 (by omega), m.2.1 4 (by omega)]
  exact hF
theorem rec1 {c : Nat} {σ σ1 : St} {P : Nat → Int32} {Q : St → Prop} (I : Inv c σ) (h1 : clsRec c σ σ1 P) (h : ∀ σ2, REL c (pgW σ 7) (σ2.1 355) → (∀ c' σ3, c ≤ c' → modE σ2 σ3 → REL c' P (σ3.1 355) → Inv c' σ3) → Q σ2) : m_10_records 354 Q σ1 := by
  refine rec2 I.1 I.2.1 I.2.2.1 h1 ?_ h
  obtain ⟨_, _, -, -, -, -, -, -, -, -, -, hfr⟩ := h1
  rw [hfr 0 (by omega), hfr 354 (by omega)]
  exact I.2.2.2
/-- class and model hold one page, bounds and all -/
def RN (c n l : Nat) (P p : Nat → Int32) : Prop := okP c n l P ∧ EQP n l P p ∧ p 555 = (if P 562 = 0 then 0 else 1)
theorem REL.of {c n l : Nat} {P p : Nat → Int32} (h : RN c n l P p) : REL c P p := ⟨n, l, h⟩
theorem REL.at {c n l : Nat} {P p : Nat → Int32} (h : REL c P p) (ok : okP c n l P) : RN c n l P p := by
  obtain ⟨n', l', o1, o2, o3⟩ := h
  have en := o1.inj ok.1.1 (by have := ok.1.2.1; omega)
  have el := o1.injl ok.1.2.2.1 (by have := ok.1.2.2.2; omega)
  subst en el
  exact ⟨o1, o2, o3⟩
/-- a place is written on both pages: it isn't the number of shifts nor whether legs are known -/
theorem RN.up {c n l x : Nat} {P p : Nat → Int32} {v : Int32} (h : RN c n l P p) (h1 : x ≠ 548) (h2 : x ≠ 562) (h3 : x ≠ 555) (ok : okP c n l (upd P x v)) : RN c n l (upd P x v) (upd p x v) :=
  ⟨ok, h.2.1.up h1 rfl, by rw [upd_n (by omega), upd_n (by omega)]; exact h.2.2⟩
theorem RN.un {c n l : Nat} {P p : Nat → Int32} (h : RN c n l P p) : RN c n l (upd P 548 0) (upd p 548 0) :=
  ⟨h.1.known isB0, eqp_un h.2.1, by rw [upd_n (by omega), upd_n (by omega)]; exact h.2.2⟩
theorem RN.hi {c n l x : Nat} {P p : Nat → Int32} {v : Int32} (h : RN c n l P p) (h1 : 549 ≤ x) (h2 : x ≠ 562) (h3 : x ≠ 555) : RN c n l (upd P x v) (upd p x v) :=
  h.up (by omega) h2 h3 (h.1.inert (inert_hi h1 h2))
theorem subpos {a b : Nat} (ha : a < 1000001) (hb : b < 1000001) : 0 < nI a - nI b ↔ b < a := by
  rw [Int32.lt_iff_toInt_lt, pk_sub_toInt (by omega) (by omega), show (0 : Int32).toInt = 0 from rfl]
  omega
theorem i0 (x : Int32) : x + 0 = x := Int32.add_zero x
theorem s_10_books {r0 k : Nat} {v : Int32} {Q : St → Prop} {σ : St} (hk : k < 6) (h : Q (wr σ (r0 + 1) (556 + k) (σ.1 (r0 + 1) (556 + k) + v))) : m_10_books r0 (nI k) v Q σ := by
  unfold m_10_books
  rw [li 556, nI_add, tn _ (by omega)]
  exact ⟨vq (by omega), vq (by omega), fun σ1 e => by rw [e]; exact h⟩
theorem s_9_placeOf {s k : Nat} {Q : Int32 → St → Prop} {σ : St} (h : Q (nI (20 * s + k)) σ) : m_9_placeOf (nI s) (nI k) Q σ := by
  unfold m_9_placeOf
  rw [li 20, pk_mul, nI_add, show s * 20 + k = 20 * s + k by omega]
  exact h
/-- what the two sums get when a cell's dirt o becomes v -/
def layP (P : Nat → Int32) (x : Nat) (o v : Nat) : Nat → Int32 := if v ≤ o then upd (upd P x (nI v)) 558 (P 558 + (nI o - nI v)) else upd (upd P x (nI v)) 556 (P 556 + (nI v - nI o))
theorem p_lay {c : Nat} {σ : St} {x1 x2 x3 x4 : Int32} {H : Int32 → St → Prop} {K : Int32 → Int32 → St → Prop} (I : Inv c σ) (hH : ∀ v σ1, m_10_lay 354 x1 x2 x3 x4 (K v) σ1 → H v σ1) (h : ∀ v τ, Inv (c + 1) τ → K v v τ) : m_9_lay 0 x1 x2 x3 x4 H σ := by
  obtain ⟨n, l, ok, e, e5⟩ := id I.1
  have h6 := ok.1.2.1
  unfold m_9_lay
  refine s_8_hasCell (B := 7) ok (fun i s k v hi e1 hs e2 hv hv20 hk e3 => ?_) (fun hn => ?_)
  · subst e1 e2 e3
    refine ⟨fun q => absurd q (by decide), fun _ => ?_⟩
    have cel : ∀ {σ' : St} {Q : Int32 → St → Prop}, (∃ c', okP c' n l (σ'.1 355)) → (∀ y, y < 508 → vis n l y → σ'.1 355 y = σ.1 355 y) → Q 1 σ' → m_10_isCell 354 (nI i) (nI s) (nI k) Q σ' := fun hc hy hq => by
      obtain ⟨c', ok'⟩ := hc
      refine s_10_isCell (r0 := 354) ok' (fun _ _ _ _ _ _ _ _ _ _ _ _ => hq) (fun q => absurd ⟨i, s, k, n, v, ok'.1.1, hi, h6, rfl, hs, rfl, ?_, hv20, hk, rfl⟩ q)
      have ev := vis_st (k := 0) (l := l) hi h6 (by omega)
      have := e.st hi h6 (k := 0) (by omega)
      exact ((hy _ (by omega) ev).trans this.symm).trans hv
    have bad : (∀ j, 0 ≤ j → j ≤ 99 → x4 ≠ nI j) → H (-1) σ := fun hq => hH _ _ (by
      unfold m_10_lay
      refine cel ⟨c, ok.tr e⟩ (fun _ _ _ => rfl) ⟨fun q => absurd q (by decide), fun _ => ?_⟩
      exact s_10_inN (a := 0) (b := 99) (by omega) (by omega) (fun j h1 h2 e => absurd e (hq j h1 h2)) (fun _ => ⟨fun q => absurd rfl q, fun _ => h _ _ (I.mono (by omega))⟩))
    rcases ix x4 100 with g | ⟨j, rfl, hj, hj2⟩ | ⟨w, rfl, hw⟩
    · exact ⟨fun _ => bad (fun j _ _ => neg_ne g (by omega)), fun q => absurd g q⟩
    · exact ⟨fun q => absurd q (nn0 hj2), fun _ => ⟨fun q => absurd ((leI (b := 99) (by omega) (by omega)).mp q) (by omega), fun _ => bad (fun k' h1 h2 e => by rw [eqI (by omega) (by omega)] at e; omega)⟩⟩
    · refine ⟨fun q => absurd q (nn0 (by omega)), fun _ => ⟨fun _ => ?_, fun q => absurd ((leI (b := 99) (by omega) (by omega)).mpr (by omega)) q⟩⟩
      refine rem1 I (fun τ hτ hlow => ?_)
      refine s_9_placeOf ?_
      obtain ⟨⟨o, ho, ho99⟩, hpk⟩ := ok.2.2.1 i (20 * s + k) hi (by omega)
      have pg : pgW τ 7 = pgW σ 7 := pgW_cg (fun a h1 h2 => hlow a (by omega))
      unfold m_8_layDirt
      rw [tn i (by omega), tn (20 * s + k) (by omega)]
      refine ⟨vin (by omega), fun r4 er4 => ?_⟩
      rw [er4]
      have ed : τ.1 (7 + 1 + 5 + 3 * i + 1) (20 * s + k) = nI o := by rw [gdi τ 7 (by omega) (by omega), pg]; exact ho
      rw [show (0 + 7 : Nat) = 7 from rfl, ed]
      refine ⟨vin (by omega), fun x5 e5' => ⟨vin (by omega), fun σ4 e4 => ⟨vi0, vi0, fun σ5 e5 => ⟨vi2, vi2, fun σ6 e6 => ?_⟩⟩⟩⟩
      subst e5'
      have t4 := tw_di (toW.rf (σ := τ) (B := 7)) (i := i) (k := 20 * s + k) (v := nI w) (by omega) (by omega)
      rw [← e4, pg] at t4
      have s0 : σ4.1 (7 + 4) 0 = pgW σ 7 556 := by rw [gsum σ4 7 (by omega), t4.g, upd_n (by omega)]
      rw [tn0, s0] at e5
      have t5 := tw_sum t4 (k := 0) (v := pgW σ 7 556 + (if 0 < nI w - nI o then nI w - nI o else 0)) (by omega)
      rw [← e5] at t5
      have s2 : σ5.1 (7 + 4) 2 = pgW σ 7 558 := by rw [gsum σ5 7 (by omega), t5.g, upd_n (by omega), upd_n (by omega)]
      rw [tn2, s2] at e6
      have t6 := tw_sum t5 (k := 2) (v := pgW σ 7 558 + (if 0 < nI o - nI w then nI o - nI w else 0)) (by omega)
      rw [← e6] at t6
      have pe : upd (upd (upd (pgW σ 7) (4 + 83 * i + (20 * s + k)) (nI w)) (556 + 0) (pgW σ 7 556 + (if 0 < nI w - nI o then nI w - nI o else 0))) (556 + 2) (pgW σ 7 558 + (if 0 < nI o - nI w then nI o - nI w else 0)) = layP (pgW σ 7) (4 + 83 * i + (20 * s + k)) o w := by
        unfold layP
        by_cases q : w ≤ o
        · rw [if_pos q, if_neg (fun q2 => by rw [subpos (by omega) (by omega)] at q2; omega), i0]
          rw [upd_self (x := 556 + 0) (by rw [upd_n (by omega)])]
          by_cases q3 : w = o
          · subst q3
            rw [if_neg (fun q2 => by rw [subpos (by omega) (by omega)] at q2; omega), pk_sub (Nat.le_refl _), Nat.sub_self]
            rfl
          · rw [if_pos ((subpos (by omega) (by omega)).mpr (by omega))]
        · rw [if_neg q, if_pos ((subpos (by omega) (by omega)).mpr (by omega)), if_neg (fun q2 => by rw [subpos (by omega) (by omega)] at q2; omega), i0]
          exact upd_self (by rw [upd_n (by omega), upd_n (by omega)])
      rw [pe] at t6
      have hrec := hτ.toW t6
      refine hH _ _ ?_
      have hfr : σ6.1 355 = σ.1 355 := by
        obtain ⟨_, _, -, -, -, -, -, -, -, -, -, hfr⟩ := hrec
        exact hfr 355 (by omega)
      unfold m_10_lay
      refine cel ⟨c, by rw [hfr]; exact ok.tr e⟩ (fun _ _ _ => by rw [hfr]) ⟨fun q => absurd q (by decide), fun _ => ?_⟩
      refine s_10_inN (a := 0) (b := 99) (by omega) (by omega) (fun j h1 h2 ej => ?_) (fun q => absurd rfl (q w (by omega) (by omega)))
      refine ⟨fun _ => ?_, fun q => absurd q (by decide)⟩
      refine rec1 I hrec (fun σ7 hR7 hfin => ?_)
      have R7 := hR7.at ok
      refine s_10_dirtOf (by omega) (by omega) ?_
      have eo : σ7.1 355 (4 + 83 * i + (20 * s + k)) = nI o := by rw [← R7.2.1.k hi h6 (by omega)]; exact ho
      rw [show (354 + 1 : Nat) = 355 from rfl, eo]
      refine s_10_placeOf ?_
      rw [li 3, nI_add]
      refine s_10_sets (by omega) (by omega) ?_
      rw [show 1 + 83 * i + (3 + (20 * s + k)) = 4 + 83 * i + (20 * s + k) by omega]
      have RD : RN c n l (upd (pgW σ 7) (4 + 83 * i + (20 * s + k)) (nI w)) (upd (σ7.1 355) (4 + 83 * i + (20 * s + k)) (nI w)) := R7.up (by omega) (by omega) (by omega) (ok.dirt hi (by omega) (by omega))
      have go : ∀ τ', τ'.1 355 = layP (σ7.1 355) (4 + 83 * i + (20 * s + k)) o w → modE σ7 τ' → K (nI o) (nI o) τ' := fun τ' h1 h2 => by
        refine h _ _ (hfin (c + 1) τ' (by omega) h2 ((REL.of (n := n) (l := l) ?_).mono (c := c) (by omega)))
        rw [h1]
        unfold layP
        have k558 := R7.2.1.hi (x := 558) (by omega) (by omega) (by omega)
        have k556 := R7.2.1.hi (x := 556) (by omega) (by omega) (by omega)
        by_cases q : w ≤ o
        · rw [if_pos q, if_pos q, k558]
          exact RD.hi (by omega) (by omega) (by omega)
        · rw [if_neg q, if_neg q, k556]
          exact RD.hi (by omega) (by omega) (by omega)
      have m1 : modE σ7 (wr σ7 355 (4 + 83 * i + (20 * s + k)) (nI w)) := modE.rf.p (by omega)
      have w1 : (wr σ7 355 (4 + 83 * i + (20 * s + k)) (nI w)).1 355 = upd (σ7.1 355) (4 + 83 * i + (20 * s + k)) (nI w) := wr_at
      refine ⟨fun q => ?_, fun q => ?_⟩
      · rw [leI (by omega) (by omega)] at q
        unfold m_10_lay_63
        refine ⟨fun _ => ?_, fun q2 => absurd ((leI (by omega) (by omega)).mpr q) q2⟩
        unfold m_10_lay_83
        refine s_10_books (k := 2) (by omega) ?_
        refine go _ ?_ (m1.p (by omega))
        refine wr_at.trans ?_
        unfold layP
        rw [if_pos q, wr_at, upd_n (by omega)]
      · rw [leI (by omega) (by omega)] at q
        unfold m_10_lay_63
        refine ⟨fun q2 => absurd ((leI (by omega) (by omega)).mp q2) q, fun _ => ?_⟩
        unfold m_10_lay_83
        refine s_10_books (k := 0) (by omega) ?_
        refine go _ ?_ (m1.p (by omega))
        refine wr_at.trans ?_
        unfold layP
        rw [if_neg q, wr_at, upd_n (by omega)]
  · refine ⟨fun _ => hH _ _ ?_, fun q => absurd rfl q⟩
    unfold m_10_lay
    refine s_10_isCell (r0 := 354) (ok.tr e) (fun i s k v hi e1 hs e2 hv hv20 hk e3 => absurd ?_ hn) (fun _ => ⟨fun _ => h _ _ (I.mono (by omega)), fun q => absurd rfl q⟩)
    have := e.st hi h6 (k := 0) (by omega)
    exact ⟨i, s, k, n, v, ok.1.1, hi, h6, e1, hs, e2, this.trans hv, hv20, hk, e3⟩
