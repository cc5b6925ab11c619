-- the law's own shift: its end
theorem EV.tr {n l : Nat} {P p q : Nat → Int32} (h : EV n l P p) (h' : EV n l p q) : EV n l P q := fun x hx => (h x hx).trans (h' x hx)
theorem QB.en {c n l : Nat} {X : Nat → Int32} {pos : Int32} (ok : okP c n l X) : QB n X (endF X pos) := by
  have h6 := ok.1.2.1
  have oka : okP c n l (endA X pos) := ok.inert (inert_hi (by omega) (by omega))
  have q1 : QB n X (endA X pos) := QB.hi ok (by omega) (by omega) (by omega)
  have okb : okP c n l (endB (endA X pos)) := by
    unfold endB
    split
    · exact oka
    · exact oka.dm
  have q2 : QB n (endA X pos) (endB (endA X pos)) := by
    unfold endB
    split
    · exact QB.rf
    · exact QB.dm oka
  have hcb : ∀ j, j < n → cellsN (endB (endA X pos)) j ≤ 20 := fun j hj => (okb.cells hj).2.2
  have q3 : QB n (endB (endA X pos)) (endC (endB (endA X pos))) := by
    unfold endC
    split
    · exact QB.rf
    · split
      · exact QB.rf
      · exact (QB.hi okb (by omega) (by omega) (by omega)).tr (QB.hi2 (fun j hj => by rw [cellsN_upd (by omega)]; exact hcb j hj) h6 (by omega) (by omega) (by omega))
  have hcc : ∀ j, j < n → cellsN (endC (endB (endA X pos))) j ≤ 20 := fun j hj => by
    have e : cellsN (endC (endB (endA X pos))) j = cellsN (endB (endA X pos)) j := by
      unfold cellsN
      rw [endC_y (by omega) (by omega)]
    rw [e]
    exact hcb j hj
  have q4 : QB n (endC (endB (endA X pos))) (endF X pos) :=
    (QB.hi2 (y := 562) hcc h6 (by omega) (by omega) (by omega)).tr (QB.hi2 (fun j hj => by rw [cellsN_upd (by omega)]; exact hcc j hj) h6 (by omega) (by omega) (by omega))
  exact ((q1.tr q2).tr q3).tr q4
theorem vIf_at {c n l : Nat} {P : Nat → Int32} (ok : okP c n l P) : vIf l P (P 499) = (legsF id (clF l P) l).1 552 := by
  obtain ⟨v, v1, v2, v3⟩ := ok.spd
  unfold vIf
  rw [upd_self rfl, v1, if_neg (show ¬ nI v < (1 : Int32) from fun q => absurd ((ltI (b := 1) (by omega) (by omega)).mp q) (by omega)), if_pos (show nI v ≤ (4 : Int32) from (leI (b := 4) (by omega) (by omega)).mpr v3)]
  rfl
theorem L_end {c n l u D : Nat} {P G : Nat → Int32} {pos : Int32} {σ : St} {Q : Int32 → St → Prop} (hc : c < 100000) (ok : okP c n l P) (sm : SM n l P) (hb : bal n P) (w : LW n P σ) (d : LD n l P G σ) (oG : okU c n l u G) (kG : KX n P G) (qG : QB n P G) (hpo : posO n pos) (hh : ¬ G 502 < G 550 + hmV G pos) (eG : (legsF id (clF l P) l).1 = G) (ep : (legsF id (clF l P) l).2 = pos) (eD : doneF id (clF l P) l = D)
    (h : ∀ τ, hst τ → okP (c + 1) n l (pgW τ 7) → bal n (pgW τ 7) → SM n l (pgW τ 7) → pgW τ 7 562 = P 562 + 1 → Q 1 τ) : at10 (fun x8 x9 x12 x14 x15 x16 x17 x18 x19 x20 τ => m_L_shift_664 0 (nI n) (nI l) 354 356 357 (P 499) x8 x9 (P 500) (P 501) x12 (P 503) x14 x15 x16 x17 x18 x19 x20 Q τ) G pos D σ := by
  obtain ⟨s1, s2, s3⟩ := id sm
  have h6 := ok.1.2.1
  have h10 := ok.1.2.2.2
  have k499 : ∀ y, 499 ≤ y → y < 505 → G y = P y := fun y h1 h2 => kG.1 y (kp_s ⟨h1, h2⟩)
  obtain ⟨E, hE⟩ : ∃ E, E = endF (upd G 554 (nI D)) pos := ⟨_, rfl⟩
  have hm : hmV (upd G 554 (nI D)) pos = hmV G pos := by
    unfold hmV
    rcases hpo with rfl | ⟨a, ha, rfl⟩
    · rfl
    · rw [tn a (by omega), upd_n (by omega)]
  have Ey : ∀ y, y ≠ 550 → y ≠ 561 → y ≠ 506 → y ≠ 505 → y ≠ 501 → y ≠ 562 → y ≠ 548 → y ≠ 554 → E y = G y := fun y g1 g2 g3 g4 g5 g6 g7 g8 => by
    rw [hE, endF_y g1 g2 g3 g4 g5 g6 g7, upd_n g8]
  have E554 : E 554 = nI D := by rw [hE, endF_y (by omega) (by omega) (by omega) (by omega) (by omega) (by omega) (by omega), upd_s]
  have E550 : E 550 = G 550 + hmV G pos := by rw [hE, endF_550, hm, upd_n (by omega)]
  have E562 : E 562 = P 562 + 1 := by
    rw [hE, endF_562, upd_n (by omega), kG.1 562 (Or.inr (Or.inr (Or.inr (Or.inr (Or.inr (Or.inr (Or.inr rfl)))))))]
  have E548 : E 548 = 1 := by rw [hE, endF_548]
  have E506 : E 506 = (if 2 * G 506 < G 500 then G 506 else 0) := by
    rw [hE, endF_506, upd_n (by omega), upd_n (by omega)]
  have E561 : E 561 = (if 2 * G 506 < G 500 then G 561 else G 561 + G 506) := by
    rw [hE, endF_561, upd_n (by omega), upd_n (by omega), upd_n (by omega)]
  have E505 : E 505 = if P 503 ≤ G 505 then G 505 else if P 501 ≤ 0 then G 505 else 1000 := by
    rw [hE, endF_505, upd_n (by omega), upd_n (by omega), upd_n (by omega), k499 503 (by omega) (by omega), k499 501 (by omega) (by omega)]
  have E501 : E 501 = if P 503 ≤ G 505 then P 501 else if P 501 ≤ 0 then P 501 else P 501 - 1 := by
    rw [hE, endF_501, upd_n (by omega), upd_n (by omega), upd_n (by omega), k499 503 (by omega) (by omega), k499 501 (by omega) (by omega)]
  have ok554 : okP c n l (upd G 554 (nI D)) := oG.1.inert (inert_hi (by omega) (by omega))
  have balE : bal n E := by
    refine ((qG.tr (QB.hi oG.1 (y := 554) (v := nI D) (by omega) (by omega) (by omega))).tr ?_).bal hb
    rw [hE]
    exact QB.en ok554
  have h724 : ∀ t0 : Int32, (t0 = 0 ∧ E 505 = G 505 ∧ E 501 = P 501 ∨ t0 = 1 ∧ E 505 = 1000 ∧ E 501 = P 501 - 1) → m_L_shift_724 0 (nI n) (nI l) 354 356 357 (P 499) (G 505) (if 2 * G 506 < G 500 then G 506 else 0) (P 501) (G 502 - G 550 - hmV G pos) (if 2 * G 506 < G 500 then G 561 else G 561 + G 506) (G 549) (G 551) (G 552) (G 553) (nI D) Q t0 σ := fun t0 ht => by
    unfold m_L_shift_724
    refine s_9_ifSpeed (c := c) (n := n) (l := l) (by rw [w.1]; exact ok) (fun τ1 f1 => ?_)
    have g1 : pgW τ1 7 = P := by rw [f1.pg, w.1]
    have I1 : hst τ1 := by
      obtain ⟨x, k, q1, q2, q3, q4⟩ := w.2.1
      exact ⟨x, k, q1, q2, by rw [f1 42 (by omega)]; exact q3, by rw [f1 42 (by omega)]; exact q4⟩
    rw [w.1, vIf_at ok, eG]
    refine a_cnt (k := 7) (by omega) (by omega) ?_
    rw [g1, show cntA 7 = 502 from rfl]
    refine k_shift (c := c) (n := n) (l := l) (by rw [g1]; exact ok) I1 (fun τ2 P1 cl hclr ok1 hev => ?_)
    rw [g1] at hclr
    have ev : EV n l (pgW τ2 7) E := by
      refine hev.tr ?_
      have e := shift_ev ok EQP.rf hclr (clF_clr (l := l) (P := P) h10)
      rw [eG, ep, eD, ← hE] at e
      exact e
    have far : ∀ a, 354 ≤ a → τ2.1 a = σ.1 a := fun a ha => by rw [cl.2.2 a ha, f1 a (Or.inr ha)]
    have ec : ∀ i, i < n → cellsN (pgW τ2 7) i = cellsN P i := fun i hi => by
      unfold cellsN
      rw [ev (1 + 83 * i) (vis_st (k := 0) hi h6 (by omega)), Ey _ (by omega) (by omega) (by omega) (by omega) (by omega) (by omega) (by omega) (by omega), kG.1 (1 + 83 * i) (kp_t (i := i) (r := 0) (by omega) (by omega))]
    have sm2 : SM n l (pgW τ2 7) := ⟨s1, s2, fun i hi => by rw [ec i hi]; exact s3 i hi⟩
    have v : ∀ y, 549 ≤ y → y < 564 → y ≠ 555 → pgW τ2 7 y = E y := fun y y1 y2 y3 => ev y (vis_hi (by omega) y2 y3)
    have vs : ∀ y, 499 ≤ y → y < 508 → pgW τ2 7 y = E y := fun y y1 y2 => ev y (vis_set y1 y2)
    have z548 : pgW τ2 7 548 ≠ 0 := by
      rw [ev 548 (vis_hi (by omega) (by omega) (by omega)), E548]
      decide
    have z562 : pgW τ2 7 562 = P 562 + 1 := by rw [v 562 (by omega) (by omega) (by omega), E562]
    have n562 : pgW τ2 7 562 ≠ 0 := by
      obtain ⟨m, m1, m2⟩ := ok.2.2.2.2.2.2
      rw [z562, m1, iplus]
      exact fun q => absurd ((eqi (b := 0) (by omega) (by omega)).mp q) (by omega)
    have lz : LZ n l τ2 := by
      refine ⟨fun i s k hi hs hk => ?_, fun j hj => ?_⟩
      · rw [ec i hi] at hk ⊢
        have c6 := s3 i hi
        have e := ev (1 + 83 * i + (3 + (20 * s + k))) (vis_st hi h6 (by omega))
        rw [show 1 + 83 * i + (3 + (20 * s + k)) = 4 + 83 * i + (20 * s + k) by omega] at e
        rw [far 354 (by omega), d.1 i s k hi hs hk, e, Ey _ (by omega) (by omega) (by omega) (by omega) (by omega) (by omega) (by omega) (by omega)]
      · rw [far 356 (by omega), far 357 (by omega), (d.2 j hj).1, (d.2 j hj).2, ev _ (vis_le (f := 2) hj h10 (by omega)), ev _ (vis_le (f := 3) hj h10 (by omega)), Ey _ (by omega) (by omega) (by omega) (by omega) (by omega) (by omega) (by omega) (by omega), Ey _ (by omega) (by omega) (by omega) (by omega) (by omega) (by omega) (by omega) (by omega)]
        exact ⟨rfl, rfl⟩
    have b2 : bal n (pgW τ2 7) := bal_ev ok1 ev balE
    have z552 : pgW τ2 7 552 = G 552 := by rw [v 552 (by omega) (by omega) (by omega), Ey _ (by omega) (by omega) (by omega) (by omega) (by omega) (by omega) (by omega) (by omega)]
    have h833 : m_L_shift_833 0 (nI n) (nI l) 354 356 357 (G 502 - G 550 - hmV G pos) (G 549) (G 551) (G 552) (G 553) (nI D) (P 502) Q 1 τ2 := by
      refine L_833 (n := n) (l := l) n562 ?_ ?_ ?_ z552 ?_ ?_ (L_913 ok1 sm2 lz z548 b2 (h τ2 cl.2.1 ok1 b2 sm2 z562))
      · rw [v 549 (by omega) (by omega) (by omega), Ey _ (by omega) (by omega) (by omega) (by omega) (by omega) (by omega) (by omega) (by omega)]
      · rw [v 550 (by omega) (by omega) (by omega), E550, k499 502 (by omega) (by omega)]
        grind
      · rw [v 551 (by omega) (by omega) (by omega), Ey _ (by omega) (by omega) (by omega) (by omega) (by omega) (by omega) (by omega) (by omega)]
      · rw [v 553 (by omega) (by omega) (by omega), Ey _ (by omega) (by omega) (by omega) (by omega) (by omega) (by omega) (by omega) (by omega)]
      · rw [v 554 (by omega) (by omega) (by omega), E554]
    refine ⟨fun q => absurd z552 q, fun _ => ⟨fun q => absurd rfl q, fun _ => ⟨fun _ => ?_, fun q => absurd ?_ q⟩⟩⟩
    · refine a_cnt (k := 3) (by omega) (by omega) ?_
      rw [show cntA 3 = 505 from rfl]
      have e6 : pgW τ2 7 506 = (if 2 * G 506 < G 500 then G 506 else 0) := by rw [vs 506 (by omega) (by omega), E506]
      have e14 : pgW τ2 7 561 = (if 2 * G 506 < G 500 then G 561 else G 561 + G 506) := by rw [v 561 (by omega) (by omega) (by omega), E561]
      rcases ht with ⟨t1, t2, t3⟩ | ⟨t1, t2, t3⟩
      · subst t1
        refine ⟨fun _ => ?_, fun q => absurd rfl q⟩
        exact L_783 ok1 (by rw [vs 505 (by omega) (by omega), t2]) e6 (fun _ => by rw [vs 501 (by omega) (by omega), t3]; grind) (fun q => absurd rfl q) e14 h833
      · subst t1
        refine ⟨fun q => absurd q (by decide), fun _ => ?_⟩
        exact L_783 ok1 (by rw [vs 505 (by omega) (by omega), t2]) e6 (fun q => absurd q (by decide)) (fun _ => by rw [vs 501 (by omega) (by omega), t3]) e14 h833
    · obtain ⟨len, l1, l2⟩ := oG.1.len
      obtain ⟨dd, d1, d2⟩ := posO.hm oG.1 hpo
      obtain ⟨-, u1, u2⟩ := id oG
      have hh2 := hh
      rw [l1, u1, d1, nI_add, lti (by omega) (by omega)] at hh2
      rw [l1, u1, d1, pk_sub (by omega), pk_sub (by omega)]
      exact (lei (a := 0) (by omega) (by omega)).mpr (Nat.zero_le _)
  have h707 : m_L_shift_707 0 (nI n) (nI l) 354 356 357 (P 499) (G 505) (if 2 * G 506 < G 500 then G 506 else 0) (P 501) (G 502 - G 550 - hmV G pos) (P 503) (if 2 * G 506 < G 500 then G 561 else G 561 + G 506) (G 549) (G 551) (G 552) (G 553) (nI D) Q σ := by
    unfold m_L_shift_707
    refine ⟨fun q => h724 0 (Or.inl ⟨rfl, by rw [E505, if_pos q], by rw [E501, if_pos q]⟩), fun q => ⟨fun q2 => h724 0 (Or.inl ⟨rfl, by rw [E505, if_neg q, if_pos q2], by rw [E501, if_neg q, if_pos q2]⟩), fun q2 => h724 1 (Or.inr ⟨rfl, by rw [E505, if_neg q, if_neg q2], by rw [E501, if_neg q, if_neg q2]⟩)⟩⟩
  have h685 : ∀ t0 : Int32, t0 = hmV G pos → m_L_shift_685 0 (nI n) (nI l) 354 356 357 (P 499) (G 505) (G 506) (P 500) (P 501) (P 503) (G 561) (G 549) (G 551) (G 552) (G 553) (nI D) Q t0 (G 502 - G 550) σ := fun t0 et => by
    unfold m_L_shift_685
    intro x12 e12
    rw [e12, et, ← k499 500 (by omega) (by omega)]
    refine ⟨fun q => ?_, fun q x14 e14 => ?_⟩
    · have h := h707
      rw [if_pos q, if_pos q] at h
      exact h
    · have h := h707
      rw [if_neg q, if_neg q] at h
      rw [e14]
      exact h
  unfold at10 m_L_shift_664
  rcases hpo with rfl | ⟨a, ha, rfl⟩
  · exact ⟨fun q => absurd q (by decide), fun _ => h685 0 (by unfold hmV; rw [if_pos rfl])⟩
  · have nn : (0 : Int32) ≤ nI a := (lei (a := 0) (by omega) (by omega)).mpr (Nat.zero_le _)
    refine ⟨fun _ => ?_, fun q => absurd nn q⟩
    refine a_st (c := c) (n := n) (l := l) (i := a) (r := 1) (by rw [w.1]; exact ok) ha (by omega) ?_
    refine h685 _ ?_
    unfold hmV
    rw [if_neg (neg1_ne (by omega)), tn a (by omega), w.1]
    have e := kG.1 (1 + 83 * a + 1) (kp_t (by omega) (by omega))
    rw [show 1 + 83 * a + 1 = 2 + 83 * a by omega] at e ⊢
    rw [e]
