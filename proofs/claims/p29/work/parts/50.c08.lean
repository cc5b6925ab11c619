theorem s_5_driveToLeg {c n l : Nat} {σ0 σ : St} {B R j : Nat} {P : Nat → Int32} {pos : Int32} {Q : Int32 → St → Prop} (hR : rfR R = B) (hRB : R < B ∨ B + 34 ≤ R) (t : toW σ0 σ B P) (ok : okP c n l P) (hp : σ.1 R 1 = pos) (hpo : posO n pos) (hj : j < l)
    (h0 : P 502 < P 550 + driV P pos (lgI P j) + 10 * P (2 + 83 * lgI P j) → Q 1 σ)
    (h1 : ¬ P 502 < P 550 + driV P pos (lgI P j) + 10 * P (2 + 83 * lgI P j) → ∀ τ, pgW τ B = upd P 550 (P 550 + driV P pos (lgI P j)) → τ.1 R 1 = nI (lgI P j) → (∀ a, (a < B ∨ B + 34 ≤ a) → a ≠ R → τ.1 a = σ.1 a) → Q 0 τ) : m_5_driveToLeg R (B + 2 + 22 + j) (B + 1 + 5 + 3 * lgI P j) Q σ := by
  have h6 := ok.1.2.1
  have h10 := ok.1.2.2.2
  obtain ⟨a1, a2, a3, a4⟩ := ok.lego.1 j hj
  unfold m_5_driveToLeg
  have ef : σ.1 (B + 2 + 22 + j) 0 = nI (lgI P j) := by rw [gle σ B (by omega) (by omega), t.g]; exact a2
  rw [ef]
  refine s_5_driveTo hR t ok hp hpo a1 ?_
  refine s_5_fits hR t (by omega) (fun q => ⟨fun q2 => absurd rfl q2, fun _ => h0 q⟩) (fun q => ⟨fun _ σ5 e5 σ6 e6 => ?_, fun q2 => absurd q2 (by decide)⟩)
  rw [hR, grep σ B (k := 1) (by omega), t.g, show (549 + 1 : Nat) = 550 from rfl] at e5
  have t5 := tw_rep t (k := 1) (v := P 550 + driV P pos (lgI P j)) (by omega)
  rw [← e5] at t5
  have ef5 : σ5.1 (B + 2 + 22 + j) 0 = nI (lgI P j) := by rw [gle σ5 B (by omega) (by omega), t5.g, upd_n (by omega)]; exact a2
  rw [ef5] at e6
  refine h1 q σ6 ?_ (by rw [e6, wr_same]) (fun a ha hr => ?_)
  · rw [e6, pgW_cg (σ := σ5) (fun a x1 x2 => wr_cell (by omega)), t5.1]
  · have t5' := tw_rep (toW.rf (σ := σ) (B := B)) (k := 1) (v := P 550 + driV P pos (lgI P j)) (by omega)
    rw [← e5] at t5'
    rw [e6, wr_cell hr, t5'.2.1 a ha]
/-- the cells of a leg, one after the other -/
theorem s_5_cells {c n l u : Nat} {σ0 σ : St} {B R j x2 : Nat} {P : Nat → Int32} {Q : St → Prop} {A : Int32 → St → Prop} (hR : rfR R = B) (t : toW σ0 σ B P) (ok : okU c n l u P) (z : P 549 = 0 ∨ True) (hj : j < l)
    (hQ : ∀ τ u', toW σ0 τ B (cellsF j (lgI P j) (lgS P j) (cellsN P (lgI P j)) P) → okU c n l u' (upd (cellsF j (lgI P j) (lgS P j) (cellsN P (lgI P j)) P) 549 0) → (∀ y, kp y → cellsF j (lgI P j) (lgS P j) (cellsN P (lgI P j)) P y = P y) → m_5_carryOut_163 R (B + 5) (nI x2) A Q τ) : itN (m_5_carryOut_120 R (B + 5) (nI x2) (B + 2 + 22 + j) (B + 1 + 5 + 3 * lgI P j) A Q) (fun _ _ => False) FU 0 σ := by
  have h6 := ok.1.1.2.1
  have h10 := ok.1.1.2.2.2
  obtain ⟨a1, a2, a3, a4⟩ := ok.1.lego.1 j hj
  obtain ⟨cv, cv1, cv2⟩ := ok.1.cells a1
  have kc : kp (1 + 83 * lgI P j) := Or.inr (Or.inl ⟨lgI P j, 0, by omega, by omega, by omega⟩)
  have kl : kp (508 + 4 * j + 1) := Or.inr (Or.inr (Or.inr (Or.inr (Or.inl ⟨by omega, by omega, by omega⟩))))
  refine it_cnt (fun (k : Nat) (D : Int32 → St → Prop) => ∀ τ u', toW σ0 τ B (cellsF j (lgI P j) (lgS P j) k P) → okU c n l u' (upd (cellsF j (lgI P j) (lgS P j) k P) 549 0) → (∀ y, kp y → cellsF j (lgI P j) (lgS P j) k P y = P y) → D (nI k) τ) (cellsN P (lgI P j)) (by omega) ?_ ?_ σ u t ⟨ok.1.inert (inert_hi (by omega) (by omega)), by show upd P 549 0 550 = nI u; rw [upd_n (by omega)]; exact ok.2.1, ok.2.2⟩ (fun _ _ => rfl)
  · intro k hk D hD τ u' tk okk kk
    unfold m_5_carryOut_120
    rw [gst τ B (k := 0) (by omega) (by omega), tk.g, show 1 + 83 * lgI P j + 0 = 1 + 83 * lgI P j from rfl, kk _ kc, cv]
    refine ⟨fun q => absurd q (nle_of hk (by omega)), fun _ => ?_⟩
    rw [grep τ B (k := 0) (by omega), tk.g, show (549 + 0 : Nat) = 549 from rfl]
    refine ⟨fun q => ?_, fun q => ?_⟩
    · have st := cellsF_stop q (cellsN P (lgI P j) - k)
      rw [show k + (cellsN P (lgI P j) - k) = cellsN P (lgI P j) by omega] at st
      exact hQ τ u' (by rw [st]; exact tk) (by rw [st]; exact okk) (fun y hy => by rw [st]; exact kk y hy)
    · rw [gle τ B (f := 1) (by omega) (by omega), tk.g, kk _ kl, a4]
      refine s_9_placeOf ?_
      have okk' : okU c n l u' (cellsF j (lgI P j) (lgS P j) k P) := by
        rw [upd_self q] at okk
        exact okk
      refine s_5_finishCell hR tk okk' q a1 (by omega) a3 (by omega) (fun τ1 P1 r u1 t1 ok1 z1 k1 e1 σ5 e5 x5 ex => ?_)
      rw [ex, li 1, nI_add]
      have t5 := tw_rep t1 (k := 0) (v := r) (by omega)
      rw [← e5, show (549 + 0 : Nat) = 549 from rfl, e1] at t5
      have ec : cellsF j (lgI P j) (lgS P j) (k + 1) P = cellF j (lgI P j) (lgS P j) k 7000 (cellsF j (lgI P j) (lgS P j) k P) := if_pos q
      refine hD σ5 u1 (by rw [ec]; exact t5) ?_ (fun y hy => ?_)
      · rw [ec, ← e1, upd_upd, upd_self z1]
        exact ok1
      · rw [ec, ← e1, upd_n (kp_x hy).2.2.2.2.1, k1 y hy]
        exact kk y hy
  · intro D τ u' tk okk kk
    unfold m_5_carryOut_120
    rw [gst τ B (k := 0) (by omega) (by omega), tk.g, show 1 + 83 * lgI P j + 0 = 1 + 83 * lgI P j from rfl, kk _ kc, cv]
    exact ⟨fun _ => hQ τ u' tk okk kk, fun q => absurd ((lei (by omega) (by omega)).mpr (Nat.le_refl _)) q⟩
theorem okP.dr {c n l i : Nat} {P : Nat → Int32} {x : Int32} (ok : okP c n l P) (hi : i < n) (hx : posO n x) : ∃ v, driV P x i = nI v ∧ v ≤ 650 := by
  have h6 := ok.1.2.1
  obtain ⟨d, d1, d2⟩ := ok.ds hi
  unfold driV
  split
  · exact ⟨0, rfl, by omega⟩
  · split
    · rw [d1, li 10, pk_mul]; exact ⟨10 * d, rfl, by omega⟩
    · rename_i q1 q2
      rcases hx with z | ⟨a, ha, rfl⟩
      · exact absurd z q2
      obtain ⟨b, b1, b2⟩ := ok.ds ha
      rw [tn a (by omega), b1, d1]
      by_cases z : d ≤ b
      · rw [if_pos ((subnn (by omega) (by omega)).mpr z), pk_sub z, li 10, pk_mul, li 50, nI_add]
        exact ⟨_, rfl, by omega⟩
      · rw [if_neg (fun q => z ((subnn (by omega) (by omega)).mp q)), show -(nI b - nI d) = nI d - nI b by grind, pk_sub (by omega), li 10, pk_mul, li 50, nI_add]
        exact ⟨_, rfl, by omega⟩
theorem okU.drv {c n l i u : Nat} {P : Nat → Int32} {x : Int32} (h : okU c n l u P) (hi : i < n) (hx : posO n x) (hf : ¬ P 502 < P 550 + driV P x i + 10 * P (2 + 83 * i)) : ∃ u', okU c n l u' (upd P 550 (P 550 + driV P x i)) := by
  obtain ⟨v, v1, v2⟩ := h.1.dr hi hx
  obtain ⟨d, d1, d2⟩ := h.1.ds hi
  obtain ⟨len, l1, l2⟩ := h.1.len
  have hu := h.2.2
  rw [v1, d1, l1, h.2.1, li 10, pk_mul, nI_add, nI_add, lti (by omega) (by omega)] at hf
  exact ⟨u + v, h.1.inert (inert_hi (by omega) (by omega)), by rw [upd_s, v1, h.2.1, nI_add], by omega⟩
def clrP (l : Nat) (P P1 : Nat → Int32) : Prop := (∀ y, 549 ≤ y → y < 555 → P1 y = 0) ∧ (∀ j, j < l → P1 (508 + 4 * j + 2) = 0 ∧ P1 (508 + 4 * j + 3) = 0) ∧ (∀ y, (y < 508 ∨ 555 ≤ y ∨ (508 ≤ y ∧ y < 548 ∧ (y - 508) % 4 < 2) ∨ y = 548) → P1 y = P y)
theorem clrP.ok {c n l : Nat} {P P1 : Nat → Int32} (h : clrP l P P1) (ok : okP c n l P) : okU c n l 0 P1 := by
  refine ⟨ok.cg (fun x hx _ => h.2.2 x ?_), h.1 550 (by omega) (by omega), by omega⟩
  unfold okR at hx
  omega
def EV (n l : Nat) (P p : Nat → Int32) : Prop := ∀ x, vis n l x → P x = p x
theorem pm_id {x : Nat} : pm id x = x := by
  unfold pm
  split
  · show 508 + 4 * ((x - 508) / 4) + (x - 508) % 4 = x
    omega
  · rfl
theorem AG.ofid {n l : Nat} {P p : Nat → Int32} (h : ∀ x, vs n l x → P x = p x) : AG n l id P p := fun x hx => by rw [pm_id]; exact h x hx
theorem AG.id {n l : Nat} {P p : Nat → Int32} (h : AG n l id P p) : ∀ x, vs n l x → P x = p x := fun x hx => by have := h x hx; rw [pm_id] at this; exact this
theorem ord_id (l : Nat) : ordO l id := ⟨fun _ h => h, fun _ _ _ _ h => h⟩
theorem okU.un {c n l u : Nat} {P : Nat → Int32} {v : Int32} (h : okU c n l u (upd P 549 v)) : okU c n l u P := by
  refine ⟨h.1.cg (fun x hx _ => ?_), ?_, h.2.2⟩
  · rw [upd_n (by unfold okR at hx; omega)]
  · have := h.2.1
    rw [upd_n (by omega)] at this
    exact this
theorem posO.hm {c n l : Nat} {P : Nat → Int32} {x : Int32} (ok : okP c n l P) (h : posO n x) : ∃ d, hmV P x = nI d ∧ d ≤ 600 := by
  unfold hmV
  rcases h with h | ⟨i, hi, rfl⟩
  · rw [if_pos h]; exact ⟨0, rfl, by omega⟩
  · have h6 := ok.1.2.1
    split
    · exact ⟨0, rfl, by omega⟩
    · obtain ⟨d, d1, d2⟩ := ok.ds hi
      rw [tn i (by omega), d1, li 10, pk_mul]
      exact ⟨10 * d, rfl, by omega⟩
theorem okP.en {c n l : Nat} {P : Nat → Int32} {x : Int32} (ok : okP c n l P) : okP (c + 1) n l (endF P x) := by
  have oka : okP c n l (endA P x) := ok.inert (inert_hi (by omega) (by omega))
  have okb : okP c n l (endB (endA P x)) := by
    unfold endB
    split
    · exact oka
    · exact oka.dm
  have okc : okP c n l (endC (endB (endA P x))) := by
    unfold endC
    split
    · exact okb
    · split
      · exact okb
      · rename_i q
        obtain ⟨v, v1, v2⟩ := okb.2.2.2.2.1.2.2.1
        rw [v1, show (1 : Int32) = nI 1 from rfl, show (1000 : Int32) = nI 1000 from rfl]
        rw [v1, show (0 : Int32) = nI 0 from rfl, lei (by omega) (by omega)] at q
        rw [pk_sub (by omega)]
        exact (okb.brush (w := 1000) (by omega)).spare (by omega)
  unfold endF endD
  obtain ⟨v, v1, v2⟩ := okc.2.2.2.2.2.2
  rw [v1, show (1 : Int32) = nI 1 from rfl, nI_add]
  exact ((okc.mono (Nat.le_succ c)).shifts (by omega)).known isB1
theorem EV.up {n l x : Nat} {P p : Nat → Int32} {v w : Int32} (h : EV n l P p) (e : v = w) : EV n l (upd P x v) (upd p x w) := by
  subst e
  intro y hy
  rw [rd_upd, rd_upd]
  split
  · rfl
  · exact h y hy
theorem EV.en {n l : Nat} {P p : Nat → Int32} {x : Int32} (h : EV n l P p) (hn : n ≤ 6) (hx : posO n x) : EV n l (endF P x) (endF p x) := by
  have hi : ∀ {P p : Nat → Int32}, EV n l P p → ∀ y, 499 ≤ y → y < 564 → y ≠ 555 → (y < 508 ∨ 548 ≤ y) → P y = p y := fun h y h1 h2 h3 h4 => h y ⟨h2, h3, fun _ _ => by omega, fun _ _ => by omega⟩
  have ha : EV n l (endA P x) (endA p x) := by
    unfold endA
    refine h.up ?_
    rw [hi h 550 (by omega) (by omega) (by omega) (by omega)]
    congr 1
    unfold hmV
    split
    · rfl
    · rename_i q
      rcases hx with z | ⟨i, hi', rfl⟩
      · exact absurd z q
      · rw [tn i (by omega)]
        have := h (1 + 83 * i + 1) (vis_st hi' hn (by omega))
        rw [show 1 + 83 * i + 1 = 2 + 83 * i by omega] at this
        rw [this]
  have hb : EV n l (endB (endA P x)) (endB (endA p x)) := by
    unfold endB
    rw [hi ha 506 (by omega) (by omega) (by omega) (by omega), hi ha 500 (by omega) (by omega) (by omega) (by omega)]
    split
    · exact ha
    · unfold dmp
      refine EV.up (ha.up ?_) rfl
      rw [hi ha 561 (by omega) (by omega) (by omega) (by omega), hi ha 506 (by omega) (by omega) (by omega) (by omega)]
  have hc : EV n l (endC (endB (endA P x))) (endC (endB (endA p x))) := by
    unfold endC
    rw [hi hb 503 (by omega) (by omega) (by omega) (by omega), hi hb 505 (by omega) (by omega) (by omega) (by omega), hi hb 501 (by omega) (by omega) (by omega) (by omega)]
    split
    · exact hb
    · split
      · exact hb
      · exact EV.up (hb.up rfl) rfl
  unfold endF endD
  exact EV.up (hc.up (by rw [hi hc 562 (by omega) (by omega) (by omega) (by omega)])) rfl
theorem s_5_endShift {c n l : Nat} {σ0 σ : St} {B R : Nat} {P : Nat → Int32} {pos : Int32} {Q : St → Prop} (hR : rfR R = B) (t : toW σ0 σ B P) (ok : okP c n l P) (hp : σ.1 R 1 = pos) (hpo : posO n pos) (hQ : ∀ τ, toW σ0 τ B (endF P pos) → Q τ) : m_5_endShift R Q σ := by
  have h6 := ok.1.2.1
  have d120 : ∀ τ X, toW σ0 τ B X → (toW σ0 τ B X → ∀ τ', toW σ0 τ' B (endD X) → Q τ') → m_5_endShift_120 R Q τ := fun τ X tx hq => by
    unfold m_5_endShift_120
    rw [hR, g562, tx.g]
    intro σ1 e1 σ2 e2
    have t1 := tw_n562 tx (v := X 562 + 1)
    rw [← e1] at t1
    have t2 := tw_n548 t1 (v := 1)
    rw [← e2] at t2
    exact hq tx σ2 t2
  have d66 : ∀ τ X, toW σ0 τ B X → (∀ τ', toW σ0 τ' B (endD (endC X)) → Q τ') → m_5_endShift_66 R Q τ := fun τ X tx hq => by
    unfold m_5_endShift_66
    rw [hR, tn4, tn2, gset τ B (k := 4) (by omega), gset τ B (k := 2) (by omega), g505, tx.g, tx.g, tx.g]
    unfold endC at hq
    refine ⟨vi4, fun q => ?_, fun q => ⟨vi2, fun q2 => ?_, fun q2 σ1 e1 => ⟨vi2, vi2, fun σ2 e2 => ?_⟩⟩⟩
    · rw [if_pos (show X 503 ≤ X 505 from q)] at hq
      exact d120 τ X tx (fun _ => hq)
    · rw [if_neg (show ¬ X 503 ≤ X 505 from q), if_pos (show X 501 ≤ 0 from q2)] at hq
      exact d120 τ X tx (fun _ => hq)
    · rw [if_neg (show ¬ X 503 ≤ X 505 from q), if_neg (show ¬ X 501 ≤ 0 from q2)] at hq
      have t1 := tw_n505 tx (v := 1000)
      rw [← e1] at t1
      rw [gset σ1 B (k := 2) (by omega), t1.g, upd_n (by omega), show (499 + 2 : Nat) = 501 from rfl] at e2
      have t2 := tw_seti t1 (k := 2) (v := X 501 - 1) (by omega)
      rw [← e2] at t2
      exact d120 σ2 _ t2 (fun _ => hq)
  have d38 : ∀ τ X, toW σ0 τ B X → (∀ τ', toW σ0 τ' B (endD (endC (endB X))) → Q τ') → m_5_endShift_38 R Q τ := fun τ X tx hq => by
    unfold m_5_endShift_38
    rw [hR, tn1, gset τ B (k := 1) (by omega), g506, tx.g, tx.g]
    unfold endB at hq
    refine ⟨vi1, fun q => ?_, fun q => ?_⟩
    · rw [if_pos (show 2 * X 506 < X 500 from q)] at hq
      exact d66 τ X tx hq
    · rw [if_neg (show ¬ 2 * X 506 < X 500 from q)] at hq
      refine s_8_emptyHopper tx (fun τ' t' => ?_)
      exact d66 τ' _ t' hq
  unfold m_5_endShift
  rw [hp]
  refine ⟨fun q => ?_, fun q => ?_⟩
  · refine d38 σ P t ?_
    have : endA P pos = P := by unfold endA hmV; rw [if_pos q, i0]; exact upd_self rfl
    unfold endF at hQ
    rw [this] at hQ
    exact hQ
  · rcases hpo with z | ⟨i, hi, rfl⟩
    · exact absurd z q
    rw [tn i (by omega)]
    refine ⟨vin (by omega), ?_⟩
    unfold m_6_driveToDump
    intro σ4 e4
    rw [hR, grep σ B (k := 1) (by omega), gst σ B (k := 1) (by omega) (by omega), t.g, t.g, show (549 + 1 : Nat) = 550 from rfl, show 1 + 83 * i + 1 = 2 + 83 * i by omega] at e4
    have t4 := tw_rep t (k := 1) (v := P 550 + 10 * P (2 + 83 * i)) (by omega)
    rw [← e4] at t4
    have : endA P (nI i) = upd P (549 + 1) (P 550 + 10 * P (2 + 83 * i)) := by unfold endA hmV; rw [if_neg q, tn i (by omega)]
    unfold endF at hQ
    rw [this] at hQ
    exact d38 σ4 _ t4 hQ
theorem s_5_carryOut {c n l : Nat} {σ : St} {B R : Nat} {Q : St → Prop} (hR : rfR R = B) (hRB : R < B ∨ B + 34 ≤ R) (ok : okP c n l (pgW σ B))
    (hQ : ∀ τ P1, clrP l (pgW σ B) P1 → (∀ a, (a < B ∨ B + 34 ≤ a) → a ≠ R → τ.1 a = σ.1 a) → okP (c + 1) n l (pgW τ B) → EV n l (pgW τ B) (endF (upd (legsF id P1 l).1 554 (nI (doneF id P1 l))) (legsF id P1 l).2) → Q τ) : m_5_carryOut R Q σ := by
  have h6 := ok.1.2.1
  have h10 := ok.1.2.2.2
  have h507 := ok.1.2.2.1
  unfold m_5_carryOut
  rw [hR]
  intro r1 er
  subst er
  unfold m_4_clear
  intro σ1 e1 σ2 e2 σ3 e3 σ4 e4 σ5 e5 σ6 e6 σ7 e7
  have t1 := tw_rep (toW.rf (σ := σ) (B := B)) (k := 0) (v := 0) (by omega)
  rw [← e1] at t1
  have t2 := tw_rep t1 (k := 1) (v := 0) (by omega)
  rw [← e2] at t2
  have t3 := tw_rep t2 (k := 2) (v := 0) (by omega)
  rw [← e3] at t3
  have t4 := tw_rep t3 (k := 3) (v := 0) (by omega)
  rw [← e4] at t4
  have t5 := tw_rep t4 (k := 4) (v := 0) (by omega)
  rw [← e5] at t5
  have t6 := tw_rep t5 (k := 5) (v := 0) (by omega)
  rw [← e6] at t6
  have g7 : ∀ a, a ≠ R → σ7.1 a = σ6.1 a := fun a ha => by rw [e7, wr_cell ha]
  have p7 : pgW σ7 B = pgW σ6 B := pgW_cg (fun a h1 h2 => g7 a (by omega))
  have z6 : ∀ y, 549 ≤ y → y < 555 → pgW σ7 B y = 0 := fun y h1 h2 => by
    rw [p7, t6.1]
    simp only [rd_upd]
    iterate 5 refine ite_e (fun _ => rfl) (fun _ => ?_)
    refine ite_e (fun _ => rfl) (fun _ => ?_)
    omega
  have n6 : ∀ y, (y < 549 ∨ 555 ≤ y) → pgW σ7 B y = pgW σ B y := fun y h => by
    rw [p7, t6.1]
    iterate 6 rw [upd_n (by omega)]
  refine it_cnt (fun (k : Nat) (A : Int32 → St → Prop) => ∀ τ X, toW σ7 τ B X → (∀ j, j < k → X (508 + 4 * j + 2) = 0 ∧ X (508 + 4 * j + 3) = 0) → (∀ y, (y < 508 ∨ 548 ≤ y ∨ (y - 508) % 4 < 2) → X y = pgW σ7 B y) → A (nI k) τ) l (by omega) ?_ ?_ σ7 _ toW.rf (fun j hj => by omega) (fun _ _ => rfl)
  · intro k hk A hA τ X tX x1 x2
    unfold m_5_carryOut_19
    rw [hR, g507, tX.g, x2 507 (by omega), n6 507 (by omega), h507]
    refine ⟨fun q => absurd q (nle_of hk (by omega)), fun _ => ?_⟩
    rw [tn k (by omega)]
    refine ⟨vin (by omega), fun σ8 e8 => ⟨vin (by omega), fun σ9 e9 x ex => ?_⟩⟩
    have t8 := tw_le tX (a := k) (f := 2) (v := 0) (by omega) (by omega)
    rw [← e8] at t8
    have t9 := tw_le t8 (a := k) (f := 3) (v := 0) (by omega) (by omega)
    rw [← e9] at t9
    rw [ex, li 1, nI_add]
    refine hA σ9 _ t9 (fun j hj => ?_) (fun y hy => ?_)
    · by_cases q : j = k
      · subst q
        exact ⟨by rw [upd_n (by omega), upd_s], by rw [upd_s]⟩
      · rw [upd_n (by omega), upd_n (by omega), upd_n (by omega), upd_n (by omega)]
        exact x1 j (by omega)
    · rw [upd_n (by omega), upd_n (by omega)]
      exact x2 y hy
  intro A τ P1 tX x1 x2
  unfold m_5_carryOut_19
  rw [hR, g507, tX.g, x2 507 (by omega), n6 507 (by omega), h507]
  refine ⟨fun _ => ?_, fun q => absurd ((lei (by omega) (by omega)).mpr (Nat.le_refl l)) q⟩
  have hclr : clrP l (pgW σ B) P1 := ⟨fun y h1 h2 => by rw [x2 y (by omega), z6 y h1 h2], x1, fun y hy => by rw [x2 y (by omega), n6 y (by omega)]⟩
  have okc := hclr.ok ok
  have fr7 : ∀ a, (a < B ∨ B + 34 ≤ a) → a ≠ R → σ7.1 a = σ.1 a := fun a h1 h2 => by rw [g7 a h2, t6.2.1 a h1]
  have legsz : ∀ k, k ≤ l → ∀ d, k + d = l → (legsF id P1 k).1 549 ≠ 0 → legsF id P1 l = legsF id P1 k ∧ doneF id P1 l = doneF id P1 k := fun k hk d hd h => by
    have := legsF_stop h d
    rw [hd] at this
    exact this
  have ends : ∀ τ Pc u k, k ≤ l → (k = l ∨ Pc 549 ≠ 0) → (∀ a, (a < B ∨ B + 34 ≤ a) → a ≠ R → τ.1 a = σ.1 a) → pgW τ B = Pc → τ.1 R 1 = (legsF id P1 k).2 → posO n (legsF id P1 k).2 → okU c n l u Pc → AG n l id Pc (legsF id P1 k).1 → Pc 554 = nI (doneF id P1 k) → m_5_carryOut_187 R Q τ := fun τ Pc u k hk hstop hfr hpg hpos hpo oku hag h554 => by
    unfold m_5_carryOut_187
    have el : legsF id P1 l = legsF id P1 k ∧ doneF id P1 l = doneF id P1 k := by
      rcases hstop with rfl | h
      · exact ⟨rfl, rfl⟩
      · refine legsz k hk (l - k) (by omega) ?_
        rw [← hag.hi (x := 549) (by omega) (by omega) (by omega) (by omega)]
        exact h
    have tt : toW τ τ B Pc := ⟨hpg, fun _ _ => rfl, rfl⟩
    refine s_5_endShift hR tt oku.1 hpos hpo (fun τ' t' => ?_)
    refine hQ τ' P1 hclr (fun a h1 h2 => by rw [t'.2.1 a h1, hfr a h1 h2]) (by rw [t'.1]; exact oku.1.en) ?_
    rw [t'.1, el.1, el.2]
    refine EV.en (fun x hx => ?_) h6 hpo
    rw [rd_upd]
    by_cases q : x = 554
    · rw [if_pos q, q]; exact h554
    · rw [if_neg q]; exact hag.id x ⟨hx, q⟩
  refine it_cnt (fun (k : Nat) (A : Int32 → St → Prop) => ∀ τ Pc u, (∀ a, (a < B ∨ B + 34 ≤ a) → a ≠ R → τ.1 a = σ.1 a) → pgW τ B = Pc → τ.1 R 1 = (legsF id P1 k).2 → posO n (legsF id P1 k).2 → okU c n l u Pc → AG n l id Pc (legsF id P1 k).1 → Pc 554 = nI (doneF id P1 k) → A (nI k) τ) l (by omega) ?_ ?_ τ P1 0 (fun a h1 h2 => by rw [tX.2.1 a h1, fr7 a h1 h2]) tX.1 ?_ (Or.inl rfl) okc (AG.ofid (fun _ _ => rfl)) (hclr.1 554 (by omega) (by omega))
  · intro k hk A hA τ Pc u hfr hpg hpos hpo oku hag h554
    have tt : toW τ τ B Pc := ⟨hpg, fun _ _ => rfl, rfl⟩
    unfold m_5_carryOut_64
    rw [hR, g507, hpg, oku.1.1.2.2.1]
    refine ⟨fun q => absurd q (nle_of hk (by omega)), fun _ => ?_⟩
    rw [grep τ B (k := 0) (by omega), hpg, show (549 + 0 : Nat) = 549 from rfl]
    refine ⟨fun q => ends τ Pc u k (by omega) (Or.inr q) hfr hpg hpos hpo oku hag h554, fun q => ?_⟩
    obtain ⟨a1, a2, a3, a4⟩ := oku.1.lego.1 k hk
    rw [tn k (by omega)]
    refine ⟨vin (by omega), fun r3 er3 => ?_⟩
    subst er3
    have ef : τ.1 (B + 2 + 22 + k) 0 = nI (lgI Pc k) := by rw [gle τ B (by omega) (by omega), hpg]; exact a2
    rw [ef, tn _ (by omega)]
    refine ⟨vin (by omega), fun r4 er4 => ?_⟩
    subst er4
    have hF : legsF id P1 (k + 1) = legF k (legsF id P1 k).1 (legsF id P1 k).2 := by
      have z : (legsF id P1 k).1 549 = 0 := by rw [← hag.hi (x := 549) (by omega) (by omega) (by omega) (by omega)]; exact q
      exact if_pos z
    have hdk : doneF id P1 k = k := legsF_on k (by rw [← hag.hi (x := 549) (by omega) (by omega) (by omega) (by omega)]; exact q)
    obtain ⟨hag1, hpos1⟩ := hag.leF (ord_id l) h10 h6 hk oku.1.lego hpo
    have hag1 : AG n l id (legF k Pc (legsF id P1 k).2).1 (legsF id P1 (k + 1)).1 := by rw [hF]; exact hag1
    have hpos1 : (legF k Pc (legsF id P1 k).2).2 = (legsF id P1 (k + 1)).2 := by rw [hF]; exact hpos1
    have d1 : doneF id P1 (k + 1) = if (legF k Pc (legsF id P1 k).2).1 549 = 0 then k + 1 else k := by
      have e : doneF id P1 (k + 1) = if (legsF id P1 k).1 549 = 0 ∧ (legsF id P1 (k + 1)).1 549 = 0 then k + 1 else doneF id P1 k := rfl
      rw [e, hdk, ← hag.hi (x := 549) (by omega) (by omega) (by omega) (by omega), ← hag1.hi (x := 549) (by omega) (by omega) (by omega) (by omega)]
      by_cases z : (legF k Pc (legsF id P1 k).2).1 549 = 0
      · rw [if_pos ⟨q, z⟩, if_pos z]
      · rw [if_neg (fun z2 => z z2.2), if_neg z]
    -- the leg's end
    have lend : ∀ τ' u' X, X = (legF k Pc (legsF id P1 k).2).1 → (∀ a, (a < B ∨ B + 34 ≤ a) → a ≠ R → τ'.1 a = σ.1 a) → pgW τ' B = X → τ'.1 R 1 = (legF k Pc (legsF id P1 k).2).2 → okU c n l u' X → m_5_carryOut_163 R (B + 5) (nI k) A Q τ' := fun τ' u' X eX hfr' hpg' hpos' oku' => by
      subst eX
      have tt' : toW τ' τ' B (legF k Pc (legsF id P1 k).2).1 := ⟨hpg', fun _ _ => rfl, rfl⟩
      have fin : ∀ v : Nat, v = doneF id P1 (k + 1) → m_5_carryOut_178 R (B + 5) (nI k) A Q (nI v) (B + 5) τ' := fun v hv => by
        unfold m_5_carryOut_178
        intro σ1 e1 x ex
        rw [ex, li 1, nI_add]
        have t1 := tw_rep tt' (k := 5) (v := nI v) (by omega)
        rw [← e1] at t1
        refine hA σ1 (upd (legF k Pc (legsF id P1 k).2).1 554 (nI v)) u' (fun a h1 h2 => by rw [t1.2.1 a h1, hfr' a h1 h2]) t1.1 ?_ ?_ ⟨oku'.1.inert (inert_hi (by omega) (by omega)), by rw [upd_n (by omega)]; exact oku'.2.1, oku'.2.2⟩ (AG.ofid (fun x hx => by rw [upd_n hx.2]; exact hag1.id x hx)) (by rw [upd_s, hv])
        · rw [e1, wr_cell (by omega), hpos']; exact hpos1
        · rw [← hpos1]
          unfold legF
          split
          · exact hpo
          · exact Or.inr ⟨_, a1, rfl⟩
      unfold m_5_carryOut_163
      rw [grep τ' B (k := 0) (by omega), hpg', show (549 + 0 : Nat) = 549 from rfl]
      refine ⟨fun z => ?_, fun z => ?_⟩
      · exact fin k (by rw [d1, if_neg z])
      · rw [li 1, nI_add]
        exact fin (k + 1) (by rw [d1, if_pos z])
    refine s_5_driveToLeg hR hRB tt oku.1 hpos hpo hk (fun nf σ7 e7 => ?_) (fun fi τ2 pg2 pos2 fr2 σ7 e7 => ?_)
    · have eL : legF k Pc (legsF id P1 k).2 = (upd Pc 549 1, (legsF id P1 k).2) := if_pos nf
      have t7 := tw_rep tt (k := 0) (v := 1) (by omega)
      rw [← e7, show (549 + 0 : Nat) = 549 from rfl] at t7
      obtain ⟨cv, cv1, cv2⟩ := oku.1.cells a1
      have ln := lend σ7 u (upd Pc 549 1) (by rw [eL]) (fun a h1 h2 => by rw [t7.2.1 a h1, hfr a h1 h2]) t7.1 (by rw [e7, wr_cell (by omega), eL]; exact hpos) ⟨oku.1.inert (inert_hi (by omega) (by omega)), by rw [upd_n (by omega)]; exact oku.2.1, oku.2.2⟩
      show m_5_carryOut_120 R (B + 5) (nI k) (B + 2 + 22 + k) (B + 1 + 5 + 3 * lgI Pc k) A Q (itN _ _ 999999) 0 σ7
      unfold m_5_carryOut_120
      rw [gst σ7 B (k := 0) (by omega) (by omega), t7.g, upd_n (by omega), show 1 + 83 * lgI Pc k + 0 = 1 + 83 * lgI Pc k from rfl, cv]
      refine ⟨fun q2 => ln, fun _ => ⟨fun _ => ln, fun q2 => ?_⟩⟩
      rw [grep σ7 B (k := 0) (by omega), t7.g, show (549 + 0 : Nat) = 549 from rfl, upd_s] at q2
      exact absurd q2 (by decide)
    · have eL : legF k Pc (legsF id P1 k).2 = (cellsF k (lgI Pc k) (lgS Pc k) (cellsN Pc (lgI Pc k)) (upd Pc 550 (Pc 550 + driV Pc (legsF id P1 k).2 (lgI Pc k))), nI (lgI Pc k)) := if_neg fi
      have t2 : toW τ2 τ2 B (upd Pc 550 (Pc 550 + driV Pc (legsF id P1 k).2 (lgI Pc k))) := ⟨pg2, fun _ _ => rfl, rfl⟩
      have t7 := tw_rep t2 (k := 0) (v := 0) (by omega)
      rw [← e7, show (549 + 0 : Nat) = 549 from rfl, upd_self (x := 549) (by rw [upd_n (by omega)]; exact q)] at t7
      have okd : ∃ u', okU c n l u' (upd Pc 550 (Pc 550 + driV Pc (legsF id P1 k).2 (lgI Pc k))) := oku.drv a1 hpo fi
      obtain ⟨u', okd⟩ := okd
      have el1 : lgI (upd Pc 550 (Pc 550 + driV Pc (legsF id P1 k).2 (lgI Pc k))) k = lgI Pc k := by unfold lgI; rw [upd_n (by omega)]
      have el2 : lgS (upd Pc 550 (Pc 550 + driV Pc (legsF id P1 k).2 (lgI Pc k))) k = lgS Pc k := by unfold lgS; rw [upd_n (by omega)]
      have el3 : cellsN (upd Pc 550 (Pc 550 + driV Pc (legsF id P1 k).2 (lgI Pc k))) (lgI Pc k) = cellsN Pc (lgI Pc k) := cellsN_upd (by omega)
      have cells := s_5_cells (x2 := k) (A := A) (Q := Q) hR t7 okd (Or.inr trivial) hk (fun τ3 u3 t3 ok3 kk => ?_)
      · rw [el1] at cells
        exact cells
      · rw [el1, el2, el3] at t3 ok3 kk
        refine lend τ3 u3 _ (by rw [eL]) (fun a h1 h2 => ?_) t3.1 ?_ ok3.un
        · rw [t3.2.1 a h1, fr2 a h1 h2, hfr a h1 h2]
        · rw [eL, t3.2.1 R hRB]
          exact pos2
  · intro A τ Pc u hfr hpg hpos hpo oku hag h554
    unfold m_5_carryOut_64
    rw [hR, g507, hpg, oku.1.1.2.2.1]
    exact ⟨fun _ => ends τ Pc u l (Nat.le_refl l) (Or.inl rfl) hfr hpg hpos hpo oku hag h554, fun q => absurd ((lei (by omega) (by omega)).mpr (Nat.le_refl l)) q⟩
  · rw [tX.2.1 R hRB, e7, wr_same]
    rfl
