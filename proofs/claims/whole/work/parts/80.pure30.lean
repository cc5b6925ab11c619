-- a shift, on the model's side
def moF (σ τ : St) : Prop := (∀ a, a ≠ 354 → a ≠ 355 → τ.1 a = σ.1 a) ∧ (∀ j, j ≠ 9 → j ≠ 10 → τ.1 354 j = σ.1 354 j) ∧ τ.2 = σ.2
def moS (σ τ : St) (p : Nat → Int32) (pos run : Int32) : Prop := τ.1 355 = p ∧ τ.1 354 9 = pos ∧ τ.1 354 10 = run ∧ moF σ τ
theorem moS.wp {σ τ : St} {p : Nat → Int32} {pos run v : Int32} {x : Nat} (h : moS σ τ p pos run) : moS σ (wr τ 355 x v) (upd p x v) pos run := by
  obtain ⟨h1, h2, h3, h4, h5, h6⟩ := h
  refine ⟨by rw [wr_at, h1], by rw [wr_cell (by omega)]; exact h2, by rw [wr_cell (by omega)]; exact h3, fun a ha hb => by rw [wr_cell hb]; exact h4 a ha hb, fun j h9 h10 => by rw [wr_cell (by omega)]; exact h5 j h9 h10, h6⟩
theorem moS.w9 {σ τ : St} {p : Nat → Int32} {pos run v : Int32} (h : moS σ τ p pos run) : moS σ (wr τ 354 9 v) p v run := by
  obtain ⟨h1, h2, h3, h4, h5, h6⟩ := h
  refine ⟨by rw [wr_cell (by omega)]; exact h1, wr_same, by rw [wr_else (by omega)]; exact h3, fun a ha hb => by rw [wr_cell ha]; exact h4 a ha hb, fun j h9 h10 => by rw [wr_else (by omega)]; exact h5 j h9 h10, h6⟩
theorem moS.w10 {σ τ : St} {p : Nat → Int32} {pos run v : Int32} (h : moS σ τ p pos run) : moS σ (wr τ 354 10 v) p pos v := by
  obtain ⟨h1, h2, h3, h4, h5, h6⟩ := h
  refine ⟨by rw [wr_cell (by omega)]; exact h1, by rw [wr_else (by omega)]; exact h2, wr_same, fun a ha hb => by rw [wr_cell ha]; exact h4 a ha hb, fun j h9 h10 => by rw [wr_else (by omega)]; exact h5 j h9 h10, h6⟩
theorem s_10_home {σ0 σ : St} {p : Nat → Int32} {pos run : Int32} {i : Nat} {Q : Int32 → St → Prop} (h : moS σ0 σ p pos run) (hi : i < 6) (hQ : Q (10 * p (2 + 83 * i)) σ) : m_10_home 354 (nI i) Q σ := by
  unfold m_10_home
  refine ⟨fun _ => s_10_of (k := 1) hi (by omega) ?_, fun q => absurd q (fun z => nn0 (j := i) (by omega) (z ▸ (by decide)))⟩
  have e : σ.1 (354 + 1) (1 + 83 * i + 1) = p (2 + 83 * i) := by rw [show 1 + 83 * i + 1 = 2 + 83 * i by omega]; exact congrFun h.1 _
  rw [e]
  exact hQ
theorem s_10_adds {σ0 σ : St} {p : Nat → Int32} {pos run v : Int32} {k : Nat} {Q : St → Prop} (h : moS σ0 σ p pos run) (hk : k < 6) (hQ : ∀ τ, moS σ0 τ (upd p (549 + k) (p (549 + k) + v)) pos run → Q τ) : m_10_adds 354 (nI k) v Q σ := by
  unfold m_10_adds
  rw [latI, tn _ (by omega), show (354 + 1 : Nat) = 355 from rfl, h.1]
  exact ⟨vq (by omega), vq (by omega), fun σ1 e => by rw [e]; exact hQ _ h.wp⟩
theorem s_10_bk {σ0 σ : St} {p : Nat → Int32} {pos run v : Int32} {k : Nat} {Q : St → Prop} (h : moS σ0 σ p pos run) (hk : k < 6) (hQ : ∀ τ, moS σ0 τ (upd p (556 + k) (p (556 + k) + v)) pos run → Q τ) : m_10_books 354 (nI k) v Q σ := by
  refine s_10_books hk ?_
  rw [show (354 + 1 : Nat) = 355 from rfl, h.1]
  exact hQ _ h.wp
theorem s_10_fits {σ0 σ : St} {p : Nat → Int32} {pos run x x3 : Int32} {i : Nat} {Q : Int32 → St → Prop} (h : moS σ0 σ p pos run) (hi : i < 6)
    (h0 : p 502 < p 550 + x + 10 * p (2 + 83 * i) → ∀ τ, moS σ0 τ (upd p 549 x3) pos 0 → Q 0 τ)
    (h1 : ¬ p 502 < p 550 + x + 10 * p (2 + 83 * i) → ∀ τ, moS σ0 τ (upd p 550 (p 550 + x)) pos run → Q 1 τ) : m_10_fits 354 x (nI i) x3 Q σ := by
  unfold m_10_fits
  refine s_10_latestOf (k := 1) (by omega) ?_
  refine s_10_home h hi ?_
  rw [t502, show (354 + 1 : Nat) = 355 from rfl, h.1, t549]
  refine ⟨v502, fun q => ?_, fun q => ⟨v549, fun σ7 e7 σ8 e8 => ?_⟩⟩
  · refine s_10_adds (k := 1) h (by omega) (fun τ ht => h1 (nlt_le.mpr q) τ ht)
  · refine h0 (nle_lt.mp q) σ8 ?_
    rw [e8, e7]
    exact h.wp.w10
theorem s_10_drive {c n l : Nat} {σ0 σ : St} {p : Nat → Int32} {pos run : Int32} {i : Nat} {Q : Int32 → St → Prop} (h : moS σ0 σ p pos run) (ok : okP c n l p) (hi : i < n) (hpo : posO n pos) (hQ : Q (driV p pos i) σ) : m_10_drive 354 (nI i) Q σ := by
  have h6 := ok.1.2.1
  unfold m_10_drive m_10_drive_38
  rw [h.2.1]
  unfold driV at hQ
  refine ⟨fun q1 => ⟨fun q2 => ?_, fun q2 => ?_⟩, fun q1 => ?_⟩
  · rw [if_neg q1, if_neg q2] at hQ
    rcases hpo with z | ⟨a, ha, rfl⟩
    · exact absurd z q2
    rw [tn a (by omega)] at hQ
    refine s_10_of (k := 1) (by omega) (by omega) (s_10_of (k := 1) (by omega) (by omega) ?_)
    rw [show (354 + 1 : Nat) = 355 from rfl, h.1, show 1 + 83 * a + 1 = 2 + 83 * a by omega, show 1 + 83 * i + 1 = 2 + 83 * i by omega]
    refine ⟨fun _ => ⟨fun z => ?_, fun z => ?_⟩, fun z => absurd (h.2.1.symm.trans z) q2⟩
    · rw [if_pos z] at hQ; exact hQ
    · rw [if_neg z] at hQ; exact hQ
  · rw [if_neg q1, if_pos q2] at hQ
    exact ⟨fun z => absurd q2 z, fun _ => s_10_home h (by omega) hQ⟩
  · rw [if_pos q1] at hQ
    exact hQ
theorem s_10_dumps {σ0 σ : St} {p : Nat → Int32} {pos run : Int32} {Q : St → Prop} (h : moS σ0 σ p pos run) (hQ : ∀ τ, moS σ0 τ (dmp p) pos run → Q τ) : m_10_dumps 354 Q σ := by
  unfold m_10_dumps
  rw [t506, show (354 + 1 : Nat) = 355 from rfl, h.1]
  refine ⟨v506, s_10_bk (k := 5) h (by omega) (fun τ ht => ⟨v506, fun σ3 e3 => ?_⟩)⟩
  rw [e3]
  exact hQ _ ht.wp
theorem s_10_sweeps {c n l u : Nat} {σ0 σ : St} {P0 : Nat → Int32} {pos : Int32} {j k : Nat} {Q : St → Prop} (h : moS σ0 σ P0 pos 1) (ok0 : okU c n l u P0) (z0 : P0 549 = 0) (hj : j < l) (hk : k < 20)
    (hQ : ∀ τ u', moS σ0 τ (cellF j (lgI P0 j) (lgS P0 j) k 7000 P0) pos (if cellF j (lgI P0 j) (lgS P0 j) k 7000 P0 549 = 0 then 1 else 0) → okU c n l u' (cellF j (lgI P0 j) (lgS P0 j) k 7000 P0) → Q τ) : m_10_sweeps 354 (nI j) (nI k) Q σ := by
  have h6 := ok0.1.1.2.1
  have h10 := ok0.1.1.2.2.2
  obtain ⟨hi, a2, hs, a4⟩ := ok0.1.lego.1 j hj
  unfold m_10_sweeps
  refine s_10_legOf (f := 0) (by omega) (by omega) (s_10_legOf (f := 1) (by omega) (by omega) ?_)
  rw [show (354 + 1 : Nat) = 355 from rfl, h.1, show 508 + 4 * j + 0 = 508 + 4 * j from rfl, a2, a4]
  generalize hgi : lgI P0 j = i at *
  generalize hgs : lgS P0 j = s at *
  have key := it_lt (F := m_10_sweeps_18 354 (nI j) (nI k) (nI i) (nI s) Q) (bot := fun _ _ => False) (fun (m : Nat) (A : Int32 → St → Prop) =>
    (∀ τ P u f, m + u = 6002 → m ≤ f + 1 → moS σ0 τ P pos 1 → okU c n l u P → P 549 = 0 → cellF j i s k f P = cellF j i s k 7000 P0 → A 1 τ) ∧
    (∀ τ x5 run u', (x5 = 0 ∨ run = 0) → (run = if cellF j i s k 7000 P0 549 = 0 then 1 else 0) → moS σ0 τ (cellF j i s k 7000 P0) pos run → okU c n l u' (cellF j i s k 7000 P0) → A x5 τ)) ?_ (6002 - u) (by omega)
  · exact key.1 σ P0 u 7000 (by have := ok0.2.2; omega) (by omega) h ok0 z0 rfl
  intro m A hA
  refine ⟨?_, fun τ x5 run u' hx hr ht oku => ?_⟩
  · intro τ P u f hm hf ht ok z hF
    have hu := ok.2.2
    obtain ⟨f, rfl⟩ : ∃ f', f = f' + 1 := ⟨f - 1, by omega⟩
    have fin := (hA 0 (by omega)).2
    unfold m_10_sweeps_18
    refine ⟨fun q => absurd q (by decide), fun _ => ⟨fun q => absurd (q.symm.trans ht.2.2.1) (by decide), fun _ => ?_⟩⟩
    rw [t499, show (354 + 1 : Nat) = 355 from rfl, ht.1]
    obtain ⟨v, v1, v2, v3⟩ := ok.1.spd
    refine ⟨v499, fun z2 => ?_, ?_⟩
    · rw [v1, show (0 : Int32) = nI 0 from rfl, eqi (by omega) (by omega)] at z2
      omega
    rw [cellF_s] at hF
    refine s_10_fits ht (by omega) (fun q τ1 t1 => ⟨fun _ => ?_, fun q2 => absurd rfl q2⟩) (fun q τ1 t1 => ⟨fun q2 => absurd q2 (by decide), fun _ => ?_⟩)
    · rw [if_pos q] at hF
      refine fin τ1 0 0 u (Or.inl rfl) ?_ (by rw [← hF]; exact t1) (by rw [← hF]; exact ⟨ok.1.inert (inert_hi (by omega) (by omega)), by rw [upd_n (by omega)]; exact ok.2.1, hu⟩)
      rw [← hF, upd_s, if_neg (by decide)]
    rw [if_neg q] at hF
    obtain ⟨u1, cap, g, cv, u3, u6, eu, c1, c2, c3, c4, c5, c6, c7, okb, okc, c8, c9, c10, c11⟩ := ok.cell hi hs hk (show j < 10 by omega) q
    have t1 : moS σ0 τ1 (cB P) pos 1 := t1
    have b56 : cB P 500 - cB P 506 = P 500 - P 506 := by unfold cB; rw [upd_n (by omega), upd_n (by omega)]
    have zC : cC j i s k P 549 = 0 := by
      unfold cC
      rw [cnt2_ne (by omega), swp_ne (by omega) (by omega) (by omega) (by omega) (by omega) (by omega)]
      unfold cB
      rw [upd_n (by omega)]
      exact z
    refine s_10_could (by omega) (by omega) (by rw [show (354 + 1 : Nat) = 355 from rfl, t1.1]; exact (okb.1.2.2.1 i (20 * s + k) hi (by omega)).2) ?_
    refine s_10_room (s_10_lesser (s_10_placeOf (s_10_dirtOf (by omega) (by omega) ?_)))
    rw [show (354 + 1 : Nat) = 355 from rfl, t1.1, li 3, nI_add]
    refine s_10_sets (by omega) (by omega) ?_
    rw [show 1 + 83 * i + (3 + (20 * s + k)) = 4 + 83 * i + (20 * s + k) by omega, t506, show (354 + 1 : Nat) = 355 from rfl]
    refine ⟨v506, v506, fun σ15 e15 => ?_⟩
    rw [wr_at, t1.1, upd_n (by omega)] at e15
    have t15 := (t1.wp (x := 4 + 83 * i + (20 * s + k)) (v := cB P (4 + 83 * i + (20 * s + k)) - mnI (coV (cB P) (83 * i + (20 * s + k))) (cB P 500 - cB P 506))).wp (x := 506) (v := cB P 506 + mnI (coV (cB P) (83 * i + (20 * s + k))) (cB P 500 - cB P 506))
    rw [← e15] at t15
    refine s_10_adds (k := 3) t15 (by omega) (fun σ16 t16 => ?_)
    rw [upd_n (j := 549 + 3) (k := 506) (by omega), upd_n (j := 549 + 3) (k := 4 + 83 * i + (20 * s + k)) (by omega)] at t16
    rw [legI j 3, tn _ (by omega), t505]
    refine ⟨vq (by omega), vq (by omega), fun σ18 e18 => ⟨v499, v505, ?_⟩⟩
    rw [t16.1, upd_n (by omega), upd_n (by omega), upd_n (by omega)] at e18
    have t18 := t16.wp (x := 508 + 4 * j + 3) (v := cB P (508 + 4 * j + 3) + mnI (coV (cB P) (83 * i + (20 * s + k))) (cB P 500 - cB P 506))
    rw [← e18] at t18
    have r499 : σ18.1 355 499 = cB P 499 := by rw [t18.1, upd_n (by omega), upd_n (by omega), upd_n (by omega), upd_n (by omega)]
    have r505 : σ18.1 355 505 = cB P 505 := by rw [t18.1, upd_n (by omega), upd_n (by omega), upd_n (by omega), upd_n (by omega)]
    rw [r499, r505]
    refine s_10_lesser ⟨v505, v505, fun σ21 e21 => ?_⟩
    rw [r505] at e21
    have t21 := t18.wp (x := 505) (v := cB P 505 - mnI (1 + mnI (coV (cB P) (83 * i + (20 * s + k))) (cB P 500 - cB P 506) * cB P 499 / 20) (cB P 505))
    rw [← e21] at t21
    refine s_10_adds (k := 4) t21 (by omega) (fun σ22 t22 => ?_)
    rw [upd_n (k := 505) (by omega), upd_n (k := 508 + 4 * j + 3) (by omega), upd_n (k := 549 + 3) (by omega), upd_n (k := 506) (by omega), upd_n (j := 549 + 4) (k := 4 + 83 * i + (20 * s + k)) (by omega)] at t22
    have eS : upd (upd (upd (upd (upd (upd (cB P) (4 + 83 * i + (20 * s + k)) (cB P (4 + 83 * i + (20 * s + k)) - mnI (coV (cB P) (83 * i + (20 * s + k))) (cB P 500 - cB P 506))) 506 (cB P 506 + mnI (coV (cB P) (83 * i + (20 * s + k))) (cB P 500 - cB P 506))) (549 + 3) (cB P (549 + 3) + mnI (coV (cB P) (83 * i + (20 * s + k))) (cB P 500 - cB P 506))) (508 + 4 * j + 3) (cB P (508 + 4 * j + 3) + mnI (coV (cB P) (83 * i + (20 * s + k))) (cB P 500 - cB P 506))) 505 (cB P 505 - mnI (1 + mnI (coV (cB P) (83 * i + (20 * s + k))) (cB P 500 - cB P 506) * cB P 499 / 20) (cB P 505))) (549 + 4) (cB P (549 + 4) + mnI (1 + mnI (coV (cB P) (83 * i + (20 * s + k))) (cB P 500 - cB P 506) * cB P 499 / 20) (cB P 505)) = swp (cB P) j i s k := by
      unfold swp
      rw [upd_comm (x := 549 + 3) (y := 508 + 4 * j + 3) (by omega)]
    rw [eS] at t22
    rw [b56, c6, c7]
    rw [c6, c7] at hF
    have fe : nI cv ≤ nI (cap - g) ↔ cv ≤ cap - g := lei (by omega) (by omega)
    have le : (nI (g + min cv (cap - g)) = nI cap) ↔ cap - g ≤ cv := by rw [eqi (by omega) (by omega)]; omega
    rw [c8, c9] at hF
    have tail : ∀ x5 : Int32, (x5 = 0 ∧ cv ≤ cap - g ∨ x5 = 1 ∧ ¬ cv ≤ cap - g) → ∀ t0 : Int32, upd (swp (cB P) j i s k) (508 + 4 * j + 2) (swp (cB P) j i s k (508 + 4 * j + 2) + t0) = cC j i s k P → m_10_sweeps_229 354 (nI j) (nI k) (nI i) (nI s) x5 A Q t0 (swp (cB P) j i s k (508 + 4 * j + 2)) (nI (508 + 4 * j + 2)) 355 σ22 := fun x5 hx5 t0 ht0 => by
      unfold m_10_sweeps_229
      rw [tn _ (by omega), t500, t506]
      refine ⟨vq (by omega), fun σ23 e23 => ⟨v506, v500, ?_⟩⟩
      have t23 := t22.wp (x := 508 + 4 * j + 2) (v := swp (cB P) j i s k (508 + 4 * j + 2) + t0)
      rw [← e23, ht0] at t23
      rw [show (354 + 1 : Nat) = 355 from rfl, t23.1, c8, c9]
      refine ⟨fun q2 => ?_, fun q2 => ?_⟩
      · rw [if_neg q2] at hF
        rcases hx5 with ⟨rfl, hx5⟩ | ⟨rfl, hx5⟩
        · refine fin σ23 0 1 u1 (Or.inl rfl) ?_ (by rw [← hF]; exact t23) (by rw [← hF]; exact okc)
          rw [← hF, if_pos zC]
        · exact absurd (le.mpr (by omega)) q2
      · rw [if_pos q2] at hF
        have e502 : cC j i s k P 502 = P 502 := c10 502 (by omega) (by omega)
        have edc : cC j i s k P (2 + 83 * i) = P (2 + 83 * i) := by
          have := c11 1 (by omega)
          rw [show 1 + 83 * i + 1 = 2 + 83 * i by omega] at this
          exact this
        refine s_10_home t23 (by omega) ?_
        rw [edc]
        refine s_10_fits t23 (by omega) (fun q3 τ2 t2 => ⟨fun _ => ?_, fun q4 => absurd rfl q4⟩) (fun q3 τ2 t2 => ⟨fun q4 => absurd q4 (by decide), fun _ => ?_⟩)
        · rw [edc] at q3
          rw [if_pos (show cC j i s k P 502 < cC j i s k P 550 + cT i P + 10 * P (2 + 83 * i) from q3)] at hF
          refine fin τ2 x5 0 u1 (Or.inr rfl) ?_ (by rw [← hF]; exact t2) (by rw [← hF]; exact ⟨okc.1.inert (inert_hi (by omega) (by omega)), by rw [upd_n (by omega)]; exact okc.2.1, okc.2.2⟩)
          rw [← hF, upd_s, if_neg (by decide)]
        · rw [edc] at q3
          have q3' : ¬ cC j i s k P 502 < cC j i s k P 550 + cT i P + 10 * P (2 + 83 * i) := q3
          rw [if_neg q3'] at hF
          obtain ⟨u2, d1, okd⟩ := ok.dump okc hi e502 q3'
          refine s_10_dumps t2 (fun τ3 t3 => ?_)
          refine s_10_adds (k := 2) t3 (by omega) (fun τ4 t4 => ?_)
          have eD : upd (dmp (upd (cC j i s k P) 550 (cC j i s k P 550 + (2 * (10 * P (2 + 83 * i)) + 100)))) (549 + 2) (dmp (upd (cC j i s k P) 550 (cC j i s k P 550 + (2 * (10 * P (2 + 83 * i)) + 100))) (549 + 2) + 1) = cD i P (cC j i s k P) := by
            have e0 : dmp (upd (cC j i s k P) 550 (cC j i s k P 550 + (2 * (10 * P (2 + 83 * i)) + 100))) (549 + 2) = cC j i s k P 551 := by
              unfold dmp
              rw [upd_n (by omega), upd_n (by omega), upd_n (by omega)]
            rw [e0]
            unfold cD dmp cT
            rw [upd_n (k := 550) (by omega), upd_n (k := 550) (by omega), upd_n (k := 551) (by omega), upd_n (k := 551) (by omega), upd_n (k := 550) (by omega), upd_n (k := 550) (by omega)]
            rw [upd_comm (x := 506) (y := 549 + 2) (by omega), upd_comm (x := 561) (y := 549 + 2) (by omega)]
          have t4 : moS σ0 τ4 (upd (dmp (upd (cC j i s k P) 550 (cC j i s k P 550 + (2 * (10 * P (2 + 83 * i)) + 100)))) (549 + 2) (dmp (upd (cC j i s k P) 550 (cC j i s k P 550 + (2 * (10 * P (2 + 83 * i)) + 100))) (549 + 2) + 1)) pos 1 := t4
          rw [eD] at t4
          have zD : cD i P (cC j i s k P) 549 = 0 := by
            unfold cD dmp
            rw [upd_n (by omega), upd_n (by omega), upd_n (by omega), upd_n (by omega)]
            exact zC
          rcases hx5 with ⟨rfl, hx5⟩ | ⟨rfl, hx5⟩
          · rw [if_pos (fe.mpr hx5)] at hF
            refine fin τ4 0 1 u2 (Or.inl rfl) ?_ (by rw [← hF]; exact t4) (by rw [← hF]; exact okd)
            rw [← hF, if_pos zD]
          · rw [if_neg (fun q4 => hx5 (fe.mp q4))] at hF
            exact (hA (6002 - u2) (by omega)).1 τ4 _ u2 f (by have := okd.2.2; omega) (by omega) t4 okd zD hF
    have ec : cC j i s k P = if cv ≤ cap - g then upd (swp (cB P) j i s k) (508 + 4 * j + 2) (swp (cB P) j i s k (508 + 4 * j + 2) + 1) else swp (cB P) j i s k := by
      unfold cC cnt2
      rw [b56, c6, c7]
      by_cases q2 : cv ≤ cap - g
      · rw [if_pos (fe.mpr q2), if_pos q2]
      · rw [if_neg (fun q3 => q2 (fe.mp q3)), if_neg q2]
    have e2 : (508 : Int32) + 4 * nI j + 2 = nI (508 + 4 * j + 2) := legI j 2
    refine ⟨fun q2 => ?_, fun q2 => ?_⟩
    · unfold m_10_sweeps_202
      rw [e2, tn _ (by omega), show (354 + 1 : Nat) = 355 from rfl, t22.1]
      refine ⟨vq (by omega), fun _ => ?_, fun q3 => absurd rfl q3⟩
      exact tail 0 (Or.inl ⟨rfl, fe.mp q2⟩) 1 (by rw [ec, if_pos (fe.mp q2)])
    · unfold m_10_sweeps_202
      rw [e2, tn _ (by omega), show (354 + 1 : Nat) = 355 from rfl, t22.1]
      refine ⟨vq (by omega), fun q3 => absurd q3 (by decide), fun _ => ?_⟩
      have nf : ¬ cv ≤ cap - g := fun q3 => q2 (fe.mpr q3)
      exact tail 1 (Or.inr ⟨rfl, nf⟩) 0 (by rw [ec, if_neg nf, i0, upd_self rfl])
  · unfold m_10_sweeps_18
    refine ⟨fun _ => hQ τ u' (by rw [← hr]; exact ht) oku, fun q => ⟨fun _ => hQ τ u' (by rw [← hr]; exact ht) oku, fun q2 => ?_⟩⟩
    rcases hx with hx | hx
    · exact absurd hx q
    · exact absurd (ht.2.2.1.trans hx) q2
