-- load: the pages
def ldS (n x : Nat) (T : Nat → Nat) (P P' : Nat → Int32) : Prop :=
  P' 0 = nI (if x < n then n else n + 1) ∧ P' 548 = 0 ∧ P' (1 + 83 * x) = nI (vN T) ∧ P' (2 + 83 * x) = nI (vD T) ∧ P' (3 + 83 * x) = nI (vT T) ∧
  (∀ k, k < 40 → P' (4 + 83 * x + k) = nI (cV T k) ∧ P' (44 + 83 * x + k) = nI (cP T k)) ∧
  P' 556 = P 556 + (sD (fun y => nI (cV T y)) 0 (vN T) + sD (fun y => nI (cV T y)) 20 (vN T)) ∧
  P' 558 = (if x < n then P 558 + (sD P (4 + 83 * x) (cellsN P x) + sD P (24 + 83 * x) (cellsN P x)) else P 558) ∧
  (∀ y, y < 564 → y ≠ 0 → y ≠ 548 → y ≠ 556 → y ≠ 558 → (y < 1 + 83 * x ∨ 84 + 83 * x ≤ y) → P' y = P y)
theorem isB_le {v : Nat} (h : v ≤ 1) : isB (nI v) := by
  rcases (by omega : v = 0 ∨ v = 1) with rfl | rfl
  · exact isB0
  · exact isB1
theorem RN.load {c n l x : Nat} {T : Nat → Nat} {P p P' p' : Nat → Int32} (h : RN c n l P p) (hx : x ≤ n) (hx6 : x < 6) (rk : vD T ≤ 60 ∧ vT T ≤ 9 ∧ 1 ≤ vN T ∧ vN T ≤ 20 ∧ (∀ y, cV T y ≤ 90) ∧ ∀ y, cP T y ≤ 1) (a : ldS n x T P P') (b : ldS n x T p p') : RN c (if x < n then n else n + 1) l P' p' := by
  obtain ⟨⟨⟨h1, h2, h3, h4⟩, h5, h6, h7, s7, h9, h10⟩, e, e5⟩ := id h
  obtain ⟨r1, r2, r3, r4, r5, r6⟩ := rk
  obtain ⟨a0, a1, a2, a3, a4, a5, a6, a7, a8⟩ := a
  obtain ⟨b0, b1, b2, b3, b4, b5, b6, b7, b8⟩ := b
  have hN : n ≤ (if x < n then n else n + 1) ∧ (if x < n then n else n + 1) ≤ 6 ∧ ∀ i, i < (if x < n then n else n + 1) → i ≠ x → i < n := by
    split
    · exact ⟨by omega, h2, fun i hi _ => hi⟩
    · exact ⟨by omega, by omega, fun i hi hix => by omega⟩
  generalize hNe : (if x < n then n else n + 1) = N at *
  obtain ⟨n1, n2, n3⟩ := hN
  have hg : ∀ y, 499 ≤ y → y < 564 → y ≠ 548 → y ≠ 556 → y ≠ 558 → P' y = P y := fun y hy hz h8 h9 h10 => a8 y hz (by omega) h8 h9 h10 (by omega)
  refine ⟨⟨⟨a0, n2, by rw [hg 507 (by omega) (by omega) (by omega) (by omega) (by omega)]; exact h3, h4⟩, fun i hi => ?_, fun i k hi hk => ?_, fun j hj => ?_, ?_, ?_, ?_⟩, fun y hy hq => ?_, ?_⟩
  · by_cases q : i = x
    · subst q
      rw [a2, a3, a4]
      exact ⟨⟨_, rfl, r3, r4⟩, ⟨_, rfl, r1⟩, ⟨_, rfl, r2⟩⟩
    · have hin := n3 i hi q
      rw [a8 _ (by omega) (by omega) (by omega) (by omega) (by omega) (by omega), a8 _ (by omega) (by omega) (by omega) (by omega) (by omega) (by omega), a8 _ (by omega) (by omega) (by omega) (by omega) (by omega) (by omega)]
      exact h5 i hin
  · by_cases q : i = x
    · subst q
      obtain ⟨e1, e2⟩ := a5 k hk
      rw [e1, e2]
      exact ⟨⟨_, rfl, by have := r5 k; omega⟩, isB_le (r6 k)⟩
    · have hin := n3 i hi q
      rw [a8 _ (by omega) (by omega) (by omega) (by omega) (by omega) (by omega), a8 _ (by omega) (by omega) (by omega) (by omega) (by omega) (by omega)]
      exact h6 i k hin hk
  · rw [hg _ (by omega) (by omega) (by omega) (by omega) (by omega), hg _ (by omega) (by omega) (by omega) (by omega) (by omega)]
    obtain ⟨⟨v, v1, v2⟩, w⟩ := h7 j hj
    exact ⟨⟨v, v1, by omega⟩, w⟩
  · rw [hg 499 (by omega) (by omega) (by omega) (by omega) (by omega), hg 500 (by omega) (by omega) (by omega) (by omega) (by omega), hg 501 (by omega) (by omega) (by omega) (by omega) (by omega), hg 502 (by omega) (by omega) (by omega) (by omega) (by omega), hg 503 (by omega) (by omega) (by omega) (by omega) (by omega), hg 504 (by omega) (by omega) (by omega) (by omega) (by omega), hg 505 (by omega) (by omega) (by omega) (by omega) (by omega), hg 506 (by omega) (by omega) (by omega) (by omega) (by omega)]
    exact s7
  · rw [a1]; exact isB0
  · rw [hg 562 (by omega) (by omega) (by omega) (by omega) (by omega)]; exact h10
  · have nl : ¬ leg23 y := fun q => hq q a1
    by_cases q1 : y = 0
    · subst q1; rw [a0, b0]
    by_cases q2 : y = 548
    · subst q2; rw [a1, b1]
    by_cases q3 : y = 556
    · subst q3; rw [a6, b6, e.hi (x := 556) (by omega) (by omega) (by omega)]
    by_cases q4 : y = 558
    · subst q4
      rw [a7, b7, e.hi (x := 558) (by omega) (by omega) (by omega)]
      by_cases hxn : x < n
      · obtain ⟨-, -, cx⟩ := h.1.cells hxn
        have d0 := e.sd (i := x) (s := 0) (v := cellsN P x) hxn h2 (by omega) cx
        have d1 := e.sd (i := x) (s := 1) (v := cellsN P x) hxn h2 (by omega) cx
        rw [show 4 + 83 * x + 20 * 0 = 4 + 83 * x by omega] at d0
        rw [show 4 + 83 * x + 20 * 1 = 24 + 83 * x by omega] at d1
        rw [if_pos hxn, if_pos hxn, d0, d1, cellsN_eq e hxn h2]
      · rw [if_neg hxn, if_neg hxn]
    by_cases q5 : y < 1 + 83 * x ∨ 84 + 83 * x ≤ y
    · rw [a8 y hy.1 q1 q2 q3 q4 q5, b8 y hy.1 q1 q2 q3 q4 q5]
      have hy3 := hy.2.2.1
      refine e.nv ⟨hy.1, hy.2.1, fun g1 g2 => ?_, hy.2.2.2⟩ nl
      have := hy3 g1 g2
      by_cases hxn : x < n
      · rw [if_pos hxn] at hNe; omega
      · rw [if_neg hxn] at hNe; omega
    · rcases (by omega : y = 1 + 83 * x ∨ y = 2 + 83 * x ∨ y = 3 + 83 * x ∨ 4 + 83 * x ≤ y) with rfl | rfl | rfl | q6
      · rw [a2, b2]
      · rw [a3, b3]
      · rw [a4, b4]
      · by_cases q7 : y < 44 + 83 * x
        · obtain ⟨k, rfl⟩ : ∃ k, y = 4 + 83 * x + k := ⟨y - (4 + 83 * x), by omega⟩
          rw [(a5 k (by omega)).1, (b5 k (by omega)).1]
        · obtain ⟨k, rfl⟩ : ∃ k, y = 44 + 83 * x + k := ⟨y - (44 + 83 * x), by omega⟩
          rw [(a5 k (by omega)).2, (b5 k (by omega)).2]
  · rw [b8 555 (by omega) (by omega) (by omega) (by omega) (by omega) (by omega), hg 562 (by omega) (by omega) (by omega) (by omega) (by omega)]; exact e5
-- load: the class
theorem s_8_putStreet {c n l x : Nat} {T : Nat → Nat} {σ : St} {Q : St → Prop} (ok : okP c n l (pgW σ 7)) (hx : x ≤ n) (hx6 : x < 6) (r4 : vN T ≤ 20) (r6 : ∀ y, cP T y ≤ 1) (d0 : σ.1 4 0 = nI (vN T)) (d1 : σ.1 4 1 = nI (vD T)) (d2 : σ.1 4 2 = nI (vT T)) (d5 : ∀ y, y < 40 → σ.1 5 y = nI (cV T y)) (d6 : ∀ y, y < 40 → σ.1 6 y = nI (cP T y)) (hQ : ∀ τ P', toW σ τ 7 P' → ldS n x T (pgW σ 7) P' → Q τ) : m_8_putStreet 7 (nI x) 4 Q σ := by
  have h6 := ok.1.2.1
  have c39 : ∀ τ P1, toW σ τ 7 P1 → P1 0 = nI (if x < n then n else n + 1) → P1 558 = (if x < n then pgW σ 7 558 + (sD (pgW σ 7) (4 + 83 * x) (cellsN (pgW σ 7) x) + sD (pgW σ 7) (24 + 83 * x) (cellsN (pgW σ 7) x)) else pgW σ 7 558) → (∀ y, y ≠ 0 → y ≠ 558 → P1 y = pgW σ 7 y) → m_8_putStreet_39 7 (nI x) 4 Q τ := fun τ P1 t1 p0 p1 p2 => by
    have far : ∀ a, 4 ≤ a → a < 7 → τ.1 a = σ.1 a := fun a h1 h2 => t1.2.1 a (by omega)
    unfold m_8_putStreet_39
    rw [tn x (by omega)]
    refine ⟨vin hx6, s_6_copyFrom (r0 := 7 + 1 + 5 + 3 * x) (r1 := 4) (by omega) (fun j hj => by rw [show (4 + 2 : Nat) = 6 from rfl, far 6 (by omega) (by omega), d6 j hj]; exact isB_le (r6 j)) ⟨vi0, ?_⟩⟩
    obtain ⟨P2, t2, p2a, p2b, p2c, p2d⟩ := t1.wrS (i := x) (c := fun j => if j < 3 then τ.1 4 j else τ.1 (7 + 1 + 5 + 3 * x) j) (d := fun j => if j < 40 then τ.1 (4 + 1) j else τ.1 (7 + 1 + 5 + 3 * x + 1) j) (k := fun j => if j < 40 then τ.1 (4 + 2) j else τ.1 (7 + 1 + 5 + 3 * x + 2) j) hx6
    generalize hτ2 : wrS τ (7 + 1 + 5 + 3 * x) _ _ _ = τ2 at t2
    have far2 : ∀ a, 4 ≤ a → a < 7 → τ2.1 a = σ.1 a := fun a h1 h2 => t2.2.1 a (by omega)
    refine s_6_allDirt (r0 := 4) (n := vN T) (by rw [far2 4 (by omega) (by omega)]; exact d0) r4 ⟨vi0, fun σ6 e6 σ7 e7 => ?_⟩
    have eS : ∀ o, o = 0 ∨ o = 20 → sD (τ2.1 (4 + 1)) o (vN T) = sD (fun y => nI (cV T y)) o (vN T) := fun o ho => sD_eq _ (fun k hk => by rw [show (4 + 1 : Nat) = 5 from rfl, far2 5 (by omega) (by omega), d5 (o + k) (by omega)])
    rw [tn0, eS 0 (Or.inl rfl), eS 20 (Or.inr rfl), show τ2.1 (7 + 4) 0 = P1 556 by rw [gsum τ2 7 (k := 0) (by omega), t2.g, p2a _ (by omega)]] at e6
    have t6 := tw_sum t2 (k := 0) (v := P1 556 + (sD (fun y => nI (cV T y)) 0 (vN T) + sD (fun y => nI (cV T y)) 20 (vN T))) (by omega)
    rw [← e6] at t6
    have t7 := tw_n548 t6 (v := 0)
    rw [← e7] at t7
    refine hQ σ7 _ t7 ⟨?_, upd_s, ?_, ?_, ?_, fun k hk => ⟨?_, ?_⟩, ?_, ?_, fun y g0 g1 g2 g3 g4 g5 => ?_⟩
    · rw [upd_n (by omega), upd_n (by omega), p2a 0 (by omega)]; exact p0
    · rw [upd_n (by omega), upd_n (by omega)]
      refine (p2b 0 (by omega)).trans ?_
      rw [if_pos (by omega), far 4 (by omega) (by omega)]; exact d0
    · rw [upd_n (by omega), upd_n (by omega), show 2 + 83 * x = 1 + 83 * x + 1 by omega]
      refine (p2b 1 (by omega)).trans ?_
      rw [if_pos (by omega), far 4 (by omega) (by omega)]; exact d1
    · rw [upd_n (by omega), upd_n (by omega), show 3 + 83 * x = 1 + 83 * x + 2 by omega]
      refine (p2b 2 (by omega)).trans ?_
      rw [if_pos (by omega), far 4 (by omega) (by omega)]; exact d2
    · rw [upd_n (by omega), upd_n (by omega)]
      refine (p2c k hk).trans ?_
      rw [if_pos hk, show (4 + 1 : Nat) = 5 from rfl, far 5 (by omega) (by omega)]; exact d5 k hk
    · rw [upd_n (by omega), upd_n (by omega)]
      refine (p2d k hk).trans ?_
      rw [if_pos hk, show (4 + 2 : Nat) = 6 from rfl, far 6 (by omega) (by omega)]; exact d6 k hk
    · rw [upd_n (by omega)]
      refine Eq.trans upd_s ?_
      rw [p2 556 (by omega) (by omega)]
    · rw [upd_n (by omega), upd_n (by omega), p2a 558 (by omega)]; exact p1
    · rw [upd_n g2, upd_n (by omega), p2a y g5]; exact p2 y g1 g4
  have g1 : σ.1 7 1 = nI n := ok.1.1
  unfold m_8_putStreet
  rw [g1]
  refine ⟨fun q σ1 e1 => ?_, fun q => ?_⟩
  · have q := (lei (by omega) (by omega)).mp q
    have t1 := tw_n0 (toW.rf (σ := σ) (B := 7)) (v := nI n + 1)
    rw [← e1] at t1
    exact c39 σ1 _ t1 (by rw [upd_s, if_neg (by omega), iplus]) (by rw [upd_n (by omega), if_neg (by omega)]) (fun y y0 y1 => upd_n y0)
  · have q : x < n := by
      have := mt (lei (a := n) (b := x) (by omega) (by omega)).mpr q
      omega
    obtain ⟨cx1, cx2, cx3⟩ := ok.cells q
    rw [tn2, tn x (by omega)]
    refine ⟨vi2, vin hx6, s_6_allDirt (r0 := 7 + 1 + 5 + 3 * x) (n := cellsN (pgW σ 7) x) (by rw [gst σ 7 (k := 0) hx6 (by omega)]; exact cx1) cx3 ⟨vi2, fun σ5 e5 => ?_⟩⟩
    have s0 := sd_pg (σ := σ) (B := 7) (i := x) (s := 0) hx6 (by omega) cx3
    have s1 := sd_pg (σ := σ) (B := 7) (i := x) (s := 1) hx6 (by omega) cx3
    rw [show 4 + 83 * x + 20 * 0 = 4 + 83 * x by omega] at s0
    rw [show 4 + 83 * x + 20 * 1 = 24 + 83 * x by omega] at s1
    rw [show sD (σ.1 (7 + 1 + 5 + 3 * x + 1)) 0 (cellsN (pgW σ 7) x) = sD (pgW σ 7) (4 + 83 * x) (cellsN (pgW σ 7) x) from s0, show sD (σ.1 (7 + 1 + 5 + 3 * x + 1)) 20 (cellsN (pgW σ 7) x) = sD (pgW σ 7) (24 + 83 * x) (cellsN (pgW σ 7) x) from s1, gsum σ 7 (k := 2) (by omega)] at e5
    have t1 := tw_sum (toW.rf (σ := σ) (B := 7)) (k := 2) (v := pgW σ 7 (556 + 2) + (sD (pgW σ 7) (4 + 83 * x) (cellsN (pgW σ 7) x) + sD (pgW σ 7) (24 + 83 * x) (cellsN (pgW σ 7) x))) (by omega)
    rw [← e5] at t1
    exact c39 σ5 _ t1 (by rw [upd_n (by omega), if_pos q]; exact ok.1.1) (by rw [if_pos q]; exact upd_s) (fun y y0 y1 => upd_n y1)
