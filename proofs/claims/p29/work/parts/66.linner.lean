-- the law's inner loop: all cells of a leg
def cellsR (j i s : Nat) : Nat → Nat → (Nat → Int32) → Nat → Int32
  | 0, _, Z => Z
  | d + 1, k, Z => if Z 549 = 0 then cellsR j i s d (k + 1) (cellF j i s k 7000 Z) else Z
theorem cellsR_stop {j i s : Nat} {Z : Nat → Int32} (h : Z 549 ≠ 0) : ∀ d k, cellsR j i s d k Z = Z := by
  intro d k
  cases d with
  | zero => rfl
  | succ d => exact if_neg h
theorem cellsF_R {j i s : Nat} {P : Nat → Int32} : ∀ d k, cellsF j i s (k + d) P = cellsR j i s d k (cellsF j i s k P) := by
  intro d
  induction d with
  | zero => intro k; rfl
  | succ d ih =>
    intro k
    rw [show k + (d + 1) = (k + 1) + d by omega, ih (k + 1)]
    have e : cellsF j i s (k + 1) P = if cellsF j i s k P 549 = 0 then cellF j i s k 7000 (cellsF j i s k P) else cellsF j i s k P := rfl
    have e2 : cellsR j i s (d + 1) k (cellsF j i s k P) = if cellsF j i s k P 549 = 0 then cellsR j i s d (k + 1) (cellF j i s k 7000 (cellsF j i s k P)) else cellsF j i s k P := rfl
    rw [e, e2]
    by_cases q : cellsF j i s k P 549 = 0
    · rw [if_pos q, if_pos q]
    · rw [if_neg q, if_neg q, cellsR_stop q]
def nxt (j i s N k f : Nat) (X : Nat → Int32) : Nat → Int32 := if X 549 = 0 ∧ k < N then cellsR j i s (N - k - 1) (k + 1) (cellF j i s k f X) else X
theorem nxt_R {j i s N k : Nat} {Z : Nat → Int32} (h : Z 549 = 0) (hk : k ≤ N) : nxt j i s N k 7000 Z = cellsR j i s (N - k) k Z := by
  unfold nxt
  by_cases q : k < N
  · rw [if_pos ⟨h, q⟩, show N - k = (N - k - 1) + 1 by omega]
    exact (if_pos h).symm
  · rw [if_neg (fun z => q z.2), show N - k = 0 by omega]
    rfl
theorem QB.hi2 {n y : Nat} {X : Nat → Int32} {v : Int32} (hc : ∀ j, j < n → cellsN X j ≤ 20) (hn : n ≤ 6) (h1 : 499 ≤ y) (h2 : y ≠ 506) (h3 : y < 556 ∨ 562 ≤ y) : QB n X (upd X y v) := by
  refine ⟨?_, fun z z1 z2 => upd_n (by omega)⟩
  rw [oS_hi hc hn h1, upd_n (by omega), upd_n (by omega)]
theorem QB.turn {c n l j i s k : Nat} {X : Nat → Int32} (ok : okP c n l X) (okb : okP c n l (cB X)) (hj : j < 10) (hi : i < n) (hs : s < 2) (hk : k < cellsN X i) : QB n X (cC j i s k X) := by
  have h6 := ok.1.2.1
  have hc := (ok.cells hi).2.2
  have q1 : QB n X (cB X) := QB.hi ok (by omega) (by omega) (by omega)
  have ecb : ∀ a, a < 6 → cellsN (cB X) a = cellsN X a := fun a ha => cellsN_upd (by omega)
  have q2 : QB n (cB X) (swp (cB X) j i s k) := QB.sw okb hj hi hs (by rw [ecb i (by omega)]; exact hk)
  unfold cC cnt2
  split
  · refine (q1.tr q2).tr (QB.hi2 (fun a ha => ?_) h6 (by omega) (by omega) (by omega))
    have e : cellsN (swp (cB X) j i s k) a = cellsN X a := by
      rw [← ecb a (by omega)]
      unfold cellsN
      rw [swp_ne (y := 1 + 83 * a) (fun q => dne (r := 0) hs (show k < 20 by omega) (by omega) q.symm) (by omega) (by omega) (by omega) (by omega) (by omega)]
    rw [e]
    exact (ok.cells ha).2.2
  · exact q1.tr q2
theorem QB.dump {c n l i : Nat} {X C : Nat → Int32} (ok : okP c n l C) : QB n C (cD i X C) := by
  have h6 := ok.1.2.1
  have o1 : okP c n l (upd C 550 (C 550 + cT i X)) := ok.inert (inert_hi (by omega) (by omega))
  have o2 : okP c n l (upd (upd C 550 (C 550 + cT i X)) 551 (C 551 + 1)) := o1.inert (inert_hi (by omega) (by omega))
  exact ((QB.hi ok (by omega) (by omega) (by omega)).tr (QB.hi o1 (by omega) (by omega) (by omega))).tr (QB.dm o2)
theorem okU.w9 {c n l u : Nat} {X : Nat → Int32} {v : Int32} (h : okU c n l u X) : okU c n l u (upd X 549 v) :=
  ⟨h.1.inert (inert_hi (by omega) (by omega)), by rw [upd_n (by omega)]; exact h.2.1, h.2.2⟩
theorem KX.w9 {n : Nat} {P X : Nat → Int32} {v : Int32} (h : KX n P X) (hn : n ≤ 6) : KX n P (upd X 549 v) :=
  h.up hn (fun z hz => (kp_x hz).2.2.2.2.1) (by omega)
theorem L_exit {n l i j k : Nat} {P X : Nat → Int32} {σ : St} {x11 x13 : Int32} {B225 : Int32 → Int32 → Int32 → Int32 → Int32 → Int32 → Int32 → Int32 → Int32 → Int32 → St → Prop} {Q : Int32 → St → Prop} {B361 : Int32 → Int32 → Int32 → Int32 → Int32 → Int32 → Int32 → Int32 → St → Prop} (hj : j < 10) (hN : cellsN P i < 1000001) (e5 : σ.1 356 j = nI k) (hx : X 549 ≠ 0 ∨ (cellsN P i ≤ k ∧ k < 1000001)) (h : at8 (fun x8 x9 x12 x14 x16 x17 x18 x19 τ => m_L_shift_646 0 (nI n) (nI l) 354 355 356 357 (P 499) x8 x9 (P 500) x11 x12 x13 x14 (nI i) x16 x17 x18 x19 (nI j) B225 Q τ) X σ) : at8 (m_L_shift_361 0 (nI n) (nI l) 354 355 356 357 (P 499) (P 500) x11 x13 (nI i) (nI j) (nI i) (10 * P (2 + 83 * i)) (nI (cellsN P i)) B225 Q B361) X σ := by
  unfold at8 at h ⊢
  unfold m_L_shift_361
  rw [tn j (by omega), e5]
  refine ⟨vin (by omega), fun _ => h, fun q => ⟨fun _ => h, fun q2 => ?_⟩⟩
  rcases hx with hx | ⟨hx, hx2⟩
  · exact absurd q2 hx
  · exact absurd ((lei (by omega) (by omega)).mpr hx) q
theorem L_inner {c n l j i s u : Nat} {P X Y : Nat → Int32} {σ : St} {x11 x13 : Int32} {B225 : Int32 → Int32 → Int32 → Int32 → Int32 → Int32 → Int32 → Int32 → Int32 → Int32 → St → Prop} {Q : Int32 → St → Prop}
    (ok : okP c n l P) (sm : SM n l P) (hj : j < l) (hi : i < n) (hs : s < 2) (e1 : P (508 + 4 * j + 1) = nI s) (w : LW n P σ) (d : LD n l P X σ) (oX : okU c n l u X) (kX : KX n P X) (qX : QB n P X) (hh : ¬ X 502 < X 550 + 10 * P (2 + 83 * i)) (z : X 549 = 0) (ek : X (508 + 4 * j + 2) = 0) (eY : cellsF j i s (cellsN P i) X = Y)
    (hE : ∀ σ' u', LW n P σ' → LD n l P Y σ' → okU c n l u' Y → KX n P Y → QB n P Y → ¬ Y 502 < Y 550 + 10 * P (2 + 83 * i) → at8 (fun x8 x9 x12 x14 x16 x17 x18 x19 τ => m_L_shift_646 0 (nI n) (nI l) 354 355 356 357 (P 499) x8 x9 (P 500) x11 x12 x13 x14 (nI i) x16 x17 x18 x19 (nI j) B225 Q τ) Y σ') : at8 (itN (m_L_shift_361 0 (nI n) (nI l) 354 355 356 357 (P 499) (P 500) x11 x13 (nI i) (nI j) (nI i) (10 * P (2 + 83 * i)) (nI (cellsN P i)) B225 Q) (fun _ _ _ _ _ _ _ _ _ => False) FU) X σ := by
  obtain ⟨s1, s2, s3⟩ := id sm
  have h6 := ok.1.2.1
  have h10 := ok.1.2.2.2
  have c6 := s3 i hi
  have eR : nxt j i s (cellsN P i) 0 7000 X = Y := by
    rw [nxt_R z (by omega), ← eY]
    have := cellsF_R (j := j) (i := i) (s := s) (P := X) (cellsN P i) 0
    rw [Nat.zero_add] at this
    exact this.symm
  have key := it_lt (F := m_L_shift_361 0 (nI n) (nI l) 354 355 356 357 (P 499) (P 500) x11 x13 (nI i) (nI j) (nI i) (10 * P (2 + 83 * i)) (nI (cellsN P i)) B225 Q) (bot := (fun _ _ _ _ _ _ _ _ _ => False)) (fun (m : Nat) (B : Int32 → Int32 → Int32 → Int32 → Int32 → Int32 → Int32 → Int32 → St → Prop) => ∀ (X : Nat → Int32) (u k f : Nat) (σ : St), LW n P σ → LD n l P X σ → okU c n l u X → KX n P X → QB n P X → ¬ X 502 < X 550 + 10 * P (2 + 83 * i) → X (508 + 4 * j + 2) = nI k → (X 549 = 0 → k ≤ cellsN P i ∧ 6000 < 3 * f + u) → nxt j i s (cellsN P i) k f X = Y → m = 2 * (6000 - u) + (if X 549 = 0 then 1 else 0) → at8 B X σ) ?_ (2 * (6000 - u) + 1) (by omega)
  · exact key X u 0 7000 σ w d oX kX qX hh ek (fun _ => ⟨by omega, by omega⟩) eR (by rw [if_pos z])
  intro m B hB X u k f σ w d oX kX qX hh ek hk eN em
  have e5 : σ.1 356 j = nI k := by rw [(d.2 j hj).1, ek]
  by_cases z : X 549 = 0
  rotate_left
  · have eX : X = Y := by rw [← eN]; exact (if_neg (fun q => z q.1)).symm
    refine L_exit (X := X) (by omega) (by omega) e5 (Or.inl z) ?_
    have hE' := hE σ u
    rw [← eX] at hE'
    exact hE' w d oX kX qX hh
  obtain ⟨hk1, hk2⟩ := hk z
  by_cases hkN : k < cellsN P i
  rotate_left
  · have eX : X = Y := by rw [← eN]; exact (if_neg (fun q => hkN q.2)).symm
    refine L_exit (X := X) (by omega) (by omega) e5 (Or.inr ⟨by omega, by omega⟩) ?_
    have hE' := hE σ u
    rw [← eX] at hE'
    exact hE' w d oX kX qX hh
  rw [if_pos z] at em
  have hu := oX.2.2
  obtain ⟨g, rfl⟩ : ∃ g, f = g + 1 := ⟨f - 1, by omega⟩
  have eN2 : cellsR j i s (cellsN P i - k - 1) (k + 1) (cellF j i s k (g + 1) X) = Y := by rw [← eN]; exact (if_pos ⟨z, hkN⟩).symm
  have pd : X (2 + 83 * i) = P (2 + 83 * i) := by
    have := kX.1 (1 + 83 * i + 1) (kp_t (by omega) (by omega))
    rw [show 1 + 83 * i + 1 = 2 + 83 * i by omega] at this
    exact this
  have ecX : cellsN X i = cellsN P i := by
    unfold cellsN
    rw [kX.1 (1 + 83 * i) (kp_t (i := i) (r := 0) (by omega) (by omega))]
  have n0 : ∀ v : Int32, v = 2 ∨ v = 3 → v ≠ 0 := fun v h => by rcases h with rfl | rfl <;> decide
  have e2 : cC j i s k X (508 + 4 * j + 2) = X (508 + 4 * j + 2) + (if coV (cB X) (83 * i + (20 * s + k)) ≤ X 500 - X 506 then 1 else 0) := cC_2 (by omega) (by omega) hs (by omega)
  have c550 := cC_550 (X := X) (j := j) (i := i) (s := s) (k := k) (by omega) (by omega) hs (by omega)
  have c502 : cC j i s k X 502 = X 502 := cC_hi (by omega) (by omega) hs (by omega) (by omega) (by omega) (by omega) (by omega)
  have c549 : cC j i s k X 549 = X 549 := cC_hi (by omega) (by omega) hs (by omega) (by omega) (by omega) (by omega) (by omega)
  have c500 : cC j i s k X 500 = X 500 := cC_hi (by omega) (by omega) hs (by omega) (by omega) (by omega) (by omega) (by omega)
  have c506 := cC_506 (X := X) (j := j) (i := i) (s := s) (k := k) (by omega)
  have hi1 : nI k + 1 = nI (k + 1) := iplus k
  refine L_turn ok sm hj hi hs hkN e1 w d oX kX z ek (fun nf D => ?_) (fun σ' w' hf hfull nd D => ?_) (fun σ' w' hf hfull fd D => ?_) (fun σ' w' hf hnf D => ?_)
  · refine hB (2 * (6000 - u)) (by omega) (upd X 549 2) u k (g + 1) σ w D oX.w9 (kX.w9 h6) (qX.tr (QB.hi oX.1 (by omega) (by omega) (by omega))) ?_ ?_ (fun q => absurd q (by rw [upd_s]; decide)) ?_ ?_
    · rw [upd_n (by omega), upd_n (by omega)]; exact hh
    · rw [upd_n (by omega)]; exact ek
    · rw [← eN2, cellF_s, if_pos nf, cellsR_stop (by rw [upd_s]; decide)]
      exact if_neg (fun q => absurd q.1 (by rw [upd_s]; decide))
    · rw [if_neg (by rw [upd_s]; decide)]
      rfl
  all_goals obtain ⟨u1, cap, gg, cv, b1, b2, b3, b4, b5, b6, b7, b8, b9, b10, b11, b12, b13, b14, b15, b16⟩ := oX.cell hi hs (show k < 20 by omega) (show j < 10 by omega) hf
  all_goals have kC := kX.turn h6 (show j < 10 by omega) hi hs (show k < 20 by omega)
  all_goals have qC := qX.tr (QB.turn oX.1 b11.1 (show j < 10 by omega) hi hs (show k < cellsN X i by omega))
  all_goals have hC : ¬ cC j i s k X 502 < cC j i s k X 550 + 10 * P (2 + 83 * i) := by (rw [c502, c550, ← pd]; exact hf)
  · obtain ⟨k', ek'⟩ : ∃ k', cC j i s k X (508 + 4 * j + 2) = nI k' := by
      rw [e2, ek]
      split
      · exact ⟨k + 1, hi1⟩
      · exact ⟨k, i0 _⟩
    refine hB (2 * (6000 - u1)) (by omega) (upd (cC j i s k X) 549 3) u1 k' (g + 1) σ' w' D b12.w9 (kC.w9 h6) (qC.tr (QB.hi b12.1 (by omega) (by omega) (by omega))) ?_ ?_ (fun q => absurd q (by rw [upd_s]; decide)) ?_ ?_
    · rw [upd_n (by omega), upd_n (by omega)]; exact hC
    · rw [upd_n (by omega)]; exact ek'
    · rw [← eN2, cellF_s, if_neg hf, if_pos hfull, if_pos nd, cellsR_stop (by rw [upd_s]; decide)]
      exact if_neg (fun q => absurd q.1 (by rw [upd_s]; decide))
    · rw [if_neg (by rw [upd_s]; decide)]
      rfl
  · obtain ⟨u2, g1, g2⟩ := oX.dump b12 hi c502 fd
    have hu2 := g2.2.2
    have z' : cD i X (cC j i s k X) 549 = 0 := by
      rw [cD_lo (by omega) (by omega) (by omega) (by omega), c549]
      exact z
    have hD : ¬ cD i X (cC j i s k X) 502 < cD i X (cC j i s k X) 550 + 10 * P (2 + 83 * i) := by
      rw [cD_lo (show (502 : Nat) ≠ 550 by omega) (by omega) (by omega) (by omega), cD_550, ← pd]
      exact fd
    have eL : cD i X (cC j i s k X) (508 + 4 * j + 2) = cC j i s k X (508 + 4 * j + 2) := cD_lo (by omega) (by omega) (by omega) (by omega)
    by_cases wr0 : coV (cB X) (83 * i + (20 * s + k)) ≤ X 500 - X 506
    · refine hB (2 * (6000 - u2) + 1) (by omega) (cD i X (cC j i s k X)) u2 (k + 1) 7000 σ' w' D g2 (kC.dump h6) (qC.tr (QB.dump b12.1)) hD ?_ (fun _ => ⟨by omega, by omega⟩) ?_ (by rw [if_pos z'])
      · rw [eL, e2, if_pos wr0, ek, hi1]
      · rw [nxt_R z' (by omega), ← eN2, cellF_s, if_neg hf, if_pos hfull, if_neg fd, if_pos wr0]
        rfl
    · refine hB (2 * (6000 - u2) + 1) (by omega) (cD i X (cC j i s k X)) u2 k g σ' w' D g2 (kC.dump h6) (qC.tr (QB.dump b12.1)) hD ?_ (fun _ => ⟨by omega, by omega⟩) ?_ (by rw [if_pos z'])
      · rw [eL, e2, if_neg wr0, ek, i0]
      · rw [← eN2, cellF_s, if_neg hf, if_pos hfull, if_neg fd, if_neg wr0]
        exact if_pos ⟨z', hkN⟩
  · have wr0 : coV (cB X) (83 * i + (20 * s + k)) ≤ X 500 - X 506 := by
      refine Decidable.byContradiction (fun q => hnf ?_)
      rw [c506, c500, mnI_le (Int32.le_of_lt (Int32.not_le.mp q))]
      grind
    have z' : cC j i s k X 549 = 0 := by rw [c549]; exact z
    refine hB (2 * (6000 - u1) + 1) (by omega) (cC j i s k X) u1 (k + 1) 7000 σ' w' D b12 kC qC hC ?_ (fun _ => ⟨by omega, by omega⟩) ?_ (by rw [if_pos z'])
    · rw [e2, if_pos wr0, ek, hi1]
    · rw [nxt_R z' (by omega), ← eN2, cellF_s, if_neg hf, if_neg hnf]
      rfl
