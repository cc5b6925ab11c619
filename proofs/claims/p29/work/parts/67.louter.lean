-- the law's outer loop: all legs
/-- the loop's numbers, off the page -/
def at10 (B : Int32 → Int32 → Int32 → Int32 → Int32 → Int32 → Int32 → Int32 → Int32 → Int32 → St → Prop) (X : Nat → Int32) (pos : Int32) (k : Nat) (σ : St) : Prop := B (X 505) (X 506) (X 502 - X 550) (X 561) pos (X 549) (X 551) (X 552) (X 553) (nI k) σ
theorem cC_o {X : Nat → Int32} {j j' i s k : Nat} (hj : j < 10) (hj' : j' < 10) (hi : i < 6) (hs : s < 2) (hk : k < 20) (h : j' ≠ j) : cC j i s k X (508 + 4 * j' + 2) = X (508 + 4 * j' + 2) := by
  unfold cC
  rw [cnt2_ne (by omega), swp_ne (by omega) (by omega) (by omega) (by omega) (by omega) (by omega), cB_ne (by omega)]
theorem cellF_o {j j' i s k : Nat} (hj : j < 10) (hj' : j' < 10) (hi : i < 6) (hs : s < 2) (hk : k < 20) (h : j' ≠ j) : ∀ f (X : Nat → Int32), cellF j i s k f X (508 + 4 * j' + 2) = X (508 + 4 * j' + 2) := by
  intro f
  induction f with
  | zero => intro X; rfl
  | succ f ih =>
    intro X
    rw [cellF_s]
    split
    · rw [upd_n (by omega)]
    · split
      · split
        · rw [upd_n (by omega), cC_o hj hj' hi hs hk h]
        · split
          · rw [cD_lo (by omega) (by omega) (by omega) (by omega), cC_o hj hj' hi hs hk h]
          · rw [ih, cD_lo (by omega) (by omega) (by omega) (by omega), cC_o hj hj' hi hs hk h]
      · rw [cC_o hj hj' hi hs hk h]
theorem cellsF_o {j j' i s : Nat} {X : Nat → Int32} (hj : j < 10) (hj' : j' < 10) (hi : i < 6) (hs : s < 2) (h : j' ≠ j) : ∀ k, k ≤ 20 → cellsF j i s k X (508 + 4 * j' + 2) = X (508 + 4 * j' + 2) := by
  intro k
  induction k with
  | zero => intro _; rfl
  | succ k ih =>
    intro hk
    have e : cellsF j i s (k + 1) X = if cellsF j i s k X 549 = 0 then cellF j i s k 7000 (cellsF j i s k X) else cellsF j i s k X := rfl
    rw [e]
    split
    · rw [cellF_o hj hj' hi hs (by omega) h, ih (by omega)]
    · exact ih (by omega)
theorem neg1_ne {i : Nat} (h : i < 1000001) : ¬ nI i = (-1 : Int32) := fun e => by
  have := congrArg Int32.toInt e
  rw [nI_toInt (by omega)] at this
  rw [show (-1 : Int32).toInt = -1 from by decide] at this
  omega
theorem L_323 {c n l i k u : Nat} {P X : Nat → Int32} {pos : Int32} {σ : St} {B225 : Int32 → Int32 → Int32 → Int32 → Int32 → Int32 → Int32 → Int32 → Int32 → Int32 → St → Prop} {Q : Int32 → St → Prop} (ok : okP c n l P) (w : LW n P σ) (oX : okU c n l u X) (kX : KX n P X) (hi : i < n) (hpo : posO n pos)
    (hno : X 502 < X 550 + driV X pos i + 10 * X (2 + 83 * i) → at8 (fun x8 x9 x12 x14 x16 x17 x18 x19 τ => m_L_shift_646 0 (nI n) (nI l) 354 355 356 357 (P 499) x8 x9 (P 500) (P 501) x12 (P 503) x14 pos x16 x17 x18 x19 (nI k) B225 Q τ) (upd X 549 1) σ)
    (hy : ¬ X 502 < X 550 + driV X pos i + 10 * X (2 + 83 * i) → at8 (itN (m_L_shift_361 0 (nI n) (nI l) 354 355 356 357 (P 499) (P 500) (P 501) (P 503) (nI i) (nI k) (nI i) (10 * P (2 + 83 * i)) (nI (cellsN P i)) B225 Q) (fun _ _ _ _ _ _ _ _ _ => False) FU) (upd X 550 (X 550 + driV X pos i)) σ) : m_L_shift_323 0 (nI n) (nI l) 354 355 356 357 (P 499) (X 505) (X 506) (P 500) (P 501) (X 502 - X 550) (P 503) (X 561) pos (X 549) (X 551) (X 552) (X 553) (nI k) (nI i) (10 * P (2 + 83 * i)) B225 Q (driV X pos i) σ := by
  have h6 := ok.1.2.1
  obtain ⟨cv, cv1, cv2⟩ := ok.cells hi
  have pd : X (2 + 83 * i) = P (2 + 83 * i) := by
    have := kX.1 (1 + 83 * i + 1) (kp_t (by omega) (by omega))
    rw [show 1 + 83 * i + 1 = 2 + 83 * i by omega] at this
    exact this
  obtain ⟨vv, v1, v2⟩ := oX.1.dr hi hpo
  obtain ⟨len, l1, l2⟩ := oX.1.len
  obtain ⟨dd, d1, d2⟩ := oX.1.ds hi
  obtain ⟨-, u1, u2⟩ := id oX
  have fit : driV X pos i + 10 * P (2 + 83 * i) ≤ X 502 - X 550 ↔ ¬ X 502 < X 550 + driV X pos i + 10 * X (2 + 83 * i) := by
    rw [← pd, v1, d1, l1, u1, li 10, pk_mul, nI_add, nI_add, nI_add, leL (by omega) (by omega) (by omega), lti (by omega) (by omega)]
    omega
  unfold m_L_shift_323
  refine ⟨fun q x12 e12 => ?_, fun q => ?_⟩
  · refine a_st (c := c) (n := n) (l := l) (i := i) (r := 0) (by rw [w.1]; exact ok) hi (by omega) ?_
    rw [w.1, show 1 + 83 * i + 0 = 1 + 83 * i from rfl, cv]
    have h := hy (fit.mp q)
    unfold at8 at h
    rw [upd_n (show (505 : Nat) ≠ 550 by omega), upd_n (show (506 : Nat) ≠ 550 by omega), upd_n (show (502 : Nat) ≠ 550 by omega), upd_s, upd_n (show (561 : Nat) ≠ 550 by omega), upd_n (show (549 : Nat) ≠ 550 by omega), upd_n (show (551 : Nat) ≠ 550 by omega), upd_n (show (552 : Nat) ≠ 550 by omega), upd_n (show (553 : Nat) ≠ 550 by omega)] at h
    have e : x12 = X 502 - (X 550 + driV X pos i) := by rw [e12]; grind
    rw [e]
    exact h
  · have h := hno (Decidable.not_not.mp (mt fit.mpr q))
    unfold at8 at h
    rw [upd_n (show (505 : Nat) ≠ 549 by omega), upd_n (show (506 : Nat) ≠ 549 by omega), upd_n (show (502 : Nat) ≠ 549 by omega), upd_n (show (550 : Nat) ≠ 549 by omega), upd_n (show (561 : Nat) ≠ 549 by omega), upd_s, upd_n (show (551 : Nat) ≠ 549 by omega), upd_n (show (552 : Nat) ≠ 549 by omega), upd_n (show (553 : Nat) ≠ 549 by omega)] at h
    exact h
theorem L_225 {c n l i k u : Nat} {P X : Nat → Int32} {pos : Int32} {σ : St} {B225 : Int32 → Int32 → Int32 → Int32 → Int32 → Int32 → Int32 → Int32 → Int32 → Int32 → St → Prop} {Q : Int32 → St → Prop} (ok : okP c n l P) (w : LW n P σ) (oX : okU c n l u X) (kX : KX n P X) (hk : k < l) (z : X 549 = 0) (ei : P (508 + 4 * k) = nI i) (hi : i < n) (hpo : posO n pos) (h : m_L_shift_323 0 (nI n) (nI l) 354 355 356 357 (P 499) (X 505) (X 506) (P 500) (P 501) (X 502 - X 550) (P 503) (X 561) pos (X 549) (X 551) (X 552) (X 553) (nI k) (nI i) (10 * P (2 + 83 * i)) B225 Q (driV X pos i) σ) : at10 (m_L_shift_225 0 (nI n) (nI l) 354 355 356 357 (P 499) (P 500) (P 501) (P 503) Q B225) X pos k σ := by
  have h6 := ok.1.2.1
  have h10 := ok.1.2.2.2
  have pds : ∀ a, a < n → X (2 + 83 * a) = P (2 + 83 * a) := fun a ha => by
    have := kX.1 (1 + 83 * a + 1) (kp_t (by omega) (by omega))
    rw [show 1 + 83 * a + 1 = 2 + 83 * a by omega] at this
    exact this
  unfold at10 m_L_shift_225
  refine ⟨fun q => absurd q (nle_of hk (by omega)), fun _ => ⟨fun q => absurd z q, fun _ => ?_⟩⟩
  refine a_leg (c := c) (n := n) (l := l) (j := k) (r := 0) (by rw [w.1]; exact ok) hk (by omega) (fun q => by omega) ?_
  rw [w.1, show 508 + 4 * k + 0 = 508 + 4 * k from rfl, ei]
  refine a_st (c := c) (n := n) (l := l) (i := i) (r := 1) (by rw [w.1]; exact ok) hi (by omega) ?_
  rw [w.1, show 1 + 83 * i + 1 = 2 + 83 * i by omega]
  intro x22 e22
  subst e22
  rcases hpo with rfl | ⟨a, ha, rfl⟩
  · refine ⟨fun q => absurd q (by decide), fun _ => ?_⟩
    unfold m_L_shift_281
    refine ⟨fun q => absurd q (by decide), fun _ => ?_⟩
    have e : driV X (-1) i = 10 * P (2 + 83 * i) := by
      unfold driV
      rw [if_neg (fun q => neg1_ne (show i < 1000001 by omega) q.symm), if_pos rfl, pds i hi]
    rw [e] at h
    exact h
  · have nn : (0 : Int32) ≤ nI a := (lei (a := 0) (by omega) (by omega)).mpr (Nat.zero_le _)
    refine ⟨fun _ => ?_, fun q => absurd nn q⟩
    refine a_st (c := c) (n := n) (l := l) (i := a) (r := 1) (by rw [w.1]; exact ok) ha (by omega) ?_
    refine a_st (c := c) (n := n) (l := l) (i := i) (r := 1) (by rw [w.1]; exact ok) hi (by omega) ?_
    rw [w.1, show 1 + 83 * i + 1 = 2 + 83 * i by omega, show 1 + 83 * a + 1 = 2 + 83 * a by omega]
    unfold m_L_shift_281
    refine ⟨fun _ => ⟨fun q => ?_, fun q => ?_⟩, fun q => absurd nn q⟩
    · have e : driV X (nI a) i = 10 * (if 0 ≤ P (2 + 83 * a) - P (2 + 83 * i) then P (2 + 83 * a) - P (2 + 83 * i) else -(P (2 + 83 * a) - P (2 + 83 * i))) + 50 := by
        unfold driV
        rw [if_neg q, if_neg (neg1_ne (by omega)), tn a (by omega), pds a ha, pds i hi]
      refine ⟨fun q2 => ?_, fun q2 => ?_⟩
      · rw [e, if_pos q2] at h
        exact h
      · rw [e, if_neg q2] at h
        exact h
    · have e : driV X (nI a) i = 0 := if_pos q
      rw [e] at h
      exact h
theorem L_outer {c n l : Nat} {P Pc : Nat → Int32} {σ : St} {Q : Int32 → St → Prop} (ok : okP c n l P) (sm : SM n l P) (w : LW n P σ) (d : LD n l P Pc σ) (oX : okU c n l 0 Pc) (kX : KX n P Pc) (qX : QB n P Pc) (z : Pc 549 = 0) (ez : ∀ j, j < l → Pc (508 + 4 * j + 2) = 0)
    (hE : ∀ σ' u', LW n P σ' → LD n l P (legsF id Pc l).1 σ' → okU c n l u' (legsF id Pc l).1 → KX n P (legsF id Pc l).1 → QB n P (legsF id Pc l).1 → posO n (legsF id Pc l).2 → ¬ (legsF id Pc l).1 502 < (legsF id Pc l).1 550 + hmV (legsF id Pc l).1 (legsF id Pc l).2 → at10 (fun x8 x9 x12 x14 x15 x16 x17 x18 x19 x20 τ => m_L_shift_664 0 (nI n) (nI l) 354 356 357 (P 499) x8 x9 (P 500) (P 501) x12 (P 503) x14 x15 x16 x17 x18 x19 x20 Q τ) (legsF id Pc l).1 (legsF id Pc l).2 (doneF id Pc l) σ') : at10 (itN (m_L_shift_225 0 (nI n) (nI l) 354 355 356 357 (P 499) (P 500) (P 501) (P 503) Q) (fun _ _ _ _ _ _ _ _ _ _ _ => False) FU) Pc (-1) 0 σ := by
  obtain ⟨s1, s2, s3⟩ := id sm
  have h6 := ok.1.2.1
  have h10 := ok.1.2.2.2
  have hc20 : ∀ i, i < n → cellsN P i ≤ 20 := fun i hi => (ok.cells hi).2.2
  have key := it_lt (F := m_L_shift_225 0 (nI n) (nI l) 354 355 356 357 (P 499) (P 500) (P 501) (P 503) Q) (bot := (fun _ _ _ _ _ _ _ _ _ _ _ => False)) (fun (m : Nat) (B : Int32 → Int32 → Int32 → Int32 → Int32 → Int32 → Int32 → Int32 → Int32 → Int32 → St → Prop) => ∀ (k u : Nat) (σ : St), k ≤ l → LW n P σ → LD n l P (legsF id Pc k).1 σ → okU c n l u (legsF id Pc k).1 → KX n P (legsF id Pc k).1 → QB n P (legsF id Pc k).1 → posO n (legsF id Pc k).2 → ¬ (legsF id Pc k).1 502 < (legsF id Pc k).1 550 + hmV (legsF id Pc k).1 (legsF id Pc k).2 → (∀ j, k ≤ j → j < l → (legsF id Pc k).1 (508 + 4 * j + 2) = 0) → m = 2 * (l - k) + (if (legsF id Pc k).1 549 = 0 then 1 else 0) → at10 B (legsF id Pc k).1 (legsF id Pc k).2 (doneF id Pc k) σ) ?_ (2 * l + 1) (by omega)
  · refine key 0 0 σ (by omega) w d oX kX qX (Or.inl rfl) ?_ (fun j _ hj => ez j hj) ?_
    · obtain ⟨len, l1, l2⟩ := oX.1.len
      show ¬ Pc 502 < Pc 550 + hmV Pc (-1)
      unfold hmV
      rw [if_pos rfl, oX.2.1, l1, i0, lti (by omega) (by omega)]
      omega
    · have : (legsF id Pc 0).1 549 = 0 := z
      rw [if_pos this]
      omega
  intro m B hB k u σ hkl w d oX kX qX hpo hh ez em
  by_cases z : (legsF id Pc k).1 549 = 0
  rotate_left
  · obtain ⟨e1, e2⟩ := legsF_stop (o := id) (k := k) (P := Pc) z (l - k)
    rw [show k + (l - k) = l by omega] at e1 e2
    have h := hE σ u
    rw [e1, e2] at h
    have h := h w d oX kX qX hpo hh
    unfold at10 at h ⊢
    unfold m_L_shift_225
    exact ⟨fun _ => h, fun _ => ⟨fun _ => h, fun q => absurd q z⟩⟩
  have ed := legsF_on (o := id) (P := Pc) k z
  rw [if_pos z] at em
  by_cases hk : k < l
  rotate_left
  · have ekl : k = l := by omega
    subst ekl
    have h := hE σ u w d oX kX qX hpo hh
    rw [ed] at h ⊢
    unfold at10 at h ⊢
    unfold m_L_shift_225
    exact ⟨fun _ => h, fun q => absurd ((lei (by omega) (by omega)).mpr (Nat.le_refl k)) q⟩
  obtain ⟨a1, a2, a3, a4⟩ := ok.lego.1 k hk
  have eF : legsF id Pc (k + 1) = legF k (legsF id Pc k).1 (legsF id Pc k).2 := if_pos z
  have eD : doneF id Pc (k + 1) = if (legF k (legsF id Pc k).1 (legsF id Pc k).2).1 549 = 0 then k + 1 else k := by
    have e : doneF id Pc (k + 1) = if (legsF id Pc k).1 549 = 0 ∧ (legsF id Pc (k + 1)).1 549 = 0 then k + 1 else doneF id Pc k := rfl
    rw [e, ed, eF]
    by_cases y : (legF k (legsF id Pc k).1 (legsF id Pc k).2).1 549 = 0
    · rw [if_pos ⟨z, y⟩, if_pos y]
    · rw [if_neg (fun q => y q.2), if_neg y]
  rw [ed]
  have step := fun (σ' : St) (u' : Nat) => hB (2 * (l - (k + 1)) + (if (legF k (legsF id Pc k).1 (legsF id Pc k).2).1 549 = 0 then 1 else 0)) (by split <;> omega) (k + 1) u' σ' (by omega)
  rw [eF, eD] at step
  generalize hX : (legsF id Pc k).1 = X at *
  generalize hpos : (legsF id Pc k).2 = pos at *
  have kl0 : X (508 + 4 * k) = P (508 + 4 * k) := kX.1 _ (Or.inr (Or.inr (Or.inr (Or.inr (Or.inl ⟨by omega, by omega, by omega⟩)))))
  have kl1 : X (508 + 4 * k + 1) = P (508 + 4 * k + 1) := kX.1 _ (Or.inr (Or.inr (Or.inr (Or.inr (Or.inl ⟨by omega, by omega, by omega⟩)))))
  have eI : lgI X k = lgI P k := by unfold lgI; rw [kl0]
  have eS : lgS X k = lgS P k := by unfold lgS; rw [kl1]
  have eC : cellsN X (lgI P k) = cellsN P (lgI P k) := by unfold cellsN; rw [kX.1 (1 + 83 * lgI P k) (kp_t (i := lgI P k) (r := 0) (by omega) (by omega))]
  have eL : legF k X pos = if X 502 < X 550 + driV X pos (lgI P k) + 10 * X (2 + 83 * lgI P k) then (upd X 549 1, pos) else (cellsF k (lgI P k) (lgS P k) (cellsN P (lgI P k)) (upd X 550 (X 550 + driV X pos (lgI P k))), nI (lgI P k)) := by
    unfold legF
    rw [eI, eS, eC]
  rw [eL] at step
  refine L_225 ok w oX kX hk z a2 a1 hpo (L_323 ok w oX kX a1 hpo (fun nf => ?_) (fun fi => ?_))
  · rw [if_pos nf] at step
    have st := step σ u w (d.cg h6 h10 hc20 (fun y hy => upd_n (by omega))) oX.w9 (kX.w9 h6) (qX.tr (QB.hi oX.1 (by omega) (by omega) (by omega))) hpo ?_ (fun j j1 j2 => by show upd X 549 1 _ = 0; rw [upd_n (by omega)]; exact ez j (by omega) j2) rfl
    · have n1 : ¬ upd X 549 1 549 = 0 := by rw [upd_s]; decide
      have st : at10 B (upd X 549 1) pos (if upd X 549 1 549 = 0 then k + 1 else k) σ := st
      rw [if_neg n1] at st
      unfold at8
      unfold m_L_shift_646
      refine ⟨fun _ x20 e20 => ?_, fun q => absurd q n1⟩
      rw [e20, i0]
      exact st
    · have e : hmV (upd X 549 1) pos = hmV X pos := by
        unfold hmV
        rcases hpo with rfl | ⟨a, ha, rfl⟩
        · rfl
        · rw [tn a (by omega), upd_n (by omega)]
      show ¬ upd X 549 1 502 < upd X 549 1 550 + hmV (upd X 549 1) pos
      rw [e, upd_n (by omega), upd_n (by omega)]
      exact hh
  · rw [if_neg fi] at step
    obtain ⟨u1, o1⟩ := oX.drv a1 hpo fi
    have pd : X (2 + 83 * lgI P k) = P (2 + 83 * lgI P k) := by
      have := kX.1 (1 + 83 * lgI P k + 1) (kp_t (by omega) (by omega))
      rw [show 1 + 83 * lgI P k + 1 = 2 + 83 * lgI P k by omega] at this
      exact this
    refine L_inner ok sm hk a1 a3 a4 w (d.cg h6 h10 hc20 (fun y hy => upd_n (by omega))) o1 (kX.up h6 (fun y hy => (kp_x hy).2.2.2.2.2.1) (by omega)) (qX.tr (QB.hi oX.1 (by omega) (by omega) (by omega))) ?_ (by rw [upd_n (by omega)]; exact z) (by rw [upd_n (by omega)]; exact ez k (Nat.le_refl k) hk) rfl (fun σ' u' w' d' o' k' q' h' => ?_)
    · rw [upd_n (by omega), upd_s, ← pd]
      exact fi
    · have st := step σ' u' w' d' o' k' q' (Or.inr ⟨_, a1, rfl⟩) ?_ (fun j j1 j2 => ?_) rfl
      · unfold at8
        unfold m_L_shift_646
        refine ⟨fun q x20 e20 => ?_, fun q x20 e20 => ?_⟩
        · rw [e20, i0]
          have st := st
          rw [if_neg (show ¬ _ = (0 : Int32) from q)] at st
          exact st
        · rw [e20, iplus]
          have st := st
          rw [if_pos (show _ = (0 : Int32) from q)] at st
          exact st
      · show ¬ _ < _ + hmV _ (nI (lgI P k))
        unfold hmV
        rw [if_neg (neg1_ne (by omega)), tn _ (by omega)]
        have e := k'.1 (1 + 83 * lgI P k + 1) (kp_t (by omega) (by omega))
        rw [show 1 + 83 * lgI P k + 1 = 2 + 83 * lgI P k by omega] at e
        rw [← e] at h'
        exact h'
      · show cellsF k (lgI P k) (lgS P k) (cellsN P (lgI P k)) _ (508 + 4 * j + 2) = 0
        rw [cellsF_o (by omega) (by omega) (by omega) a3 (by omega) _ (hc20 _ a1), upd_n (by omega)]
        exact ez j (by omega) j2
