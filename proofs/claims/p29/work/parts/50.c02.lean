/-- what street(x1, x2) tells -/
noncomputable def vStreet (P : Nat → Int32) (x1 x2 : Int32) : Int32 := cif (∃ i n, P 0 = nI n ∧ i < n ∧ n ≤ 6 ∧ x1 = nI i)
  (if x2 = 0 then P (1 + 83 * x1.toNatClampNeg) else if x2 = 1 then P (2 + 83 * x1.toNatClampNeg) else if x2 = 2 then P (3 + 83 * x1.toNatClampNeg)
   else if x2 = 3 then sD P (4 + 83 * x1.toNatClampNeg) (P (1 + 83 * x1.toNatClampNeg)).toNatClampNeg else if x2 = 4 then sD P (24 + 83 * x1.toNatClampNeg) (P (1 + 83 * x1.toNatClampNeg)).toNatClampNeg
   else if x2 = 5 then pP (fun k => P (44 + 83 * x1.toNatClampNeg + k)) (P (1 + 83 * x1.toNatClampNeg)).toNatClampNeg else if x2 = 6 then gD (fun k => P (4 + 83 * x1.toNatClampNeg + k)) (P (1 + 83 * x1.toNatClampNeg)).toNatClampNeg
   else if x2 = 7 then cL (fun j => P (508 + 4 * j)) x1 (P 507).toNatClampNeg else -1) (-1)
theorem sd_pg {σ : St} {B i s n : Nat} (hi : i < 6) (hs : s < 2) (hn : n ≤ 20) : sD (σ.1 (B + 1 + 5 + 3 * i + 1)) (20 * s) n = sD (pgW σ B) (4 + 83 * i + 20 * s) n := by
  refine sD_eq n (fun k hk => ?_)
  rw [gdi σ B hi (by omega)]
  congr 1
  omega
theorem s_9_street {c n l : Nat} {x1 x2 : Int32} {Q : Int32 → St → Prop} {σ : St} {r0 : Nat} (ok : okP c n l (pgW σ (r0 + 7))) (h : Q (vStreet (pgW σ (r0 + 7)) x1 x2) σ) : m_9_street r0 x1 x2 Q σ := by
  unfold m_9_street
  have hn := ok.1.1
  have h6 := ok.1.2.1
  refine s_8_hasStreet (n := n) hn (by omega) (fun i hi e => ?_) (fun q => ?_)
  · refine ⟨fun _ => ?_, fun q => absurd q (by decide)⟩
    subst e
    unfold vStreet at h
    rw [cif_t ⟨i, n, hn, hi, h6, rfl⟩, tn i (by omega)] at h
    obtain ⟨⟨v, hv, hv1, hv2⟩, -, -⟩ := ok.2.1 i hi
    rw [hv, tn v (by omega), ok.1.2.2.1, tn l (by have := ok.1.2.2.2; omega)] at h
    rw [tn i (by omega)]
    refine ⟨vin (by omega), fun r3 e3 => ?_⟩
    rw [e3]
    have hc : σ.1 (r0 + 7 + 1 + 5 + 3 * i) 0 = nI v := pg_st (k := 0) (by omega) (by omega) hv
    refine ⟨fun q => ?_, fun q => ?_, fun q => ?_, fun q => ?_, fun q => ?_, fun q => ?_, fun q => ?_, fun q => ?_, fun q => ?_⟩
    · rw [if_neg (out_ne q (by decide)), if_neg (out_ne q (by decide)), if_neg (out_ne q (by decide)), if_neg (out_ne q (by decide)), if_neg (out_ne q (by decide)), if_neg (out_ne q (by decide)), if_neg (out_ne q (by decide)), if_neg (out_ne q (by decide))] at h
      exact h
    · rw [if_pos q] at h
      rw [hc]
      exact h
    · rw [if_neg (by rw [q]; decide), if_pos q] at h
      rw [gst σ (r0 + 7) (k := 1) (by omega) (by omega), show 1 + 83 * i + 1 = 2 + 83 * i by omega]
      exact h
    · rw [if_neg (by rw [q]; decide), if_neg (by rw [q]; decide), if_pos q] at h
      rw [gst σ (r0 + 7) (k := 2) (by omega) (by omega), show 1 + 83 * i + 2 = 3 + 83 * i by omega]
      exact h
    · rw [if_neg (by rw [q]; decide), if_neg (by rw [q]; decide), if_neg (by rw [q]; decide), if_pos q] at h
      refine s_6_dirtOfSide (s := 0) hc hv2 (by decide) ?_
      rw [sd_pg (by omega) (by decide) hv2]
      exact h
    · rw [if_neg (by rw [q]; decide), if_neg (by rw [q]; decide), if_neg (by rw [q]; decide), if_neg (by rw [q]; decide), if_pos q] at h
      refine s_6_dirtOfSide (s := 1) hc hv2 (by decide) ?_
      rw [sd_pg (by omega) (by decide) hv2, show 4 + 83 * i + 20 * 1 = 24 + 83 * i by omega]
      exact h
    · rw [if_neg (by rw [q]; decide), if_neg (by rw [q]; decide), if_neg (by rw [q]; decide), if_neg (by rw [q]; decide), if_neg (by rw [q]; decide), if_pos q] at h
      refine s_6_parkedCells hc hv2 ?_
      rw [pP_eq (g := fun k => pgW σ (r0 + 7) (44 + 83 * i + k)) v hv2 (fun k hk => gpa σ (r0 + 7) (by omega) hk)]
      exact h
    · rw [if_neg (by rw [q]; decide), if_neg (by rw [q]; decide), if_neg (by rw [q]; decide), if_neg (by rw [q]; decide), if_neg (by rw [q]; decide), if_neg (by rw [q]; decide), if_pos q] at h
      refine s_6_greatestDirt hc hv2 ?_
      rw [gD_eq (g := fun k => pgW σ (r0 + 7) (4 + 83 * i + k)) v hv2 (fun k hk => gdi σ (r0 + 7) (by omega) hk)]
      exact h
    · rw [if_neg (by rw [q]; decide), if_neg (by rw [q]; decide), if_neg (by rw [q]; decide), if_neg (by rw [q]; decide), if_neg (by rw [q]; decide), if_neg (by rw [q]; decide), if_neg (by rw [q]; decide), if_pos q] at h
      exact s_8_legsIn ok.1.2.2.1 ok.1.2.2.2 h
  · refine ⟨fun q => absurd rfl q, fun _ => ?_⟩
    unfold vStreet at h
    rw [cif_f (by rintro ⟨i, n', h1, h2, h3, h4⟩; have := ok.inj h1 (by omega); subst this; exact q i h2 h4)] at h
    exact h
theorem EQP.k {n l i k : Nat} {P p : Nat → Int32} (e : EQP n l P p) (hi : i < n) (hn : n ≤ 6) (hk : k < 80) : P (4 + 83 * i + k) = p (4 + 83 * i + k) := by
  have := e.st hi hn (k := 3 + k) (by omega)
  rw [show 1 + 83 * i + (3 + k) = 4 + 83 * i + k by omega] at this
  exact this
/-- what leg(x1, x2) tells -/
noncomputable def vLeg (P : Nat → Int32) (x1 x2 : Int32) : Int32 := cif (∃ j l, P 507 = nI l ∧ j < l ∧ l ≤ 10 ∧ x1 = nI j)
  (if x2 = 0 then P (508 + 4 * x1.toNatClampNeg) else if x2 = 1 then P (509 + 4 * x1.toNatClampNeg) else if x2 = 2 then (if P 548 = 0 then -2 else P (510 + 4 * x1.toNatClampNeg)) else if x2 = 3 then (if P 548 = 0 then -2 else P (511 + 4 * x1.toNatClampNeg)) else -1) (-1)
theorem s_9_leg {c n l : Nat} {x1 x2 : Int32} {Q : Int32 → St → Prop} {σ : St} {r0 : Nat} (ok : okP c n l (pgW σ (r0 + 7))) (h : Q (vLeg (pgW σ (r0 + 7)) x1 x2) σ) : m_9_leg r0 x1 x2 Q σ := by
  unfold m_9_leg
  have hl := ok.1.2.2.1
  have h10 := ok.1.2.2.2
  refine s_8_hasLeg (n := l) hl (by omega) (fun j hj e => ?_) (fun q => ?_)
  · refine ⟨fun q => absurd q (by decide), fun _ => ?_⟩
    subst e
    unfold vLeg at h
    rw [cif_t ⟨j, l, hl, hj, h10, rfl⟩, tn j (by omega)] at h
    rcases ix x2 4 with g | ⟨k, rfl, hk, hk2⟩ | ⟨k, rfl, hk⟩
    · rw [if_neg (show ¬ x2 = 0 from neg_ne (j := 0) g (by omega)), if_neg (show ¬ x2 = 1 from neg_ne (j := 1) g (by omega)), if_neg (show ¬ x2 = 2 from neg_ne (j := 2) g (by omega)), if_neg (show ¬ x2 = 3 from neg_ne (j := 3) g (by omega))] at h
      exact ⟨fun _ => h, fun q => absurd g q⟩
    · have nk : ∀ v, v < 4 → ¬ nI k = nI v := fun v hv e => by rw [eqI (by omega) (by omega)] at e; omega
      rw [if_neg (show ¬ nI k = 0 from nk 0 (by omega)), if_neg (show ¬ nI k = 1 from nk 1 (by omega)), if_neg (show ¬ nI k = 2 from nk 2 (by omega)), if_neg (show ¬ nI k = 3 from nk 3 (by omega))] at h
      exact ⟨fun q => absurd q (nn0 hk2), fun _ => ⟨fun q => absurd ((leI (b := 3) (by omega) (by omega)).mp q) (by omega), fun _ => h⟩⟩
    · refine ⟨fun q => absurd q (nn0 (by omega)), fun _ => ⟨fun _ => ?_, fun q => absurd ((leI (b := 3) (by omega) (by omega)).mpr (by omega)) q⟩⟩
      rw [tn j (by omega)]
      refine ⟨vin (by omega), fun r3 e3 => ?_⟩
      rw [e3, g548]
      have gl : ∀ f, f < 4 → σ.1 (r0 + 7 + 2 + 22 + j) f = pgW σ (r0 + 7) (508 + 4 * j + f) := fun f hf => gle σ (r0 + 7) (by omega) hf
      rw [gl 0 (by omega), gl 1 (by omega), gl 2 (by omega), gl 3 (by omega)]
      rw [show 509 + 4 * j = 508 + 4 * j + 1 by omega, show 510 + 4 * j = 508 + 4 * j + 2 by omega, show 511 + 4 * j = 508 + 4 * j + 3 by omega] at h
      rcases (by omega : k = 0 ∨ k = 1 ∨ k = 2 ∨ k = 3) with rfl | rfl | rfl | rfl
      · rw [if_pos (show nI 0 = 0 from rfl)] at h
        exact ⟨fun q => absurd rfl q, fun _ => h⟩
      · rw [if_neg (show ¬ nI 1 = 0 by decide), if_pos (show nI 1 = 1 from rfl)] at h
        exact ⟨fun _ => ⟨fun q => absurd rfl q, fun _ => h⟩, fun q => absurd q (by decide)⟩
      · rw [if_neg (show ¬ nI 2 = 0 by decide), if_neg (show ¬ nI 2 = 1 by decide), if_pos (show nI 2 = 2 from rfl)] at h
        refine ⟨fun _ => ⟨fun _ => ⟨fun q => ⟨fun q2 => absurd rfl q2, fun _ => ?_⟩, fun q => ?_⟩, fun q => absurd q (by decide)⟩, fun q => absurd q (by decide)⟩
        · rw [if_neg q] at h
          exact h
        · rw [if_pos q] at h
          exact h
      · rw [if_neg (show ¬ nI 3 = 0 by decide), if_neg (show ¬ nI 3 = 1 by decide), if_neg (show ¬ nI 3 = 2 by decide), if_pos (show nI 3 = 3 from rfl)] at h
        refine ⟨fun _ => ⟨fun _ => ⟨fun q => ⟨fun _ => ?_, fun q2 => absurd q2 (by decide)⟩, fun q => ?_⟩, fun q => absurd q (by decide)⟩, fun q => absurd q (by decide)⟩
        · rw [if_neg q] at h
          exact h
        · rw [if_pos q] at h
          exact h
  · refine ⟨fun _ => ?_, fun q => absurd rfl q⟩
    unfold vLeg at h
    rw [cif_f (by rintro ⟨i, n', h1, h2, h3, h4⟩; have := ok.injl h1 (by omega); subst this; exact q i h2 h4)] at h
    exact h
/-- what latest(x) tells -/
noncomputable def vLat (P : Nat → Int32) (no : Prop) (x : Int32) : Int32 := cif (∃ k, k < 6 ∧ x = nI k) (cif no (-9) (P (549 + x.toNatClampNeg))) (-1)
theorem s_9_latest {x : Int32} {Q : Int32 → St → Prop} {σ : St} {r0 : Nat} (h : Q (vLat (pgW σ (r0 + 7)) (pgW σ (r0 + 7) 562 = 0) x) σ) : m_9_latest r0 x Q σ := by
  unfold m_9_latest
  unfold vLat at h
  rw [g562]
  rcases ix x 6 with g | ⟨k, rfl, hk, hk2⟩ | ⟨k, rfl, hk⟩
  · rw [cif_f (by rintro ⟨k, hk, e⟩; exact neg_ne g (by omega) e)] at h
    exact ⟨fun _ => h, fun q => absurd g q⟩
  · rw [cif_f (by rintro ⟨j, hj, e⟩; rw [eqI (by omega) (by omega)] at e; omega)] at h
    exact ⟨fun q => absurd q (nn0 hk2), fun _ => ⟨fun q => absurd ((leI (b := 5) (by omega) (by omega)).mp q) (by omega), fun _ => h⟩⟩
  · rw [cif_t ⟨k, hk, rfl⟩, tn k (by omega)] at h
    refine ⟨fun q => absurd q (nn0 (by omega)), fun _ => ⟨fun _ => ⟨fun q => ?_, fun q => ?_⟩, fun q => absurd ((leI (b := 5) (by omega) (by omega)).mpr (by omega)) q⟩⟩
    · rw [cif_f q, ← grep σ (r0 + 7) hk] at h
      have sk : ∀ v, v < 6 → nI k = nI v → Q (σ.1 (r0 + 7 + 5) v) σ := fun v hv e => by
        rw [eqI (by omega) (by omega)] at e
        subst e
        exact h
      refine ⟨fun q => ?_, fun q => sk 0 (by omega) q, fun q => sk 1 (by omega) q, fun q => sk 2 (by omega) q, fun q => sk 3 (by omega) q, fun q => sk 4 (by omega) q⟩
      refine sk 5 (by omega) ?_
      rw [nI_toI (by omega)] at q
      rw [show k = 5 by omega]
    · rw [cif_t q] at h
      exact h
def cellsN (P : Nat → Int32) (i : Nat) : Nat := (P (1 + 83 * i)).toNatClampNeg
/-- all dirt on the first k streets -/
def oS (P : Nat → Int32) : Nat → Int32
  | 0 => 0
  | k + 1 => oS P k + (sD P (4 + 83 * k) (cellsN P k) + sD P (24 + 83 * k) (cellsN P k))
theorem okP.cells {c n l i : Nat} {P : Nat → Int32} (ok : okP c n l P) (hi : i < n) : P (1 + 83 * i) = nI (cellsN P i) ∧ 1 ≤ cellsN P i ∧ cellsN P i ≤ 20 := by
  obtain ⟨⟨v, hv, h1, h2⟩, -, -⟩ := ok.2.1 i hi
  unfold cellsN
  rw [hv, tn v (by omega)]
  exact ⟨rfl, h1, h2⟩
theorem s_8_dirtOnStreets {c n l B : Nat} {Q : Int32 → St → Prop} {σ : St} (ok : okP c n l (pgW σ B)) (h : Q (oS (pgW σ B) n) σ) : m_8_dirtOnStreets B Q σ := by
  unfold m_8_dirtOnStreets
  have h6 := ok.1.2.1
  refine it_cnt (fun (k : Nat) (A : Int32 → Int32 → St → Prop) => A (oS (pgW σ B) k) (nI k) σ) n (by omega) ?_ ?_
  · intro k hk A hA
    unfold m_8_dirtOnStreets_4
    rw [g0, ok.1.1]
    refine ⟨fun q => absurd q (nle_of hk (by omega)), fun _ => ?_⟩
    obtain ⟨hv, hv1, hv2⟩ := ok.cells hk
    rw [tn k (by omega)]
    refine ⟨vin (by omega), ?_⟩
    refine s_6_allDirt (pg_st (k := 0) (by omega) (by omega) hv) hv2 ?_
    intro x1 e1 x2 e2
    have d0 := sd_pg (σ := σ) (B := B) (i := k) (s := 0) (by omega) (by omega) hv2
    have d1 := sd_pg (σ := σ) (B := B) (i := k) (s := 1) (by omega) (by omega) hv2
    rw [show 4 + 83 * k + 20 * 0 = 4 + 83 * k by omega] at d0
    rw [show 4 + 83 * k + 20 * 1 = 24 + 83 * k by omega] at d1
    rw [e1, e2, iplus]
    have hA : A (oS (pgW σ B) k + (sD (pgW σ B) (4 + 83 * k) (cellsN (pgW σ B) k) + sD (pgW σ B) (24 + 83 * k) (cellsN (pgW σ B) k))) (nI (k + 1)) σ := hA
    rw [← d0, ← d1] at hA
    exact hA
  · intro A
    unfold m_8_dirtOnStreets_4
    rw [g0, ok.1.1]
    exact ⟨fun _ => h, fun q => absurd ((lei (by omega) (by omega)).mpr (Nat.le_refl n)) q⟩
noncomputable def vAcc (P : Nat → Int32) (x : Int32) : Int32 := cif (∃ k, k < 6 ∧ x = nI k) (P (556 + x.toNatClampNeg)) (cif (x = 6) (oS P (P 0).toNatClampNeg) (-1))
theorem s_9_account {c n l : Nat} {x : Int32} {Q : Int32 → St → Prop} {σ : St} {r0 : Nat} (ok : okP c n l (pgW σ (r0 + 7))) (h : Q (vAcc (pgW σ (r0 + 7)) x) σ) : m_9_account r0 x Q σ := by
  unfold m_9_account
  unfold vAcc at h
  have h6 := ok.1.2.1
  rw [ok.1.1, tn n (by omega)] at h
  rcases ix x 7 with g | ⟨k, rfl, hk, hk2⟩ | ⟨k, rfl, hk⟩
  · rw [cif_f (by rintro ⟨k, hk, e⟩; exact neg_ne g (by omega) e), cif_f (show ¬ x = 6 from neg_ne (j := 6) g (by omega))] at h
    exact ⟨fun _ => h, fun q => absurd g q⟩
  · rw [cif_f (by rintro ⟨j, hj, e⟩; rw [eqI (by omega) (by omega)] at e; omega), cif_f (by intro e; rw [show (6 : Int32) = nI 6 from rfl, eqI (by omega) (by omega)] at e; omega)] at h
    exact ⟨fun q => absurd q (nn0 hk2), fun _ => ⟨fun q => absurd ((leI (b := 6) (by omega) (by omega)).mp q) (by omega), fun _ => h⟩⟩
  · refine ⟨fun q => absurd q (nn0 (by omega)), fun _ => ⟨fun _ => ⟨fun q => ?_, fun q => ?_⟩, fun q => absurd ((leI (b := 6) (by omega) (by omega)).mpr (by omega)) q⟩⟩
    · have hk6 : k = 6 := by rw [show (6 : Int32) = nI 6 from rfl, leI (by omega) (by omega)] at q; omega
      subst hk6
      rw [cif_f (by rintro ⟨j, hj, e⟩; rw [eqI (by omega) (by omega)] at e; omega), cif_t (show nI 6 = 6 from rfl)] at h
      exact s_8_dirtOnStreets ok h
    · have hk6 : k < 6 := by rw [show (6 : Int32) = nI 6 from rfl, leI (by omega) (by omega)] at q; omega
      rw [cif_t ⟨k, hk6, rfl⟩, tn k (by omega), ← gsum σ (r0 + 7) hk6] at h
      rw [tn k (by omega)]
      exact ⟨vin hk6, h⟩
/-- what count(x) tells of the page -/
noncomputable def vCnt (P : Nat → Int32) (ty bk : Int32) (x : Int32) : Int32 :=
  if x = 0 then P 0 else if x = 1 then P 507 else if x = 2 then P 499 else if x = 3 then P 505 else if x = 4 then P 506 else if x = 5 then P 500 else if x = 6 then P 501 else if x = 7 then P 502 else if x = 8 then P 503 else if x = 9 then P 504 else if x = 10 then grV P else if x = 11 then P 562 else if x = 12 then P 563 else if x = 13 then ty else if x = 14 then bk else -1
theorem s_9_count {x : Int32} {Q : Int32 → St → Prop} {σ : St} {r0 : Nat} (h : Q (vCnt (pgW σ (r0 + 7)) (σ.1 (r0 + 1) 1) (σ.1 (r0 + 42) 2) x) σ) : m_9_count r0 x Q σ := by
  unfold m_9_count
  rw [g0, g507, g505, g506, g562, g563, tn0, tn1, tn2, tn3, tn4, tn5]
  rw [gset σ (r0 + 7) (k := 0) (by omega), gset σ (r0 + 7) (k := 1) (by omega), gset σ (r0 + 7) (k := 2) (by omega), gset σ (r0 + 7) (k := 3) (by omega), gset σ (r0 + 7) (k := 4) (by omega), gset σ (r0 + 7) (k := 5) (by omega)]
  unfold vCnt at h
  refine ⟨fun q => ?_, fun q => ?_, fun q => ?_, fun q => ?_, fun q => ?_, fun q => ?_, fun q => ?_, fun q => ?_, fun q => ?_, fun q => ?_, fun q => ?_, fun q => ?_, fun q => ?_, fun q => ?_, fun q => ?_, fun q => ?_⟩
  · iterate 15 rw [if_neg (out_ne q (by decide))] at h
    exact h
  · subst q; exact h
  · subst q; exact h
  · subst q; exact ⟨vi0, h⟩
  · subst q; exact h
  · subst q; exact h
  · subst q; exact ⟨vi1, h⟩
  · subst q; exact ⟨vi2, h⟩
  · subst q; exact ⟨vi3, h⟩
  · subst q; exact ⟨vi4, h⟩
  · subst q; exact ⟨vi5, h⟩
  · subst q; exact s_8_grip h
  · subst q; exact h
  · subst q; exact h
  · subst q; exact h
  · subst q; exact h
/-- how much falls in a night on a cell of street i -/
theorem okP.fall {c n l i : Nat} {P : Nat → Int32} (ok : okP c n l P) (hi : i < n) : ∃ f, P (3 + 83 * i) * P 504 / 100 = nI f ∧ f ≤ 36 := by
  obtain ⟨-, -, t, ht, ht9⟩ := ok.2.1 i hi
  obtain ⟨-, -, -, -, -, ⟨s, hs, hs4⟩, -⟩ := ok.2.2.2.2.1
  have hm : t * s ≤ 9 * 400 := Nat.mul_le_mul ht9 hs4
  refine ⟨t * s / 100, ?_, by omega⟩
  rw [ht, hs, pk_mul, show (100 : Int32) = nI 100 from rfl, pk_div (by omega) (by decide) (by decide)]
theorem s_8_fallOn {B i : Nat} {Q : Int32 → St → Prop} {σ : St} (hi : i < 6) (h : Q (pgW σ B (3 + 83 * i) * pgW σ B 504 / 100) σ) : m_8_fallOn B (B + 1 + 5 + 3 * i) Q σ := by
  unfold m_8_fallOn
  rw [tn5, gset σ B (k := 5) (by omega), gst σ B (k := 2) hi (by omega), show 1 + 83 * i + 2 = 3 + 83 * i by omega]
  exact ⟨vi5, h⟩
-- pages: what a written place leaves as it was
theorem upd_comm {P : Nat → Int32} {x y : Nat} {v w : Int32} (h : x ≠ y) : upd (upd P x v) y w = upd (upd P y w) x v := by
  funext z
  unfold upd
  by_cases h1 : z = y
  · subst h1
    rw [if_pos rfl, if_neg (fun q => h q.symm), if_pos rfl]
  · rw [if_neg h1]
    by_cases h2 : z = x
    · rw [if_pos h2, if_pos h2]
    · rw [if_neg h2, if_neg h2, if_neg h1]
theorem upd_self {P : Nat → Int32} {x : Nat} {v : Int32} (h : P x = v) : upd P x v = P := by
  funext z
  unfold upd
  by_cases h1 : z = x
  · rw [if_pos h1, h1, h]
  · rw [if_neg h1]
theorem upd_upd {P : Nat → Int32} {x : Nat} {v w : Int32} : upd (upd P x v) x w = upd P x w := by
  funext z
  unfold upd
  by_cases h1 : z = x
  · rw [if_pos h1, if_pos h1]
  · rw [if_neg h1, if_neg h1, if_neg h1]
theorem rd_upd {P : Nat → Int32} {x z : Nat} {v : Int32} : upd P x v z = if z = x then v else P z := rfl
/-- the places that okP speaks of -/
def okR (x : Nat) : Prop := x < 508 ∨ (508 ≤ x ∧ x < 548 ∧ (x - 508) % 4 < 2) ∨ x = 548 ∨ x = 562
theorem okP.cg {c n l : Nat} {P p : Nat → Int32} (h : okP c n l P) (e : ∀ x, okR x → vis n l x → p x = P x) : okP c n l p := by
  obtain ⟨⟨h1, h2, h3, h4⟩, h5, h6, h7, ⟨s1, s2, s3, s4, s5, s6, s7⟩, h9, h10⟩ := h
  have lo : ∀ x, x < 508 → vis n l x → p x = P x := fun x hx hv => e x (Or.inl hx) hv
  have es : ∀ x, 499 ≤ x → x < 508 → p x = P x := fun x h1 h2 => lo x h2 (vis_set h1 h2)
  have et : ∀ i k, i < n → k < 83 → p (1 + 83 * i + k) = P (1 + 83 * i + k) := fun i k hi hk => lo _ (by omega) (vis_st hi h2 hk)
  refine ⟨⟨by rw [lo 0 (by omega) vis_0]; exact h1, h2, by rw [es 507 (by omega) (by omega)]; exact h3, h4⟩, fun i hi => ?_, fun i k hi hk => ?_, fun j hj => ?_, ⟨?_, ?_, ?_, ?_, ?_, ?_, ?_⟩, ?_, ?_⟩
  · have e1 := et i 0 hi (by omega)
    have e2 := et i 1 hi (by omega)
    have e3 := et i 2 hi (by omega)
    rw [show 1 + 83 * i + 0 = 1 + 83 * i by omega] at e1
    rw [show 1 + 83 * i + 1 = 2 + 83 * i by omega] at e2
    rw [show 1 + 83 * i + 2 = 3 + 83 * i by omega] at e3
    rw [e1, e2, e3]
    exact h5 i hi
  · have e1 := et i (3 + k) hi (by omega)
    have e2 := et i (43 + k) hi (by omega)
    rw [show 1 + 83 * i + (3 + k) = 4 + 83 * i + k by omega] at e1
    rw [show 1 + 83 * i + (43 + k) = 44 + 83 * i + k by omega] at e2
    rw [e1, e2]
    exact h6 i k hi hk
  · have e1 := e (508 + 4 * j + 0) (Or.inr (Or.inl ⟨by omega, by omega, by omega⟩)) (vis_le hj h4 (by omega))
    have e2 := e (508 + 4 * j + 1) (Or.inr (Or.inl ⟨by omega, by omega, by omega⟩)) (vis_le hj h4 (by omega))
    rw [show 508 + 4 * j + 0 = 508 + 4 * j by omega] at e1
    rw [show 508 + 4 * j + 1 = 509 + 4 * j by omega] at e2
    rw [e1, e2]
    exact h7 j hj
  · rw [es 499 (by omega) (by omega)]; exact s1
  · rw [es 500 (by omega) (by omega), es 506 (by omega) (by omega)]; exact s2
  · rw [es 501 (by omega) (by omega)]; exact s3
  · rw [es 502 (by omega) (by omega)]; exact s4
  · rw [es 503 (by omega) (by omega)]; exact s5
  · rw [es 504 (by omega) (by omega)]; exact s6
  · rw [es 505 (by omega) (by omega)]; exact s7
  · rw [e 548 (Or.inr (Or.inr (Or.inl rfl))) (vis_hi (by omega) (by omega) (by omega))]; exact h9
  · rw [e 562 (Or.inr (Or.inr (Or.inr rfl))) (vis_hi (by omega) (by omega) (by omega))]; exact h10
theorem okP.inert {c n l x : Nat} {P : Nat → Int32} {v : Int32} (h : okP c n l P) (hx : ¬ okR x) : okP c n l (upd P x v) :=
  h.cg (fun y hy _ => upd_n (fun q => hx (q ▸ hy)))
theorem inert_hi {x : Nat} (h1 : 549 ≤ x) (h2 : x ≠ 562) : ¬ okR x := by unfold okR; omega
theorem inert_leg {j f : Nat} (hj : j < 10) (h1 : 2 ≤ f) (h2 : f < 4) : ¬ okR (508 + 4 * j + f) := by unfold okR; omega
theorem okP.dirt {c n l i k w : Nat} {P : Nat → Int32} (h : okP c n l P) (hi : i < n) (hk : k < 40) (hw : w ≤ 99) : okP c n l (upd P (4 + 83 * i + k) (nI w)) := by
  obtain ⟨⟨h1, h2, h3, h4⟩, h5, h6, h7, s, h9, h10⟩ := h
  refine ⟨⟨by rw [upd_n (by omega)]; exact h1, h2, by rw [upd_n (by omega)]; exact h3, h4⟩, fun a ha => ?_, fun a b ha hb => ?_, fun j hj => ?_, ?_, ?_, ?_⟩
  · rw [upd_n (by omega), upd_n (by omega), upd_n (by omega)]
    exact h5 a ha
  · refine ⟨?_, by rw [upd_n (by omega)]; exact (h6 a b ha hb).2⟩
    rw [rd_upd]
    split
    · exact ⟨w, rfl, hw⟩
    · exact (h6 a b ha hb).1
  · rw [upd_n (by omega), upd_n (by omega)]
    exact h7 j hj
  · iterate 8 rw [upd_n (by omega)]
    exact s
  · rw [upd_n (by omega)]; exact h9
  · rw [upd_n (by omega)]; exact h10
