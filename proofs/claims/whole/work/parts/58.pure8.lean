def cellsN (P : Nat → Int32) (i : Nat) : Nat := (P (1 + 83 * i)).toNatClampNeg
/-- all dirt on the first k streets -/
def oS (P : Nat → Int32) : Nat → Int32
  | 0 => 0
  | k + 1 => oS P k + (sD P (4 + 83 * k) (cellsN P k) + sD P (24 + 83 * k) (cellsN P k))
theorem okP.cells {c n l i : Nat} {P : Nat → Int32} (ok : okP c n l P) (hi : i < n) : P (1 + 83 * i) = nI (cellsN P i) ∧ 1 ≤ cellsN P i ∧ cellsN P i ≤ 20 := by
  obtain ⟨⟨v, hv, h1, h2⟩, -, -⟩ := ok.2.1 i hi
  unfold cellsN
  rw [hv, tn v (by omega)]
  exact ⟨rfl, h1, h2⟩
theorem s_8_dirtOnStreets {c n l B : Nat} {Q : Int32 → St → Prop} {σ : St} (ok : okP c n l (pgW σ B)) (h : Q (oS (pgW σ B) n) σ) : m_8_dirtOnStreets B Q σ := by
  unfold m_8_dirtOnStreets
  have h6 := ok.1.2.1
  refine it_cnt (fun (k : Nat) (A : Int32 → Int32 → St → Prop) => A (oS (pgW σ B) k) (nI k) σ) n (by omega) ?_ ?_
  · intro k hk A hA
    unfold m_8_dirtOnStreets_4
    rw [g0, ok.1.1]
    refine ⟨fun q => absurd q (nle_of hk (by omega)), fun _ => ?_⟩
    obtain ⟨hv, hv1, hv2⟩ := ok.cells hk
    rw [tn k (by omega)]
    refine ⟨vin (by omega), ?_⟩
    refine s_6_allDirt (pg_st (k := 0) (by omega) (by omega) hv) hv2 ?_
    intro x1 e1 x2 e2
    have d0 := sd_pg (σ := σ) (B := B) (i := k) (s := 0) (by omega) (by omega) hv2
    have d1 := sd_pg (σ := σ) (B := B) (i := k) (s := 1) (by omega) (by omega) hv2
    rw [show 4 + 83 * k + 20 * 0 = 4 + 83 * k by omega] at d0
    rw [show 4 + 83 * k + 20 * 1 = 24 + 83 * k by omega] at d1
    rw [e1, e2, iplus]
    have hA : A (oS (pgW σ B) k + (sD (pgW σ B) (4 + 83 * k) (cellsN (pgW σ B) k) + sD (pgW σ B) (24 + 83 * k) (cellsN (pgW σ B) k))) (nI (k + 1)) σ := hA
    rw [← d0, ← d1] at hA
    exact hA
  · intro A
    unfold m_8_dirtOnStreets_4
    rw [g0, ok.1.1]
    exact ⟨fun _ => h, fun q => absurd ((lei (by omega) (by omega)).mpr (Nat.le_refl n)) q⟩
theorem s_10_onStreets {c n l r0 : Nat} {Q : Int32 → St → Prop} {σ : St} (ok : okP c n l (σ.1 (r0 + 1))) (h : Q (oS (σ.1 (r0 + 1)) n) σ) : m_10_onStreets r0 Q σ := by
  unfold m_10_onStreets
  have h6 := ok.1.2.1
  refine it_cnt (fun (k : Nat) (A : Int32 → Int32 → St → Prop) => A (oS (σ.1 (r0 + 1)) k) (nI k) σ) n (by omega) ?_ ?_
  · intro k hk A hA
    unfold m_10_onStreets_4
    rw [tn0, ok.1.1]
    refine ⟨vq0, fun q => absurd q (nle_of hk (by omega)), fun _ => ?_⟩
    obtain ⟨hv, hv1, hv2⟩ := ok.cells hk
    refine s_10_sideSum (s := 0) (by omega) (by omega) hv hv2 ?_
    refine s_10_sideSum (s := 1) (by omega) (by omega) hv hv2 ?_
    intro x1 e1 x2 e2
    rw [e1, e2, iplus, show 4 + 83 * k + 20 * 0 = 4 + 83 * k by omega, show 4 + 83 * k + 20 * 1 = 24 + 83 * k by omega]
    exact hA
  · intro A
    unfold m_10_onStreets_4
    rw [tn0, ok.1.1]
    exact ⟨vq0, fun _ => h, fun q => absurd ((lei (by omega) (by omega)).mpr (Nat.le_refl n)) q⟩
theorem cellsN_eq {n l i : Nat} {P p : Nat → Int32} (e : EQP n l P p) (hi : i < n) (hn : n ≤ 6) : cellsN P i = cellsN p i := by
  have := e.st hi hn (k := 0) (by omega)
  unfold cellsN
  rw [show 1 + 83 * i + 0 = 1 + 83 * i from rfl] at this
  rw [this]
theorem oS_eq {c n l : Nat} {P p : Nat → Int32} (ok : okP c n l P) (e : EQP n l P p) : ∀ k, k ≤ n → oS P k = oS p k := by
  have h6 := ok.1.2.1
  intro k
  induction k with
  | zero => intro _; rfl
  | succ k ih =>
    intro hk
    obtain ⟨hv, hv1, hv2⟩ := ok.cells (i := k) (by omega)
    have d0 := e.sd (i := k) (by omega) h6 (s := 0) (by omega) hv2
    have d1 := e.sd (i := k) (by omega) h6 (s := 1) (by omega) hv2
    rw [show 4 + 83 * k + 20 * 0 = 4 + 83 * k by omega] at d0
    rw [show 4 + 83 * k + 20 * 1 = 24 + 83 * k by omega] at d1
    unfold oS
    rw [ih (by omega), d0, d1, cellsN_eq e (by omega) h6]
noncomputable def vAcc (P : Nat → Int32) (x : Int32) : Int32 := cif (∃ k, k < 6 ∧ x = nI k) (P (556 + x.toNatClampNeg)) (cif (x = 6) (oS P (P 0).toNatClampNeg) (-1))
theorem s_9_account {c n l : Nat} {x : Int32} {Q : Int32 → St → Prop} {σ : St} {r0 : Nat} (ok : okP c n l (pgW σ (r0 + 7))) (h : Q (vAcc (pgW σ (r0 + 7)) x) σ) : m_9_account r0 x Q σ := by
  unfold m_9_account
  unfold vAcc at h
  have h6 := ok.1.2.1
  rw [ok.1.1, tn n (by omega)] at h
  rcases ix x 7 with g | ⟨k, rfl, hk, hk2⟩ | ⟨k, rfl, hk⟩
  · rw [cif_f (by rintro ⟨k, hk, e⟩; exact neg_ne g (by omega) e), cif_f (show ¬ x = 6 from neg_ne (j := 6) g (by omega))] at h
    exact ⟨fun _ => h, fun q => absurd g q⟩
  · rw [cif_f (by rintro ⟨j, hj, e⟩; rw [eqI (by omega) (by omega)] at e; omega), cif_f (by intro e; rw [show (6 : Int32) = nI 6 from rfl, eqI (by omega) (by omega)] at e; omega)] at h
    exact ⟨fun q => absurd q (nn0 hk2), fun _ => ⟨fun q => absurd ((leI (b := 6) (by omega) (by omega)).mp q) (by omega), fun _ => h⟩⟩
  · refine ⟨fun q => absurd q (nn0 (by omega)), fun _ => ⟨fun _ => ⟨fun q => ?_, fun q => ?_⟩, fun q => absurd ((leI (b := 6) (by omega) (by omega)).mpr (by omega)) q⟩⟩
    · have hk6 : k = 6 := by rw [show (6 : Int32) = nI 6 from rfl, leI (by omega) (by omega)] at q; omega
      subst hk6
      rw [cif_f (by rintro ⟨j, hj, e⟩; rw [eqI (by omega) (by omega)] at e; omega), cif_t (show nI 6 = 6 from rfl)] at h
      exact s_8_dirtOnStreets ok h
    · have hk6 : k < 6 := by rw [show (6 : Int32) = nI 6 from rfl, leI (by omega) (by omega)] at q; omega
      rw [cif_t ⟨k, hk6, rfl⟩, tn k (by omega), ← gsum σ (r0 + 7) hk6] at h
      rw [tn k (by omega)]
      exact ⟨vin hk6, h⟩
theorem accI (k : Nat) : (556 : Int32) + nI k = nI (556 + k) := by rw [li 556, nI_add]
theorem s_10_account {c n l : Nat} {x : Int32} {Q : Int32 → St → Prop} {σ : St} {r0 : Nat} (ok : okP c n l (σ.1 (r0 + 1))) (h : Q (vAcc (σ.1 (r0 + 1)) x) σ) : m_10_account r0 x Q σ := by
  unfold m_10_account
  unfold vAcc at h
  have h6 := ok.1.2.1
  rw [ok.1.1, tn n (by omega)] at h
  refine s_10_inN (a := 0) (b := 6) (by omega) (by omega) (fun k _ hk e => ?_) (fun q => ?_)
  · subst e
    refine ⟨fun _ => ⟨fun q => ?_, fun q => ?_⟩, fun q => absurd q (by decide)⟩
    · have hk6 : k < 6 := by
        rcases Nat.lt_or_ge k 6 with g | g
        · exact g
        · exact absurd (show nI k = 6 by rw [show k = 6 by omega]; rfl) q
      rw [cif_t ⟨k, hk6, rfl⟩, tn k (by omega)] at h
      rw [accI, tn _ (by omega)]
      exact ⟨vq (by omega), h⟩
    · rw [cif_f (by rintro ⟨j, hj, e⟩; rw [q, show (6 : Int32) = nI 6 from rfl, eqI (by omega) (by omega)] at e; omega), cif_t q] at h
      exact s_10_onStreets ok h
  · rw [cif_f (by rintro ⟨k, hk, e⟩; exact q k (by omega) (by omega) e), cif_f (show ¬ x = 6 from fun e => q 6 (by omega) (by omega) e)] at h
    exact ⟨fun q => absurd rfl q, fun _ => h⟩
theorem vAcc_eq {c n l : Nat} {P p : Nat → Int32} {x : Int32} (ok : okP c n l P) (e : EQP n l P p) : vAcc P x = vAcc p x := by
  unfold vAcc
  have h6 := ok.1.2.1
  refine cif_c Iff.rfl (fun hc => ?_) (fun _ => cif_c Iff.rfl (fun _ => ?_) (fun _ => rfl))
  · obtain ⟨k, hk, rfl⟩ := hc
    rw [tn k (by omega)]
    exact e.hi (by omega) (by omega) (by omega)
  · rw [← e.lo vis_0 (by omega), ok.1.1, tn n (by omega)]
    exact oS_eq ok e n (Nat.le_refl n)
/-- what count(x) tells of the page -/
noncomputable def vCnt (P : Nat → Int32) (ty bk : Int32) (x : Int32) : Int32 :=
  if x = 0 then P 0 else if x = 1 then P 507 else if x = 2 then P 499 else if x = 3 then P 505 else if x = 4 then P 506 else if x = 5 then P 500 else if x = 6 then P 501 else if x = 7 then P 502 else if x = 8 then P 503 else if x = 9 then P 504 else if x = 10 then grV P else if x = 11 then P 562 else if x = 12 then P 563 else if x = 13 then ty else if x = 14 then bk else -1
theorem s_9_count {x : Int32} {Q : Int32 → St → Prop} {σ : St} {r0 : Nat} (h : Q (vCnt (pgW σ (r0 + 7)) (σ.1 (r0 + 1) 1) (σ.1 (r0 + 42) 2) x) σ) : m_9_count r0 x Q σ := by
  unfold m_9_count
  rw [g0, g507, g505, g506, g562, g563, tn0, tn1, tn2, tn3, tn4, tn5]
  rw [gset σ (r0 + 7) (k := 0) (by omega), gset σ (r0 + 7) (k := 1) (by omega), gset σ (r0 + 7) (k := 2) (by omega), gset σ (r0 + 7) (k := 3) (by omega), gset σ (r0 + 7) (k := 4) (by omega), gset σ (r0 + 7) (k := 5) (by omega)]
  unfold vCnt at h
  refine ⟨fun q => ?_, fun q => ?_, fun q => ?_, fun q => ?_, fun q => ?_, fun q => ?_, fun q => ?_, fun q => ?_, fun q => ?_, fun q => ?_, fun q => ?_, fun q => ?_, fun q => ?_, fun q => ?_, fun q => ?_, fun q => ?_⟩
  · iterate 15 rw [if_neg (out_ne q (by decide))] at h
    exact h
  · subst q; exact h
  · subst q; exact h
  · subst q; exact ⟨vi0, h⟩
  · subst q; exact h
  · subst q; exact h
  · subst q; exact ⟨vi1, h⟩
  · subst q; exact ⟨vi2, h⟩
  · subst q; exact ⟨vi3, h⟩
  · subst q; exact ⟨vi4, h⟩
  · subst q; exact ⟨vi5, h⟩
  · subst q; exact s_8_grip h
  · subst q; exact h
  · subst q; exact h
  · subst q; exact h
  · subst q; exact h
theorem s_10_count {x : Int32} {Q : Int32 → St → Prop} {σ : St} {r0 : Nat} (h : Q (vCnt (σ.1 (r0 + 1)) (σ.1 r0 3) (σ.1 r0 1) x) σ) : m_10_count r0 x Q σ := by
  unfold m_10_count
  unfold vCnt at h
  refine ⟨fun q => ?_, fun q => ?_, fun q => ?_, fun q => ?_, fun q => ?_, fun q => ?_, fun q => ?_, fun q => ?_, fun q => ?_, fun q => ?_, fun q => ?_, fun q => ?_, fun q => ?_, fun q => ?_, fun q => ?_, fun q => ?_⟩
  · iterate 15 rw [if_neg (out_ne q (by decide))] at h
    exact h
  · subst q; rw [tn0]; exact ⟨vq0, h⟩
  · subst q; rw [t507]; exact ⟨v507, h⟩
  · subst q; rw [t499]; exact ⟨v499, h⟩
  · subst q; rw [t505]; exact ⟨v505, h⟩
  · subst q; rw [t506]; exact ⟨v506, h⟩
  · subst q; exact ⟨vq (n := 500) (by decide), h⟩
  · subst q; exact ⟨vq (n := 501) (by decide), h⟩
  · subst q; exact ⟨vq (n := 502) (by decide), h⟩
  · subst q; exact ⟨vq (n := 503) (by decide), h⟩
  · subst q; exact ⟨vq (n := 504) (by decide), h⟩
  · subst q; exact s_10_grip h
  · subst q; rw [t562]; exact ⟨v562, h⟩
  · subst q; rw [t563]; exact ⟨v563, h⟩
  · subst q; exact h
  · subst q; exact h
theorem vCnt_eq {n l : Nat} {P p : Nat → Int32} {ty bk x : Int32} (e : EQP n l P p) : vCnt P ty bk x = vCnt p ty bk x := by
  unfold vCnt
  rw [e.lo vis_0 (by omega), e.set (x := 507) (by omega) (by omega), e.set (x := 499) (by omega) (by omega), e.set (x := 505) (by omega) (by omega), e.set (x := 506) (by omega) (by omega), e.set (x := 500) (by omega) (by omega), e.set (x := 501) (by omega) (by omega), e.set (x := 502) (by omega) (by omega), e.set (x := 503) (by omega) (by omega), e.set (x := 504) (by omega) (by omega), grV_eq e, e.hi (x := 562) (by omega) (by omega) (by omega), e.hi (x := 563) (by omega) (by omega) (by omega)]
