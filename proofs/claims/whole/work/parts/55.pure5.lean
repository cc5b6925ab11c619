def mnI (a b : Int32) : Int32 := if b < a then b else a
theorem s_10_lesser {a b : Int32} {Q : Int32 → St → Prop} {σ : St} (h : Q (mnI a b) σ) : m_10_lesser a b Q σ := by
  unfold m_10_lesser
  unfold mnI at h
  refine ⟨fun q => ?_, fun q => ?_⟩
  · by_cases e : b < a
    · rw [if_pos e] at h
      exact h
    · rw [if_neg e] at h
      have : a = b := Int32.le_antisymm (nlt_le.mp e) q
      rw [← this]
      exact h
  · rw [if_neg (fun e => q (Int32.le_of_lt e))] at h
    exact h
def grV (P : Nat → Int32) : Int32 := ((100 - 15 * (P 499 - 1)) * P 505) / 1000
theorem s_8_grip {B : Nat} {Q : Int32 → St → Prop} {σ : St} (h : Q (grV (pgW σ B)) σ) : m_8_grip B Q σ := by
  unfold m_8_grip
  refine ⟨vi0, ?_⟩
  rw [tn0, gset σ B (k := 0) (by omega), g505]
  exact h
theorem s_8_room {B : Nat} {Q : Int32 → St → Prop} {σ : St} (h : Q (pgW σ B 500 - pgW σ B 506) σ) : m_8_room B Q σ := by
  unfold m_8_room
  refine ⟨vi1, ?_⟩
  rw [tn1, gset σ B (k := 1) (by omega), g506]
  exact h
theorem t499 : (499 : Int32).toNatClampNeg = 499 := by decide
theorem t500 : (500 : Int32).toNatClampNeg = 500 := by decide
theorem t501 : (501 : Int32).toNatClampNeg = 501 := by decide
theorem t502 : (502 : Int32).toNatClampNeg = 502 := by decide
theorem t503 : (503 : Int32).toNatClampNeg = 503 := by decide
theorem t504 : (504 : Int32).toNatClampNeg = 504 := by decide
theorem t505 : (505 : Int32).toNatClampNeg = 505 := by decide
theorem t506 : (506 : Int32).toNatClampNeg = 506 := by decide
theorem t507 : (507 : Int32).toNatClampNeg = 507 := by decide
theorem t548 : (548 : Int32).toNatClampNeg = 548 := by decide
theorem t549 : (549 : Int32).toNatClampNeg = 549 := by decide
theorem t554 : (554 : Int32).toNatClampNeg = 554 := by decide
theorem t555 : (555 : Int32).toNatClampNeg = 555 := by decide
theorem t562 : (562 : Int32).toNatClampNeg = 562 := by decide
theorem t563 : (563 : Int32).toNatClampNeg = 563 := by decide
theorem v499 : vp_in 499 5640 := vq (n := 499) (by decide)
theorem v500 : vp_in 500 5640 := vq (n := 500) (by decide)
theorem v501 : vp_in 501 5640 := vq (n := 501) (by decide)
theorem v502 : vp_in 502 5640 := vq (n := 502) (by decide)
theorem v503 : vp_in 503 5640 := vq (n := 503) (by decide)
theorem v504 : vp_in 504 5640 := vq (n := 504) (by decide)
theorem v505 : vp_in 505 5640 := vq (n := 505) (by decide)
theorem v506 : vp_in 506 5640 := vq (n := 506) (by decide)
theorem v507 : vp_in 507 5640 := vq (n := 507) (by decide)
theorem v548 : vp_in 548 5640 := vq (n := 548) (by decide)
theorem v549 : vp_in 549 5640 := vq (n := 549) (by decide)
theorem v554 : vp_in 554 5640 := vq (n := 554) (by decide)
theorem v555 : vp_in 555 5640 := vq (n := 555) (by decide)
theorem v562 : vp_in 562 5640 := vq (n := 562) (by decide)
theorem v563 : vp_in 563 5640 := vq (n := 563) (by decide)
theorem vq0 : vp_in 0 5640 := vq (n := 0) (by decide)
theorem s_10_grip {r0 : Nat} {Q : Int32 → St → Prop} {σ : St} (h : Q (grV (σ.1 (r0 + 1))) σ) : m_10_grip r0 Q σ := by
  unfold m_10_grip
  rw [t499, t505]
  exact ⟨v499, v505, h⟩
theorem s_10_room {r0 : Nat} {Q : Int32 → St → Prop} {σ : St} (h : Q (σ.1 (r0 + 1) 500 - σ.1 (r0 + 1) 506) σ) : m_10_room r0 Q σ := by
  unfold m_10_room
  rw [t500, t506]
  exact ⟨v500, v506, h⟩
/-- what the machine could take of a cell, place a of side and cell in its street's block -/
def coV (P : Nat → Int32) (a : Nat) : Int32 := if P (44 + a) = 0 then P (4 + a) * grV P / 100 else 0
theorem s_10_could {r0 i s k : Nat} {Q : Int32 → St → Prop} {σ : St} (hi : i < 6) (hk : 20 * s + k < 40) (hb : isB (σ.1 (r0 + 1) (44 + 83 * i + (20 * s + k)))) (h : Q (coV (σ.1 (r0 + 1)) (83 * i + (20 * s + k))) σ) : m_10_could r0 (nI i) (nI s) (nI k) Q σ := by
  unfold m_10_could
  refine s_10_isParked hi hk hb ?_
  unfold coV at h
  rw [show 44 + (83 * i + (20 * s + k)) = 44 + 83 * i + (20 * s + k) by omega, show 4 + (83 * i + (20 * s + k)) = 4 + 83 * i + (20 * s + k) by omega] at h
  refine ⟨fun q => ?_, fun q => ?_⟩
  · rw [if_pos q] at h
    exact s_10_dirtOf hi hk (s_10_grip h)
  · rw [if_neg q] at h
    exact h
noncomputable def vCell (P : Nat → Int32) (x1 x2 x3 x4 : Int32) : Int32 := cif (isC P x1 x2 x3) (if x4 = 0 then P (4 + (83 * x1.toNatClampNeg + (20 * x2.toNatClampNeg + x3.toNatClampNeg))) else if x4 = 1 then P (44 + (83 * x1.toNatClampNeg + (20 * x2.toNatClampNeg + x3.toNatClampNeg))) else if x4 = 2 then mnI (coV P (83 * x1.toNatClampNeg + (20 * x2.toNatClampNeg + x3.toNatClampNeg))) (P 500 - P 506) else -1) (-1)
theorem out_ne {x : Int32} {lo hi : Int} (h : x.toInt < lo ∨ hi < x.toInt) {v : Int32} (hv : lo ≤ v.toInt ∧ v.toInt ≤ hi) : ¬ x = v := fun e => by
  subst e
  omega
theorem s_9_cell {c n l : Nat} {x1 x2 x3 x4 : Int32} {Q : Int32 → St → Prop} {σ : St} {r0 : Nat} (ok : okP c n l (pgW σ (r0 + 7))) (h : Q (vCell (pgW σ (r0 + 7)) x1 x2 x3 x4) σ) : m_9_cell r0 x1 x2 x3 x4 Q σ := by
  unfold m_9_cell
  refine s_8_hasCell ok (fun i s k v hi e1 hs e2 hv hv2 hk e3 => ?_) (fun q => ?_)
  · refine ⟨fun _ => ?_, fun q => absurd q (by decide)⟩
    have hn := ok.1.1
    have h6 := ok.1.2.1
    have hc : isC (pgW σ (r0 + 7)) x1 x2 x3 := ⟨i, s, k, n, v, hn, hi, h6, e1, hs, e2, hv, hv2, hk, e3⟩
    unfold vCell at h
    rw [cif_t hc] at h
    subst e1 e2 e3
    rw [tn i (by omega), tn s (by omega), tn k (by omega)] at h
    have hb := (ok.2.2.1 i (20 * s + k) hi (by omega)).2
    have gd := gdi σ (r0 + 7) (i := i) (k := 20 * s + k) (by omega) (by omega)
    have gp := gpa σ (r0 + 7) (i := i) (k := 20 * s + k) (by omega) (by omega)
    have a4 : 4 + 83 * i + (20 * s + k) = 4 + (83 * i + (20 * s + k)) := by omega
    have a44 : 44 + 83 * i + (20 * s + k) = 44 + (83 * i + (20 * s + k)) := by omega
    rw [a4] at gd
    rw [a44] at gp hb
    rw [tn i (by omega)]
    refine ⟨vin (by omega), fun r5 e5 => ?_⟩
    rw [e5]
    unfold m_9_placeOf
    rw [pl]
    refine ⟨fun q => ?_, fun q => ?_, fun q => ?_, fun q => ?_⟩
    · rw [if_neg (out_ne q (by decide)), if_neg (out_ne q (by decide)), if_neg (out_ne q (by decide))] at h
      exact h
    · subst q
      rw [if_pos rfl] at h
      refine ⟨vin (by omega), ?_⟩
      rw [tn _ (by omega), gd]
      exact h
    · subst q
      rw [if_neg (by decide), if_pos rfl] at h
      refine ⟨vin (by omega), ?_⟩
      rw [tn _ (by omega), gp]
      rcases hb with e | e
      · rw [e] at h ⊢
        exact ⟨fun _ => h, fun q => absurd rfl q⟩
      · rw [e] at h ⊢
        exact ⟨fun q => absurd q (by decide), fun _ => h⟩
    · subst q
      rw [if_neg (by decide), if_neg (by decide), if_pos rfl] at h
      refine s_8_grip ?_
      refine s_6_couldGive (by omega) ?_
      refine s_8_room ?_
      rw [gd, gp]
      exact h
  · refine ⟨fun q => absurd rfl q, fun _ => ?_⟩
    unfold vCell at h
    rw [cif_f q] at h
    exact h
theorem nI_toI {j : Nat} (h : j < 2147483648) : (nI j).toInt = (j : Int) := nI_toInt (by omega)
theorem s_10_cell {c n l : Nat} {x1 x2 x3 x4 : Int32} {Q : Int32 → St → Prop} {σ : St} {r0 : Nat} (ok : okP c n l (σ.1 (r0 + 1))) (h : Q (vCell (σ.1 (r0 + 1)) x1 x2 x3 x4) σ) : m_10_cell r0 x1 x2 x3 x4 Q σ := by
  unfold m_10_cell
  refine s_10_isCell ok (fun i s k v hi e1 hs e2 hv hv2 hk e3 => ?_) (fun q => ?_)
  · refine ⟨fun q => absurd q (by decide), fun _ => ?_⟩
    have hn := ok.1.1
    have h6 := ok.1.2.1
    have hc : isC (σ.1 (r0 + 1)) x1 x2 x3 := ⟨i, s, k, n, v, hn, hi, h6, e1, hs, e2, hv, hv2, hk, e3⟩
    unfold vCell at h
    rw [cif_t hc] at h
    subst e1 e2 e3
    rw [tn i (by omega), tn s (by omega), tn k (by omega)] at h
    have hb := (ok.2.2.1 i (20 * s + k) hi (by omega)).2
    have a4 : 4 + 83 * i + (20 * s + k) = 4 + (83 * i + (20 * s + k)) := by omega
    have a44 : 44 + 83 * i + (20 * s + k) = 44 + (83 * i + (20 * s + k)) := by omega
    refine s_10_inN (a := 0) (b := 2) (by omega) (by omega) (fun j _ hj e => ?_) (fun q => ?_)
    · refine ⟨fun _ => ?_, fun q => absurd q (by decide)⟩
      rcases (by omega : j = 0 ∨ j = 1 ∨ j = 2) with rfl | rfl | rfl
      · have e : x4 = 0 := e
        subst e
        rw [if_pos rfl] at h
        refine ⟨fun _ => ⟨fun q => absurd rfl q, fun _ => s_10_dirtOf (by omega) (by omega) (by rw [a4]; exact h)⟩, fun q => absurd q (by decide)⟩
      · have e : x4 = 1 := e
        subst e
        rw [if_neg (by decide), if_pos rfl] at h
        refine ⟨fun _ => ⟨fun _ => s_10_isParked (by omega) (by omega) hb ?_, fun q => absurd q (by decide)⟩, fun q => absurd q (by decide)⟩
        rw [a44] at hb ⊢
        rcases hb with e | e
        · rw [e] at h ⊢
          exact ⟨fun _ => h, fun q => absurd rfl q⟩
        · rw [e] at h ⊢
          exact ⟨fun q => absurd q (by decide), fun _ => h⟩
      · have e : x4 = 2 := e
        subst e
        rw [if_neg (by decide), if_neg (by decide), if_pos rfl] at h
        refine ⟨fun q => absurd rfl q, fun _ => ?_⟩
        exact s_10_could (by omega) (by omega) hb (s_10_room (s_10_lesser h))
    · refine ⟨fun q => absurd rfl q, fun _ => ?_⟩
      rw [if_neg (show ¬ x4 = 0 from q 0 (by omega) (by omega)), if_neg (show ¬ x4 = 1 from q 1 (by omega) (by omega)), if_neg (show ¬ x4 = 2 from q 2 (by omega) (by omega))] at h
      exact h
  · refine ⟨fun _ => ?_, fun q => absurd rfl q⟩
    unfold vCell at h
    rw [cif_f q] at h
    exact h
theorem grV_eq {n l : Nat} {P p : Nat → Int32} (e : EQP n l P p) : grV P = grV p := by
  unfold grV
  rw [e.set (x := 499) (by omega) (by omega), e.set (x := 505) (by omega) (by omega)]
theorem isC_eq {c n l : Nat} {P p : Nat → Int32} {x1 x2 x3 : Int32} (ok : okP c n l P) (e : EQP n l P p) : isC P x1 x2 x3 ↔ isC p x1 x2 x3 := by
  have h6 := ok.1.2.1
  have e0 : P 0 = p 0 := e.lo vis_0 (by omega)
  have inj : ∀ {a b : Nat}, nI a = nI b → a < 1000001 → b < 1000001 → a = b := fun h ha hb => (eqi ha hb).mp h
  constructor
  · rintro ⟨i, s, k, n', v, h0, hi, hn', h1, hs, h2, h3, h4⟩
    have := inj (ok.1.1.symm.trans h0) (by omega) (by omega)
    subst this
    exact ⟨i, s, k, n, v, by rw [← e0]; exact h0, hi, hn', h1, hs, h2, (e.st hi h6 (k := 0) (by omega)).symm.trans h3, h4⟩
  · rintro ⟨i, s, k, n', v, h0, hi, hn', h1, hs, h2, h3, h4⟩
    rw [← e0] at h0
    have := inj (ok.1.1.symm.trans h0) (by omega) (by omega)
    subst this
    exact ⟨i, s, k, n, v, h0, hi, hn', h1, hs, h2, (e.st hi h6 (k := 0) (by omega)).trans h3, h4⟩
theorem vCell_eq {c n l : Nat} {P p : Nat → Int32} {x1 x2 x3 x4 : Int32} (ok : okP c n l P) (e : EQP n l P p) : vCell P x1 x2 x3 x4 = vCell p x1 x2 x3 x4 := by
  unfold vCell
  have h6 := ok.1.2.1
  refine cif_c (isC_eq ok e) (fun hc => ?_) (fun _ => rfl)
  obtain ⟨i, s, k, n', v, h0, hi, hn', h1, hs, h2, h3, h4, hk, h5⟩ := hc
  have := (eqi (by omega) (by omega)).mp (ok.1.1.symm.trans h0)
  subst this
  subst h1 h2 h5
  rw [tn i (by omega), tn s (by omega), tn k (by omega)]
  have e1 := e.st hi h6 (k := 3 + (20 * s + k)) (by omega)
  have e2 := e.st hi h6 (k := 43 + (20 * s + k)) (by omega)
  rw [show 1 + 83 * i + (3 + (20 * s + k)) = 4 + (83 * i + (20 * s + k)) by omega] at e1
  rw [show 1 + 83 * i + (43 + (20 * s + k)) = 44 + (83 * i + (20 * s + k)) by omega] at e2
  unfold coV
  rw [e1, e2, grV_eq e, e.set (x := 500) (by omega) (by omega), e.set (x := 506) (by omega) (by omega)]
