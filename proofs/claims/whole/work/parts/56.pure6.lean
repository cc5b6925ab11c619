theorem okP.inj {c n n' l : Nat} {P : Nat → Int32} (ok : okP c n l P) (h : P 0 = nI n') (hn : n' ≤ 1000) : n' = n := by
  have := ok.1.2.1
  exact (eqi (by omega) (by omega)).mp (h.symm.trans ok.1.1)
theorem okP.injl {c n l' l : Nat} {P : Nat → Int32} (ok : okP c n l P) (h : P 507 = nI l') (hn : l' ≤ 1000) : l' = l := by
  have := ok.1.2.2.2
  exact (eqi (by omega) (by omega)).mp (h.symm.trans ok.1.2.2.1)
/-- how many legs lie in a street -/
def cL (f : Nat → Int32) (x : Int32) : Nat → Int32
  | 0 => 0
  | k + 1 => cL f x k + (if f k = x then 1 else 0)
theorem cL_eq {f g : Nat → Int32} {x : Int32} : ∀ n, (∀ k, k < n → f k = g k) → cL f x n = cL g x n := by
  intro n
  induction n with
  | zero => intro _; rfl
  | succ n ih =>
    intro h
    unfold cL
    rw [ih (fun k hk => h k (by omega)), h n (by omega)]
theorem s_8_legsIn {B l : Nat} {x : Int32} {Q : Int32 → St → Prop} {σ : St} (hl : pgW σ B 507 = nI l) (h10 : l ≤ 10) (h : Q (cL (fun j => pgW σ B (508 + 4 * j)) x l) σ) : m_8_legsIn B x Q σ := by
  unfold m_8_legsIn
  refine it_cnt (fun (k : Nat) (A : Int32 → Int32 → St → Prop) => A (cL (fun j => pgW σ B (508 + 4 * j)) x k) (nI k) σ) l (by omega) ?_ ?_
  · intro k hk A hA
    unfold m_8_legsIn_4
    rw [g507, hl]
    refine ⟨fun q => absurd q (nle_of hk (by omega)), fun _ => ?_⟩
    rw [tn k (by omega), gle σ B (l := k) (f := 0) (by omega) (by omega)]
    refine ⟨vin (by omega), fun q x2 e2 x3 e3 => ?_, fun q x2 e2 x3 e3 => ?_⟩
    · rw [e2, e3, iplus]
      have hA : A (cL (fun j => pgW σ B (508 + 4 * j)) x k + (if pgW σ B (508 + 4 * k + 0) = x then 1 else 0)) (nI (k + 1)) σ := hA
      rw [if_neg q] at hA
      exact hA
    · rw [e2, e3, iplus]
      have hA : A (cL (fun j => pgW σ B (508 + 4 * j)) x k + (if pgW σ B (508 + 4 * k + 0) = x then 1 else 0)) (nI (k + 1)) σ := hA
      rw [if_pos q] at hA
      exact hA
  · intro A
    unfold m_8_legsIn_4
    rw [g507, hl]
    exact ⟨fun _ => h, fun q => absurd ((lei (by omega) (by omega)).mpr (Nat.le_refl l)) q⟩
theorem legI (j f : Nat) : (508 : Int32) + 4 * nI j + nI f = nI (508 + 4 * j + f) := by
  rw [li 508, li 4, pk_mul, nI_add, nI_add]
theorem s_10_legOf {r0 j f : Nat} {Q : Int32 → St → Prop} {σ : St} (hj : j < 10) (hf : f < 4) (h : Q (σ.1 (r0 + 1) (508 + 4 * j + f)) σ) : m_10_legOf r0 (nI j) (nI f) Q σ := by
  unfold m_10_legOf
  rw [legI, tn _ (by omega)]
  exact ⟨vq (by omega), h⟩
theorem s_10_legsIn {r0 l : Nat} {x : Int32} {Q : Int32 → St → Prop} {σ : St} (hl : σ.1 (r0 + 1) 507 = nI l) (h10 : l ≤ 10) (h : Q (cL (fun j => σ.1 (r0 + 1) (508 + 4 * j)) x l) σ) : m_10_legsIn r0 x Q σ := by
  unfold m_10_legsIn
  refine it_cnt (fun (k : Nat) (A : Int32 → Int32 → St → Prop) => A (cL (fun j => σ.1 (r0 + 1) (508 + 4 * j)) x k) (nI k) σ) l (by omega) ?_ ?_
  · intro k hk A hA
    unfold m_10_legsIn_4
    rw [t507, hl]
    refine ⟨v507, fun q => absurd q (nle_of hk (by omega)), fun _ => ?_⟩
    refine s_10_legOf (f := 0) (by omega) (by omega) ?_
    have hA : A (cL (fun j => σ.1 (r0 + 1) (508 + 4 * j)) x k + (if σ.1 (r0 + 1) (508 + 4 * k + 0) = x then 1 else 0)) (nI (k + 1)) σ := hA
    refine ⟨fun q x2 e2 x3 e3 => ?_, fun q x2 e2 x3 e3 => ?_⟩
    · rw [e2, e3, iplus]
      rw [if_neg q] at hA
      exact hA
    · rw [e2, e3, iplus]
      rw [if_pos q] at hA
      exact hA
  · intro A
    unfold m_10_legsIn_4
    rw [t507, hl]
    exact ⟨v507, fun _ => h, fun q => absurd ((lei (by omega) (by omega)).mpr (Nat.le_refl l)) q⟩
/-- what street(x1, x2) tells -/
noncomputable def vStreet (P : Nat → Int32) (x1 x2 : Int32) : Int32 := cif (∃ i n, P 0 = nI n ∧ i < n ∧ n ≤ 6 ∧ x1 = nI i)
  (if x2 = 0 then P (1 + 83 * x1.toNatClampNeg) else if x2 = 1 then P (2 + 83 * x1.toNatClampNeg) else if x2 = 2 then P (3 + 83 * x1.toNatClampNeg)
   else if x2 = 3 then sD P (4 + 83 * x1.toNatClampNeg) (P (1 + 83 * x1.toNatClampNeg)).toNatClampNeg else if x2 = 4 then sD P (24 + 83 * x1.toNatClampNeg) (P (1 + 83 * x1.toNatClampNeg)).toNatClampNeg
   else if x2 = 5 then pP (fun k => P (44 + 83 * x1.toNatClampNeg + k)) (P (1 + 83 * x1.toNatClampNeg)).toNatClampNeg else if x2 = 6 then gD (fun k => P (4 + 83 * x1.toNatClampNeg + k)) (P (1 + 83 * x1.toNatClampNeg)).toNatClampNeg
   else if x2 = 7 then cL (fun j => P (508 + 4 * j)) x1 (P 507).toNatClampNeg else -1) (-1)
theorem sd_pg {σ : St} {B i s n : Nat} (hi : i < 6) (hs : s < 2) (hn : n ≤ 20) : sD (σ.1 (B + 1 + 5 + 3 * i + 1)) (20 * s) n = sD (pgW σ B) (4 + 83 * i + 20 * s) n := by
  refine sD_eq n (fun k hk => ?_)
  rw [gdi σ B hi (by omega)]
  congr 1
  omega
theorem s_9_street {c n l : Nat} {x1 x2 : Int32} {Q : Int32 → St → Prop} {σ : St} {r0 : Nat} (ok : okP c n l (pgW σ (r0 + 7))) (h : Q (vStreet (pgW σ (r0 + 7)) x1 x2) σ) : m_9_street r0 x1 x2 Q σ := by
  unfold m_9_street
  have hn := ok.1.1
  have h6 := ok.1.2.1
  refine s_8_hasStreet (n := n) hn (by omega) (fun i hi e => ?_) (fun q => ?_)
  · refine ⟨fun _ => ?_, fun q => absurd q (by decide)⟩
    subst e
    unfold vStreet at h
    rw [cif_t ⟨i, n, hn, hi, h6, rfl⟩, tn i (by omega)] at h
    obtain ⟨⟨v, hv, hv1, hv2⟩, -, -⟩ := ok.2.1 i hi
    rw [hv, tn v (by omega), ok.1.2.2.1, tn l (by have := ok.1.2.2.2; omega)] at h
    rw [tn i (by omega)]
    refine ⟨vin (by omega), fun r3 e3 => ?_⟩
    rw [e3]
    have hc : σ.1 (r0 + 7 + 1 + 5 + 3 * i) 0 = nI v := pg_st (k := 0) (by omega) (by omega) hv
    refine ⟨fun q => ?_, fun q => ?_, fun q => ?_, fun q => ?_, fun q => ?_, fun q => ?_, fun q => ?_, fun q => ?_, fun q => ?_⟩
    · rw [if_neg (out_ne q (by decide)), if_neg (out_ne q (by decide)), if_neg (out_ne q (by decide)), if_neg (out_ne q (by decide)), if_neg (out_ne q (by decide)), if_neg (out_ne q (by decide)), if_neg (out_ne q (by decide)), if_neg (out_ne q (by decide))] at h
      exact h
    · rw [if_pos q] at h
      rw [hc]
      exact h
    · rw [if_neg (by rw [q]; decide), if_pos q] at h
      rw [gst σ (r0 + 7) (k := 1) (by omega) (by omega), show 1 + 83 * i + 1 = 2 + 83 * i by omega]
      exact h
    · rw [if_neg (by rw [q]; decide), if_neg (by rw [q]; decide), if_pos q] at h
      rw [gst σ (r0 + 7) (k := 2) (by omega) (by omega), show 1 + 83 * i + 2 = 3 + 83 * i by omega]
      exact h
    · rw [if_neg (by rw [q]; decide), if_neg (by rw [q]; decide), if_neg (by rw [q]; decide), if_pos q] at h
      refine s_6_dirtOfSide (s := 0) hc hv2 (by decide) ?_
      rw [sd_pg (by omega) (by decide) hv2]
      exact h
    · rw [if_neg (by rw [q]; decide), if_neg (by rw [q]; decide), if_neg (by rw [q]; decide), if_neg (by rw [q]; decide), if_pos q] at h
      refine s_6_dirtOfSide (s := 1) hc hv2 (by decide) ?_
      rw [sd_pg (by omega) (by decide) hv2, show 4 + 83 * i + 20 * 1 = 24 + 83 * i by omega]
      exact h
    · rw [if_neg (by rw [q]; decide), if_neg (by rw [q]; decide), if_neg (by rw [q]; decide), if_neg (by rw [q]; decide), if_neg (by rw [q]; decide), if_pos q] at h
      refine s_6_parkedCells hc hv2 ?_
      rw [pP_eq (g := fun k => pgW σ (r0 + 7) (44 + 83 * i + k)) v hv2 (fun k hk => gpa σ (r0 + 7) (by omega) hk)]
      exact h
    · rw [if_neg (by rw [q]; decide), if_neg (by rw [q]; decide), if_neg (by rw [q]; decide), if_neg (by rw [q]; decide), if_neg (by rw [q]; decide), if_neg (by rw [q]; decide), if_pos q] at h
      refine s_6_greatestDirt hc hv2 ?_
      rw [gD_eq (g := fun k => pgW σ (r0 + 7) (4 + 83 * i + k)) v hv2 (fun k hk => gdi σ (r0 + 7) (by omega) hk)]
      exact h
    · rw [if_neg (by rw [q]; decide), if_neg (by rw [q]; decide), if_neg (by rw [q]; decide), if_neg (by rw [q]; decide), if_neg (by rw [q]; decide), if_neg (by rw [q]; decide), if_neg (by rw [q]; decide), if_pos q] at h
      exact s_8_legsIn ok.1.2.2.1 ok.1.2.2.2 h
  · refine ⟨fun q => absurd rfl q, fun _ => ?_⟩
    unfold vStreet at h
    rw [cif_f (by rintro ⟨i, n', h1, h2, h3, h4⟩; have := ok.inj h1 (by omega); subst this; exact q i h2 h4)] at h
    exact h
theorem s_10_street {c n l : Nat} {x1 x2 : Int32} {Q : Int32 → St → Prop} {σ : St} {r0 : Nat} (ok : okP c n l (σ.1 (r0 + 1))) (h : Q (vStreet (σ.1 (r0 + 1)) x1 x2) σ) : m_10_street r0 x1 x2 Q σ := by
  unfold m_10_street
  have hn := ok.1.1
  have h6 := ok.1.2.1
  refine s_10_isStreet (n := n) hn (by omega) (fun i hi e => ?_) (fun q => ?_)
  · refine ⟨fun q => absurd q (by decide), fun _ => ?_⟩
    subst e
    unfold vStreet at h
    rw [cif_t ⟨i, n, hn, hi, h6, rfl⟩, tn i (by omega)] at h
    obtain ⟨⟨v, hv, hv1, hv2⟩, -, -⟩ := ok.2.1 i hi
    rw [hv, tn v (by omega), ok.1.2.2.1, tn l (by have := ok.1.2.2.2; omega)] at h
    refine s_10_inN (a := 0) (b := 7) (by omega) (by omega) (fun j _ hj e => ?_) (fun q => ?_)
    · refine ⟨fun _ => ?_, fun q => absurd q (by decide)⟩
      refine ⟨fun q => ?_, fun q => ?_, fun q => ?_, fun q => ?_, fun q => ?_, fun q => ?_⟩
      · have hj3 : j < 3 := by
          rw [e, nI_toI (by omega)] at q
          omega
        rcases (by omega : j = 0 ∨ j = 1 ∨ j = 2) with rfl | rfl | rfl
        · have e : x2 = 0 := e
          rw [if_pos e] at h
          rw [e]
          refine s_10_of (k := 0) (by omega) (by omega) ?_
          rw [show 1 + 83 * i + 0 = 1 + 83 * i from rfl, hv]
          exact h
        · have e : x2 = 1 := e
          rw [if_neg (by rw [e]; decide), if_pos e] at h
          rw [e]
          refine s_10_of (k := 1) (by omega) (by omega) ?_
          rw [show 1 + 83 * i + 1 = 2 + 83 * i by omega]
          exact h
        · have e : x2 = 2 := e
          rw [if_neg (by rw [e]; decide), if_neg (by rw [e]; decide), if_pos e] at h
          rw [e]
          refine s_10_of (k := 2) (by omega) (by omega) ?_
          rw [show 1 + 83 * i + 2 = 3 + 83 * i by omega]
          exact h
      · rw [if_neg (by rw [q]; decide), if_neg (by rw [q]; decide), if_neg (by rw [q]; decide), if_pos q] at h
        unfold m_10_street_56
        rw [q]
        exact s_10_sideSum (s := 0) (by omega) (by decide) hv hv2 h
      · rw [if_neg (by rw [q]; decide), if_neg (by rw [q]; decide), if_neg (by rw [q]; decide), if_neg (by rw [q]; decide), if_pos q] at h
        unfold m_10_street_56
        rw [q]
        refine s_10_sideSum (s := 1) (by omega) (by decide) hv hv2 ?_
        rw [show 4 + 83 * i + 20 * 1 = 24 + 83 * i by omega]
        exact h
      · rw [if_neg (by rw [q]; decide), if_neg (by rw [q]; decide), if_neg (by rw [q]; decide), if_neg (by rw [q]; decide), if_neg (by rw [q]; decide), if_pos q] at h
        exact s_10_parkedIn (by omega) hv hv2 (fun k hk => (ok.2.2.1 i k hi hk).2) h
      · rw [if_neg (by rw [q]; decide), if_neg (by rw [q]; decide), if_neg (by rw [q]; decide), if_neg (by rw [q]; decide), if_neg (by rw [q]; decide), if_neg (by rw [q]; decide), if_pos q] at h
        exact s_10_greatest (by omega) hv hv2 h
      · rw [if_neg (by rw [q]; decide), if_neg (by rw [q]; decide), if_neg (by rw [q]; decide), if_neg (by rw [q]; decide), if_neg (by rw [q]; decide), if_neg (by rw [q]; decide), if_neg (by rw [q]; decide), if_pos q] at h
        exact s_10_legsIn ok.1.2.2.1 ok.1.2.2.2 h
    · refine ⟨fun q => absurd rfl q, fun _ => ?_⟩
      rw [if_neg (show ¬ x2 = 0 from q 0 (by omega) (by omega)), if_neg (show ¬ x2 = 1 from q 1 (by omega) (by omega)), if_neg (show ¬ x2 = 2 from q 2 (by omega) (by omega)), if_neg (show ¬ x2 = 3 from q 3 (by omega) (by omega)), if_neg (show ¬ x2 = 4 from q 4 (by omega) (by omega)), if_neg (show ¬ x2 = 5 from q 5 (by omega) (by omega)), if_neg (show ¬ x2 = 6 from q 6 (by omega) (by omega)), if_neg (show ¬ x2 = 7 from q 7 (by omega) (by omega))] at h
      exact h
  · refine ⟨fun _ => ?_, fun q => absurd rfl q⟩
    unfold vStreet at h
    rw [cif_f (by rintro ⟨i, n', h1, h2, h3, h4⟩; have := ok.inj h1 (by omega); subst this; exact q i h2 h4)] at h
    exact h
theorem EQP.k {n l i k : Nat} {P p : Nat → Int32} (e : EQP n l P p) (hi : i < n) (hn : n ≤ 6) (hk : k < 80) : P (4 + 83 * i + k) = p (4 + 83 * i + k) := by
  have := e.st hi hn (k := 3 + k) (by omega)
  rw [show 1 + 83 * i + (3 + k) = 4 + 83 * i + k by omega] at this
  exact this
theorem EQP.sd {n l i s v : Nat} {P p : Nat → Int32} (e : EQP n l P p) (hi : i < n) (hn : n ≤ 6) (hs : s < 2) (hv : v ≤ 20) : sD P (4 + 83 * i + 20 * s) v = sD p (4 + 83 * i + 20 * s) v := by
  refine sD_eq v (fun k hk => ?_)
  have := e.k hi hn (k := 20 * s + k) (by omega)
  rw [show 4 + 83 * i + (20 * s + k) = 4 + 83 * i + 20 * s + k by omega] at this
  exact this
theorem vStreet_eq {c n l : Nat} {P p : Nat → Int32} {x1 x2 : Int32} (ok : okP c n l P) (e : EQP n l P p) : vStreet P x1 x2 = vStreet p x1 x2 := by
  unfold vStreet
  have h6 := ok.1.2.1
  have e0 : P 0 = p 0 := e.lo vis_0 (by omega)
  refine cif_c (by rw [e0]) (fun hc => ?_) (fun _ => rfl)
  obtain ⟨i, n', h0, hi, hn', h1⟩ := hc
  have := ok.inj h0 (by omega)
  subst this
  subst h1
  rw [tn i (by omega)]
  obtain ⟨⟨v, hv, hv1, hv2⟩, -, -⟩ := ok.2.1 i hi
  have e1 := e.st hi h6 (k := 0) (by omega)
  have e2 := e.st hi h6 (k := 1) (by omega)
  have e3 := e.st hi h6 (k := 2) (by omega)
  rw [show 1 + 83 * i + 0 = 1 + 83 * i from rfl] at e1
  rw [show 1 + 83 * i + 1 = 2 + 83 * i by omega] at e2
  rw [show 1 + 83 * i + 2 = 3 + 83 * i by omega] at e3
  have d0 := e.sd hi h6 (s := 0) (by omega) hv2
  have d1 := e.sd hi h6 (s := 1) (by omega) hv2
  rw [show 4 + 83 * i + 20 * 0 = 4 + 83 * i by omega] at d0
  rw [show 4 + 83 * i + 20 * 1 = 24 + 83 * i by omega] at d1
  rw [← e1, ← e2, ← e3, hv, tn v (by omega), d0, d1, ← e.set (x := 507) (by omega) (by omega), ok.1.2.2.1, tn l (by have := ok.1.2.2.2; omega)]
  rw [pP_eq (g := fun k => p (44 + 83 * i + k)) v hv2 (fun k hk => by have := e.k hi h6 (k := 40 + k) (by omega); rw [show 4 + 83 * i + (40 + k) = 44 + 83 * i + k by omega] at this; exact this)]
  rw [gD_eq (g := fun k => p (4 + 83 * i + k)) v hv2 (fun k hk => e.k hi h6 (by omega))]
  rw [cL_eq (f := fun j => P (508 + 4 * j)) (g := fun j => p (508 + 4 * j)) l (fun j hj => e.le hj ok.1.2.2.2 (f := 0) (by omega))]
