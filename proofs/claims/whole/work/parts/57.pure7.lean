/-- what leg(x1, x2) tells -/
noncomputable def vLeg (P : Nat → Int32) (x1 x2 : Int32) : Int32 := cif (∃ j l, P 507 = nI l ∧ j < l ∧ l ≤ 10 ∧ x1 = nI j)
  (if x2 = 0 then P (508 + 4 * x1.toNatClampNeg) else if x2 = 1 then P (509 + 4 * x1.toNatClampNeg) else if x2 = 2 then (if P 548 = 0 then -2 else P (510 + 4 * x1.toNatClampNeg)) else if x2 = 3 then (if P 548 = 0 then -2 else P (511 + 4 * x1.toNatClampNeg)) else -1) (-1)
theorem s_9_leg {c n l : Nat} {x1 x2 : Int32} {Q : Int32 → St → Prop} {σ : St} {r0 : Nat} (ok : okP c n l (pgW σ (r0 + 7))) (h : Q (vLeg (pgW σ (r0 + 7)) x1 x2) σ) : m_9_leg r0 x1 x2 Q σ := by
  unfold m_9_leg
  have hl := ok.1.2.2.1
  have h10 := ok.1.2.2.2
  refine s_8_hasLeg (n := l) hl (by omega) (fun j hj e => ?_) (fun q => ?_)
  · refine ⟨fun q => absurd q (by decide), fun _ => ?_⟩
    subst e
    unfold vLeg at h
    rw [cif_t ⟨j, l, hl, hj, h10, rfl⟩, tn j (by omega)] at h
    rcases ix x2 4 with g | ⟨k, rfl, hk, hk2⟩ | ⟨k, rfl, hk⟩
    · rw [if_neg (show ¬ x2 = 0 from neg_ne (j := 0) g (by omega)), if_neg (show ¬ x2 = 1 from neg_ne (j := 1) g (by omega)), if_neg (show ¬ x2 = 2 from neg_ne (j := 2) g (by omega)), if_neg (show ¬ x2 = 3 from neg_ne (j := 3) g (by omega))] at h
      exact ⟨fun _ => h, fun q => absurd g q⟩
    · have nk : ∀ v, v < 4 → ¬ nI k = nI v := fun v hv e => by rw [eqI (by omega) (by omega)] at e; omega
      rw [if_neg (show ¬ nI k = 0 from nk 0 (by omega)), if_neg (show ¬ nI k = 1 from nk 1 (by omega)), if_neg (show ¬ nI k = 2 from nk 2 (by omega)), if_neg (show ¬ nI k = 3 from nk 3 (by omega))] at h
      exact ⟨fun q => absurd q (nn0 hk2), fun _ => ⟨fun q => absurd ((leI (b := 3) (by omega) (by omega)).mp q) (by omega), fun _ => h⟩⟩
    · refine ⟨fun q => absurd q (nn0 (by omega)), fun _ => ⟨fun _ => ?_, fun q => absurd ((leI (b := 3) (by omega) (by omega)).mpr (by omega)) q⟩⟩
      rw [tn j (by omega)]
      refine ⟨vin (by omega), fun r3 e3 => ?_⟩
      rw [e3, g548]
      have gl : ∀ f, f < 4 → σ.1 (r0 + 7 + 2 + 22 + j) f = pgW σ (r0 + 7) (508 + 4 * j + f) := fun f hf => gle σ (r0 + 7) (by omega) hf
      rw [gl 0 (by omega), gl 1 (by omega), gl 2 (by omega), gl 3 (by omega)]
      rw [show 509 + 4 * j = 508 + 4 * j + 1 by omega, show 510 + 4 * j = 508 + 4 * j + 2 by omega, show 511 + 4 * j = 508 + 4 * j + 3 by omega] at h
      rcases (by omega : k = 0 ∨ k = 1 ∨ k = 2 ∨ k = 3) with rfl | rfl | rfl | rfl
      · rw [if_pos (show nI 0 = 0 from rfl)] at h
        exact ⟨fun q => absurd rfl q, fun _ => h⟩
      · rw [if_neg (show ¬ nI 1 = 0 by decide), if_pos (show nI 1 = 1 from rfl)] at h
        exact ⟨fun _ => ⟨fun q => absurd rfl q, fun _ => h⟩, fun q => absurd q (by decide)⟩
      · rw [if_neg (show ¬ nI 2 = 0 by decide), if_neg (show ¬ nI 2 = 1 by decide), if_pos (show nI 2 = 2 from rfl)] at h
        refine ⟨fun _ => ⟨fun _ => ⟨fun q => ⟨fun q2 => absurd rfl q2, fun _ => ?_⟩, fun q => ?_⟩, fun q => absurd q (by decide)⟩, fun q => absurd q (by decide)⟩
        · rw [if_neg q] at h
          exact h
        · rw [if_pos q] at h
          exact h
      · rw [if_neg (show ¬ nI 3 = 0 by decide), if_neg (show ¬ nI 3 = 1 by decide), if_neg (show ¬ nI 3 = 2 by decide), if_pos (show nI 3 = 3 from rfl)] at h
        refine ⟨fun _ => ⟨fun _ => ⟨fun q => ⟨fun _ => ?_, fun q2 => absurd q2 (by decide)⟩, fun q => ?_⟩, fun q => absurd q (by decide)⟩, fun q => absurd q (by decide)⟩
        · rw [if_neg q] at h
          exact h
        · rw [if_pos q] at h
          exact h
  · refine ⟨fun _ => ?_, fun q => absurd rfl q⟩
    unfold vLeg at h
    rw [cif_f (by rintro ⟨i, n', h1, h2, h3, h4⟩; have := ok.injl h1 (by omega); subst this; exact q i h2 h4)] at h
    exact h
theorem s_10_leg {c n l : Nat} {x1 x2 : Int32} {Q : Int32 → St → Prop} {σ : St} {r0 : Nat} (ok : okP c n l (σ.1 (r0 + 1))) (h : Q (vLeg (σ.1 (r0 + 1)) x1 x2) σ) : m_10_leg r0 x1 x2 Q σ := by
  unfold m_10_leg
  have hl := ok.1.2.2.1
  have h10 := ok.1.2.2.2
  refine s_10_isLeg (n := l) hl (by omega) (fun j hj e => ?_) (fun q => ?_)
  · refine ⟨fun q => absurd q (by decide), fun _ => ?_⟩
    subst e
    unfold vLeg at h
    rw [cif_t ⟨j, l, hl, hj, h10, rfl⟩, tn j (by omega)] at h
    rw [show 509 + 4 * j = 508 + 4 * j + 1 by omega, show 510 + 4 * j = 508 + 4 * j + 2 by omega, show 511 + 4 * j = 508 + 4 * j + 3 by omega] at h
    refine s_10_inN (a := 0) (b := 3) (by omega) (by omega) (fun k _ hk e => ?_) (fun q => ?_)
    · refine ⟨fun _ => ?_, fun q => absurd q (by decide)⟩
      have lg : ∀ f, f < 4 → ∀ {Q : Int32 → St → Prop}, Q (σ.1 (r0 + 1) (508 + 4 * j + f)) σ → m_10_legOf r0 (nI j) (nI f) Q σ := fun f hf Q hq => s_10_legOf (by omega) hf hq
      unfold m_10_leg_40
      rw [t548]
      rcases (by omega : k = 0 ∨ k = 1 ∨ k = 2 ∨ k = 3) with rfl | rfl | rfl | rfl
      · have e : x2 = 0 := e
        subst e
        rw [if_pos rfl] at h
        exact ⟨fun _ => lg 0 (by omega) h, fun q => absurd (by decide) q⟩
      · have e : x2 = 1 := e
        subst e
        rw [if_neg (by decide), if_pos rfl] at h
        exact ⟨fun _ => lg 1 (by omega) h, fun q => absurd (by decide) q⟩
      · have e : x2 = 2 := e
        subst e
        rw [if_neg (by decide), if_neg (by decide), if_pos rfl] at h
        refine ⟨fun q => absurd q (by decide), fun _ => ⟨v548, fun q => ?_, fun q => ?_⟩⟩
        · rw [if_neg q] at h
          exact lg 2 (by omega) h
        · rw [if_pos q] at h
          exact h
      · have e : x2 = 3 := e
        subst e
        rw [if_neg (by decide), if_neg (by decide), if_neg (by decide), if_pos rfl] at h
        refine ⟨fun q => absurd q (by decide), fun _ => ⟨v548, fun q => ?_, fun q => ?_⟩⟩
        · rw [if_neg q] at h
          exact lg 3 (by omega) h
        · rw [if_pos q] at h
          exact h
    · refine ⟨fun q => absurd rfl q, fun _ => ?_⟩
      rw [if_neg (show ¬ x2 = 0 from q 0 (by omega) (by omega)), if_neg (show ¬ x2 = 1 from q 1 (by omega) (by omega)), if_neg (show ¬ x2 = 2 from q 2 (by omega) (by omega)), if_neg (show ¬ x2 = 3 from q 3 (by omega) (by omega))] at h
      exact h
  · refine ⟨fun _ => ?_, fun q => absurd rfl q⟩
    unfold vLeg at h
    rw [cif_f (by rintro ⟨i, n', h1, h2, h3, h4⟩; have := ok.injl h1 (by omega); subst this; exact q i h2 h4)] at h
    exact h
theorem vLeg_eq {c n l : Nat} {P p : Nat → Int32} {x1 x2 : Int32} (ok : okP c n l P) (e : EQP n l P p) : vLeg P x1 x2 = vLeg p x1 x2 := by
  unfold vLeg
  have h10 := ok.1.2.2.2
  have e0 : P 507 = p 507 := e.set (by omega) (by omega)
  have e8 : P 548 = p 548 := e.hi (by omega) (by omega) (by omega)
  refine cif_c (by rw [e0]) (fun hc => ?_) (fun _ => rfl)
  obtain ⟨j, n', h0, hj, hn', h1⟩ := hc
  have := ok.injl h0 (by omega)
  subst this
  subst h1
  rw [tn j (by omega), show 509 + 4 * j = 508 + 4 * j + 1 by omega, show 510 + 4 * j = 508 + 4 * j + 2 by omega, show 511 + 4 * j = 508 + 4 * j + 3 by omega]
  have l0 := e.le hj h10 (f := 0) (by omega)
  have l1 := e.le hj h10 (f := 1) (by omega)
  rw [show 508 + 4 * j + 0 = 508 + 4 * j from rfl] at l0
  rw [l0, l1, ← e8]
  by_cases z : P 548 = 0
  · simp only [if_pos z]
  · simp only [if_neg z]
    rw [e _ (vis_le (f := 2) hj h10 (by omega)) (fun _ => z), e _ (vis_le (f := 3) hj h10 (by omega)) (fun _ => z)]
/-- what latest(x) tells -/
noncomputable def vLat (P : Nat → Int32) (no : Prop) (x : Int32) : Int32 := cif (∃ k, k < 6 ∧ x = nI k) (cif no (-9) (P (549 + x.toNatClampNeg))) (-1)
theorem s_9_latest {x : Int32} {Q : Int32 → St → Prop} {σ : St} {r0 : Nat} (h : Q (vLat (pgW σ (r0 + 7)) (pgW σ (r0 + 7) 562 = 0) x) σ) : m_9_latest r0 x Q σ := by
  unfold m_9_latest
  unfold vLat at h
  rw [g562]
  rcases ix x 6 with g | ⟨k, rfl, hk, hk2⟩ | ⟨k, rfl, hk⟩
  · rw [cif_f (by rintro ⟨k, hk, e⟩; exact neg_ne g (by omega) e)] at h
    exact ⟨fun _ => h, fun q => absurd g q⟩
  · rw [cif_f (by rintro ⟨j, hj, e⟩; rw [eqI (by omega) (by omega)] at e; omega)] at h
    exact ⟨fun q => absurd q (nn0 hk2), fun _ => ⟨fun q => absurd ((leI (b := 5) (by omega) (by omega)).mp q) (by omega), fun _ => h⟩⟩
  · rw [cif_t ⟨k, hk, rfl⟩, tn k (by omega)] at h
    refine ⟨fun q => absurd q (nn0 (by omega)), fun _ => ⟨fun _ => ⟨fun q => ?_, fun q => ?_⟩, fun q => absurd ((leI (b := 5) (by omega) (by omega)).mpr (by omega)) q⟩⟩
    · rw [cif_f q, ← grep σ (r0 + 7) hk] at h
      have sk : ∀ v, v < 6 → nI k = nI v → Q (σ.1 (r0 + 7 + 5) v) σ := fun v hv e => by
        rw [eqI (by omega) (by omega)] at e
        subst e
        exact h
      refine ⟨fun q => ?_, fun q => sk 0 (by omega) q, fun q => sk 1 (by omega) q, fun q => sk 2 (by omega) q, fun q => sk 3 (by omega) q, fun q => sk 4 (by omega) q⟩
      refine sk 5 (by omega) ?_
      rw [nI_toI (by omega)] at q
      rw [show k = 5 by omega]
    · rw [cif_t q] at h
      exact h
theorem latI (k : Nat) : (549 : Int32) + nI k = nI (549 + k) := by rw [li 549, nI_add]
theorem s_10_latestOf {k : Nat} {Q : Int32 → St → Prop} {σ : St} {r0 : Nat} (hk : k < 6) (h : Q (σ.1 (r0 + 1) (549 + k)) σ) : m_10_latestOf r0 (nI k) Q σ := by
  unfold m_10_latestOf
  rw [latI, tn _ (by omega)]
  exact ⟨vq (by omega), h⟩
theorem s_10_latest {x : Int32} {Q : Int32 → St → Prop} {σ : St} {r0 : Nat} (h : Q (vLat (σ.1 (r0 + 1)) (σ.1 (r0 + 1) 555 = 0) x) σ) : m_10_latest r0 x Q σ := by
  unfold m_10_latest
  unfold vLat at h
  refine s_10_inN (a := 0) (b := 5) (by omega) (by omega) (fun k _ hk e => ?_) (fun q => ?_)
  · subst e
    rw [cif_t ⟨k, by omega, rfl⟩, tn k (by omega)] at h
    rw [t555]
    refine ⟨fun _ => ⟨v555, fun q => ?_, fun q => ?_⟩, fun q => absurd q (by decide)⟩
    · rw [cif_f q] at h
      exact s_10_latestOf (by omega) h
    · rw [cif_t q] at h
      exact h
  · rw [cif_f (by rintro ⟨k, hk, e⟩; exact q k (by omega) (by omega) e)] at h
    exact ⟨fun q => absurd rfl q, fun _ => h⟩
theorem vLat_eq {n l : Nat} {P p : Nat → Int32} {x : Int32} (e : EQP n l P p) (hh : p 555 = (if P 562 = 0 then 0 else 1)) : vLat P (P 562 = 0) x = vLat p (p 555 = 0) x := by
  unfold vLat
  refine cif_c Iff.rfl (fun hc => ?_) (fun _ => rfl)
  obtain ⟨k, hk, rfl⟩ := hc
  rw [tn k (by omega)]
  refine cif_c ?_ (fun _ => rfl) (fun _ => e.hi (by omega) (by omega) (by omega))
  rw [hh]
  by_cases z : P 562 = 0
  · simp [z]
  · simp [z]
