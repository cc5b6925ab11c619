/-- what holds of a page (n streets, l legs; c bounds how many shifts there were) -/
def okP (c n l : Nat) (P : Nat → Int32) : Prop :=
  (P 0 = nI n ∧ n ≤ 6 ∧ P 507 = nI l ∧ l ≤ 10) ∧
  (∀ i, i < n → (∃ v, P (1 + 83 * i) = nI v ∧ 1 ≤ v ∧ v ≤ 20) ∧ (∃ v, P (2 + 83 * i) = nI v ∧ v ≤ 60) ∧ (∃ v, P (3 + 83 * i) = nI v ∧ v ≤ 9)) ∧
  (∀ i k, i < n → k < 40 → (∃ v, P (4 + 83 * i + k) = nI v ∧ v ≤ 99) ∧ isB (P (44 + 83 * i + k))) ∧
  (∀ j, j < l → (∃ v, P (508 + 4 * j) = nI v ∧ v < n) ∧ (∃ v, P (509 + 4 * j) = nI v ∧ v < 2)) ∧
  ((∃ v, P 499 = nI v ∧ 1 ≤ v ∧ v ≤ 4) ∧ (∃ cap h, P 500 = nI cap ∧ P 506 = nI h ∧ 20 ≤ cap ∧ cap ≤ 2000 ∧ h ≤ cap) ∧ (∃ v, P 501 = nI v ∧ v ≤ 9) ∧ (∃ v, P 502 = nI v ∧ 100 ≤ v ∧ v ≤ 6000) ∧ (∃ v, P 503 = nI v ∧ v ≤ 1000) ∧ (∃ v, P 504 = nI v ∧ v ≤ 400) ∧ (∃ v, P 505 = nI v ∧ v ≤ 1000)) ∧
  isB (P 548) ∧ ∃ v, P 562 = nI v ∧ v ≤ c
def vis (n l x : Nat) : Prop := x < 564 ∧ x ≠ 555 ∧ (1 ≤ x → x < 499 → x < 1 + 83 * n) ∧ (508 ≤ x → x < 548 → x < 508 + 4 * l)
def leg23 (x : Nat) : Prop := 508 ≤ x ∧ x < 548 ∧ 2 ≤ (x - 508) % 4
def EQP (n l : Nat) (P p : Nat → Int32) : Prop := ∀ x, vis n l x → (leg23 x → P 548 ≠ 0) → P x = p x
/-- a world of the class (as a page) and a page of the model show the same -/
def REL (c : Nat) (P p : Nat → Int32) : Prop := ∃ n l, okP c n l P ∧ EQP n l P p ∧ p 555 = (if P 562 = 0 then 0 else 1)
theorem vis_hi {n l x : Nat} (h1 : 548 ≤ x) (h2 : x < 564) (h3 : x ≠ 555) : vis n l x := ⟨h2, h3, fun _ _ => by omega, fun _ _ => by omega⟩
theorem vis_set {n l x : Nat} (h1 : 499 ≤ x) (h2 : x < 508) : vis n l x := ⟨by omega, by omega, fun _ _ => by omega, fun _ _ => by omega⟩
theorem vis_0 {n l : Nat} : vis n l 0 := ⟨by omega, by omega, fun _ _ => by omega, fun _ _ => by omega⟩
theorem vis_st {n l i k : Nat} (hi : i < n) (hn : n ≤ 6) (hk : k < 83) : vis n l (1 + 83 * i + k) := ⟨by omega, by omega, fun _ _ => by omega, fun _ _ => by omega⟩
theorem vis_le {n l j f : Nat} (hj : j < l) (hl : l ≤ 10) (hf : f < 4) : vis n l (508 + 4 * j + f) := ⟨by omega, by omega, fun _ _ => by omega, fun _ _ => by omega⟩
theorem nl_lo {x : Nat} (h : x < 508 ∨ 548 ≤ x) {P : Nat → Int32} : leg23 x → P 548 ≠ 0 := fun q => by unfold leg23 at q; omega
theorem nl_f {j f : Nat} (hf : f < 2) {P : Nat → Int32} : leg23 (508 + 4 * j + f) → P 548 ≠ 0 := fun q => by unfold leg23 at q; omega
theorem EQP.lo {n l x : Nat} {P p : Nat → Int32} (h : EQP n l P p) (hv : vis n l x) (hx : x < 508 ∨ 548 ≤ x) : P x = p x := h x hv (nl_lo hx)
theorem EQP.st {n l i k : Nat} {P p : Nat → Int32} (h : EQP n l P p) (hi : i < n) (hn : n ≤ 6) (hk : k < 83) : P (1 + 83 * i + k) = p (1 + 83 * i + k) := h.lo (vis_st hi hn hk) (by omega)
theorem EQP.le {n l j f : Nat} {P p : Nat → Int32} (h : EQP n l P p) (hj : j < l) (hl : l ≤ 10) (hf : f < 2) : P (508 + 4 * j + f) = p (508 + 4 * j + f) := h _ (vis_le hj hl (by omega)) (nl_f hf)
theorem EQP.set {n l x : Nat} {P p : Nat → Int32} (h : EQP n l P p) (h1 : 499 ≤ x) (h2 : x < 508) : P x = p x := h.lo (vis_set h1 h2) (by omega)
theorem EQP.hi {n l x : Nat} {P p : Nat → Int32} (h : EQP n l P p) (h1 : 548 ≤ x) (h2 : x < 564) (h3 : x ≠ 555) : P x = p x := h.lo (vis_hi h1 h2 h3) (by omega)
theorem okP.tr {c n l : Nat} {P p : Nat → Int32} (h : okP c n l P) (e : EQP n l P p) : okP c n l p := by
  obtain ⟨⟨h1, h2, h3, h4⟩, h5, h6, h7, ⟨s1, s2, s3, s4, s5, s6, s7⟩, h9, h10⟩ := h
  refine ⟨⟨by rw [← e.lo vis_0 (by omega)]; exact h1, h2, by rw [← e.set (by omega) (by omega)]; exact h3, h4⟩, fun i hi => ?_, fun i k hi hk => ?_, fun j hj => ?_, ⟨?_, ?_, ?_, ?_, ?_, ?_, ?_⟩, ?_, ?_⟩
  · obtain ⟨a, b, d⟩ := h5 i hi
    have e1 := e.st hi h2 (k := 0) (by omega)
    have e2 := e.st hi h2 (k := 1) (by omega)
    have e3 := e.st hi h2 (k := 2) (by omega)
    rw [show 1 + 83 * i + 0 = 1 + 83 * i by omega] at e1
    rw [show 1 + 83 * i + 1 = 2 + 83 * i by omega] at e2
    rw [show 1 + 83 * i + 2 = 3 + 83 * i by omega] at e3
    rw [← e1, ← e2, ← e3]
    exact ⟨a, b, d⟩
  · obtain ⟨a, b⟩ := h6 i k hi hk
    have e1 := e.st hi h2 (k := 3 + k) (by omega)
    have e2 := e.st hi h2 (k := 43 + k) (by omega)
    rw [show 1 + 83 * i + (3 + k) = 4 + 83 * i + k by omega] at e1
    rw [show 1 + 83 * i + (43 + k) = 44 + 83 * i + k by omega] at e2
    rw [← e1, ← e2]
    exact ⟨a, b⟩
  · obtain ⟨a, b⟩ := h7 j hj
    have e1 := e.le hj h4 (f := 0) (by omega)
    have e2 := e.le hj h4 (f := 1) (by omega)
    rw [show 508 + 4 * j + 0 = 508 + 4 * j by omega] at e1
    rw [show 508 + 4 * j + 1 = 509 + 4 * j by omega] at e2
    rw [← e1, ← e2]
    exact ⟨a, b⟩
  · rw [← e.set (x := 499) (by omega) (by omega)]; exact s1
  · rw [← e.set (x := 500) (by omega) (by omega), ← e.set (x := 506) (by omega) (by omega)]; exact s2
  · rw [← e.set (x := 501) (by omega) (by omega)]; exact s3
  · rw [← e.set (x := 502) (by omega) (by omega)]; exact s4
  · rw [← e.set (x := 503) (by omega) (by omega)]; exact s5
  · rw [← e.set (x := 504) (by omega) (by omega)]; exact s6
  · rw [← e.set (x := 505) (by omega) (by omega)]; exact s7
  · rw [← e.hi (x := 548) (by omega) (by omega) (by omega)]; exact h9
  · rw [← e.hi (x := 562) (by omega) (by omega) (by omega)]; exact h10
theorem okP.mono {c c' n l : Nat} {P : Nat → Int32} (h : okP c n l P) (hc : c ≤ c') : okP c' n l P := by
  obtain ⟨h1, h5, h6, h7, s, h9, v, h10, h11⟩ := h
  exact ⟨h1, h5, h6, h7, s, h9, v, h10, by omega⟩
theorem REL.mono {c c' : Nat} {P p : Nat → Int32} (h : REL c P p) (hc : c ≤ c') : REL c' P p := by
  obtain ⟨n, l, h1, h2⟩ := h
  exact ⟨n, l, h1.mono hc, h2⟩
def HIST (c : Nat) (σ : St) : Prop := ∃ k x, k ≤ 8 ∧ x < 8 ∧ σ.1 42 1 = nI x ∧ σ.1 42 2 = nI k ∧ σ.1 354 1 = nI k ∧ ∀ j, j < k → REL c (pgW σ (44 + 34 * ((x + 7 - j) % 8))) (fun i => σ.1 355 (564 * (k - j) + i))
def TXT (σ : St) : Prop := ∃ m, m ≤ 80 ∧ σ.1 1 1 = nI m ∧ σ.1 354 3 = nI m ∧ ∀ j, j < m → ∃ v, 32 ≤ v ∧ v ≤ 126 ∧ σ.1 2 j = nI v ∧ σ.1 356 j = nI v
/-- class and model show the same, after at most c calls -/
def Inv (c : Nat) (σ : St) : Prop := REL c (pgW σ 7) (σ.1 355) ∧ HIST c σ ∧ TXT σ ∧ σ.1 0 8 = σ.1 354 4
theorem HIST.mono {c c' : Nat} {σ : St} (h : HIST c σ) (hc : c ≤ c') : HIST c' σ := by
  obtain ⟨k, x, h1, h2, h3, h4, h5, h6⟩ := h
  exact ⟨k, x, h1, h2, h3, h4, h5, fun j hj => (h6 j hj).mono hc⟩
theorem Inv.mono {c c' : Nat} {σ : St} (h : Inv c σ) (hc : c ≤ c') : Inv c' σ := ⟨h.1.mono hc, h.2.1.mono hc, h.2.2.1, h.2.2.2⟩
-- what lies where, in the class
theorem pg_st {σ : St} {B i k : Nat} (hi : i < 6) (hk : k < 3) {v : Int32} (h : pgW σ B (1 + 83 * i + k) = v) : σ.1 (B + 1 + 5 + 3 * i) k = v := by rw [gst σ B hi hk]; exact h
noncomputable def cif (p : Prop) (a b : Int32) : Int32 := @ite _ p (Classical.propDecidable p) a b
theorem cif_t {p : Prop} {a b : Int32} (h : p) : cif p a b = a := if_pos h
theorem cif_f {p : Prop} {a b : Int32} (h : ¬ p) : cif p a b = b := if_neg h
theorem cif_c {p q : Prop} {a b a' b' : Int32} (h : p ↔ q) (ha : p → a = a') (hb : ¬ p → b = b') : cif p a b = cif q a' b' := by
  by_cases hp : p
  · rw [cif_t hp, cif_t (h.mp hp), ha hp]
  · rw [cif_f hp, cif_f (fun q => hp (h.mpr q)), hb hp]
/-- a cell of a street is named -/
def isC (P : Nat → Int32) (x1 x2 x3 : Int32) : Prop := ∃ i s k n v, P 0 = nI n ∧ i < n ∧ n ≤ 6 ∧ x1 = nI i ∧ s < 2 ∧ x2 = nI s ∧ P (1 + 83 * i) = nI v ∧ v ≤ 20 ∧ k < v ∧ x3 = nI k
theorem s_8_hasCell {c n l : Nat} {x1 x2 x3 : Int32} {Q : Int32 → St → Prop} {σ : St} {B : Nat} (ok : okP c n l (pgW σ B)) (h1 : ∀ i s k v, i < n → x1 = nI i → s < 2 → x2 = nI s → pgW σ B (1 + 83 * i) = nI v → v ≤ 20 → k < v → x3 = nI k → Q 1 σ) (h0 : ¬ isC (pgW σ B) x1 x2 x3 → Q 0 σ) : m_8_hasCell B x1 x2 x3 Q σ := by
  obtain ⟨⟨hn, h6, -, -⟩, hst, -⟩ := ok
  unfold m_8_hasCell
  have inj : ∀ {a b : Nat}, nI a = nI b → a < 1000001 → b < 1000001 → a = b := fun h ha hb => (eqi ha hb).mp h
  refine s_8_hasStreet (n := n) hn (by omega) (fun i hi e => ?_) (fun q => ?_)
  · refine ⟨fun q => absurd q (by decide), fun _ => ?_⟩
    obtain ⟨v, hv, hv1, hv2⟩ := (hst i hi).1
    have hcell : σ.1 (B + 1 + 5 + 3 * i) 0 = nI v := pg_st (k := 0) (by omega) (by omega) hv
    have hno : (∀ s k, s < 2 → x2 = nI s → k < v → x3 = nI k → False) → Q 0 σ := fun q => h0 (by
      rintro ⟨i', s, k, n', v', e0, hi', hn', e1, hs, e2, e3, hv', hk, e4⟩
      have := inj (e.symm.trans e1) (by omega) (by omega)
      subst this
      have := inj (hv.symm.trans e3) (by omega) (by omega)
      subst this
      exact q s k hs e2 hk e4)
    rcases ix x2 2 with g | ⟨j, rfl, hj, hj2⟩ | ⟨s, rfl, hs⟩
    · exact ⟨fun _ => hno (fun s k hs e2 _ _ => neg_ne g (by omega) e2), fun q => absurd g q⟩
    · refine ⟨fun q => absurd q (nn0 hj2), fun _ => ⟨fun _ => hno (fun s k hs e2 _ _ => by rw [eqI (by omega) (by omega)] at e2; omega), fun q => absurd ((leI (a := 2) (by omega) (by omega)).mpr hj) q⟩⟩
    · refine ⟨fun q => absurd q (nn0 (by omega)), fun _ => ⟨fun q => absurd ((leI (a := 2) (by omega) (by omega)).mp q) (by omega), fun _ => ?_⟩⟩
      rcases ix x3 v with g | ⟨j, rfl, hj, hj2⟩ | ⟨k, rfl, hk⟩
      · exact ⟨fun _ => hno (fun s k hs e2 _ e3 => neg_ne g (by omega) e3), fun q => absurd g q⟩
      · refine ⟨fun q => absurd q (nn0 hj2), fun _ => ?_⟩
        rw [e, tn i (by omega), hcell]
        refine ⟨vin (by omega), fun _ => hno (fun s k hs e2 hk e3 => by rw [eqI (by omega) (by omega)] at e3; omega), fun q => absurd ((leI (by omega) (by omega)).mpr hj) q⟩
      · refine ⟨fun q => absurd q (nn0 (by omega)), fun _ => ?_⟩
        rw [e, tn i (by omega), hcell]
        refine ⟨vin (by omega), fun q => absurd ((leI (by omega) (by omega)).mp q) (by omega), fun _ => h1 i s k v hi e hs rfl hv hv2 hk rfl⟩
  · refine ⟨fun _ => h0 ?_, fun q => absurd rfl q⟩
    rintro ⟨i, s, k, n', v, e0, hi, hn', e1, -⟩
    have := inj (hn.symm.trans e0) (by omega) (by omega)
    subst this
    exact q i hi e1
theorem s_10_isCell {c n l : Nat} {x1 x2 x3 : Int32} {Q : Int32 → St → Prop} {σ : St} {r0 : Nat} (ok : okP c n l (σ.1 (r0 + 1))) (h1 : ∀ i s k v, i < n → x1 = nI i → s < 2 → x2 = nI s → σ.1 (r0 + 1) (1 + 83 * i) = nI v → v ≤ 20 → k < v → x3 = nI k → Q 1 σ) (h0 : ¬ isC (σ.1 (r0 + 1)) x1 x2 x3 → Q 0 σ) : m_10_isCell r0 x1 x2 x3 Q σ := by
  obtain ⟨⟨hn, h6, -, -⟩, hst, -⟩ := ok
  unfold m_10_isCell
  have inj : ∀ {a b : Nat}, nI a = nI b → a < 1000001 → b < 1000001 → a = b := fun h ha hb => (eqi ha hb).mp h
  refine s_10_isStreet (n := n) hn (by omega) (fun i hi e => ?_) (fun q => ?_)
  · refine ⟨fun q => absurd q (by decide), fun _ => ?_⟩
    obtain ⟨v, hv, hv1, hv2⟩ := (hst i hi).1
    have hno : (∀ s k, s < 2 → x2 = nI s → k < v → x3 = nI k → False) → Q 0 σ := fun q => h0 (by
      rintro ⟨i', s, k, n', v', e0, hi', hn', e1, hs, e2, e3, hv', hk, e4⟩
      have := inj (e.symm.trans e1) (by omega) (by omega)
      subst this
      have := inj (hv.symm.trans e3) (by omega) (by omega)
      subst this
      exact q s k hs e2 hk e4)
    refine s_10_inN (a := 0) (b := 1) (by omega) (by omega) (fun s _ hs e2 => ?_) (fun q => ⟨fun _ => hno (fun s k hs e2 _ _ => q s (by omega) (by omega) e2), fun q => absurd rfl q⟩)
    refine ⟨fun q => absurd q (by decide), fun _ => ?_⟩
    subst e
    refine s_10_of (k := 0) (by omega) (by omega) ?_
    rw [show 1 + 83 * i + 0 = 1 + 83 * i from rfl, hv]
    refine s_10_below (by omega) (fun k hk e3 => ?_) (fun q => ⟨fun _ => hno (fun s k hs e2 hk e3 => q k hk e3), fun q => absurd rfl q⟩)
    exact ⟨fun q => absurd q (by decide), fun _ => h1 i s k v hi rfl (by omega) e2 hv hv2 hk e3⟩
  · refine ⟨fun _ => h0 ?_, fun q => absurd rfl q⟩
    rintro ⟨i, s, k, n', v, e0, hi, hn', e1, -⟩
    have := inj (hn.symm.trans e0) (by omega) (by omega)
    subst this
    exact q i hi e1
