theorem pP_eq {f g : Nat → Int32} : ∀ n, n ≤ 20 → (∀ k, k < 40 → f k = g k) → pP f n = pP g n := by
  intro n
  induction n with
  | zero => intro _ _; rfl
  | succ n ih =>
    intro hn h
    unfold pP
    rw [ih (by omega) h, h n (by omega), h (20 + n) (by omega)]
theorem s_6_parkedCells {r0 n : Nat} {Q : Int32 → St → Prop} {σ : St} (hn : σ.1 r0 0 = nI n) (h20 : n ≤ 20) (h : Q (pP (σ.1 (r0 + 2)) n) σ) : m_6_parkedCells r0 Q σ := by
  unfold m_6_parkedCells
  refine it_cnt (fun (k : Nat) (B : Int32 → Int32 → St → Prop) => B (pP (σ.1 (r0 + 2)) k) (nI k) σ) n (by omega) ?_ ?_
  · intro k hk B hB
    unfold m_6_parkedCells_4
    refine ⟨fun q => absurd q (by rw [hn]; exact nle_of hk (by omega)), fun _ => ?_⟩
    have e0 : (0 : Int32) * 20 + nI k = nI k := by have := pl 0 k; rw [show 20 * 0 + k = k by omega] at this; exact this
    have e1 : (1 : Int32) * 20 + nI k = nI (20 + k) := by have := pl 1 k; rw [show 20 * 1 + k = 20 + k by omega] at this; exact this
    unfold m_9_placeOf
    rw [e0]
    refine ⟨vin (by omega), ?_⟩
    rw [tn _ (by omega)]
    have tail : ∀ (z x1 : Int32), z = pP (σ.1 (r0 + 2)) k → (m_6_parkedCells_31 r0 (nI k) B Q (if σ.1 (r0 + 2) k = 0 then 0 else 1) z σ) := by
      intro z _ hz
      unfold m_6_parkedCells_31
      intro x1 ex1
      unfold m_9_placeOf
      rw [e1]
      refine ⟨vin (by omega), ?_⟩
      rw [tn _ (by omega)]
      have hB : B ((pP (σ.1 (r0 + 2)) k + (if σ.1 (r0 + 2) k = 0 then 0 else 1)) + (if σ.1 (r0 + 2) (20 + k) = 0 then 0 else 1)) (nI (k + 1)) σ := hB
      refine ⟨fun q x2 ex2 x3 ex3 => ?_, fun q x2 ex2 x3 ex3 => ?_⟩
      · rw [ex3, ex2, ex1, hz, iplus]
        rw [if_pos q] at hB
        exact hB
      · rw [ex3, ex2, ex1, hz, iplus]
        rw [if_neg q] at hB
        exact hB
    refine ⟨fun q => ?_, fun q => ?_⟩
    · have := tail _ 0 rfl
      rw [if_pos q] at this
      exact this
    · have := tail _ 0 rfl
      rw [if_neg q] at this
      exact this
  · intro B
    unfold m_6_parkedCells_4
    exact ⟨fun _ => h, fun q => absurd (by rw [hn]; exact (lei (by omega) (by omega)).mpr (Nat.le_refl n)) q⟩
def mxI (a d : Int32) : Int32 := if a < d then d else a
def gD (f : Nat → Int32) : Nat → Int32
  | 0 => 0
  | k + 1 => mxI (mxI (gD f k) (f k)) (f (20 + k))
theorem gD_eq {f g : Nat → Int32} : ∀ n, n ≤ 20 → (∀ k, k < 40 → f k = g k) → gD f n = gD g n := by
  intro n
  induction n with
  | zero => intro _ _; rfl
  | succ n ih =>
    intro hn h
    unfold gD
    rw [ih (by omega) h, h n (by omega), h (20 + n) (by omega)]
theorem s_6_greatestDirt {r0 n : Nat} {Q : Int32 → St → Prop} {σ : St} (hn : σ.1 r0 0 = nI n) (h20 : n ≤ 20) (h : Q (gD (σ.1 (r0 + 1)) n) σ) : m_6_greatestDirt r0 Q σ := by
  unfold m_6_greatestDirt
  refine it_cnt (fun (k : Nat) (B : Int32 → Int32 → St → Prop) => B (gD (σ.1 (r0 + 1)) k) (nI k) σ) n (by omega) ?_ ?_
  · intro k hk B hB
    unfold m_6_greatestDirt_4
    refine ⟨fun q => absurd q (by rw [hn]; exact nle_of hk (by omega)), fun _ => ?_⟩
    have e0 : (0 : Int32) * 20 + nI k = nI k := by have := pl 0 k; rw [show 20 * 0 + k = k by omega] at this; exact this
    have e1 : (1 : Int32) * 20 + nI k = nI (20 + k) := by have := pl 1 k; rw [show 20 * 1 + k = 20 + k by omega] at this; exact this
    unfold m_9_placeOf
    rw [e0]
    refine ⟨vin (by omega), fun x1 ex1 => ?_⟩
    rw [tn _ (by omega)] at ex1
    rw [e1]
    refine ⟨vin (by omega), fun x2 ex2 x3 ex3 => ?_⟩
    rw [tn _ (by omega)] at ex2
    rw [ex3, ex2, ex1, iplus]
    exact hB
  · intro B
    unfold m_6_greatestDirt_4
    exact ⟨fun _ => h, fun q => absurd (by rw [hn]; exact (lei (by omega) (by omega)).mpr (Nat.le_refl n)) q⟩
theorem s_6_couldGive {r0 k : Nat} {g : Int32} {Q : Int32 → St → Prop} {σ : St} (hk : k < 40) (h : Q (if σ.1 (r0 + 2) k = 0 then σ.1 (r0 + 1) k * g / 100 else 0) σ) : m_6_couldGive r0 (nI k) g Q σ := by
  unfold m_6_couldGive
  rw [tn _ (by omega)]
  refine ⟨vin hk, fun q => ⟨vin hk, ?_⟩, fun q => ?_⟩
  · rw [if_pos q] at h
    exact h
  · rw [if_neg q] at h
    exact h
theorem ix (x : Int32) (n : Nat) : x < 0 ∨ (∃ j, x = nI j ∧ n ≤ j ∧ j < 2147483648) ∨ ∃ j, x = nI j ∧ j < n := by
  by_cases h : x < 0
  · exact Or.inl h
  · obtain ⟨j, hj, e⟩ := nI_of h
    rcases Nat.lt_or_ge j n with q | q
    · exact Or.inr (Or.inr ⟨j, e, q⟩)
    · exact Or.inr (Or.inl ⟨j, e, q, by omega⟩)
theorem nn0 {j : Nat} (h : j < 2147483648) : ¬ nI j < 0 := nI_pos (by omega)
theorem ltI {a b : Nat} (ha : a < 2147483648) (hb : b < 2147483648) : nI a < nI b ↔ a < b := nI_ltI (by omega) (by omega)
theorem leI {a b : Nat} (ha : a < 2147483648) (hb : b < 2147483648) : nI a ≤ nI b ↔ a ≤ b := nI_leI (by omega) (by omega)
theorem eqI {a b : Nat} (ha : a < 2147483648) (hb : b < 2147483648) : nI a = nI b ↔ a = b := nI_eq (by omega) (by omega)
theorem neg_ne {x : Int32} {j : Nat} (h : x < 0) (hj : j < 2147483648) : x ≠ nI j := fun e => nn0 hj (e ▸ h)
-- the class: what lies in a world
theorem s_8_hasStreet {B n : Nat} {x : Int32} {Q : Int32 → St → Prop} {σ : St} (hn : σ.1 B 1 = nI n) (h6 : n ≤ 1000) (h1 : ∀ i, i < n → x = nI i → Q 1 σ) (h0 : (∀ i, i < n → x ≠ nI i) → Q 0 σ) : m_8_hasStreet B x Q σ := by
  unfold m_8_hasStreet
  rw [hn]
  rcases ix x n with h | ⟨j, rfl, hj, hj2⟩ | ⟨j, rfl, hj⟩
  · exact ⟨fun _ => h0 (fun i hi => neg_ne h (by omega)), fun q => absurd h q⟩
  · refine ⟨fun q => absurd q (nn0 hj2), fun _ => ⟨fun _ => h0 (fun i hi e => by rw [eqI (by omega) (by omega)] at e; omega), fun q => absurd ((leI (by omega) (by omega)).mpr hj) q⟩⟩
  · refine ⟨fun q => absurd q (nn0 (by omega)), fun _ => ⟨fun q => absurd ((leI (by omega) (by omega)).mp q) (by omega), fun _ => h1 j hj rfl⟩⟩
theorem s_8_hasLeg {B n : Nat} {x : Int32} {Q : Int32 → St → Prop} {σ : St} (hn : σ.1 B 3 = nI n) (h6 : n ≤ 1000) (h1 : ∀ i, i < n → x = nI i → Q 1 σ) (h0 : (∀ i, i < n → x ≠ nI i) → Q 0 σ) : m_8_hasLeg B x Q σ := by
  unfold m_8_hasLeg
  rw [hn]
  rcases ix x n with h | ⟨j, rfl, hj, hj2⟩ | ⟨j, rfl, hj⟩
  · exact ⟨fun _ => h0 (fun i hi => neg_ne h (by omega)), fun q => absurd h q⟩
  · refine ⟨fun q => absurd q (nn0 hj2), fun _ => ⟨fun _ => h0 (fun i hi e => by rw [eqI (by omega) (by omega)] at e; omega), fun q => absurd ((leI (by omega) (by omega)).mpr hj) q⟩⟩
  · refine ⟨fun q => absurd q (nn0 (by omega)), fun _ => ⟨fun q => absurd ((leI (by omega) (by omega)).mp q) (by omega), fun _ => h1 j hj rfl⟩⟩
/-- what holds of a page (n streets, l legs; c bounds how many shifts there were) -/
def okP (c n l : Nat) (P : Nat → Int32) : Prop :=
  (P 0 = nI n ∧ n ≤ 6 ∧ P 507 = nI l ∧ l ≤ 10) ∧
  (∀ i, i < n → (∃ v, P (1 + 83 * i) = nI v ∧ 1 ≤ v ∧ v ≤ 20) ∧ (∃ v, P (2 + 83 * i) = nI v ∧ v ≤ 60) ∧ (∃ v, P (3 + 83 * i) = nI v ∧ v ≤ 9)) ∧
  (∀ i k, i < n → k < 40 → (∃ v, P (4 + 83 * i + k) = nI v ∧ v ≤ 99) ∧ isB (P (44 + 83 * i + k))) ∧
  (∀ j, j < l → (∃ v, P (508 + 4 * j) = nI v ∧ v < n) ∧ (∃ v, P (509 + 4 * j) = nI v ∧ v < 2)) ∧
  ((∃ v, P 499 = nI v ∧ 1 ≤ v ∧ v ≤ 4) ∧ (∃ cap h, P 500 = nI cap ∧ P 506 = nI h ∧ 20 ≤ cap ∧ cap ≤ 2000 ∧ h ≤ cap) ∧ (∃ v, P 501 = nI v ∧ v ≤ 9) ∧ (∃ v, P 502 = nI v ∧ 100 ≤ v ∧ v ≤ 6000) ∧ (∃ v, P 503 = nI v ∧ v ≤ 1000) ∧ (∃ v, P 504 = nI v ∧ v ≤ 400) ∧ (∃ v, P 505 = nI v ∧ v ≤ 1000)) ∧
  isB (P 548) ∧ ∃ v, P 562 = nI v ∧ v ≤ c
def vis (n l x : Nat) : Prop := x < 564 ∧ x ≠ 555 ∧ (1 ≤ x → x < 499 → x < 1 + 83 * n) ∧ (508 ≤ x → x < 548 → x < 508 + 4 * l)
def leg23 (x : Nat) : Prop := 508 ≤ x ∧ x < 548 ∧ 2 ≤ (x - 508) % 4
def EQP (n l : Nat) (P p : Nat → Int32) : Prop := ∀ x, vis n l x → (leg23 x → P 548 ≠ 0) → P x = p x
/-- a world of the class (as a page) and a page of the model show the same -/
def REL (c : Nat) (P p : Nat → Int32) : Prop := ∃ n l, okP c n l P ∧ EQP n l P p ∧ p 555 = (if P 562 = 0 then 0 else 1)
theorem vis_hi {n l x : Nat} (h1 : 548 ≤ x) (h2 : x < 564) (h3 : x ≠ 555) : vis n l x := ⟨h2, h3, fun _ _ => by omega, fun _ _ => by omega⟩
theorem vis_set {n l x : Nat} (h1 : 499 ≤ x) (h2 : x < 508) : vis n l x := ⟨by omega, by omega, fun _ _ => by omega, fun _ _ => by omega⟩
theorem vis_0 {n l : Nat} : vis n l 0 := ⟨by omega, by omega, fun _ _ => by omega, fun _ _ => by omega⟩
theorem vis_st {n l i k : Nat} (hi : i < n) (hn : n ≤ 6) (hk : k < 83) : vis n l (1 + 83 * i + k) := ⟨by omega, by omega, fun _ _ => by omega, fun _ _ => by omega⟩
theorem vis_le {n l j f : Nat} (hj : j < l) (hl : l ≤ 10) (hf : f < 4) : vis n l (508 + 4 * j + f) := ⟨by omega, by omega, fun _ _ => by omega, fun _ _ => by omega⟩
theorem nl_lo {x : Nat} (h : x < 508 ∨ 548 ≤ x) {P : Nat → Int32} : leg23 x → P 548 ≠ 0 := fun q => by unfold leg23 at q; omega
theorem nl_f {j f : Nat} (hf : f < 2) {P : Nat → Int32} : leg23 (508 + 4 * j + f) → P 548 ≠ 0 := fun q => by unfold leg23 at q; omega
theorem EQP.lo {n l x : Nat} {P p : Nat → Int32} (h : EQP n l P p) (hv : vis n l x) (hx : x < 508 ∨ 548 ≤ x) : P x = p x := h x hv (nl_lo hx)
theorem EQP.st {n l i k : Nat} {P p : Nat → Int32} (h : EQP n l P p) (hi : i < n) (hn : n ≤ 6) (hk : k < 83) : P (1 + 83 * i + k) = p (1 + 83 * i + k) := h.lo (vis_st hi hn hk) (by omega)
theorem EQP.le {n l j f : Nat} {P p : Nat → Int32} (h : EQP n l P p) (hj : j < l) (hl : l ≤ 10) (hf : f < 2) : P (508 + 4 * j + f) = p (508 + 4 * j + f) := h _ (vis_le hj hl (by omega)) (nl_f hf)
theorem EQP.set {n l x : Nat} {P p : Nat → Int32} (h : EQP n l P p) (h1 : 499 ≤ x) (h2 : x < 508) : P x = p x := h.lo (vis_set h1 h2) (by omega)
theorem EQP.hi {n l x : Nat} {P p : Nat → Int32} (h : EQP n l P p) (h1 : 548 ≤ x) (h2 : x < 564) (h3 : x ≠ 555) : P x = p x := h.lo (vis_hi h1 h2 h3) (by omega)
theorem okP.tr {c n l : Nat} {P p : Nat → Int32} (h : okP c n l P) (e : EQP n l P p) : okP c n l p := by
  obtain ⟨⟨h1, h2, h3, h4⟩, h5, h6, h7, ⟨s1, s2, s3, s4, s5, s6, s7⟩, h9, h10⟩ := h
  refine ⟨⟨by rw [← e.lo vis_0 (by omega)]; exact h1, h2, by rw [← e.set (by omega) (by omega)]; exact h3, h4⟩, fun i hi => ?_, fun i k hi hk => ?_, fun j hj => ?_, ⟨?_, ?_, ?_, ?_, ?_, ?_, ?_⟩, ?_, ?_⟩
  · obtain ⟨a, b, d⟩ := h5 i hi
    have e1 := e.st hi h2 (k := 0) (by omega)
    have e2 := e.st hi h2 (k := 1) (by omega)
    have e3 := e.st hi h2 (k := 2) (by omega)
    rw [show 1 + 83 * i + 0 = 1 + 83 * i by omega] at e1
    rw [show 1 + 83 * i + 1 = 2 + 83 * i by omega] at e2
    rw [show 1 + 83 * i + 2 = 3 + 83 * i by omega] at e3
    rw [← e1, ← e2, ← e3]
    exact ⟨a, b, d⟩
  · obtain ⟨a, b⟩ := h6 i k hi hk
    have e1 := e.st hi h2 (k := 3 + k) (by omega)
    have e2 := e.st hi h2 (k := 43 + k) (by omega)
    rw [show 1 + 83 * i + (3 + k) = 4 + 83 * i + k by omega] at e1
    rw [show 1 + 83 * i + (43 + k) = 44 + 83 * i + k by omega] at e2
    rw [← e1, ← e2]
    exact ⟨a, b⟩
  · obtain ⟨a, b⟩ := h7 j hj
    have e1 := e.le hj h4 (f := 0) (by omega)
    have e2 := e.le hj h4 (f := 1) (by omega)
    rw [show 508 + 4 * j + 0 = 508 + 4 * j by omega] at e1
    rw [show 508 + 4 * j + 1 = 509 + 4 * j by omega] at e2
    rw [← e1, ← e2]
    exact ⟨a, b⟩
  · rw [← e.set (x := 499) (by omega) (by omega)]; exact s1
  · rw [← e.set (x := 500) (by omega) (by omega), ← e.set (x := 506) (by omega) (by omega)]; exact s2
  · rw [← e.set (x := 501) (by omega) (by omega)]; exact s3
  · rw [← e.set (x := 502) (by omega) (by omega)]; exact s4
  · rw [← e.set (x := 503) (by omega) (by omega)]; exact s5
  · rw [← e.set (x := 504) (by omega) (by omega)]; exact s6
  · rw [← e.set (x := 505) (by omega) (by omega)]; exact s7
  · rw [← e.hi (x := 548) (by omega) (by omega) (by omega)]; exact h9
  · rw [← e.hi (x := 562) (by omega) (by omega) (by omega)]; exact h10
theorem okP.mono {c c' n l : Nat} {P : Nat → Int32} (h : okP c n l P) (hc : c ≤ c') : okP c' n l P := by
  obtain ⟨h1, h5, h6, h7, s, h9, v, h10, h11⟩ := h
  exact ⟨h1, h5, h6, h7, s, h9, v, h10, by omega⟩
theorem REL.mono {c c' : Nat} {P p : Nat → Int32} (h : REL c P p) (hc : c ≤ c') : REL c' P p := by
  obtain ⟨n, l, h1, h2⟩ := h
  exact ⟨n, l, h1.mono hc, h2⟩
-- what lies where, in the class
theorem pg_st {σ : St} {B i k : Nat} (hi : i < 6) (hk : k < 3) {v : Int32} (h : pgW σ B (1 + 83 * i + k) = v) : σ.1 (B + 1 + 5 + 3 * i) k = v := by rw [gst σ B hi hk]; exact h
noncomputable def cif (p : Prop) (a b : Int32) : Int32 := @ite _ p (Classical.propDecidable p) a b
theorem cif_t {p : Prop} {a b : Int32} (h : p) : cif p a b = a := if_pos h
theorem cif_f {p : Prop} {a b : Int32} (h : ¬ p) : cif p a b = b := if_neg h
/-- a cell of a street is named -/
def isC (P : Nat → Int32) (x1 x2 x3 : Int32) : Prop := ∃ i s k n v, P 0 = nI n ∧ i < n ∧ n ≤ 6 ∧ x1 = nI i ∧ s < 2 ∧ x2 = nI s ∧ P (1 + 83 * i) = nI v ∧ v ≤ 20 ∧ k < v ∧ x3 = nI k
theorem s_8_hasCell {c n l : Nat} {x1 x2 x3 : Int32} {Q : Int32 → St → Prop} {σ : St} {B : Nat} (ok : okP c n l (pgW σ B)) (h1 : ∀ i s k v, i < n → x1 = nI i → s < 2 → x2 = nI s → pgW σ B (1 + 83 * i) = nI v → v ≤ 20 → k < v → x3 = nI k → Q 1 σ) (h0 : ¬ isC (pgW σ B) x1 x2 x3 → Q 0 σ) : m_8_hasCell B x1 x2 x3 Q σ := by
  obtain ⟨⟨hn, h6, -, -⟩, hst, -⟩ := ok
  unfold m_8_hasCell
  have inj : ∀ {a b : Nat}, nI a = nI b → a < 1000001 → b < 1000001 → a = b := fun h ha hb => (eqi ha hb).mp h
  refine s_8_hasStreet (n := n) hn (by omega) (fun i hi e => ?_) (fun q => ?_)
  · refine ⟨fun q => absurd q (by decide), fun _ => ?_⟩
    obtain ⟨v, hv, hv1, hv2⟩ := (hst i hi).1
    have hcell : σ.1 (B + 1 + 5 + 3 * i) 0 = nI v := pg_st (k := 0) (by omega) (by omega) hv
    have hno : (∀ s k, s < 2 → x2 = nI s → k < v → x3 = nI k → False) → Q 0 σ := fun q => h0 (by
      rintro ⟨i', s, k, n', v', e0, hi', hn', e1, hs, e2, e3, hv', hk, e4⟩
      have := inj (e.symm.trans e1) (by omega) (by omega)
      subst this
      have := inj (hv.symm.trans e3) (by omega) (by omega)
      subst this
      exact q s k hs e2 hk e4)
    rcases ix x2 2 with g | ⟨j, rfl, hj, hj2⟩ | ⟨s, rfl, hs⟩
    · exact ⟨fun _ => hno (fun s k hs e2 _ _ => neg_ne g (by omega) e2), fun q => absurd g q⟩
    · refine ⟨fun q => absurd q (nn0 hj2), fun _ => ⟨fun _ => hno (fun s k hs e2 _ _ => by rw [eqI (by omega) (by omega)] at e2; omega), fun q => absurd ((leI (a := 2) (by omega) (by omega)).mpr hj) q⟩⟩
    · refine ⟨fun q => absurd q (nn0 (by omega)), fun _ => ⟨fun q => absurd ((leI (a := 2) (by omega) (by omega)).mp q) (by omega), fun _ => ?_⟩⟩
      rcases ix x3 v with g | ⟨j, rfl, hj, hj2⟩ | ⟨k, rfl, hk⟩
      · exact ⟨fun _ => hno (fun s k hs e2 _ e3 => neg_ne g (by omega) e3), fun q => absurd g q⟩
      · refine ⟨fun q => absurd q (nn0 hj2), fun _ => ?_⟩
        rw [e, tn i (by omega), hcell]
        refine ⟨vin (by omega), fun _ => hno (fun s k hs e2 hk e3 => by rw [eqI (by omega) (by omega)] at e3; omega), fun q => absurd ((leI (by omega) (by omega)).mpr hj) q⟩
      · refine ⟨fun q => absurd q (nn0 (by omega)), fun _ => ?_⟩
        rw [e, tn i (by omega), hcell]
        refine ⟨vin (by omega), fun q => absurd ((leI (by omega) (by omega)).mp q) (by omega), fun _ => h1 i s k v hi e hs rfl hv hv2 hk rfl⟩
  · refine ⟨fun _ => h0 ?_, fun q => absurd rfl q⟩
    rintro ⟨i, s, k, n', v, e0, hi, hn', e1, -⟩
    have := inj (hn.symm.trans e0) (by omega) (by omega)
    subst this
    exact q i hi e1
def mnI (a b : Int32) : Int32 := if b < a then b else a
def grV (P : Nat → Int32) : Int32 := ((100 - 15 * (P 499 - 1)) * P 505) / 1000
theorem s_8_grip {B : Nat} {Q : Int32 → St → Prop} {σ : St} (h : Q (grV (pgW σ B)) σ) : m_8_grip B Q σ := by
  unfold m_8_grip
  refine ⟨vi0, ?_⟩
  rw [tn0, gset σ B (k := 0) (by omega), g505]
  exact h
theorem s_8_room {B : Nat} {Q : Int32 → St → Prop} {σ : St} (h : Q (pgW σ B 500 - pgW σ B 506) σ) : m_8_room B Q σ := by
  unfold m_8_room
  refine ⟨vi1, ?_⟩
  rw [tn1, gset σ B (k := 1) (by omega), g506]
  exact h
/-- what the machine could take of a cell, place a of side and cell in its street's block -/
def coV (P : Nat → Int32) (a : Nat) : Int32 := if P (44 + a) = 0 then P (4 + a) * grV P / 100 else 0
noncomputable def vCell (P : Nat → Int32) (x1 x2 x3 x4 : Int32) : Int32 := cif (isC P x1 x2 x3) (if x4 = 0 then P (4 + (83 * x1.toNatClampNeg + (20 * x2.toNatClampNeg + x3.toNatClampNeg))) else if x4 = 1 then P (44 + (83 * x1.toNatClampNeg + (20 * x2.toNatClampNeg + x3.toNatClampNeg))) else if x4 = 2 then mnI (coV P (83 * x1.toNatClampNeg + (20 * x2.toNatClampNeg + x3.toNatClampNeg))) (P 500 - P 506) else -1) (-1)
theorem out_ne {x : Int32} {lo hi : Int} (h : x.toInt < lo ∨ hi < x.toInt) {v : Int32} (hv : lo ≤ v.toInt ∧ v.toInt ≤ hi) : ¬ x = v := fun e => by
  subst e
  omega
theorem s_9_cell {c n l : Nat} {x1 x2 x3 x4 : Int32} {Q : Int32 → St → Prop} {σ : St} {r0 : Nat} (ok : okP c n l (pgW σ (r0 + 7))) (h : Q (vCell (pgW σ (r0 + 7)) x1 x2 x3 x4) σ) : m_9_cell r0 x1 x2 x3 x4 Q σ := by
  unfold m_9_cell
  refine s_8_hasCell ok (fun i s k v hi e1 hs e2 hv hv2 hk e3 => ?_) (fun q => ?_)
  · refine ⟨fun _ => ?_, fun q => absurd q (by decide)⟩
    have hn := ok.1.1
    have h6 := ok.1.2.1
    have hc : isC (pgW σ (r0 + 7)) x1 x2 x3 := ⟨i, s, k, n, v, hn, hi, h6, e1, hs, e2, hv, hv2, hk, e3⟩
    unfold vCell at h
    rw [cif_t hc] at h
    subst e1 e2 e3
    rw [tn i (by omega), tn s (by omega), tn k (by omega)] at h
    have hb := (ok.2.2.1 i (20 * s + k) hi (by omega)).2
    have gd := gdi σ (r0 + 7) (i := i) (k := 20 * s + k) (by omega) (by omega)
    have gp := gpa σ (r0 + 7) (i := i) (k := 20 * s + k) (by omega) (by omega)
    have a4 : 4 + 83 * i + (20 * s + k) = 4 + (83 * i + (20 * s + k)) := by omega
    have a44 : 44 + 83 * i + (20 * s + k) = 44 + (83 * i + (20 * s + k)) := by omega
    rw [a4] at gd
    rw [a44] at gp hb
    rw [tn i (by omega)]
    refine ⟨vin (by omega), fun r5 e5 => ?_⟩
    rw [e5]
    unfold m_9_placeOf
    rw [pl]
    refine ⟨fun q => ?_, fun q => ?_, fun q => ?_, fun q => ?_⟩
    · rw [if_neg (out_ne q (by decide)), if_neg (out_ne q (by decide)), if_neg (out_ne q (by decide))] at h
      exact h
    · subst q
      rw [if_pos rfl] at h
      refine ⟨vin (by omega), ?_⟩
      rw [tn _ (by omega), gd]
      exact h
    · subst q
      rw [if_neg (by decide), if_pos rfl] at h
      refine ⟨vin (by omega), ?_⟩
      rw [tn _ (by omega), gp]
      rcases hb with e | e
      · rw [e] at h ⊢
        exact ⟨fun _ => h, fun q => absurd rfl q⟩
      · rw [e] at h ⊢
        exact ⟨fun q => absurd q (by decide), fun _ => h⟩
    · subst q
      rw [if_neg (by decide), if_neg (by decide), if_pos rfl] at h
      refine s_8_grip ?_
      refine s_6_couldGive (by omega) ?_
      refine s_8_room ?_
      rw [gd, gp]
      exact h
  · refine ⟨fun q => absurd rfl q, fun _ => ?_⟩
    unfold vCell at h
    rw [cif_f q] at h
    exact h
theorem nI_toI {j : Nat} (h : j < 2147483648) : (nI j).toInt = (j : Int) := nI_toInt (by omega)
theorem okP.inj {c n n' l : Nat} {P : Nat → Int32} (ok : okP c n l P) (h : P 0 = nI n') (hn : n' ≤ 1000) : n' = n := by
  have := ok.1.2.1
  exact (eqi (by omega) (by omega)).mp (h.symm.trans ok.1.1)
theorem okP.injl {c n l' l : Nat} {P : Nat → Int32} (ok : okP c n l P) (h : P 507 = nI l') (hn : l' ≤ 1000) : l' = l := by
  have := ok.1.2.2.2
  exact (eqi (by omega) (by omega)).mp (h.symm.trans ok.1.2.2.1)
/-- how many legs lie in a street -/
def cL (f : Nat → Int32) (x : Int32) : Nat → Int32
  | 0 => 0
  | k + 1 => cL f x k + (if f k = x then 1 else 0)
theorem s_8_legsIn {B l : Nat} {x : Int32} {Q : Int32 → St → Prop} {σ : St} (hl : pgW σ B 507 = nI l) (h10 : l ≤ 10) (h : Q (cL (fun j => pgW σ B (508 + 4 * j)) x l) σ) : m_8_legsIn B x Q σ := by
  unfold m_8_legsIn
  refine it_cnt (fun (k : Nat) (A : Int32 → Int32 → St → Prop) => A (cL (fun j => pgW σ B (508 + 4 * j)) x k) (nI k) σ) l (by omega) ?_ ?_
  · intro k hk A hA
    unfold m_8_legsIn_4
    rw [g507, hl]
    refine ⟨fun q => absurd q (nle_of hk (by omega)), fun _ => ?_⟩
    rw [tn k (by omega), gle σ B (l := k) (f := 0) (by omega) (by omega)]
    refine ⟨vin (by omega), fun q x2 e2 x3 e3 => ?_, fun q x2 e2 x3 e3 => ?_⟩
    · rw [e2, e3, iplus]
      have hA : A (cL (fun j => pgW σ B (508 + 4 * j)) x k + (if pgW σ B (508 + 4 * k + 0) = x then 1 else 0)) (nI (k + 1)) σ := hA
      rw [if_neg q] at hA
      exact hA
    · rw [e2, e3, iplus]
      have hA : A (cL (fun j => pgW σ B (508 + 4 * j)) x k + (if pgW σ B (508 + 4 * k + 0) = x then 1 else 0)) (nI (k + 1)) σ := hA
      rw [if_pos q] at hA
      exact hA
  · intro A
    unfold m_8_legsIn_4
    rw [g507, hl]
    exact ⟨fun _ => h, fun q => absurd ((lei (by omega) (by omega)).mpr (Nat.le_refl l)) q⟩
