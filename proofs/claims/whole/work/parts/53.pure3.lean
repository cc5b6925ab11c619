theorem ix (x : Int32) (n : Nat) : x < 0 ∨ (∃ j, x = nI j ∧ n ≤ j ∧ j < 2147483648) ∨ ∃ j, x = nI j ∧ j < n := by
  by_cases h : x < 0
  · exact Or.inl h
  · obtain ⟨j, hj, e⟩ := nI_of h
    rcases Nat.lt_or_ge j n with q | q
    · exact Or.inr (Or.inr ⟨j, e, q⟩)
    · exact Or.inr (Or.inl ⟨j, e, q, by omega⟩)
theorem nn0 {j : Nat} (h : j < 2147483648) : ¬ nI j < 0 := nI_pos (by omega)
theorem ltI {a b : Nat} (ha : a < 2147483648) (hb : b < 2147483648) : nI a < nI b ↔ a < b := nI_ltI (by omega) (by omega)
theorem leI {a b : Nat} (ha : a < 2147483648) (hb : b < 2147483648) : nI a ≤ nI b ↔ a ≤ b := nI_leI (by omega) (by omega)
theorem eqI {a b : Nat} (ha : a < 2147483648) (hb : b < 2147483648) : nI a = nI b ↔ a = b := nI_eq (by omega) (by omega)
theorem neg_ne {x : Int32} {j : Nat} (h : x < 0) (hj : j < 2147483648) : x ≠ nI j := fun e => nn0 hj (e ▸ h)
theorem predlt {n j : Nat} (hn : n < 1000001) (hj : j < 2147483648) : nI n - 1 < nI j ↔ n ≤ j := by
  rw [Int32.lt_iff_toInt_lt, show (1 : Int32) = nI 1 from rfl, pk_sub_toInt (by omega) (by decide), nI_toInt (by omega)]
  omega
-- the class: what lies in a world
theorem s_8_hasStreet {B n : Nat} {x : Int32} {Q : Int32 → St → Prop} {σ : St} (hn : σ.1 B 1 = nI n) (h6 : n ≤ 1000) (h1 : ∀ i, i < n → x = nI i → Q 1 σ) (h0 : (∀ i, i < n → x ≠ nI i) → Q 0 σ) : m_8_hasStreet B x Q σ := by
  unfold m_8_hasStreet
  rw [hn]
  rcases ix x n with h | ⟨j, rfl, hj, hj2⟩ | ⟨j, rfl, hj⟩
  · exact ⟨fun _ => h0 (fun i hi => neg_ne h (by omega)), fun q => absurd h q⟩
  · refine ⟨fun q => absurd q (nn0 hj2), fun _ => ⟨fun _ => h0 (fun i hi e => by rw [eqI (by omega) (by omega)] at e; omega), fun q => absurd ((leI (by omega) (by omega)).mpr hj) q⟩⟩
  · refine ⟨fun q => absurd q (nn0 (by omega)), fun _ => ⟨fun q => absurd ((leI (by omega) (by omega)).mp q) (by omega), fun _ => h1 j hj rfl⟩⟩
theorem s_8_hasLeg {B n : Nat} {x : Int32} {Q : Int32 → St → Prop} {σ : St} (hn : σ.1 B 3 = nI n) (h6 : n ≤ 1000) (h1 : ∀ i, i < n → x = nI i → Q 1 σ) (h0 : (∀ i, i < n → x ≠ nI i) → Q 0 σ) : m_8_hasLeg B x Q σ := by
  unfold m_8_hasLeg
  rw [hn]
  rcases ix x n with h | ⟨j, rfl, hj, hj2⟩ | ⟨j, rfl, hj⟩
  · exact ⟨fun _ => h0 (fun i hi => neg_ne h (by omega)), fun q => absurd h q⟩
  · refine ⟨fun q => absurd q (nn0 hj2), fun _ => ⟨fun _ => h0 (fun i hi e => by rw [eqI (by omega) (by omega)] at e; omega), fun q => absurd ((leI (by omega) (by omega)).mpr hj) q⟩⟩
  · refine ⟨fun q => absurd q (nn0 (by omega)), fun _ => ⟨fun q => absurd ((leI (by omega) (by omega)).mp q) (by omega), fun _ => h1 j hj rfl⟩⟩
-- the model: small readers
theorem s_10_in {x a b : Int32} {Q : Int32 → St → Prop} {σ : St} (h1 : ¬ x < a → ¬ b < x → Q 1 σ) (h0 : (x < a ∨ b < x) → Q 0 σ) : m_10_in x a b Q σ := by
  unfold m_10_in
  exact ⟨fun q => h0 (Or.inl q), fun q => ⟨fun q2 => h0 (Or.inr q2), fun q2 => h1 q q2⟩⟩
/-- a number between two numbers -/
theorem s_10_inN {x : Int32} {a b : Nat} {Q : Int32 → St → Prop} {σ : St} (ha : a < 1000001) (hb : b < 1000001) (h1 : ∀ j, a ≤ j → j ≤ b → x = nI j → Q 1 σ) (h0 : (∀ j, a ≤ j → j ≤ b → x ≠ nI j) → Q 0 σ) : m_10_in x (nI a) (nI b) Q σ := by
  refine s_10_in (fun q1 q2 => ?_) (fun q => ?_)
  · rcases ix x (b + 1) with h | ⟨j, rfl, hj, hj2⟩ | ⟨j, rfl, hj⟩
    · exfalso
      apply q1
      rw [Int32.lt_iff_toInt_lt] at h ⊢
      rw [nI_toInt (by omega)]
      rw [show (0 : Int32).toInt = 0 from rfl] at h
      omega
    · exact absurd ((ltI (by omega) (by omega)).mpr (by omega)) q2
    · exact h1 j (by rw [ltI (by omega) (by omega)] at q1; omega) (by omega) rfl
  · refine h0 (fun j h1 h2 e => ?_)
    subst e
    rw [ltI (by omega) (by omega), ltI (by omega) (by omega)] at q
    omega
theorem s_10_below {x : Int32} {n : Nat} {Q : Int32 → St → Prop} {σ : St} (hn : n < 1000001) (h1 : ∀ j, j < n → x = nI j → Q 1 σ) (h0 : (∀ j, j < n → x ≠ nI j) → Q 0 σ) : m_10_in x 0 (nI n - 1) Q σ := by
  refine s_10_in (fun q1 q2 => ?_) (fun q => ?_)
  · rcases ix x n with h | ⟨j, rfl, hj, hj2⟩ | ⟨j, rfl, hj⟩
    · exact absurd h q1
    · exact absurd ((predlt hn hj2).mpr hj) q2
    · exact h1 j hj rfl
  · refine h0 (fun j h1 e => ?_)
    subst e
    rcases q with q | q
    · exact nn0 (by omega) q
    · rw [predlt hn (by omega)] at q
      omega
theorem s_10_isStreet {r0 n : Nat} {x : Int32} {Q : Int32 → St → Prop} {σ : St} (hn : σ.1 (r0 + 1) 0 = nI n) (h6 : n ≤ 1000) (h1 : ∀ i, i < n → x = nI i → Q 1 σ) (h0 : (∀ i, i < n → x ≠ nI i) → Q 0 σ) : m_10_isStreet r0 x Q σ := by
  unfold m_10_isStreet
  refine ⟨by unfold vp_in; decide, ?_⟩
  rw [tn0, hn]
  exact s_10_below (by omega) (fun j hj e => ⟨isB1, h1 j hj e⟩) (fun q => ⟨isB0, h0 q⟩)
theorem vq {n : Nat} (h : n < 5640) : vp_in (nI n) 5640 := vin h
theorem s_10_isLeg {r0 n : Nat} {x : Int32} {Q : Int32 → St → Prop} {σ : St} (hn : σ.1 (r0 + 1) 507 = nI n) (h6 : n ≤ 1000) (h1 : ∀ i, i < n → x = nI i → Q 1 σ) (h0 : (∀ i, i < n → x ≠ nI i) → Q 0 σ) : m_10_isLeg r0 x Q σ := by
  unfold m_10_isLeg
  refine ⟨vq (n := 507) (by decide), ?_⟩
  rw [show (507 : Int32).toNatClampNeg = 507 by decide, hn]
  exact s_10_below (by omega) (fun j hj e => ⟨isB1, h1 j hj e⟩) (fun q => ⟨isB0, h0 q⟩)
theorem ofI (i k : Nat) : (1 : Int32) + 83 * nI i + nI k = nI (1 + 83 * i + k) := by
  rw [li 1, li 83, pk_mul, nI_add, nI_add]
theorem s_10_of {r0 i k : Nat} {Q : Int32 → St → Prop} {σ : St} (hi : i < 6) (hk : k < 83) (h : Q (σ.1 (r0 + 1) (1 + 83 * i + k)) σ) : m_10_of r0 (nI i) (nI k) Q σ := by
  unfold m_10_of
  rw [ofI, tn _ (by omega)]
  exact ⟨vq (by omega), h⟩
theorem s_10_sets {r0 i k : Nat} {v : Int32} {Q : St → Prop} {σ : St} (hi : i < 6) (hk : k < 83) (h : Q (wr σ (r0 + 1) (1 + 83 * i + k) v)) : m_10_sets r0 (nI i) (nI k) v Q σ := by
  unfold m_10_sets
  rw [ofI, tn _ (by omega)]
  exact ⟨vq (by omega), fun σ1 e => by rw [e]; exact h⟩
theorem plM (s c : Nat) : (20 : Int32) * nI s + nI c = nI (20 * s + c) := by rw [li, pk_mul, nI_add]
theorem s_10_placeOf {s c : Nat} {Q : Int32 → St → Prop} {σ : St} (h : Q (nI (20 * s + c)) σ) : m_10_placeOf (nI s) (nI c) Q σ := by
  unfold m_10_placeOf
  rw [plM]
  exact h
theorem s_10_dirtOf {r0 i s c : Nat} {Q : Int32 → St → Prop} {σ : St} (hi : i < 6) (hk : 20 * s + c < 40) (h : Q (σ.1 (r0 + 1) (4 + 83 * i + (20 * s + c))) σ) : m_10_dirtOf r0 (nI i) (nI s) (nI c) Q σ := by
  unfold m_10_dirtOf
  refine s_10_placeOf ?_
  rw [li 3, nI_add]
  refine s_10_of hi (by omega) ?_
  rw [show 1 + 83 * i + (3 + (20 * s + c)) = 4 + 83 * i + (20 * s + c) by omega]
  exact h
theorem s_10_isParked {r0 i s c : Nat} {Q : Int32 → St → Prop} {σ : St} (hi : i < 6) (hk : 20 * s + c < 40) (hb : isB (σ.1 (r0 + 1) (44 + 83 * i + (20 * s + c)))) (h : Q (σ.1 (r0 + 1) (44 + 83 * i + (20 * s + c))) σ) : m_10_isParked r0 (nI i) (nI s) (nI c) Q σ := by
  unfold m_10_isParked
  refine s_10_placeOf ?_
  rw [li 43, nI_add]
  refine s_10_of hi (by omega) ?_
  rw [show 1 + 83 * i + (43 + (20 * s + c)) = 44 + 83 * i + (20 * s + c) by omega]
  rcases hb with e | e
  · rw [e] at h ⊢
    exact ⟨fun _ => h, fun q => absurd q (by decide)⟩
  · rw [e] at h ⊢
    exact ⟨fun q => absurd rfl q, fun _ => h⟩
theorem s_10_sideSum {r0 i s n : Nat} {Q : Int32 → St → Prop} {σ : St} (hi : i < 6) (hs : s < 2) (hn : σ.1 (r0 + 1) (1 + 83 * i) = nI n) (h20 : n ≤ 20) (h : Q (sD (σ.1 (r0 + 1)) (4 + 83 * i + 20 * s) n) σ) : m_10_sideSum r0 (nI i) (nI s) Q σ := by
  unfold m_10_sideSum
  refine it_cnt (fun (k : Nat) (B : Int32 → Int32 → St → Prop) => B (sD (σ.1 (r0 + 1)) (4 + 83 * i + 20 * s) k) (nI k) σ) n (by omega) ?_ ?_
  · intro k hk B hB
    unfold m_10_sideSum_5
    refine s_10_of (k := 0) hi (by omega) ?_
    rw [show 1 + 83 * i + 0 = 1 + 83 * i from rfl, hn]
    refine ⟨fun q => absurd q (nle_of hk (by omega)), fun _ => ?_⟩
    refine s_10_dirtOf hi (by omega) ?_
    intro x3 e3 x4 e4
    rw [e3, e4, iplus, show 4 + 83 * i + (20 * s + k) = 4 + 83 * i + 20 * s + k by omega]
    exact hB
  · intro B
    unfold m_10_sideSum_5
    refine s_10_of (k := 0) hi (by omega) ?_
    rw [show 1 + 83 * i + 0 = 1 + 83 * i from rfl, hn]
    exact ⟨fun _ => h, fun q => absurd ((lei (by omega) (by omega)).mpr (Nat.le_refl n)) q⟩
theorem rem2 {k : Nat} (h : k < 1000001) : nI k - nI k / 2 * 2 = nI (k % 2) := pk_rem (a := k) (d := 2) (by omega) (by decide) (by decide)
theorem div2 {k : Nat} (h : k < 1000001) : nI k / 2 = nI (k / 2) := pk_div (a := k) (d := 2) (by omega) (by decide) (by decide)
theorem mul2 (k : Nat) : (2 : Int32) * nI k = nI (2 * k) := by rw [li, pk_mul]
def qP (f : Nat → Int32) (k : Nat) : Int32 := if k % 2 = 0 then pP f (k / 2) else pP f (k / 2) + (if f (k / 2) = 0 then 0 else 1)
theorem qP_s (f : Nat → Int32) (k : Nat) : qP f (k + 1) = qP f k + (if f (20 * (k % 2) + k / 2) = 0 then 0 else 1) := by
  unfold qP
  rcases Nat.mod_two_eq_zero_or_one k with h | h
  · rw [if_neg (by omega), if_pos h, h, show (k + 1) / 2 = k / 2 by omega, show 20 * 0 + k / 2 = k / 2 by omega]
  · rw [if_pos (by omega), if_neg (by omega), h, show (k + 1) / 2 = k / 2 + 1 by omega, show 20 * 1 + k / 2 = 20 + k / 2 by omega]
    rfl
theorem s_10_parkedIn {r0 i n : Nat} {Q : Int32 → St → Prop} {σ : St} (hi : i < 6) (hn : σ.1 (r0 + 1) (1 + 83 * i) = nI n) (h20 : n ≤ 20) (hb : ∀ k, k < 40 → isB (σ.1 (r0 + 1) (44 + 83 * i + k))) (h : Q (pP (fun k => σ.1 (r0 + 1) (44 + 83 * i + k)) n) σ) : m_10_parkedIn r0 (nI i) Q σ := by
  unfold m_10_parkedIn
  refine it_cnt (fun (k : Nat) (B : Int32 → Int32 → St → Prop) => B (qP (fun k => σ.1 (r0 + 1) (44 + 83 * i + k)) k) (nI k) σ) (2 * n) (by omega) ?_ ?_
  · intro k hk B hB
    unfold m_10_parkedIn_4
    refine s_10_of (k := 0) hi (by omega) ?_
    rw [show 1 + 83 * i + 0 = 1 + 83 * i from rfl, hn, mul2]
    refine ⟨fun q => absurd q (nle_of hk (by omega)), fun _ => ?_⟩
    rw [rem2 (by omega), div2 (by omega)]
    refine s_10_isParked hi (by omega) (hb _ (by omega)) ?_
    rw [qP_s] at hB
    refine ⟨fun q x2 e2 x3 e3 => ?_, fun q x2 e2 x3 e3 => ?_⟩
    · rw [e2, e3, iplus]
      rw [if_pos q] at hB
      exact hB
    · rw [e2, e3, iplus]
      rw [if_neg q] at hB
      exact hB
  · intro B
    unfold m_10_parkedIn_4
    refine s_10_of (k := 0) hi (by omega) ?_
    rw [show 1 + 83 * i + 0 = 1 + 83 * i from rfl, hn, mul2]
    refine ⟨fun _ => ?_, fun q => absurd ((lei (by omega) (by omega)).mpr (Nat.le_refl (2 * n))) q⟩
    have e : qP (fun k => σ.1 (r0 + 1) (44 + 83 * i + k)) (2 * n) = pP (fun k => σ.1 (r0 + 1) (44 + 83 * i + k)) n := by
      unfold qP
      rw [if_pos (by omega), show 2 * n / 2 = n by omega]
    rw [e]
    exact h
def qG (f : Nat → Int32) (k : Nat) : Int32 := if k % 2 = 0 then gD f (k / 2) else mxI (gD f (k / 2)) (f (k / 2))
theorem qG_s (f : Nat → Int32) (k : Nat) : qG f (k + 1) = mxI (qG f k) (f (20 * (k % 2) + k / 2)) := by
  unfold qG
  rcases Nat.mod_two_eq_zero_or_one k with h | h
  · rw [if_neg (by omega), if_pos h, h, show (k + 1) / 2 = k / 2 by omega, show 20 * 0 + k / 2 = k / 2 by omega]
  · rw [if_pos (by omega), if_neg (by omega), h, show (k + 1) / 2 = k / 2 + 1 by omega, show 20 * 1 + k / 2 = 20 + k / 2 by omega]
    rfl
theorem nlt_le {a b : Int32} : ¬ a < b ↔ b ≤ a := Int32.not_lt
theorem nle_lt {a b : Int32} : ¬ a ≤ b ↔ b < a := Int32.not_le
theorem s_10_greatest {r0 i n : Nat} {Q : Int32 → St → Prop} {σ : St} (hi : i < 6) (hn : σ.1 (r0 + 1) (1 + 83 * i) = nI n) (h20 : n ≤ 20) (h : Q (gD (fun k => σ.1 (r0 + 1) (4 + 83 * i + k)) n) σ) : m_10_greatest r0 (nI i) Q σ := by
  unfold m_10_greatest
  refine it_cnt (fun (k : Nat) (B : Int32 → Int32 → St → Prop) => B (qG (fun k => σ.1 (r0 + 1) (4 + 83 * i + k)) k) (nI k) σ) (2 * n) (by omega) ?_ ?_
  · intro k hk B hB
    unfold m_10_greatest_4
    refine s_10_of (k := 0) hi (by omega) ?_
    rw [show 1 + 83 * i + 0 = 1 + 83 * i from rfl, hn, mul2]
    refine ⟨fun q => absurd q (nle_of hk (by omega)), fun _ => ?_⟩
    rw [rem2 (by omega), div2 (by omega)]
    refine s_10_dirtOf hi (by omega) ?_
    rw [qG_s] at hB
    unfold mxI at hB
    refine ⟨fun q x3 e3 => ?_, fun q x3 e3 => ?_⟩
    · rw [e3, iplus]
      rw [if_neg (nlt_le.mpr q)] at hB
      exact hB
    · rw [e3, iplus]
      rw [if_pos (nle_lt.mp q)] at hB
      exact hB
  · intro B
    unfold m_10_greatest_4
    refine s_10_of (k := 0) hi (by omega) ?_
    rw [show 1 + 83 * i + 0 = 1 + 83 * i from rfl, hn, mul2]
    refine ⟨fun _ => ?_, fun q => absurd ((lei (by omega) (by omega)).mpr (Nat.le_refl (2 * n))) q⟩
    have e : qG (fun k => σ.1 (r0 + 1) (4 + 83 * i + k)) (2 * n) = gD (fun k => σ.1 (r0 + 1) (4 + 83 * i + k)) n := by
      unfold qG
      rw [if_pos (by omega), show 2 * n / 2 = n by omega]
    rw [e]
    exact h
