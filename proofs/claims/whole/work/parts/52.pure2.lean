theorem iplus (n : Nat) : nI n + (1 : Int32) = nI (n + 1) := nI_1 n
theorem pl (s c : Nat) : nI s * (20 : Int32) + nI c = nI (20 * s + c) := by
  rw [li, pk_mul, nI_add, Nat.mul_comm]
theorem lt_of_nle {a b : Nat} {x : Int32} (h : ¬ nI a ≤ nI b) (ha : a < 1000001) (hb : b < 1000001) : b < a := by
  rw [lei ha hb] at h
  omega
theorem nle_of {a b : Nat} (h : b < a) (ha : a < 1000001) : ¬ nI a ≤ nI b := fun q => by
  rw [lei ha (by omega)] at q
  omega
def sD (f : Nat → Int32) (o : Nat) : Nat → Int32
  | 0 => 0
  | k + 1 => sD f o k + f (o + k)
theorem sD_eq {f g : Nat → Int32} {o o' : Nat} : ∀ n, (∀ k, k < n → f (o + k) = g (o' + k)) → sD f o n = sD g o' n := by
  intro n
  induction n with
  | zero => intro _; rfl
  | succ n ih =>
    intro h
    show sD f o n + f (o + n) = sD g o' n + g (o' + n)
    rw [ih (fun k hk => h k (by omega)), h n (by omega)]
theorem s_6_dirtOfSide {r0 n s : Nat} {Q : Int32 → St → Prop} {σ : St} (hn : σ.1 r0 0 = nI n) (h20 : n ≤ 20) (hs : s < 2) (h : Q (sD (σ.1 (r0 + 1)) (20 * s) n) σ) : m_6_dirtOfSide r0 (nI s) Q σ := by
  unfold m_6_dirtOfSide
  refine it_cnt (fun (k : Nat) (B : Int32 → Int32 → St → Prop) => B (sD (σ.1 (r0 + 1)) (20 * s) k) (nI k) σ) n (by omega) ?_ ?_
  · intro k hk B hB
    unfold m_6_dirtOfSide_4
    refine ⟨fun q => absurd q (by rw [hn]; exact nle_of hk (by omega)), fun _ => ?_⟩
    unfold m_9_placeOf
    rw [pl]
    refine ⟨vin (by omega), fun x2 e2 x3 e3 => ?_⟩
    rw [tn _ (by omega)] at e2
    rw [e2, e3, iplus]
    exact hB
  · intro B
    unfold m_6_dirtOfSide_4
    exact ⟨fun _ => h, fun q => absurd (by rw [hn]; exact (lei (by omega) (by omega)).mpr (Nat.le_refl n)) q⟩
theorem s_6_allDirt {r0 n : Nat} {Q : Int32 → St → Prop} {σ : St} (hn : σ.1 r0 0 = nI n) (h20 : n ≤ 20) (h : Q (sD (σ.1 (r0 + 1)) 0 n + sD (σ.1 (r0 + 1)) 20 n) σ) : m_6_allDirt r0 Q σ := by
  unfold m_6_allDirt
  refine s_6_dirtOfSide (s := 0) hn h20 (by decide) ?_
  exact s_6_dirtOfSide (s := 1) hn h20 (by decide) h
/-- parked cells, one cell of each side after the other -/
def pP (f : Nat → Int32) : Nat → Int32
  | 0 => 0
  | k + 1 => (pP f k + (if f k = 0 then 0 else 1)) + (if f (20 + k) = 0 then 0 else 1)
theorem pP_eq {f g : Nat → Int32} : ∀ n, n ≤ 20 → (∀ k, k < 40 → f k = g k) → pP f n = pP g n := by
  intro n
  induction n with
  | zero => intro _ _; rfl
  | succ n ih =>
    intro hn h
    unfold pP
    rw [ih (by omega) h, h n (by omega), h (20 + n) (by omega)]
theorem s_6_parkedCells {r0 n : Nat} {Q : Int32 → St → Prop} {σ : St} (hn : σ.1 r0 0 = nI n) (h20 : n ≤ 20) (h : Q (pP (σ.1 (r0 + 2)) n) σ) : m_6_parkedCells r0 Q σ := by
  unfold m_6_parkedCells
  refine it_cnt (fun (k : Nat) (B : Int32 → Int32 → St → Prop) => B (pP (σ.1 (r0 + 2)) k) (nI k) σ) n (by omega) ?_ ?_
  · intro k hk B hB
    unfold m_6_parkedCells_4
    refine ⟨fun q => absurd q (by rw [hn]; exact nle_of hk (by omega)), fun _ => ?_⟩
    have e0 : (0 : Int32) * 20 + nI k = nI k := by have := pl 0 k; rw [show 20 * 0 + k = k by omega] at this; exact this
    have e1 : (1 : Int32) * 20 + nI k = nI (20 + k) := by have := pl 1 k; rw [show 20 * 1 + k = 20 + k by omega] at this; exact this
    unfold m_9_placeOf
    rw [e0]
    refine ⟨vin (by omega), ?_⟩
    rw [tn _ (by omega)]
    have tail : ∀ (z x1 : Int32), z = pP (σ.1 (r0 + 2)) k → (m_6_parkedCells_31 r0 (nI k) B Q (if σ.1 (r0 + 2) k = 0 then 0 else 1) z σ) := by
      intro z _ hz
      unfold m_6_parkedCells_31
      intro x1 ex1
      unfold m_9_placeOf
      rw [e1]
      refine ⟨vin (by omega), ?_⟩
      rw [tn _ (by omega)]
      have hB : B ((pP (σ.1 (r0 + 2)) k + (if σ.1 (r0 + 2) k = 0 then 0 else 1)) + (if σ.1 (r0 + 2) (20 + k) = 0 then 0 else 1)) (nI (k + 1)) σ := hB
      refine ⟨fun q x2 ex2 x3 ex3 => ?_, fun q x2 ex2 x3 ex3 => ?_⟩
      · rw [ex3, ex2, ex1, hz, iplus]
        rw [if_pos q] at hB
        exact hB
      · rw [ex3, ex2, ex1, hz, iplus]
        rw [if_neg q] at hB
        exact hB
    refine ⟨fun q => ?_, fun q => ?_⟩
    · have := tail _ 0 rfl
      rw [if_pos q] at this
      exact this
    · have := tail _ 0 rfl
      rw [if_neg q] at this
      exact this
  · intro B
    unfold m_6_parkedCells_4
    exact ⟨fun _ => h, fun q => absurd (by rw [hn]; exact (lei (by omega) (by omega)).mpr (Nat.le_refl n)) q⟩
def mxI (a d : Int32) : Int32 := if a < d then d else a
def gD (f : Nat → Int32) : Nat → Int32
  | 0 => 0
  | k + 1 => mxI (mxI (gD f k) (f k)) (f (20 + k))
theorem gD_eq {f g : Nat → Int32} : ∀ n, n ≤ 20 → (∀ k, k < 40 → f k = g k) → gD f n = gD g n := by
  intro n
  induction n with
  | zero => intro _ _; rfl
  | succ n ih =>
    intro hn h
    unfold gD
    rw [ih (by omega) h, h n (by omega), h (20 + n) (by omega)]
theorem s_6_greatestDirt {r0 n : Nat} {Q : Int32 → St → Prop} {σ : St} (hn : σ.1 r0 0 = nI n) (h20 : n ≤ 20) (h : Q (gD (σ.1 (r0 + 1)) n) σ) : m_6_greatestDirt r0 Q σ := by
  unfold m_6_greatestDirt
  refine it_cnt (fun (k : Nat) (B : Int32 → Int32 → St → Prop) => B (gD (σ.1 (r0 + 1)) k) (nI k) σ) n (by omega) ?_ ?_
  · intro k hk B hB
    unfold m_6_greatestDirt_4
    refine ⟨fun q => absurd q (by rw [hn]; exact nle_of hk (by omega)), fun _ => ?_⟩
    have e0 : (0 : Int32) * 20 + nI k = nI k := by have := pl 0 k; rw [show 20 * 0 + k = k by omega] at this; exact this
    have e1 : (1 : Int32) * 20 + nI k = nI (20 + k) := by have := pl 1 k; rw [show 20 * 1 + k = 20 + k by omega] at this; exact this
    unfold m_9_placeOf
    rw [e0]
    refine ⟨vin (by omega), fun x1 ex1 => ?_⟩
    rw [tn _ (by omega)] at ex1
    rw [e1]
    refine ⟨vin (by omega), fun x2 ex2 x3 ex3 => ?_⟩
    rw [tn _ (by omega)] at ex2
    rw [ex3, ex2, ex1, iplus]
    exact hB
  · intro B
    unfold m_6_greatestDirt_4
    exact ⟨fun _ => h, fun q => absurd (by rw [hn]; exact (lei (by omega) (by omega)).mpr (Nat.le_refl n)) q⟩
theorem s_6_couldGive {r0 k : Nat} {g : Int32} {Q : Int32 → St → Prop} {σ : St} (hk : k < 40) (h : Q (if σ.1 (r0 + 2) k = 0 then σ.1 (r0 + 1) k * g / 100 else 0) σ) : m_6_couldGive r0 (nI k) g Q σ := by
  unfold m_6_couldGive
  rw [tn _ (by omega)]
  refine ⟨vin hk, fun q => ⟨vin hk, ?_⟩, fun q => ?_⟩
  · rw [if_pos q] at h
    exact h
  · rw [if_neg q] at h
    exact h
