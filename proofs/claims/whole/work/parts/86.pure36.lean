-- orders of legs, as lists
def gO : List Nat → Nat → Nat
  | [], _ => 0
  | x :: _, 0 => x
  | _ :: xs, i + 1 => gO xs i
def seL : List Nat → Nat → Nat → List Nat
  | [], _, _ => []
  | _ :: xs, 0, v => v :: xs
  | x :: xs, i + 1, v => x :: seL xs i v
theorem seL_len : ∀ (o : List Nat) (i v : Nat), (seL o i v).length = o.length
  | [], _, _ => rfl
  | _ :: _, 0, _ => rfl
  | x :: xs, i + 1, v => by
    show (seL xs i v).length + 1 = xs.length + 1
    rw [seL_len xs i v]
theorem gO_se : ∀ (o : List Nat) (i j v : Nat), i < o.length → gO (seL o i v) j = if j = i then v else gO o j
  | [], i, j, v, h => absurd h (Nat.not_lt_zero _)
  | x :: xs, 0, 0, v, _ => by rw [if_pos rfl]; rfl
  | x :: xs, 0, j + 1, v, _ => by rw [if_neg (by omega)]; rfl
  | x :: xs, i + 1, 0, v, _ => by rw [if_neg (by omega)]; rfl
  | x :: xs, i + 1, j + 1, v, h => by
    show gO (seL xs i v) j = if j + 1 = i + 1 then v else gO xs j
    rw [gO_se xs i j v (Nat.lt_of_succ_lt_succ h)]
    by_cases q : j = i
    · rw [if_pos q, if_pos (by omega)]
    · rw [if_neg q, if_neg (by omega)]
def swL (o : List Nat) (i j : Nat) : List Nat := seL (seL o i (gO o j)) j (gO o i)
def okL (l : Nat) (o : List Nat) : Prop := o.length = l ∧ (∀ j, j < l → gO o j < l) ∧ (∀ a b, a < l → b < l → gO o a = gO o b → a = b)
theorem gO_sw {o : List Nat} {i j k : Nat} (hi : i < o.length) (hj : j < o.length) : gO (swL o i j) k = if k = j then gO o i else if k = i then gO o j else gO o k := by
  unfold swL
  rw [gO_se _ _ _ _ (by rw [seL_len]; exact hj), gO_se _ _ _ _ hi]
theorem swL_ok {l i j : Nat} {o : List Nat} (h : okL l o) (hi : i < l) (hj : j < l) : okL l (swL o i j) := by
  obtain ⟨h1, h2, h3⟩ := h
  have e : ∀ k, gO (swL o i j) k = if k = j then gO o i else if k = i then gO o j else gO o k := fun k => gO_sw (by omega) (by omega)
  refine ⟨by unfold swL; rw [seL_len, seL_len]; exact h1, fun k hk => ?_, fun a b ha hb q => ?_⟩
  · rw [e]
    split
    · exact h2 _ hi
    · split
      · exact h2 _ hj
      · exact h2 _ hk
  · rw [e, e] at q
    have m1 := h3 a b ha hb
    have m2 := h3 a i ha hi
    have m3 := h3 a j ha hj
    have m4 := h3 i b hi hb
    have m5 := h3 j b hj hb
    have m6 := h3 i j hi hj
    have m7 := h3 j i hj hi
    by_cases a1 : a = j
    · rw [if_pos a1] at q
      by_cases b1 : b = j
      · omega
      · rw [if_neg b1] at q
        by_cases b2 : b = i
        · rw [if_pos b2] at q
          have := m6 q
          omega
        · rw [if_neg b2] at q
          have := m4 q
          omega
    · rw [if_neg a1] at q
      by_cases a2 : a = i
      · rw [if_pos a2] at q
        by_cases b1 : b = j
        · rw [if_pos b1] at q
          have := m7 q
          omega
        · rw [if_neg b1] at q
          by_cases b2 : b = i
          · omega
          · rw [if_neg b2] at q
            have := m5 q
            omega
      · rw [if_neg a2] at q
        by_cases b1 : b = j
        · rw [if_pos b1] at q
          have := m2 q
          omega
        · rw [if_neg b1] at q
          by_cases b2 : b = i
          · rw [if_pos b2] at q
            have := m3 q
            omega
          · rw [if_neg b2] at q
            exact m1 q
theorem okL.ord {l : Nat} {o : List Nat} (h : okL l o) : ordO l (gO o) := ⟨h.2.1, h.2.2⟩
def riL (o : List Nat) : Nat → Option Nat
  | 0 => none
  | k + 1 => if gO o (k + 1) < gO o k then riL o k else some k
def grL (o : List Nat) (r : Nat) : Nat → Nat
  | 0 => 0
  | k + 1 => if r < k + 1 ∧ gO o (k + 1) < gO o r then grL o r k else k + 1
def rvL : Nat → List Nat → Nat → Nat → List Nat
  | 0, o, _, _ => o
  | f + 1, o, i, j => if i < j then rvL f (swL o i j) (i + 1) (j - 1) else o
def nxt (l : Nat) (o : List Nat) : Option (List Nat) :=
  match riL o (l - 1) with
  | none => none
  | some r => some (rvL l (swL o r (grL o r (l - 1))) (r + 1) (l - 1))
theorem nxt_n {l : Nat} {o : List Nat} (h : riL o (l - 1) = none) : nxt l o = none := by unfold nxt; rw [h]
theorem nxt_s {l r : Nat} {o : List Nat} (h : riL o (l - 1) = some r) : nxt l o = some (rvL l (swL o r (grL o r (l - 1))) (r + 1) (l - 1)) := by unfold nxt; rw [h]
theorem riL_s (o : List Nat) (k : Nat) : riL o (k + 1) = if gO o (k + 1) < gO o k then riL o k else some k := rfl
theorem grL_s (o : List Nat) (r k : Nat) : grL o r (k + 1) = if r < k + 1 ∧ gO o (k + 1) < gO o r then grL o r k else k + 1 := rfl
theorem rvL_s (f : Nat) (o : List Nat) (i j : Nat) : rvL (f + 1) o i j = if i < j then rvL f (swL o i j) (i + 1) (j - 1) else o := rfl
/-- are all orders gone through after at most f steps from o? -/
def runs (l : Nat) : Nat → List Nat → Bool
  | 0, _ => false
  | f + 1, o => match nxt l o with
    | none => true
    | some o' => runs l f o'
theorem runs_all : ∀ l, l < 7 → 1 ≤ l → runs l 720 (List.range l) = true := by decide +kernel
theorem rng_ok : ∀ l, l < 7 → (List.range l).length = l ∧ ∀ j, j < l → gO (List.range l) j = j := by decide +kernel
theorem rng_okL {l : Nat} (h : l < 7) : okL l (List.range l) := by
  obtain ⟨h1, h2⟩ := rng_ok l h
  exact ⟨h1, fun j hj => by rw [h2 j hj]; exact hj, fun a b ha hb q => by rw [h2 a ha, h2 b hb] at q; exact q⟩
theorem runs_n {l f : Nat} {o : List Nat} (h : runs l f o = true) : ∃ f', f = f' + 1 ∧ ∀ o', nxt l o = some o' → runs l f' o' = true := by
  cases f with
  | zero => exact absurd h (by unfold runs; decide)
  | succ f =>
    refine ⟨f, rfl, fun o' e => ?_⟩
    unfold runs at h
    rw [e] at h
    exact h
-- an order in a cell
def OR (C l : Nat) (o : List Nat) (σ : St) : Prop := okL l o ∧ ∀ k, k < l → σ.1 C k = nI (gO o k)
def eC (C : Nat) (σ τ : St) : Prop := (∀ a, a ≠ C → τ.1 a = σ.1 a) ∧ τ.2 = σ.2
theorem eC.rf {C : Nat} {σ : St} : eC C σ σ := ⟨fun _ _ => rfl, rfl⟩
theorem eC.tr {C : Nat} {σ τ υ : St} (h : eC C σ τ) (h' : eC C τ υ) : eC C σ υ := ⟨fun a ha => (h'.1 a ha).trans (h.1 a ha), h'.2.trans h.2⟩
theorem OR.sw {C l i j : Nat} {o : List Nat} {σ τ : St} (h : OR C l o σ) (hi : i < l) (hj : j < l) (e : τ = wr (wr σ C i (σ.1 C j)) C j (σ.1 C i)) : OR C l (swL o i j) τ ∧ eC C σ τ := by
  obtain ⟨h1, h2⟩ := h
  have hl := h1.1
  refine ⟨⟨swL_ok h1 hi hj, fun k hk => ?_⟩, fun a ha => by rw [e, wr_cell ha, wr_cell ha], by rw [e]; rfl⟩
  rw [e, rd_wr, if_pos rfl, rd_wr, if_pos rfl, gO_sw (by omega) (by omega)]
  by_cases q : k = j
  · rw [if_pos q, if_pos q]
    exact h2 i hi
  · rw [if_neg q, if_neg q]
    by_cases q2 : k = i
    · rw [if_pos q2, if_pos q2]
      exact h2 j hj
    · rw [if_neg q2, if_neg q2]
      exact h2 k hk
theorem s_2_swap {l i j : Nat} {o : List Nat} {σ : St} {Q : St → Prop} (h : OR 353 l o σ) (hl : l ≤ 6) (hi : i < l) (hj : j < l) (hQ : ∀ τ, OR 353 l (swL o i j) τ → eC 353 σ τ → Q τ) : m_2_swap 351 (nI i) (nI j) Q σ := by
  unfold m_2_swap
  rw [tn i (by omega), tn j (by omega), show (351 + 2 : Nat) = 353 from rfl]
  refine ⟨vin (by omega), fun x ex => ⟨vin (by omega), vin (by omega), fun σ2 e2 => ⟨vin (by omega), fun σ3 e3 => ?_⟩⟩⟩
  obtain ⟨g1, g2⟩ := h.sw hi hj (τ := σ3) (by rw [e3, e2, ex])
  exact hQ σ3 g1 g2
theorem s_10_swaps {l i j : Nat} {o : List Nat} {σ : St} {Q : St → Prop} (h : OR 358 l o σ) (hl : l ≤ 6) (hi : i < l) (hj : j < l) (hQ : ∀ τ, OR 358 l (swL o i j) τ → eC 358 σ τ → Q τ) : m_10_swaps 354 (nI i) (nI j) Q σ := by
  unfold m_10_swaps
  rw [tn i (by omega), tn j (by omega), show (354 + 4 : Nat) = 358 from rfl]
  refine ⟨vin (by omega), fun x ex => ⟨vin (by omega), vin (by omega), fun σ2 e2 => ⟨vin (by omega), fun σ3 e3 => ?_⟩⟩⟩
  obtain ⟨g1, g2⟩ := h.sw hi hj (τ := σ3) (by rw [e3, e2, ex])
  exact hQ σ3 g1 g2
theorem lm2 : ∀ l, l < 7 → 1 ≤ l → nI l - 2 = nI (l - 1) + (-1) := by decide +kernel
theorem riL_lt {o : List Nat} {r : Nat} : ∀ k, riL o k = some r → r < k := by
  intro k
  induction k with
  | zero => intro h; cases h
  | succ k ih =>
    intro h
    rw [riL_s] at h
    split at h
    · have := ih h
      omega
    · cases h
      omega
