-- a text, read as a street: what is read
def TX (m : Nat) (T : Nat → Nat) : Prop := m ≤ 80 ∧ (∀ j, j < m → 32 ≤ T j ∧ T j ≤ 126) ∧ ∀ j, m ≤ j → T j = 0
abbrev dI (T : Nat → Nat) (i : Nat) : Prop := 48 ≤ T i ∧ T i ≤ 57
abbrev lI (T : Nat → Nat) (i : Nat) : Prop := 97 ≤ T i ∧ T i ≤ 106
abbrev ceI (T : Nat → Nat) (i : Nat) : Prop := dI T i ∨ lI T i
/-- kind of the fault (0: none), place behind what was read or place of the fault, value -/
def rdD (T : Nat → Nat) : Nat × Nat × Nat :=
  if dI T 0 then
    if dI T 1 then
      if dI T 2 then (1, 2, 0)
      else if 60 < 10 * (T 0 - 48) + (T 1 - 48) then (2, 0, 0)
      else if T 2 = 47 then (0, 3, 10 * (T 0 - 48) + (T 1 - 48)) else (1, 2, 0)
    else if T 1 = 47 then (0, 2, T 0 - 48) else (1, 1, 0)
  else (1, 0, 0)
def rdT (T : Nat → Nat) (i : Nat) : Nat × Nat × Nat := if dI T i then (if T (i + 1) = 47 then (0, i + 2, T i - 48) else (1, i + 1, 0)) else (1, i, 0)
def cnL (T : Nat → Nat) (i k : Nat) : Nat :=
  match k with
  | 0 => 0
  | k + 1 => if ceI T i then cnL T (i + 1) k + 1 else 0
def rdLw (T : Nat → Nat) (i w : Nat) : Nat × Nat × Nat := if w = 0 then (1, i, 0) else if T (i + w) = 47 then (0, i + w + 1, w) else (1, i + w, 0)
def rdL (T : Nat → Nat) (i : Nat) : Nat × Nat × Nat := rdLw T i (cnL T i 20)
def rdRw (T : Nat → Nat) (i n w : Nat) : Nat × Nat := if w = n ∧ T (i + n) = 0 then (0, 0) else (1, i + w)
def rdR (T : Nat → Nat) (i n : Nat) : Nat × Nat := rdRw T i n (cnL T i n)
theorem cnL_s (T : Nat → Nat) (i k : Nat) : cnL T i (k + 1) = if ceI T i then cnL T (i + 1) k + 1 else 0 := rfl
theorem cnL_le (T : Nat → Nat) : ∀ k i, cnL T i k ≤ k := by
  intro k
  induction k with
  | zero => intro i; exact Nat.le_refl 0
  | succ k ih =>
    intro i
    have := ih (i + 1)
    rw [cnL_s]
    split <;> omega
theorem cnL_in {T : Nat → Nat} : ∀ k i j, j < cnL T i k → ceI T (i + j) := by
  intro k
  induction k with
  | zero => intro i j hj; exact absurd hj (Nat.not_lt_zero j)
  | succ k ih =>
    intro i j hj
    rw [cnL_s] at hj
    split at hj
    · rename_i q
      cases j with
      | zero => exact q
      | succ j =>
        have := ih (i + 1) j (by omega)
        rw [show i + 1 + j = i + (j + 1) by omega] at this
        exact this
    · exact absurd hj (Nat.not_lt_zero j)
theorem cnL_out {T : Nat → Nat} : ∀ k i, cnL T i k < k → ¬ ceI T (i + cnL T i k) := by
  intro k
  induction k with
  | zero => intro i h; exact absurd h (Nat.not_lt_zero _)
  | succ k ih =>
    intro i h
    rw [cnL_s] at h ⊢
    split at h
    · rename_i q
      rw [if_pos q]
      have := ih (i + 1) (by omega)
      rw [show i + 1 + cnL T (i + 1) k = i + (cnL T (i + 1) k + 1) by omega] at this
      exact this
    · rename_i q
      rw [if_neg q]
      exact q
def i1 (T : Nat → Nat) : Nat := (rdD T).2.1
def vD (T : Nat → Nat) : Nat := (rdD T).2.2
def i2 (T : Nat → Nat) : Nat := (rdT T (i1 T)).2.1
def vT (T : Nat → Nat) : Nat := (rdT T (i1 T)).2.2
def i3 (T : Nat → Nat) : Nat := (rdL T (i2 T)).2.1
def vN (T : Nat → Nat) : Nat := (rdL T (i2 T)).2.2
/-- kind of the fault (0: none), its place -/
def rdA (T : Nat → Nat) : Nat × Nat :=
  if (rdD T).1 = 0 then
    if (rdT T (i1 T)).1 = 0 then
      if (rdL T (i2 T)).1 = 0 then rdR T (i3 T) (vN T) else ((rdL T (i2 T)).1, i3 T)
    else ((rdT T (i1 T)).1, i2 T)
  else ((rdD T).1, i1 T)
def dvI (T : Nat → Nat) (i : Nat) : Nat := 10 * (T i - if 97 ≤ T i then 97 else 48)
def pvI (T : Nat → Nat) (i : Nat) : Nat := if 97 ≤ T i then 1 else 0
def cV (T : Nat → Nat) (y : Nat) : Nat := if 20 ≤ y then (if y - 20 < vN T then dvI T (i3 T + (y - 20)) else 0) else (if y < vN T then dvI T (i2 T + y) else 0)
def cP (T : Nat → Nat) (y : Nat) : Nat := if 20 ≤ y then (if y - 20 < vN T then pvI T (i3 T + (y - 20)) else 0) else (if y < vN T then pvI T (i2 T + y) else 0)
theorem dvI_le {T : Nat → Nat} {i : Nat} (h : ceI T i) : dvI T i ≤ 90 := by
  unfold dvI
  rcases h with ⟨a, b⟩ | ⟨a, b⟩
  · rw [if_neg (by omega)]; omega
  · rw [if_pos a]; omega
theorem pvI_le (T : Nat → Nat) (i : Nat) : pvI T i ≤ 1 := by
  unfold pvI
  split <;> omega
theorem rdD_ok {T : Nat → Nat} (h : (rdD T).1 = 0) : vD T ≤ 60 ∧ i1 T ≤ 3 := by
  unfold vD i1
  unfold rdD at h ⊢
  split at h
  · split at h
    · split at h
      · exact absurd h (by decide)
      · split at h
        · exact absurd h (by decide)
        · split at h
          · rename_i a b d e f
            rw [if_pos a, if_pos b, if_neg d, if_neg e, if_pos f]
            exact ⟨by show 10 * (T 0 - 48) + (T 1 - 48) ≤ 60; omega, Nat.le_refl 3⟩
          · exact absurd h (by decide)
    · split at h
      · rename_i a b d
        rw [if_pos a, if_neg b, if_pos d]
        exact ⟨by show T 0 - 48 ≤ 60; omega, by show 2 ≤ 3; omega⟩
      · exact absurd h (by decide)
  · exact absurd h (by decide)
theorem rdT_ok {T : Nat → Nat} {i : Nat} (h : (rdT T i).1 = 0) : (rdT T i).2.2 ≤ 9 ∧ (rdT T i).2.1 = i + 2 := by
  unfold rdT at h ⊢
  split at h
  · split at h
    · rename_i a b
      rw [if_pos a, if_pos b]
      exact ⟨by show T i - 48 ≤ 9; omega, rfl⟩
    · exact absurd h Nat.one_ne_zero
  · exact absurd h Nat.one_ne_zero
theorem rdLw_ok {T : Nat → Nat} {i w : Nat} (h : (rdLw T i w).1 = 0) : (rdLw T i w).2.2 = w ∧ 1 ≤ w ∧ (rdLw T i w).2.1 = i + w + 1 := by
  unfold rdLw at h ⊢
  split at h
  · exact absurd h Nat.one_ne_zero
  · split at h
    · rename_i a b
      rw [if_neg a, if_pos b]
      exact ⟨rfl, by omega, rfl⟩
    · exact absurd h Nat.one_ne_zero
theorem rdL_ok {T : Nat → Nat} {i : Nat} (h : (rdL T i).1 = 0) : (rdL T i).2.2 = cnL T i 20 ∧ 1 ≤ cnL T i 20 ∧ (rdL T i).2.1 = i + cnL T i 20 + 1 := rdLw_ok h
theorem rdRw_ok {T : Nat → Nat} {i n w : Nat} (h : (rdRw T i n w).1 = 0) : w = n ∧ T (i + n) = 0 := by
  unfold rdRw at h
  split at h
  · assumption
  · exact absurd h Nat.one_ne_zero
theorem rdR_ok {T : Nat → Nat} {i n : Nat} (h : (rdR T i n).1 = 0) : cnL T i n = n ∧ T (i + n) = 0 := rdRw_ok h
theorem rdA_ok {T : Nat → Nat} (h : (rdA T).1 = 0) : (rdD T).1 = 0 ∧ (rdT T (i1 T)).1 = 0 ∧ (rdL T (i2 T)).1 = 0 ∧ (rdR T (i3 T) (vN T)).1 = 0 := by
  unfold rdA at h
  split at h
  · split at h
    · split at h
      · exact ⟨by assumption, by assumption, by assumption, h⟩
      · rename_i q; exact absurd h q
    · rename_i q; exact absurd h q
  · rename_i q; exact absurd h q
theorem rd_ok {T : Nat → Nat} (h : (rdA T).1 = 0) : vD T ≤ 60 ∧ vT T ≤ 9 ∧ 1 ≤ vN T ∧ vN T ≤ 20 ∧ (∀ y, cV T y ≤ 90) ∧ ∀ y, cP T y ≤ 1 := by
  obtain ⟨h1, h2, h3, h4⟩ := rdA_ok h
  obtain ⟨a1, a2⟩ := rdD_ok h1
  obtain ⟨b1, b2⟩ := rdT_ok h2
  obtain ⟨c1, c2, c3⟩ := rdL_ok h3
  obtain ⟨d1, d2⟩ := rdR_ok h4
  have hn : vN T = cnL T (i2 T) 20 := c1
  have hle := cnL_le T 20 (i2 T)
  refine ⟨a1, b1, by omega, by omega, fun y => ?_, fun y => ?_⟩
  · unfold cV
    split
    · split
      · exact dvI_le (cnL_in (vN T) (i3 T) (y - 20) (by omega))
      · omega
    · split
      · exact dvI_le (cnL_in 20 (i2 T) y (by omega))
      · omega
  · unfold cP
    split
    · split
      · exact pvI_le _ _
      · omega
    · split
      · exact pvI_le _ _
      · omega
