theorem nar_b {v : Int32} (h : isB v) : vp_nar .boolean v = v := by rcases h with rfl | rfl <;> decide
theorem isB0 : isB 0 := Or.inl rfl
theorem isB1 : isB 1 := Or.inr rfl
/-- the three cells of a street are set -/
def wrS (σ : St) (S : Nat) (c d k : Nat → Int32) : St := (fun a j => if a = S then c j else if a = S + 1 then d j else if a = S + 2 then k j else σ.1 a j, σ.2)
theorem rd_wr (σ : St) (k j : Nat) (v : Int32) (a b : Nat) : (wr σ k j v).1 a b = if a = k then (if b = j then v else σ.1 a b) else σ.1 a b := by
  unfold wr wrA upd
  by_cases h : a = k
  · subst h
    simp
  · simp [h]
theorem rd_wrS (σ : St) (S : Nat) (c d k : Nat → Int32) (a j : Nat) : (wrS σ S c d k).1 a j = if a = S then c j else if a = S + 1 then d j else if a = S + 2 then k j else σ.1 a j := rfl
theorem s_6_clear {r0 : Nat} {Q : St → Prop} {σ : St} (h : Q (wrS σ r0 (fun j => if j < 3 then 0 else σ.1 r0 j) (fun j => if j < 40 then 0 else σ.1 (r0 + 1) j) (fun j => if j < 40 then 0 else σ.1 (r0 + 2) j))) : m_6_clear r0 Q σ := by
  unfold m_6_clear
  intro σ1 e1 σ2 e2 σ3 e3
  refine it_cnt (fun (k : Nat) (B : Int32 → St → Prop) => ∀ τ, τ = wrS σ r0 (fun j => if j < 3 then 0 else σ.1 r0 j) (fun j => if j < k then 0 else σ.1 (r0 + 1) j) (fun j => if j < k then 0 else σ.1 (r0 + 2) j) → B (nI k) τ) 40 (by decide) ?_ ?_ σ3 ?_
  rotate_left 2
  · rw [e3, e2, e1]
    refine st_ext (fun a j => ?_) rfl
    simp only [rd_wr, rd_wrS]
    repeat' split
    all_goals first | rfl | omega | (subst_vars; rfl) | (subst_vars; omega)
  · intro k hk B hB τ e
    unfold m_6_clear_17
    refine ⟨fun h => absurd ((lei (a := 40) (by decide) (by omega)).mp h) (by omega), fun _ => ⟨vin hk, fun σ4 e4 => ⟨vin hk, fun σ5 e5 x ex => ?_⟩⟩⟩
    rw [ex, li, nI_add]
    refine hB σ5 ?_
    rw [e5, e4, e, tn k (by omega), nar_b isB0]
    refine st_ext (fun a j => ?_) rfl
    simp only [rd_wr, rd_wrS]
    repeat' split
    all_goals first | rfl | omega | (subst_vars; rfl) | (subst_vars; omega)
  · intro B τ e
    unfold m_6_clear_17
    exact ⟨fun _ => by rw [e]; exact h, fun h => absurd ((lei (a := 40) (by decide) (by decide)).mpr (Nat.le_refl 40)) h⟩
theorem s_6_copyFrom {r0 r1 : Nat} {Q : St → Prop} {σ : St} (hd : r0 + 3 ≤ r1 ∨ r1 + 3 ≤ r0) (hp : ∀ j, j < 40 → isB (σ.1 (r1 + 2) j)) (h : Q (wrS σ r0 (fun j => if j < 3 then σ.1 r1 j else σ.1 r0 j) (fun j => if j < 40 then σ.1 (r1 + 1) j else σ.1 (r0 + 1) j) (fun j => if j < 40 then σ.1 (r1 + 2) j else σ.1 (r0 + 2) j))) : m_6_copyFrom r0 r1 Q σ := by
  unfold m_6_copyFrom
  intro σ1 e1 σ2 e2 σ3 e3
  refine it_cnt (fun (k : Nat) (B : Int32 → St → Prop) => ∀ τ, τ = wrS σ r0 (fun j => if j < 3 then σ.1 r1 j else σ.1 r0 j) (fun j => if j < k then σ.1 (r1 + 1) j else σ.1 (r0 + 1) j) (fun j => if j < k then σ.1 (r1 + 2) j else σ.1 (r0 + 2) j) → B (nI k) τ) 40 (by decide) ?_ ?_ σ3 ?_
  rotate_left 2
  · rw [e3, e2, e1]
    refine st_ext (fun a j => ?_) rfl
    simp only [rd_wr, rd_wrS]
    repeat' split
    all_goals first | rfl | omega | (subst_vars; rfl) | (subst_vars; omega)
  · intro k hk B hB τ e
    unfold m_6_copyFrom_26
    refine ⟨fun h => absurd ((lei (a := 40) (by decide) (by omega)).mp h) (by omega), fun _ => ⟨vin hk, vin hk, fun σ4 e4 => ⟨vin hk, vin hk, fun σ5 e5 x ex => ?_⟩⟩⟩
    rw [ex, li, nI_add]
    refine hB σ5 ?_
    have h1 : σ4.1 (r1 + 2) k = σ.1 (r1 + 2) k := by
      rw [e4, e]
      simp only [rd_wr, rd_wrS]
      repeat' split
      all_goals first | rfl | omega | (subst_vars; rfl) | (subst_vars; omega)
    have h2 : τ.1 (r1 + 1) k = σ.1 (r1 + 1) k := by
      rw [e]
      simp only [rd_wrS]
      repeat' split
      all_goals first | rfl | omega | (subst_vars; rfl) | (subst_vars; omega)
    rw [e5, tn k (by omega), h1, nar_b (hp k hk), e4, tn k (by omega), h2, e]
    refine st_ext (fun a j => ?_) rfl
    simp only [rd_wr, rd_wrS]
    repeat' split
    all_goals first | rfl | omega | (subst_vars; rfl) | (subst_vars; omega)
  · intro B τ e
    unfold m_6_copyFrom_26
    exact ⟨fun _ => by rw [e]; exact h, fun h => absurd ((lei (a := 40) (by decide) (by decide)).mpr (Nat.le_refl 40)) h⟩
