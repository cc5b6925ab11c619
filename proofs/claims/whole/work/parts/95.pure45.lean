-- a text, read as a street: the class, all of it
theorem rdLw_0 {T : Nat → Nat} {i w : Nat} (h : w = 0 ∨ T (i + w) ≠ 47) : rdLw T i w = (1, i + w, 0) := by
  unfold rdLw
  by_cases q : w = 0
  · rw [if_pos q, q]
    rfl
  · rw [if_neg q, if_neg (h.elim (fun z => absurd z q) id)]
theorem rdLw_1 {T : Nat → Nat} {i w : Nat} (h1 : 1 ≤ w) (h : T (i + w) = 47) : rdLw T i w = (0, i + w + 1, w) := by
  unfold rdLw
  rw [if_neg (by omega), if_pos h]
theorem rdRw_0 {T : Nat → Nat} {i n w : Nat} (hw : w ≤ n) (h : w < n ∨ T (i + n) ≠ 0) : rdRw T i n w = (1, i + w) := by
  unfold rdRw
  rw [if_neg (fun q => by omega)]
theorem rdRw_1 {T : Nat → Nat} {i n w : Nat} (h1 : w = n) (h : T (i + n) = 0) : rdRw T i n w = (0, 0) := by
  unfold rdRw
  rw [if_pos ⟨h1, h⟩]
theorem rd_wrS_c {σ : St} {S a : Nat} {c d k : Nat → Int32} (h : a ≠ S ∧ a ≠ S + 1 ∧ a ≠ S + 2) : (wrS σ S c d k).1 a = σ.1 a := by
  funext j
  rw [rd_wrS, if_neg h.1, if_neg h.2.1, if_neg h.2.2]
theorem s_3_read {m : Nat} {T : Nat → Nat} {σ : St} {Q : Int32 → St → Prop} (hT : TX m T) (C : TC m T σ)
    (h1 : (rdA T).1 = 0 → ∀ υ, rF σ υ → υ.1 4 0 = nI (vN T) → υ.1 4 1 = nI (vD T) → υ.1 4 2 = nI (vT T) → (∀ y, y < 40 → υ.1 5 y = nI (cV T y)) → (∀ y, y < 40 → υ.1 6 y = nI (cP T y)) → Q 0 υ)
    (h0 : (rdA T).1 ≠ 0 → ∀ υ, rF σ υ → υ.1 3 1 = nI (rdA T).2 → Q (nI (rdA T).1) υ) : m_3_read 3 1 Q σ := by
  have bad : ∀ k x υ, rdA T = (k, x) → k ≠ 0 → eS σ υ k x → Q (υ.1 3 3) υ := fun k x υ e hk es => by
    rw [e] at h0
    rw [es.2.1]
    exact h0 hk υ es.1 es.2.2
  clear h0
  unfold m_3_read
  intro σ1 e1 σ2 e2 σ3 e3
  refine s_6_clear ?_
  generalize hτ : wrS σ3 (3 + 1) _ _ _ = τ
  have S0 : rS σ τ 0 (τ.1 4) (τ.1 5) (τ.1 6) := by
    refine ⟨fun a ha => ?_, ?_, ?_, rfl, rfl, rfl⟩
    · rw [← hτ, rd_wrS_c (by omega), e3, e2, e1, wr_cell (by omega), wr_cell (by omega), wr_cell (by omega)]
    · rw [← hτ, rd_wrS_c (by omega), e3, e2, e1, wr_else (by omega), wr_else (by omega), wr_same]
      rfl
    · rw [← hτ, rd_wrS_c (by omega), e3, e2, wr_else (by omega), wr_same]
  have z5 : ∀ y, y < 40 → τ.1 5 y = 0 := fun y hy => by rw [← hτ, rd_wrS, if_neg (by omega), if_pos rfl, if_pos hy]
  have z6 : ∀ y, y < 40 → τ.1 6 y = 0 := fun y hy => by rw [← hτ, rd_wrS, if_neg (by omega), if_neg (by omega), if_pos rfl, if_pos hy]
  refine s_3_readDistance hT C S0 (fun q1 υ1 S1 => ⟨fun q => absurd q (by decide), fun _ => ?_⟩) (fun q1 υ1 es => ⟨fun _ => bad _ _ υ1 ?_ q1 es, fun q => absurd rfl q⟩)
  rotate_left
  · unfold rdA
    rw [if_neg q1]
  obtain ⟨a1, a2⟩ := rdD_ok q1
  refine s_3_readTrees hT C (by omega) S1 (fun q2 υ2 S2 => ⟨fun q => absurd q (by decide), fun _ => ?_⟩) (fun q2 υ2 es => ⟨fun _ => bad _ _ υ2 ?_ q2 es, fun q => absurd rfl q⟩)
  rotate_left
  · unfold rdA
    rw [if_pos q1, if_neg q2]
    rfl
  obtain ⟨b1, b2⟩ := rdT_ok q2
  have bi2 : i2 T = i1 T + 2 := b2
  have S2 : rS σ υ2 (i2 T) (upd (upd (τ.1 4) 1 (nI (vD T))) 2 (nI (vT T))) (τ.1 5) (τ.1 6) := S2
  have w20 := cnL_le T 20 (i2 T)
  refine s_3_readLeft hT C (by omega) S2 w20 (fun j hj => cnL_in 20 _ j hj) (fun h => cnL_out 20 _ h) (fun g1 g2 υ3 D' S3 d1 d2 => ⟨fun q => absurd q (by decide), fun _ => ?_⟩) (fun g υ3 es => ⟨fun _ => bad 1 (i2 T + cnL T (i2 T) 20) υ3 ?_ (by decide) es, fun q => absurd rfl q⟩)
  rotate_left
  · have e : rdL T (i2 T) = (1, i2 T + cnL T (i2 T) 20, 0) := rdLw_0 g
    have q3 : ¬ (rdL T (i2 T)).1 = 0 := by rw [e]; exact Nat.one_ne_zero
    unfold rdA i3
    rw [if_pos q1, if_pos q2, if_neg q3, e]
  have e : rdL T (i2 T) = (0, i2 T + cnL T (i2 T) 20 + 1, cnL T (i2 T) 20) := rdLw_1 g1 g2
  have ei3 : i3 T = i2 T + cnL T (i2 T) 20 + 1 := by unfold i3; rw [e]
  have evN : vN T = cnL T (i2 T) 20 := by unfold vN; rw [e]
  have eA : rdA T = rdR T (i3 T) (vN T) := by
    have q3 : (rdL T (i2 T)).1 = 0 := by rw [e]
    unfold rdA
    rw [if_pos q1, if_pos q2, if_pos q3]
  rw [← ei3, ← evN] at S3
  rw [← evN] at d1 w20
  refine s_3_readRight hT C (by omega) S3 d1 w20 (cnL_le T (vN T) (i3 T)) (fun j hj => cnL_in (vN T) _ j hj) (fun h => cnL_out (vN T) _ h) (fun g3 g4 υ4 S4 => ?_) (fun g υ4 es => bad 1 _ υ4 (by rw [eA]; exact rdRw_0 (cnL_le T (vN T) (i3 T)) g) (by decide) es)
  obtain ⟨s1, s2, s3, s4, s5, s6⟩ := S4
  have eR : rdA T = (0, 0) := by rw [eA]; exact rdRw_1 g3 g4
  show Q (υ4.1 3 3) υ4
  rw [s3]
  refine h1 (by rw [eR]) υ4 s1 (by rw [s4]; exact d1) ?_ ?_ (fun y hy => ?_) (fun y hy => ?_)
  · rw [s4, d2 1 (by omega), upd_n (by omega), upd_s]
  · rw [s4, d2 2 (by omega), upd_s]
  · rw [s5]
    exact fE_cV hy (z5 y hy) w20
  · rw [s6]
    exact fF_cP hy (z6 y hy) w20
