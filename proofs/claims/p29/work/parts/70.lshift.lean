-- the law's own shift from its start
theorem Int32_sub0 (x : Int32) : x - 0 = x := Int32.sub_zero x
/-- what the law's rows hold while they are filled: streets below a are done, and k cells of street a -/
def FI (n : Nat) (P : Nat → Int32) (a b : Nat) (τ : St) : Prop := pgW τ 7 = P ∧ hst τ ∧ (∀ j, τ.1 356 j = 0 ∧ τ.1 357 j = 0) ∧ ∀ i k, i < n → k < 2 * cellsN P i → (i < a ∨ i = a ∧ k < b) → τ.1 354 (12 * i + k) = P (4 + 83 * i + (20 * (k / cellsN P i) + k % cellsN P i)) ∧ τ.1 355 (12 * i + k) = P (44 + 83 * i + (20 * (k / cellsN P i) + k % cellsN P i))
theorem FI.w {n a b x y : Nat} {P : Nat → Int32} {τ : St} {v : Int32} (h : FI n P a b τ) (hx : x = 354 ∨ x = 355) : pgW (wr τ x y v) 7 = P ∧ hst (wr τ x y v) ∧ ∀ j, (wr τ x y v).1 356 j = 0 ∧ (wr τ x y v).1 357 j = 0 := by
  obtain ⟨h1, ⟨m, k, q1, q2, q3, q4⟩, h3, -⟩ := h
  refine ⟨?_, ⟨m, k, q1, q2, ?_, ?_⟩, fun j => ?_⟩
  · rw [← h1]
    exact pgW_cg (fun c c1 c2 => wr_cell (by omega))
  · rw [wr_cell (by omega)]; exact q3
  · rw [wr_cell (by omega)]; exact q4
  · rw [wr_cell (by omega), wr_cell (by omega)]; exact h3 j
theorem FI.LW {n : Nat} {P : Nat → Int32} {τ : St} (hc : ∀ i, i < n → 1 ≤ cellsN P i) (h : FI n P n 0 τ) : LW n P τ := by
  obtain ⟨h1, h2, -, h4⟩ := h
  refine ⟨h1, h2, fun i s k hi hs hk => ?_⟩
  have := (h4 i (cellsN P i * s + k) hi (by rcases (by omega : s = 0 ∨ s = 1) with e | e <;> rw [e] <;> omega) (Or.inl hi)).2
  rw [← Nat.add_assoc] at this
  rw [this, Nat.mul_add_div (by omega), Nat.div_eq_of_lt hk, Nat.mul_add_mod, Nat.mod_eq_of_lt hk, Nat.add_zero]
theorem FI.LD {n l : Nat} {P : Nat → Int32} {τ : St} (hc : ∀ i, i < n → 1 ≤ cellsN P i ∧ cellsN P i ≤ 20) (hn : n ≤ 6) (hl : l ≤ 10) (h : FI n P n 0 τ) : LD n l P (clF l P) τ := by
  obtain ⟨h1, h2, h3, h4⟩ := h
  have cl := clF_clr (l := l) (P := P) hl
  refine ⟨fun i s k hi hs hk => ?_, fun j hj => ?_⟩
  · obtain ⟨c1, c2⟩ := hc i hi
    have := (h4 i (cellsN P i * s + k) hi (by rcases (by omega : s = 0 ∨ s = 1) with e | e <;> rw [e] <;> omega) (Or.inl hi)).1
    rw [← Nat.add_assoc] at this
    rw [this, Nat.mul_add_div (by omega), Nat.div_eq_of_lt hk, Nat.mul_add_mod, Nat.mod_eq_of_lt hk, Nat.add_zero, cl.2.2 _ (by omega)]
  · rw [(cl.2.1 j hj).1, (cl.2.1 j hj).2]
    exact h3 j
theorem L_shift {c n l : Nat} {P : Nat → Int32} {σ : St} {Q : Int32 → St → Prop} (hc : c < 100000) (hP : pgW σ 7 = P) (ok : okP c n l P) (I : hst σ) (sm : SM n l P) (hb : bal n P)
    (h : ∀ τ, hst τ → okP (c + 1) n l (pgW τ 7) → bal n (pgW τ 7) → SM n l (pgW τ 7) → pgW τ 7 562 = P 562 + 1 → Q 1 τ) : m_L_shift 0 Q σ := by
  obtain ⟨s1, s2, s3⟩ := id sm
  have h6 := ok.1.2.1
  have h10 := ok.1.2.2.2
  have hcs : ∀ i, i < n → 1 ≤ cellsN P i ∧ cellsN P i ≤ 20 := fun i hi => (ok.cells hi).2
  unfold m_L_shift
  refine a_cnt (k := 0) (by omega) (by omega) ?_
  refine a_cnt (k := 1) (by omega) (by omega) ?_
  rw [hP, show cntA 0 = 0 from rfl, show cntA 1 = 507 from rfl, ok.1.1, ok.1.2.2.1]
  intro σ5 e5
  have f5 : FI n P 0 0 σ5 := by
    have lo : ∀ a, a < 354 → σ5.1 a = σ.1 a := fun a ha => by
      rw [e5]
      unfold zer4
      rw [wrA_ne (by omega), wrA_ne (by omega), wrA_ne (by omega), wrA_ne (by omega)]
    obtain ⟨m, k, q1, q2, q3, q4⟩ := I
    refine ⟨?_, ⟨m, k, q1, q2, by rw [lo 42 (by omega)]; exact q3, by rw [lo 42 (by omega)]; exact q4⟩, fun j => ?_, fun i k hi hk q => by omega⟩
    · rw [← hP]
      exact pgW_cg (fun a a1 a2 => lo a (by omega))
    · rw [e5]
      unfold zer4
      rw [wrA_eq, wrA_ne (show (356 : Nat) ≠ 357 by omega), wrA_eq]
      exact ⟨rfl, rfl⟩
  unfold m_L_shift_35
  refine it_cnt (fun (i : Nat) (B : Int32 → St → Prop) => ∀ τ, FI n P i 0 τ → B (nI i) τ) n (by omega) ?_ ?_ σ5 f5
  · intro i hi B hB τ f
    obtain ⟨cv, cv1, cv2⟩ := ok.cells hi
    have c6 := s3 i hi
    have n0 : ¬ nI (cellsN P i) = 0 := fun q => absurd ((eqi (b := 0) (by omega) (by omega)).mp q) (by omega)
    unfold m_L_shift_38
    refine ⟨fun q => absurd q (nle_of hi (by omega)), fun _ => ?_⟩
    refine it_cnt (fun (k : Nat) (A : Int32 → St → Prop) => ∀ τ, FI n P i k τ → A (nI k) τ) (2 * cellsN P i) (by omega) ?_ ?_ τ f
    · intro k hk A hA τ f
      have e1 : nI k / nI (cellsN P i) = nI (k / cellsN P i) := pk_div (by omega) (by omega) (by omega)
      have e2 : nI k - nI k / nI (cellsN P i) * nI (cellsN P i) = nI (k % cellsN P i) := pk_rem (by omega) (by omega) (by omega)
      have b1 : k / cellsN P i < 2 := (Nat.div_lt_iff_lt_mul (by omega)).mpr hk
      have b2 : k % cellsN P i < cellsN P i := Nat.mod_lt _ (by omega)
      have okτ : okP c n l (pgW τ 7) := by rw [f.1]; exact ok
      have strt : ∀ {Q : Int32 → St → Prop} {τ : St}, pgW τ 7 = P → Q (nI (cellsN P i)) τ → m_9_street 0 (nI i) 0 Q τ := fun {Q} {τ} e q => by
        refine a_st (c := c) (n := n) (l := l) (i := i) (r := 0) (by rw [e]; exact ok) hi (by omega) ?_
        rw [e, show 1 + 83 * i + 0 = 1 + 83 * i from rfl, cv]
        exact q
      unfold m_L_shift_47
      refine strt f.1 ⟨fun q => absurd q ?_, fun _ => ?_⟩
      · rw [li 2, pk_mul]
        exact nle_of hk (by omega)
      refine strt f.1 ⟨n0, strt f.1 ⟨n0, ?_⟩⟩
      rw [e2, e1]
      refine a_cell (c := c) (n := n) (l := l) (i := i) (r := 0) okτ hi b1 (by rw [f.1]; exact b2) (by omega) ?_
      rw [f.1, li 12, pk_mul, nI_add, tn _ (by omega), show 4 + 40 * 0 + 83 * i = 4 + 83 * i by omega]
      refine ⟨vin (by omega), fun σ10 e10 => ?_⟩
      have g10 := f.w (x := 354) (y := 12 * i + k) (v := P (4 + 83 * i + (20 * (k / cellsN P i) + k % cellsN P i))) (Or.inl rfl)
      rw [← e10] at g10
      refine strt g10.1 ⟨n0, strt g10.1 ⟨n0, ?_⟩⟩
      rw [e2, e1]
      refine a_cell (c := c) (n := n) (l := l) (i := i) (r := 1) (by rw [g10.1]; exact ok) hi b1 (by rw [g10.1]; exact b2) (by omega) ?_
      rw [g10.1, show 4 + 40 * 1 + 83 * i = 44 + 83 * i by omega]
      refine ⟨vin (by omega), fun σ17 e17 x ex => ?_⟩
      rw [ex, iplus]
      have f10 : FI n P 0 0 σ10 := ⟨g10.1, g10.2.1, g10.2.2, fun i k hi hk q => by omega⟩
      have g17 := f10.w (x := 355) (y := 12 * i + k) (v := P (44 + 83 * i + (20 * (k / cellsN P i) + k % cellsN P i))) (Or.inr rfl)
      rw [← e17] at g17
      refine hA σ17 ⟨g17.1, g17.2.1, g17.2.2, fun i' k' hi' hk' q => ?_⟩
      have c6' := s3 i' hi'
      by_cases z : i' = i ∧ k' = k
      · obtain ⟨rfl, rfl⟩ := z
        rw [e17, wr_cell (show (354 : Nat) ≠ 355 by omega), e10, wr_same, wr_same]
        exact ⟨rfl, rfl⟩
      · have ne : 12 * i' + k' ≠ 12 * i + k := by omega
        rw [e17, wr_cell (show (354 : Nat) ≠ 355 by omega), wr_else (Or.inr ne), e10, wr_else (Or.inr ne), wr_cell (show (355 : Nat) ≠ 354 by omega)]
        exact f.2.2.2 i' k' hi' hk' (by omega)
    · intro A τ f
      unfold m_L_shift_47
      refine a_st (c := c) (n := n) (l := l) (i := i) (r := 0) (by rw [f.1]; exact ok) hi (by omega) ?_
      rw [f.1, show 1 + 83 * i + 0 = 1 + 83 * i from rfl, cv]
      refine ⟨fun _ x ex => ?_, fun q => absurd ?_ q⟩
      · rw [ex, iplus]
        exact hB τ ⟨f.1, f.2.1, f.2.2.1, fun i' k' hi' hk' q => f.2.2.2 i' k' hi' hk' (by
          by_cases z : i' = i
          · subst z; exact Or.inr ⟨rfl, hk'⟩
          · exact Or.inl (by omega))⟩
      · rw [li 2, pk_mul]
        exact (lei (by omega) (by omega)).mpr (Nat.le_refl _)
  · intro B τ f
    unfold m_L_shift_38
    refine ⟨fun _ => ?_, fun q => absurd ((lei (by omega) (by omega)).mpr (Nat.le_refl n)) q⟩
    refine a_cnt (k := 2) (by omega) (by omega) ?_
    refine a_cnt (k := 3) (by omega) (by omega) ?_
    refine a_cnt (k := 4) (by omega) (by omega) ?_
    refine a_cnt (k := 5) (by omega) (by omega) ?_
    refine a_cnt (k := 6) (by omega) (by omega) ?_
    refine a_cnt (k := 7) (by omega) (by omega) ?_
    refine a_cnt (k := 8) (by omega) (by omega) ?_
    refine a_acc (c := c) (n := n) (l := l) (k := 5) (by rw [f.1]; exact ok) (by omega) ?_
    rw [f.1, show cntA 2 = 499 from rfl, show cntA 3 = 505 from rfl, show cntA 4 = 506 from rfl, show cntA 5 = 500 from rfl, show cntA 6 = 501 from rfl, show cntA 7 = 502 from rfl, show cntA 8 = 503 from rfl, show (556 + 5 : Nat) = 561 from rfl]
    have cl := clF_clr (l := l) (P := P) h10
    have kX : KX n P (clF l P) := ⟨fun y hy => cl.2.2 y (by
        obtain ⟨k1, k2, k3, k4, k5, k6, k7, k8, k9⟩ := kp_x hy
        rcases hy with q | ⟨a, r, hr, e, e2⟩ | q | q | q | q | q | q <;> omega), fun i m hi hm => cl.2.2 _ (by omega)⟩
    have qX : QB n P (clF l P) := by
      refine ⟨?_, fun y y1 y2 => cl.2.2 y (by omega)⟩
      rw [cl.2.2 506 (by omega), cl.2.2 561 (by omega)]
      have e : oS (clF l P) n = oS P n := by
        refine oS_cg n (fun i hi => ?_)
        have ec : cellsN (clF l P) i = cellsN P i := by unfold cellsN; rw [cl.2.2 _ (by omega)]
        have := hcs i hi
        exact ⟨ec, by rw [ec]; omega, fun s k hs hk => cl.2.2 _ (by rw [ec] at hk; omega)⟩
      rw [e]
    have main := L_outer (Q := Q) ok sm (f.LW (fun i hi => (hcs i hi).1)) (f.LD hcs h6 h10) (cl.ok ok) kX qX (cl.1 549 (by omega) (by omega)) (fun j hj => (cl.2.1 j hj).1) (fun σ' u' w' d' o' k' q' p' h' => L_end hc ok sm hb w' d' o' k' q' p' h' rfl rfl rfl h)
    unfold at10 at main
    rw [cl.1 549 (by omega) (by omega), cl.1 550 (by omega) (by omega), cl.1 551 (by omega) (by omega), cl.1 552 (by omega) (by omega), cl.1 553 (by omega) (by omega), cl.2.2 502 (by omega), cl.2.2 505 (by omega), cl.2.2 506 (by omega), cl.2.2 561 (by omega), Int32_sub0] at main
    exact main
