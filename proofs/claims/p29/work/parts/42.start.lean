def isR (c j : Nat) : Bool := match c with
  | 0 => j == 0
  | 2 => j == 0 || j == 2
  | 3 => j == 0
  | 5 => j == 0
  | 6 => j == 3 || j == 4
  | 7 => j == 0
  | 8 => j == 0 || j == 2 || j == 5 || j == 8 || j == 9
  | 9 => j == 0 || j == 1 || j == 2 || j == 3 || j == 4 || j == 5 || j == 6 || j == 7
  | 23 => decide (j < 6)
  | 24 => decide (j < 10)
  | 25 => decide (j < 8)
  | _ => false
/-- all cells are made, all references laid -/
def fullC (k : Cc) : Prop := k.2.2 = 354 ∧ ∀ a j, a < 354 → isR (kd a) j = true → k.2.1 a j = true
theorem fc_0 {ad : Nat → Nat} {k : Cc} {a : Nat} (h : ∀ j, isR 0 j = true → k.2.1 a j = true) : fsC ad k a 0 = fsOf ad k.1 a 0 := by
  have h0 := h 0 rfl
  simp [fsC, fsOf, rb, h0]
theorem fc_1 {ad : Nat → Nat} {k : Cc} {a : Nat} (h : ∀ j, isR 1 j = true → k.2.1 a j = true) : fsC ad k a 1 = fsOf ad k.1 a 1 := by
  simp [fsC, fsOf, rb]
theorem fc_2 {ad : Nat → Nat} {k : Cc} {a : Nat} (h : ∀ j, isR 2 j = true → k.2.1 a j = true) : fsC ad k a 2 = fsOf ad k.1 a 2 := by
  have h0 := h 0 rfl
  have h2 := h 2 rfl
  simp [fsC, fsOf, rb, h0, h2]
theorem fc_3 {ad : Nat → Nat} {k : Cc} {a : Nat} (h : ∀ j, isR 3 j = true → k.2.1 a j = true) : fsC ad k a 3 = fsOf ad k.1 a 3 := by
  have h0 := h 0 rfl
  simp [fsC, fsOf, rb, h0]
theorem fc_4 {ad : Nat → Nat} {k : Cc} {a : Nat} (h : ∀ j, isR 4 j = true → k.2.1 a j = true) : fsC ad k a 4 = fsOf ad k.1 a 4 := by
  simp [fsC, fsOf, rb]
theorem fc_5 {ad : Nat → Nat} {k : Cc} {a : Nat} (h : ∀ j, isR 5 j = true → k.2.1 a j = true) : fsC ad k a 5 = fsOf ad k.1 a 5 := by
  have h0 := h 0 rfl
  simp [fsC, fsOf, rb, h0]
theorem fc_6 {ad : Nat → Nat} {k : Cc} {a : Nat} (h : ∀ j, isR 6 j = true → k.2.1 a j = true) : fsC ad k a 6 = fsOf ad k.1 a 6 := by
  have h3 := h 3 rfl
  have h4 := h 4 rfl
  simp [fsC, fsOf, rb, h3, h4]
theorem fc_7 {ad : Nat → Nat} {k : Cc} {a : Nat} (h : ∀ j, isR 7 j = true → k.2.1 a j = true) : fsC ad k a 7 = fsOf ad k.1 a 7 := by
  have h0 := h 0 rfl
  simp [fsC, fsOf, rb, h0]
theorem fc_8 {ad : Nat → Nat} {k : Cc} {a : Nat} (h : ∀ j, isR 8 j = true → k.2.1 a j = true) : fsC ad k a 8 = fsOf ad k.1 a 8 := by
  have h0 := h 0 rfl
  have h2 := h 2 rfl
  have h5 := h 5 rfl
  have h8 := h 8 rfl
  have h9 := h 9 rfl
  simp [fsC, fsOf, rb, h0, h2, h5, h8, h9]
theorem fc_9 {ad : Nat → Nat} {k : Cc} {a : Nat} (h : ∀ j, isR 9 j = true → k.2.1 a j = true) : fsC ad k a 9 = fsOf ad k.1 a 9 := by
  have h0 := h 0 rfl
  have h1 := h 1 rfl
  have h2 := h 2 rfl
  have h3 := h 3 rfl
  have h4 := h 4 rfl
  have h5 := h 5 rfl
  have h6 := h 6 rfl
  have h7 := h 7 rfl
  simp [fsC, fsOf, rb, h0, h1, h2, h3, h4, h5, h6, h7]
theorem kd_lk : ∀ a, a < 358 → isLK (kd a) = true → 354 ≤ a := by decide +kernel
theorem fc_all {ad : Nat → Nat} {k : Cc} {a ci : Nat} (hc : ci < 10) (h : ∀ j, isR ci j = true → k.2.1 a j = true) : fsC ad k a ci = fsOf ad k.1 a ci := by
  match ci, hc with
  | 0, _ => exact fc_0 h
  | 1, _ => exact fc_1 h
  | 2, _ => exact fc_2 h
  | 3, _ => exact fc_3 h
  | 4, _ => exact fc_4 h
  | 5, _ => exact fc_5 h
  | 6, _ => exact fc_6 h
  | 7, _ => exact fc_7 h
  | 8, _ => exact fc_8 h
  | 9, _ => exact fc_9 h
/-- where the cells lie: 354 of them, none of the law's own -/
def adZ (base k : Nat) : Nat := if k = 999 then 0 else base + k
theorem adZ_lo {base k : Nat} (h : k < 354) : adZ base k = adB base k := by
  unfold adZ adB
  rw [if_neg (by omega)]
theorem conv_at {D : va_G} {ac : Nat → ClassId} {base : Nat} {k : Cc} {a q : Nat} {H : Heap} (ha : a < 354) (hf : ∀ j, isR (kd a) j = true → k.2.1 a j = true) (h : va_at D classes (q, imgC ac (adB base) k a) H) : va_at D classes (q, imgE ac (adZ base) k.1 a) H := by
  refine im_at (ad := adB base) (σ := k.1) ha (fun k hk => adZ_lo hk) rfl ?_
  generalize adB base = ad at h ⊢
  rcases kd_cases a (by omega) with c | c | c | c | c | c
  · have e : imgC ac ad k a = imgE ac ad k.1 a := by
      unfold imgC imgE
      rw [if_pos (by omega), if_pos (by omega), fc_all c hf]
    rw [← e]
    exact h
  · rw [c] at hf
    have e1 : imgC ac ad k a = .inl (ac 3, 6, .inr (.inr (.inr (.inr (fun j => if k.2.1 a j = true then some (ad (a + 5 + 3 * j)) else none))))) := by simp [imgC, c]
    have e2 : imgE ac ad k.1 a = .inl (ac 3, 6, .inr (.inr (.inr (.inr (fun j => some (ad (a + 5 + 3 * j))))))) := by simp [imgE, c]
    rw [e1] at h
    rw [e2]
    refine Eq.trans h (congrArg some (cellQ fun j hj => ?_))
    have := hf j (by simp [isR, hj])
    simp [this]
  · rw [c] at hf
    have e1 : imgC ac ad k a = .inl (ac 4, 10, .inr (.inr (.inr (.inr (fun j => if k.2.1 a j = true then some (ad (a + 22 + j)) else none))))) := by simp [imgC, c]
    have e2 : imgE ac ad k.1 a = .inl (ac 4, 10, .inr (.inr (.inr (.inr (fun j => some (ad (a + 22 + j))))))) := by simp [imgE, c]
    rw [e1] at h
    rw [e2]
    refine Eq.trans h (congrArg some (cellQ fun j hj => ?_))
    have := hf j (by simp [isR, hj])
    simp [this]
  · rw [c] at hf
    have e1 : imgC ac ad k a = .inl (ac 5, 8, .inr (.inr (.inr (.inr (fun j => if k.2.1 a j = true then some (ad (a + 1 + 34 * j)) else none))))) := by simp [imgC, c]
    have e2 : imgE ac ad k.1 a = .inl (ac 5, 8, .inr (.inr (.inr (.inr (fun j => some (ad (a + 1 + 34 * j))))))) := by simp [imgE, c]
    rw [e1] at h
    rw [e2]
    refine Eq.trans h (congrArg some (cellQ fun j hj => ?_))
    have := hf j (by simp [isR, hj])
    simp [this]
  · have e : imgC ac ad k a = imgE ac ad k.1 a := by rw [imgC_arr rfl c, imgE_pk rfl (Or.inl c)]
    rw [← e]
    exact h
  · exact absurd (kd_lk a (by omega) c) (by omega)
theorem conv_P {D : va_G} {ac : Nat → ClassId} {base : Nat} {k : Cc} {H : Heap} (hf : fullC k) (h : va_P D classes (wsC ac (adB base) k) H) : va_P D classes (wsL ac (adZ base) k.1) H := by
  intro i q hq
  obtain ⟨hi, e⟩ := wsL_ix hq
  subst e
  have hi : i < 354 := hi
  have h2 := h i _ (wsC_get (by rw [hf.1]; exact hi))
  rw [adZ_lo hi]
  exact conv_at hi (fun j hj => hf.2 i j hi hj) h2
theorem conv_D {A : Nat → Prop} {ac : Nat → ClassId} {base : Nat} {k : Cc} (hf : fullC k) (h : va_D A (wsC ac (adB base) k)) : va_D A (wsL ac (adZ base) k.1) := by
  have key : ∀ (i : Nat) (q : Nat × va_E), (wsL ac (adZ base) k.1)[i]? = some q → ∃ q', (wsC ac (adB base) k)[i]? = some q' ∧ q'.1 = q.1 := by
    intro i q hq
    obtain ⟨hi, e⟩ := wsL_ix hq
    subst e
    have hi : i < 354 := hi
    exact ⟨_, wsC_get (by rw [hf.1]; exact hi), (adZ_lo hi).symm⟩
  refine ⟨fun i j p q hi hj hpq => ?_, fun i q hi => ?_⟩
  · obtain ⟨p', h1, h2⟩ := key i p hi
    obtain ⟨q', h3, h4⟩ := key j q hj
    exact h.1 i j p' q' h1 h3 (by rw [h2, h4]; exact hpq)
  · obtain ⟨q', h1, h2⟩ := key i q hi
    rw [← h2]
    exact h.2 i q' h1
def k00 : Cc := ((fun _ _ => 0, 0), (fun _ _ => false), 0)
/-- WHAT IS LEFT, without the machine: the two constructors, then the law's loop -/
def pureAll (L : Nat) (xs : Nat → Int32) : Prop :=
  m_9_init 0 354 (fun k1 => fullC k1 ∧ m_L_law 0 L xs (fun v _ => v = 1) k1.1) (nxC k00)
theorem zer_k00 : zer k00 := ⟨fun _ => rfl, fun _ => rfl, rfl⟩
def R_law2 : String := "SweeperRoundsLaw"
theorem st_class {s : State} {args : Array Value} (hts : ∀ w ∈ lw_tbl, w.before args s = true) : ∃ (dC : Nat → ClassId) (dI : Nat → Nat → Nat), ∀ (k : Nat) (q : vw_C), classes[k]? = some q → u_Kn s q.1 q.2.1 q.2.2 (dC k) (dI k) := by
  obtain ⟨c0, i0, h0⟩ := u_known (C := "SweeperRounds$History") (T := FT0) (N := 3) (n := 3) hts (fun w hw => wA_sub (Fi0 w hw)) (hts _ (wA_sub wm_248))
  obtain ⟨c1, i1, h1⟩ := u_known (C := "SweeperRounds$Leg") (T := FT1) (N := 4) (n := 4) hts (fun w hw => wA_sub (Fi1 w hw)) (hts _ (wA_sub wm_143))
  obtain ⟨c2, i2, h2⟩ := u_known (C := "SweeperRounds$Orders") (T := FT2) (N := 4) (n := 4) hts (fun w hw => wA_sub (Fi2 w hw)) (hts _ (wA_sub wm_268))
  obtain ⟨c3, i3, h3⟩ := u_known (C := "SweeperRounds$Reader") (T := FT3) (N := 4) (n := 4) hts (fun w hw => wA_sub (Fi3 w hw)) (hts _ (wA_sub wm_44))
  obtain ⟨c4, i4, h4⟩ := u_known (C := "SweeperRounds$Report") (T := FT4) (N := 6) (n := 6) hts (fun w hw => wA_sub (Fi4 w hw)) (hts _ (wA_sub wm_106))
  obtain ⟨c5, i5, h5⟩ := u_known (C := "SweeperRounds$Round") (T := FT5) (N := 2) (n := 2) hts (fun w hw => wA_sub (Fi5 w hw)) (hts _ (wA_sub wm_235))
  obtain ⟨c6, i6, h6⟩ := u_known (C := "SweeperRounds$Street") (T := FT6) (N := 5) (n := 5) hts (fun w hw => wA_sub (Fi6 w hw)) (hts _ (wA_sub wm_50))
  obtain ⟨c7, i7, h7⟩ := u_known (C := "SweeperRounds$Text") (T := FT7) (N := 2) (n := 2) hts (fun w hw => wA_sub (Fi7 w hw)) (hts _ (wA_sub wm_30))
  obtain ⟨c8, i8, h8⟩ := u_known (C := "SweeperRounds$World") (T := FT8) (N := 12) (n := 12) hts (fun w hw => wA_sub (Fi8 w hw)) (hts _ (wA_sub wm_96))
  obtain ⟨c9, i9, h9⟩ := u_known (C := "SweeperRounds") (T := FT9) (N := 9) (n := 9) hts (fun w hw => wA_sub (Fi9 w hw)) (hts _ (wA_sub wm_22))
  refine ⟨fun k => if k = 0 then c0 else if k = 1 then c1 else if k = 2 then c2 else if k = 3 then c3 else if k = 4 then c4 else if k = 5 then c5 else if k = 6 then c6 else if k = 7 then c7 else if k = 8 then c8 else c9, fun k => if k = 0 then i0 else if k = 1 then i1 else if k = 2 then i2 else if k = 3 then i3 else if k = 4 then i4 else if k = 5 then i5 else if k = 6 then i6 else if k = 7 then i7 else if k = 8 then i8 else i9, ?_⟩
  intro k q hq
  match k, hq with
  | 0, hq => cases hq; exact h0
  | 1, hq => cases hq; exact h1
  | 2, hq => cases hq; exact h2
  | 3, hq => cases hq; exact h3
  | 4, hq => cases hq; exact h4
  | 5, hq => cases hq; exact h5
  | 6, hq => cases hq; exact h6
  | 7, hq => cases hq; exact h7
  | 8, hq => cases hq; exact h8
  | 9, hq => cases hq; exact h9
  | k + 10, hq => simp [classes] at hq
theorem st_prim {s : State} {args : Array Value} {ty : FieldType} (h : (Cond.arrayClass ty).before args s = true) : ∃ cA : ClassId, ArrOfT s cA ty ∧ s.vm.findClass ("[" ++ ty.toString) = some cA := by
  obtain ⟨c, k, comp, h1, h2, h3⟩ := Cond.arrayClass_spec h
  exact ⟨c, fun n z => ⟨fun k h => (by cases h), k, h2, comp, h3⟩, h1⟩
theorem st_refs {s : State} {args : Array Value} {C : String} (h : (Cond.arrayOver (.object C)).before args s = true) : ∃ cA : ClassId, ArrOfT s cA (.object C) ∧ va_RA s cA (.object C) ∧ va_AO C s := by
  obtain ⟨comp, c, k, h1, h2, h3, h4, h5⟩ := Cond.arrayOver_spec h
  exact ⟨c, fun n z => ⟨fun k h => (by cases h), k, h3, comp, h4⟩, ⟨k, comp, h3, h4, h1, h5⟩, h⟩
theorem st_arr0 {s : State} {args : Array Value} {A : Nat → Prop} (hts : ∀ w ∈ lw_tbl, w.before args s = true) (hgv : (Jvm.Cond.and given_1 narrow_1).before args s = true) (hA : ∀ a : Nat, a < s.heap.size → ¬ A a) : ∃ t : Nat, va_Z "SweeperRounds" "FIRST_SETTINGS" "[I" (.ref t) A s s.heap ∧ va_T .int t 6 (fun i => .int (stV 0 i)) A s s.heap := by
  have hs := flat_of_before _ hgv
  obtain ⟨t, h1, h2⟩ := va_Tof (tm := Term.static "SweeperRounds" "FIRST_SETTINGS" "[I") (N := 6) (f := fun i => .int (stV 0 i)) (A := A) (by decide) (hs (Cond.arrayOf (Term.static "SweeperRounds" "FIRST_SETTINGS" "[I") .int) (by decide +kernel)) (va_eqt (hs (Cond.eq (Term.length (Term.static "SweeperRounds" "FIRST_SETTINGS" "[I")) (Term.int 6)) (by decide +kernel))) (fun i hi => by
    match i, hi with
    | 0, _ => exact va_eqt (hs (Cond.eq (Term.elem (Term.static "SweeperRounds" "FIRST_SETTINGS" "[I") (Term.int 0)) (Term.int (stV 0 0))) (by decide +kernel))
    | 1, _ => exact va_eqt (hs (Cond.eq (Term.elem (Term.static "SweeperRounds" "FIRST_SETTINGS" "[I") (Term.int 1)) (Term.int (stV 0 1))) (by decide +kernel))
    | 2, _ => exact va_eqt (hs (Cond.eq (Term.elem (Term.static "SweeperRounds" "FIRST_SETTINGS" "[I") (Term.int 2)) (Term.int (stV 0 2))) (by decide +kernel))
    | 3, _ => exact va_eqt (hs (Cond.eq (Term.elem (Term.static "SweeperRounds" "FIRST_SETTINGS" "[I") (Term.int 3)) (Term.int (stV 0 3))) (by decide +kernel))
    | 4, _ => exact va_eqt (hs (Cond.eq (Term.elem (Term.static "SweeperRounds" "FIRST_SETTINGS" "[I") (Term.int 4)) (Term.int (stV 0 4))) (by decide +kernel))
    | 5, _ => exact va_eqt (hs (Cond.eq (Term.elem (Term.static "SweeperRounds" "FIRST_SETTINGS" "[I") (Term.int 5)) (Term.int (stV 0 5))) (by decide +kernel))) hA
  exact ⟨t, va_Zof (hts (Cond.laysStatic "SweeperRounds" "FIRST_SETTINGS" "[I") (by exact List.mem_append_right _ (List.mem_of_getElem? (i := 164) (by decide +kernel)))) (hts _ (wA_sub wm_9)) h1 hA, h2⟩
theorem st_arr1 {s : State} {args : Array Value} {A : Nat → Prop} (hts : ∀ w ∈ lw_tbl, w.before args s = true) (hgv : (Jvm.Cond.and given_1 narrow_1).before args s = true) (hA : ∀ a : Nat, a < s.heap.size → ¬ A a) : ∃ t : Nat, va_Z "SweeperRounds" "LEAST_SETTINGS" "[I" (.ref t) A s s.heap ∧ va_T .int t 6 (fun i => .int (stV 1 i)) A s s.heap := by
  have hs := flat_of_before _ hgv
  obtain ⟨t, h1, h2⟩ := va_Tof (tm := Term.static "SweeperRounds" "LEAST_SETTINGS" "[I") (N := 6) (f := fun i => .int (stV 1 i)) (A := A) (by decide) (hs (Cond.arrayOf (Term.static "SweeperRounds" "LEAST_SETTINGS" "[I") .int) (by decide +kernel)) (va_eqt (hs (Cond.eq (Term.length (Term.static "SweeperRounds" "LEAST_SETTINGS" "[I")) (Term.int 6)) (by decide +kernel))) (fun i hi => by
    match i, hi with
    | 0, _ => exact va_eqt (hs (Cond.eq (Term.elem (Term.static "SweeperRounds" "LEAST_SETTINGS" "[I") (Term.int 0)) (Term.int (stV 1 0))) (by decide +kernel))
    | 1, _ => exact va_eqt (hs (Cond.eq (Term.elem (Term.static "SweeperRounds" "LEAST_SETTINGS" "[I") (Term.int 1)) (Term.int (stV 1 1))) (by decide +kernel))
    | 2, _ => exact va_eqt (hs (Cond.eq (Term.elem (Term.static "SweeperRounds" "LEAST_SETTINGS" "[I") (Term.int 2)) (Term.int (stV 1 2))) (by decide +kernel))
    | 3, _ => exact va_eqt (hs (Cond.eq (Term.elem (Term.static "SweeperRounds" "LEAST_SETTINGS" "[I") (Term.int 3)) (Term.int (stV 1 3))) (by decide +kernel))
    | 4, _ => exact va_eqt (hs (Cond.eq (Term.elem (Term.static "SweeperRounds" "LEAST_SETTINGS" "[I") (Term.int 4)) (Term.int (stV 1 4))) (by decide +kernel))
    | 5, _ => exact va_eqt (hs (Cond.eq (Term.elem (Term.static "SweeperRounds" "LEAST_SETTINGS" "[I") (Term.int 5)) (Term.int (stV 1 5))) (by decide +kernel))) hA
  exact ⟨t, va_Zof (hts (Cond.laysStatic "SweeperRounds" "LEAST_SETTINGS" "[I") (by exact List.mem_append_right _ (List.mem_of_getElem? (i := 402) (by decide +kernel)))) (hts _ (wA_sub wm_9)) h1 hA, h2⟩
theorem st_arr2 {s : State} {args : Array Value} {A : Nat → Prop} (hts : ∀ w ∈ lw_tbl, w.before args s = true) (hgv : (Jvm.Cond.and given_1 narrow_1).before args s = true) (hA : ∀ a : Nat, a < s.heap.size → ¬ A a) : ∃ t : Nat, va_Z "SweeperRounds" "MOST_SETTINGS" "[I" (.ref t) A s s.heap ∧ va_T .int t 6 (fun i => .int (stV 2 i)) A s s.heap := by
  have hs := flat_of_before _ hgv
  obtain ⟨t, h1, h2⟩ := va_Tof (tm := Term.static "SweeperRounds" "MOST_SETTINGS" "[I") (N := 6) (f := fun i => .int (stV 2 i)) (A := A) (by decide) (hs (Cond.arrayOf (Term.static "SweeperRounds" "MOST_SETTINGS" "[I") .int) (by decide +kernel)) (va_eqt (hs (Cond.eq (Term.length (Term.static "SweeperRounds" "MOST_SETTINGS" "[I")) (Term.int 6)) (by decide +kernel))) (fun i hi => by
    match i, hi with
    | 0, _ => exact va_eqt (hs (Cond.eq (Term.elem (Term.static "SweeperRounds" "MOST_SETTINGS" "[I") (Term.int 0)) (Term.int (stV 2 0))) (by decide +kernel))
    | 1, _ => exact va_eqt (hs (Cond.eq (Term.elem (Term.static "SweeperRounds" "MOST_SETTINGS" "[I") (Term.int 1)) (Term.int (stV 2 1))) (by decide +kernel))
    | 2, _ => exact va_eqt (hs (Cond.eq (Term.elem (Term.static "SweeperRounds" "MOST_SETTINGS" "[I") (Term.int 2)) (Term.int (stV 2 2))) (by decide +kernel))
    | 3, _ => exact va_eqt (hs (Cond.eq (Term.elem (Term.static "SweeperRounds" "MOST_SETTINGS" "[I") (Term.int 3)) (Term.int (stV 2 3))) (by decide +kernel))
    | 4, _ => exact va_eqt (hs (Cond.eq (Term.elem (Term.static "SweeperRounds" "MOST_SETTINGS" "[I") (Term.int 4)) (Term.int (stV 2 4))) (by decide +kernel))
    | 5, _ => exact va_eqt (hs (Cond.eq (Term.elem (Term.static "SweeperRounds" "MOST_SETTINGS" "[I") (Term.int 5)) (Term.int (stV 2 5))) (by decide +kernel))) hA
  exact ⟨t, va_Zof (hts (Cond.laysStatic "SweeperRounds" "MOST_SETTINGS" "[I") (by exact List.mem_append_right _ (List.mem_of_getElem? (i := 404) (by decide +kernel)))) (hts _ (wA_sub wm_9)) h1 hA, h2⟩
theorem st_nestM {s : State} {args : Array Value} (hts : ∀ w ∈ lw_tbl, w.before args s = true) : ∀ q ∈ nestM, va_Nw (.methodLinkNest q.1 q.2.1 q.2.2.1 q.2.2.2) s := fun q hq =>
  va_Nw.of rfl (hts _ ((by decide +kernel : ∀ q ∈ nestM, Cond.methodLinkNest q.1 q.2.1 q.2.2.1 q.2.2.2 ∈ lw_tbl) q hq))
theorem st_nestF {s : State} {args : Array Value} (hts : ∀ w ∈ lw_tbl, w.before args s = true) : ∀ q ∈ nestF, va_Nw (.fieldLinkNest q.1 q.2.1 q.2.2.1 q.2.2.2.1 q.2.2.2.2.1 q.2.2.2.2.2) s := fun q hq =>
  va_Nw.of rfl (hts _ ((by decide +kernel : ∀ q ∈ nestF, Cond.fieldLinkNest q.1 q.2.1 q.2.2.1 q.2.2.2.1 q.2.2.2.2.1 q.2.2.2.2.2 ∈ lw_tbl) q hq))
/-- what stays over the whole run, from the law's start -/
theorem st_all {s : State} {args : Array Value} {A : Nat → Prop} {b L : Nat} {xs : Nat → Int32} (hts : ∀ w ∈ lw_tbl, w.before args s = true) (hgv : (Jvm.Cond.and given_1 narrow_1).before args s = true) (hA : ∀ a : Nat, a < s.heap.size → ¬ A a) (hX : va_X b L xs s s.heap) (hbl : b < s.heap.size) : ∃ (D : va_G) (ac : Nat → ClassId) (st : SS), KSc A D ac st s ∧ st.1 3 = b ∧ st.2 = (L, xs) := by
  obtain ⟨dC, dI, hKc⟩ := st_class hts
  obtain ⟨a0, h0, g0⟩ := st_prim (hts _ (wA_sub wm_83))
  obtain ⟨a1, h1, g1⟩ := st_prim (hts _ (wA_sub wm_42))
  obtain ⟨a2, h2, g2⟩ := st_prim (hts _ (wA_sub wm_84))
  obtain ⟨a3, h3, g3, f3⟩ := st_refs (hts (Cond.arrayOver (FieldType.object "SweeperRounds$Street")) (by exact List.mem_append_right _ (List.mem_of_getElem? (i := 94) (by decide +kernel))))
  obtain ⟨a4, h4, g4, f4⟩ := st_refs (hts (Cond.arrayOver (FieldType.object "SweeperRounds$Leg")) (by exact List.mem_append_right _ (List.mem_of_getElem? (i := 96) (by decide +kernel))))
  obtain ⟨a5, h5, g5, f5⟩ := st_refs (hts (Cond.arrayOver (FieldType.object "SweeperRounds$World")) (by exact List.mem_append_right _ (List.mem_of_getElem? (i := 246) (by decide +kernel))))
  obtain ⟨t0, z0⟩ := st_arr0 hts hgv hA
  obtain ⟨t1, z1⟩ := st_arr1 hts hgv hA
  obtain ⟨t2, z2⟩ := st_arr2 hts hgv hA
  refine ⟨(dC, dI), fun k => if k = 0 then a0 else if k = 1 then a1 else if k = 2 then a2 else if k = 3 then a3 else if k = 4 then a4 else a5, (fun k => if k = 0 then t0 else if k = 1 then t1 else if k = 2 then t2 else b, (L, xs)), ⟨⟨⟨hKc, fun k q hq => ?_⟩, st_nestM hts, st_nestF hts, fun j hj => ?_, hX, hbl, hA b hbl⟩, f3, f4, f5⟩, rfl, rfl⟩
  · match k, hq with
    | 0, hq => cases hq; exact ⟨h0, g0⟩
    | 1, hq => cases hq; exact ⟨h1, g1⟩
    | 2, hq => cases hq; exact ⟨h2, g2⟩
    | 3, hq => cases hq; exact ⟨h3, g3⟩
    | 4, hq => cases hq; exact ⟨h4, g4⟩
    | 5, hq => cases hq; exact ⟨h5, g5⟩
    | k + 6, hq => simp at hq
  · match j, hj with
    | 0, _ => exact z0
    | 1, _ => exact z1
    | 2, _ => exact z2
theorem d_L_law_0 : decode code 0 = .ok (.new 21, 3) := by decide +kernel
theorem d_L_law_3 : decode code 3 = .ok (.dup, 1) := by decide +kernel
theorem d_L_law_4 : decode code 4 = .ok (.invokespecial 69, 3) := by decide +kernel
theorem d_L_law_7 : decode code 7 = .ok (.astore_n 1, 1) := by decide +kernel
set_option maxHeartbeats 4000000 in
set_option maxRecDepth 100000 in
/-- THE LAW from its entry, over what is left without the machine -/
theorem whole_of {p : Program} {e : Env} {s : State} {m : MethodId} {below : List Frame} {meth : Method} {c : Code} (l : Launch) {b L : Nat} {xs : Nat → Int32} (C0 : lw_At p s m meth c b L xs) (hpure : pureAll L xs) : W p l e room_1 s m #[Value.ref b] below meth c s.heap [] 0 0 (lw_Z below #[Value.ref b] s) (entryFrame m ([Value.ref b] : List Value).toArray 10) := by
  obtain ⟨hx, hb, hr, hml, hown, hts, hX, hbl, hlocks, hgv⟩ := id C0
  have hA0 : ∀ a : Nat, a < s.heap.size → ¬ (fun q : Nat => s.heap.size ≤ q) a := fun a h => Nat.not_le.mpr h
  obtain ⟨D, ac, st, hK, hst3, hst2⟩ := st_all hts hgv hA0 hX hbl
  obtain ⟨st1, stL, stX⟩ := st
  obtain ⟨rfl, rfl⟩ : stL = L ∧ stX = xs := by cases hst2; exact ⟨rfl, rfl⟩
  have hst3 : st1 3 = b := hst3
  generalize hAe : (fun q : Nat => s.heap.size ≤ q) = A at hK hA0
  have hA : ∀ q, s.heap.size ≤ q → A q := fun q h => by rw [← hAe]; exact h
  have hsz : SZ 354 ≤ 7302250 := Nat.le_of_ble_eq_true (by decide +kernel)
  have S : SCc A D ac (st1, (stL, stX)) s.heap.size p m c code 10 s #[Value.ref b] "SweeperRoundsLaw" room_1 0 0 354 9 384 :=
    ⟨⟨hx, hb, hml, hown, fun w hw => hts w (wA_sub hw)⟩, hK, ⟨Nat.le_of_ble_eq_true rfl, hsz⟩, Nat.le_of_ble_eq_true rfl, Nat.le_of_ble_eq_true rfl, hA, rfl⟩
  have hG : DGc A D ac s.heap.size s 0 0 k00 s.heap [] 0 0 := ⟨fun k q h => by simp [wsC, k00] at h, ⟨fun i j p q h => by simp [wsC, k00] at h, fun k q h => by simp [wsC, k00] at h⟩, va_S.rf, rfl, rfl⟩
  have hl := lv_entry ([.ref b]) (n := 10) (Nat.le_of_ble_eq_true rfl)
  rw [lg_entry_eq]
  generalize (lg_sl ([.ref b]) ++ List.replicate (10 - (lg_sl ([.ref b])).length) Slot.unset).toArray = ls at hl ⊢
  have hl : lv_has ls 10 [(0, .ref b)] := hl
  unfold pureAll at hpure
  refine nObj S hG (Nat.le_of_ble_eq_true rfl) (by decide +kernel) rfl (by decide) Fi9 Ft9 Fy9 wm_21 wm_22 wm_9 (zf_9 zer_k00) d_L_law_0 (fun n en k1 ek H cells slots hG => ?_)
  have hn : n = 0 := en
  subst hn
  subst ek
  refine lv_dup hx hb d_L_law_3 rfl ?_
  refine nCall [] S hl.1 hG (N1 := 354) (Nat.le_of_ble_eq_true rfl) (Nat.le_of_ble_eq_true rfl) (c_9_init l hA (Nat.le_of_ble_eq_true rfl) (by decide +kernel) hpure) (fun hM hp => va_runI (As := []) S.1 hM (nCwI (n := 0) S wm_23 wm_24 wm_9 wm_25 rfl (by decide) ⟨Nat.le_of_ble_eq_true rfl, Nat.le_of_ble_eq_true rfl⟩) hp rfl rfl hl.1 rfl (lv_room (Nat.le_of_ble_eq_true rfl)) d_L_law_4 (nRoomC S hG (Nat.le_of_ble_eq_true rfl) (Nat.le_of_ble_eq_true rfl))) (fun k3 hn3 hf H locs cells slots hG => ?_)
  refine lv_astore_n (lv' := [(1, .ref (adB s.heap.size 0)), (0, .ref b)]) hx hb d_L_law_7 rfl hl (by decide) rfl (fun ls hl => ?_)
  obtain ⟨hfull, hf⟩ := hf
  have hcs : cells ≤ 354 ∧ slots ≤ SZ 354 := by
    have e1 := hG.2.2.2.1
    have e2 := hG.2.2.2.2
    rw [hn3] at e1 e2
    omega
  have hsz2 : SZ 354 ≤ 100000 := Nat.le_of_ble_eq_true (by decide +kernel)
  have r1 : room_1.cells = 600000 := rfl
  have r2 : room_1.slots = 7302250 := rfl
  have S2 : SC A D ac (st1, (stL, stX)) p m c code 10 s #[Value.ref b] "SweeperRoundsLaw" room_1 cells slots 7 191 :=
    ⟨S.1, hK.1, ⟨by omega, by omega⟩, Nat.le_of_ble_eq_true rfl, Nat.le_of_ble_eq_true rfl⟩
  have hG2 : DG A D ac (adZ s.heap.size) s k3.1 H locs := ⟨conv_P hfull hG.1, conv_D hfull hG.2.1, hG.2.2.1⟩
  have hl2 : lv_has ls 10 [(0, .ref (st1 3)), (1, .ref (adZ s.heap.size 0))] := by
    rw [hst3]
    exact lv_sub hl [1, 0] rfl
  refine w_L_law_8 (ad := adZ s.heap.size) (r1 := 0) S2 (by omega) ⟨rfl, hA⟩ (fun cells slots S3 v u H locs pc ls hG hq hdg => ?_) (by decide +kernel) hG2 hl2 hf
  subst hq
  refine va_forget (fun q hq => ?_) ?_
  · have h3 := hG.2.2.2.2 q hq
    rw [← hAe] at h3
    exact h3
  refine W.widen (k := 600000) (n := 7302250) S3.2.2.1.1 S3.2.2.1.2 ?_
  exact lw_ret hx hb hr hlocks hdg
