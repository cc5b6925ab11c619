theorem eC.rf {C : Nat} {σ : St} : eC C σ σ := ⟨fun _ _ => rfl, rfl⟩
theorem eC.tr {C : Nat} {σ τ υ : St} (h : eC C σ τ) (h' : eC C τ υ) : eC C σ υ := ⟨fun a ha => (h'.1 a ha).trans (h.1 a ha), h'.2.trans h.2⟩
abbrev dI (T : Nat → Nat) (i : Nat) : Prop := 48 ≤ T i ∧ T i ≤ 57
abbrev lI (T : Nat → Nat) (i : Nat) : Prop := 97 ≤ T i ∧ T i ≤ 106
abbrev ceI (T : Nat → Nat) (i : Nat) : Prop := dI T i ∨ lI T i
/-- kind of the fault (0: none), place behind what was read or place of the fault, value -/
def rdD (T : Nat → Nat) : Nat × Nat × Nat :=
  if dI T 0 then
    if dI T 1 then
      if dI T 2 then (1, 2, 0)
      else if 60 < 10 * (T 0 - 48) + (T 1 - 48) then (2, 0, 0)
      else if T 2 = 47 then (0, 3, 10 * (T 0 - 48) + (T 1 - 48)) else (1, 2, 0)
    else if T 1 = 47 then (0, 2, T 0 - 48) else (1, 1, 0)
  else (1, 0, 0)
def rdT (T : Nat → Nat) (i : Nat) : Nat × Nat × Nat := if dI T i then (if T (i + 1) = 47 then (0, i + 2, T i - 48) else (1, i + 1, 0)) else (1, i, 0)
def cnL (T : Nat → Nat) (i k : Nat) : Nat :=
  match k with
  | 0 => 0
  | k + 1 => if ceI T i then cnL T (i + 1) k + 1 else 0
def rdLw (T : Nat → Nat) (i w : Nat) : Nat × Nat × Nat := if w = 0 then (1, i, 0) else if T (i + w) = 47 then (0, i + w + 1, w) else (1, i + w, 0)
def rdL (T : Nat → Nat) (i : Nat) : Nat × Nat × Nat := rdLw T i (cnL T i 20)
def i1 (T : Nat → Nat) : Nat := (rdD T).2.1
def i2 (T : Nat → Nat) : Nat := (rdT T (i1 T)).2.1
def i3 (T : Nat → Nat) : Nat := (rdL T (i2 T)).2.1
-- the start: the objects are made
/-- N cells are made, nothing is laid behind them -/
def FR (k : Cc) (N : Nat) : Prop := k.2.2 = N ∧ (∀ a j, N ≤ a → k.1.1 a j = 0 ∧ k.2.1 a j = false) ∧ k.1.2 = 0
def Mo (k k' : Cc) : Prop := ∀ a j, k.2.1 a j = true → k'.2.1 a j = true
/-- all references of the cells from r on are laid -/
def DN (k : Cc) (r N : Nat) : Prop := ∀ a j, r ≤ a → a < N → isR (kd a) j = true → k.2.1 a j = true
theorem FR.zer {k : Cc} {N : Nat} (f : FR k N) : zer k := ⟨fun j => (f.2.1 _ j (by rw [f.1]; exact Nat.le_refl N)).1, fun j => (f.2.1 _ j (by rw [f.1]; exact Nat.le_refl N)).2, f.2.2⟩
theorem FR.nx {k : Cc} {N : Nat} (f : FR k N) : FR (nxC k) (N + 1) := ⟨by show k.2.2 + 1 = N + 1; rw [f.1], fun a j h => f.2.1 a j (by omega), f.2.2⟩
theorem FR.wl {k : Cc} {N a j : Nat} (f : FR k N) (h : a < N) : FR (wrR k a j) N := ⟨f.1, fun b i hb => ⟨(f.2.1 b i hb).1, by rw [wrR_ne (by omega)]; exact (f.2.1 b i hb).2⟩, f.2.2⟩
theorem FR.wi {k : Cc} {N a j : Nat} {v : Int32} (f : FR k N) (h : a < N) : FR (wrI k a j v) N := ⟨f.1, fun b i hb => ⟨by show (wr k.1 a j v).1 b i = 0; rw [wr_cell (by omega)]; exact (f.2.1 b i hb).1, (f.2.1 b i hb).2⟩, f.2.2⟩
theorem FR.wf {k : Cc} {N a : Nat} {g : Nat → Int32} (f : FR k N) (h : a < N) : FR (wrF k a g) N := ⟨f.1, fun b i hb => ⟨by show (wrA k.1 a g).1 b i = 0; rw [wrA_ne (by omega)]; exact (f.2.1 b i hb).1, (f.2.1 b i hb).2⟩, f.2.2⟩
theorem Mo.rf {k : Cc} : Mo k k := fun _ _ h => h
theorem Mo.tr {k k' k'' : Cc} (h : Mo k k') (h' : Mo k' k'') : Mo k k'' := fun a j q => h' a j (h a j q)
theorem Mo.wr {k k' : Cc} {a j : Nat} (h : Mo k k') : Mo k (wrR k' a j) := fun b i q => by
  show (if b = a ∧ i = j then true else k'.2.1 b i) = true
  split
  · rfl
  · exact h b i q
theorem Mo.nx {k k' : Cc} (h : Mo k k') : Mo k (nxC k') := h
theorem wrR_t {k : Cc} {a j : Nat} : (wrR k a j).2.1 a j = true := by
  show (if a = a ∧ j = j then true else k.2.1 a j) = true
  rw [if_pos ⟨rfl, rfl⟩]
theorem DN.mo {k k' : Cc} {r N : Nat} (d : DN k r N) (h : Mo k k') : DN k' r N := fun a j h1 h2 q => h a j (d a j h1 h2 q)
theorem DN.ap {k : Cc} {r m N : Nat} (d : DN k r m) (d' : DN k m N) : DN k r N := fun a j h1 h2 q => by
  by_cases z : a < m
  · exact d a j h1 z q
  · exact d' a j (by omega) h2 q
theorem DN.one {k : Cc} {r c : Nat} (hk : kd r = c) (h : ∀ j, isR c j = true → k.2.1 r j = true) : DN k r (r + 1) := fun a j h1 h2 q => by
  have e : a = r := by omega
  subst e
  rw [hk] at q
  exact h j q
theorem DN.no {k : Cc} {r c : Nat} (hk : kd r = c) (h : ∀ j, isR c j = false) : DN k r (r + 1) := DN.one hk (fun j q => by rw [h j] at q; cases q)
theorem s_6_init {r Ne : Nat} {Q : Cc → Prop} {k : Cc} (f : FR k (r + 1)) (hN : Ne = r + 3) (k1 : kd r = 6) (k2 : kd (r + 1) = 20) (k3 : kd (r + 2) = 22) (hQ : ∀ k', FR k' (r + 3) → Mo k k' → k'.1 = k.1 → DN k' r (r + 3) → Q k') : m_6_init r Ne Q k := by
  subst hN
  unfold m_6_init
  refine ⟨by rw [f.1]; omega, by rw [f.1]; exact k2, f.zer, fun n1 en1 kb eb => ?_⟩
  have F2 : FR kb (r + 2) := by rw [eb]; exact f.nx
  refine ⟨by rw [F2.1]; omega, by rw [en1, f.1], fun kc ec => ?_⟩
  have F3 : FR kc (r + 2) := by rw [ec]; exact F2.wl (by omega)
  refine ⟨by rw [F3.1]; omega, by rw [F3.1]; exact k3, F3.zer, fun n4 en4 ke ee => ?_⟩
  have F5 : FR ke (r + 3) := by rw [ee]; exact F3.nx
  refine ⟨by rw [F5.1]; omega, by rw [en4, F3.1], fun kf ef => ?_⟩
  have F6 : FR kf (r + 3) := by rw [ef]; exact F5.wl (by omega)
  have t3 : kf.2.1 r 3 = true := by
    rw [ef, ee, ec]
    exact (Mo.rf.nx.wr : Mo (wrR kb r 3) (wrR (nxC (wrR kb r 3)) r 4)) r 3 wrR_t
  have t4 : kf.2.1 r 4 = true := by rw [ef]; exact wrR_t
  refine ⟨F6.1, hQ kf F6 ?_ ?_ ?_⟩
  · rw [ef, ee, ec, eb]
    exact Mo.rf.nx.wr.nx.wr
  · rw [ef, ee, ec, eb]
    rfl
  · refine DN.ap (m := r + 1) (DN.one k1 (fun j q => ?_)) (DN.ap (m := r + 2) (DN.no k2 (fun _ => rfl)) (DN.no k3 (fun _ => rfl)))
    simp [isR] at q
    rcases q with rfl | rfl
    · exact t3
    · exact t4
/-- the kinds of a world's cells -/
def KW (r : Nat) : Prop := kd r = 8 ∧ kd (r + 1) = 23 ∧ kd (r + 2) = 24 ∧ kd (r + 3) = 26 ∧ kd (r + 4) = 27 ∧ kd (r + 5) = 4 ∧ (∀ i, i < 6 → kd (r + 6 + 3 * i) = 6 ∧ kd (r + 6 + 3 * i + 1) = 20 ∧ kd (r + 6 + 3 * i + 2) = 22) ∧ ∀ i, i < 10 → kd (r + 24 + i) = 1
theorem s_8_init {r Ne : Nat} {Q : Cc → Prop} {k : Cc} (f : FR k (r + 1)) (hN : Ne = r + 34) (z : ∀ j, k.1.1 r j = 0) (K : KW r) (hQ : ∀ k', FR k' (r + 34) → Mo k k' → (∀ a, a ≠ r → a ≠ r + 3 → k'.1.1 a = k.1.1 a) → DN k' r (r + 34) → (∀ j, k'.1.1 r j = if j = 6 then 1000 else 0) → (∀ j, k'.1.1 (r + 3) j = if j < 6 then stV 0 j else 0) → Q k') : m_8_init r Ne Q k := by
  subst hN
  obtain ⟨k0, k1, k2, k3, k4, k5, ks, kl⟩ := K
  unfold m_8_init
  refine ⟨by rw [f.1]; omega, by rw [f.1]; exact k1, f.zer, fun n1 en1 ka ea => ?_⟩
  have A : FR ka (r + 2) := by rw [ea]; exact f.nx
  refine ⟨by rw [A.1]; omega, by rw [en1, f.1], fun kb eb => ?_⟩
  have B : FR kb (r + 2) := by rw [eb]; exact A.wl (by omega)
  refine ⟨by rw [B.1]; omega, by rw [B.1]; exact k2, B.zer, fun n2 en2 kc ec => ?_⟩
  have C : FR kc (r + 3) := by rw [ec]; exact B.nx
  refine ⟨by rw [C.1]; omega, by rw [en2, B.1], fun kd' ed => ?_⟩
  have D : FR kd' (r + 3) := by rw [ed]; exact C.wl (by omega)
  refine ⟨by rw [D.1]; omega, by rw [D.1]; exact k3, D.zer, fun n3 en3 ke ee => ?_⟩
  have E : FR ke (r + 4) := by rw [ee]; exact D.nx
  refine ⟨by rw [E.1]; omega, by rw [en3, D.1], fun kf ef => ?_⟩
  have F : FR kf (r + 4) := by rw [ef]; exact E.wl (by omega)
  refine ⟨by rw [F.1]; omega, by rw [F.1]; exact k4, F.zer, fun n4 en4 kg eg => ?_⟩
  have G : FR kg (r + 5) := by rw [eg]; exact F.nx
  refine ⟨by rw [G.1]; omega, by rw [en4, F.1], fun kh eh => ?_⟩
  have H : FR kh (r + 5) := by rw [eh]; exact G.wl (by omega)
  refine ⟨by rw [H.1]; omega, by rw [H.1]; exact k5, H.zer, fun n5 en5 ki ei => ?_⟩
  have I : FR ki (r + 6) := by rw [ei]; exact H.nx
  refine ⟨by rw [I.1]; omega, ?_⟩
  unfold m_4_init
  refine ⟨rfl, by rw [I.1]; omega, by rw [en5, H.1], fun kj ej => ?_⟩
  have J : FR kj (r + 6) := by rw [ej]; exact I.wl (by omega)
  have v0 : kj.1 = k.1 := by rw [ej, ei, eh, eg, ef, ee, ed, ec, eb, ea]; rfl
  have mk : Mo k kj := by rw [ej, ei, eh, eg, ef, ee, ed, ec, eb, ea]; exact Mo.rf.nx.wr.nx.wr.nx.wr.nx.wr.nx.wr
  have r0 : kj.2.1 r 0 = true := by
    have h : Mo kb kj := by rw [ej, ei, eh, eg, ef, ee, ed, ec]; exact Mo.rf.nx.wr.nx.wr.nx.wr.nx.wr
    exact h r 0 (by rw [eb]; exact wrR_t)
  have r2 : kj.2.1 r 2 = true := by
    have h : Mo kd' kj := by rw [ej, ei, eh, eg, ef, ee]; exact Mo.rf.nx.wr.nx.wr.nx.wr
    exact h r 2 (by rw [ed]; exact wrR_t)
  have r5 : kj.2.1 r 5 = true := by
    have h : Mo kf kj := by rw [ej, ei, eh, eg]; exact Mo.rf.nx.wr.nx.wr
    exact h r 5 (by rw [ef]; exact wrR_t)
  have r8 : kj.2.1 r 8 = true := by
    have h : Mo kh kj := by rw [ej, ei]; exact Mo.rf.nx.wr
    exact h r 8 (by rw [eh]; exact wrR_t)
  have r9 : kj.2.1 r 9 = true := by rw [ej]; exact wrR_t
  clear ej ei eh eg ef ee ed ec eb ea A B C D E F G H I en1 en2 en3 en4 en5
  refine it_cnt (fun (i : Nat) (A : Int32 → Cc → Prop) => ∀ q, FR q (r + 6 + 3 * i) → Mo kj q → q.1 = k.1 → DN q (r + 6) (r + 6 + 3 * i) → (∀ j, j < i → q.2.1 (r + 1) j = true) → A (nI i) q) 6 (by decide) ?_ ?_ kj J Mo.rf v0 (fun a j h1 h2 => absurd h2 (by omega)) (fun j hj => absurd hj (Nat.not_lt_zero j))
  · intro i hi A hA q F Mq v d s
    obtain ⟨s1, s2, s3⟩ := ks i hi
    unfold m_8_init_51
    refine ⟨fun z => absurd ((lei (a := 6) (by decide) (by omega)).mp z) (by omega), fun _ => ?_⟩
    refine ⟨by rw [F.1]; omega, Mq r 0 r0, by rw [F.1]; omega, by rw [F.1]; exact s1, F.zer, fun n1 en1 q2 e2 => ?_⟩
    have F2 : FR q2 (r + 6 + 3 * i + 1) := by rw [e2]; exact F.nx
    rw [F.1] at en1
    rw [en1]
    refine ⟨by rw [F2.1]; omega, s_6_init F2 (by rw [F2.1]) s1 s2 s3 (fun q3 F3 M3 v3 d3 => ⟨vin hi, by rw [F3.1]; omega, by rw [F3.1]; omega, by rw [tn i (by omega)], fun q4 e4 x ex => ?_⟩)⟩
    rw [tn i (by omega)] at e4
    rw [ex, iplus]
    have F4 : FR q4 (r + 6 + 3 * (i + 1)) := by rw [e4, show r + 6 + 3 * (i + 1) = r + 6 + 3 * i + 3 by omega]; exact F3.wl (by omega)
    have M34 : Mo q3 q4 := by rw [e4]; exact Mo.rf.wr
    have M02 : Mo q q2 := by rw [e2]; exact Mo.rf.nx
    refine hA q4 F4 (Mq.tr (M02.tr (M3.tr M34))) ?_ ?_ (fun j hj => ?_)
    · rw [e4]
      show q3.1 = k.1
      rw [v3, e2]
      exact v
    · rw [show r + 6 + 3 * (i + 1) = r + 6 + 3 * i + 3 by omega]
      exact (d.mo (M02.tr (M3.tr M34))).ap (d3.mo M34)
    · by_cases w : j = i
      · rw [e4, w]; exact wrR_t
      · exact M34 _ _ (M3 _ _ (M02 _ _ (s j (by omega))))
  intro A q F Mq v d s
  unfold m_8_init_51
  refine ⟨fun _ => ?_, fun z => absurd ((lei (a := 6) (b := 6) (by decide) (by decide)).mpr (by omega)) z⟩
  refine it_cnt (fun (i : Nat) (A : Int32 → Cc → Prop) => ∀ p, FR p (r + 24 + i) → Mo q p → p.1 = k.1 → (∀ j, j < i → p.2.1 (r + 2) j = true) → A (nI i) p) 10 (by decide) ?_ ?_ q F Mo.rf v (fun j hj => absurd hj (Nat.not_lt_zero j))
  · intro i hi A hA p Fp Mp vp sp
    unfold m_8_init_78
    refine ⟨fun z => absurd ((lei (a := 10) (by decide) (by omega)).mp z) (by omega), fun _ => ?_⟩
    refine ⟨by rw [Fp.1]; omega, Mp _ _ (Mq r 2 r2), by rw [Fp.1]; omega, by rw [Fp.1]; exact kl i hi, Fp.zer, fun n1 en1 p2 e2 => ?_⟩
    have F2 : FR p2 (r + 24 + i + 1) := by rw [e2]; exact Fp.nx
    rw [Fp.1] at en1
    refine ⟨by rw [F2.1]; omega, ?_⟩
    unfold m_1_init
    refine ⟨rfl, vin hi, by rw [F2.1]; omega, by rw [F2.1, en1]; omega, by rw [tn i (by omega), en1], fun p4 e4 x ex => ?_⟩
    rw [tn i (by omega)] at e4
    rw [ex, iplus]
    have M02 : Mo p p4 := by rw [e4, e2]; exact Mo.rf.nx.wr
    refine hA p4 (by rw [e4]; exact F2.wl (by omega)) (Mp.tr M02) (by rw [e4, e2]; exact vp) (fun j hj => ?_)
    by_cases w : j = i
    · rw [e4, w]; exact wrR_t
    · exact M02 _ _ (sp j (by omega))
  · intro A p Fp Mp vp sp
    unfold m_8_init_78
    refine ⟨fun _ => ?_, fun z => absurd ((lei (a := 10) (b := 10) (by decide) (by decide)).mpr (by omega)) z⟩
    have MM := Mq.tr Mp
    refine ⟨by rw [Fp.1]; omega, MM r 5 r5, by rw [Fp.1]; omega, fun p1 e1 => ⟨by rw [e1]; show r < p.2.2; rw [Fp.1]; omega, fun p2 e2 => ?_⟩⟩
    have F2 : FR p2 (r + 34) := by rw [e2, e1]; exact (Fp.wf (by omega)).wi (by omega)
    have fl : p2.2 = p.2 := by rw [e2, e1]; rfl
    have M2 : Mo kj p2 := fun a j h => by rw [fl]; exact MM a j h
    have val : ∀ a j, p2.1.1 a j = if a = r then (if j = 6 then 1000 else k.1.1 r j) else if a = r + 3 then (va_cpy (stV 0) (k.1.1 (r + 3)) 0 0 6 j) else k.1.1 a j := fun a j => by
      rw [e2, e1]
      show (wr (wrA p.1 (r + 3) _) r 6 1000).1 a j = _
      rw [rd_wr, vp]
      by_cases w : a = r
      · rw [if_pos w, if_pos w, w, wrA_ne (by omega)]
      · rw [if_neg w, if_neg w]
        by_cases w2 : a = r + 3
        · rw [if_pos w2, w2, wrA_at]
        · rw [if_neg w2, wrA_ne w2]
    refine ⟨F2.1, hQ p2 F2 (mk.tr M2) (fun a h1 h2 => by funext j; rw [val, if_neg h1, if_neg h2]) ?_ (fun j => ?_) (fun j => ?_)⟩
    · refine DN.ap (m := r + 1) (DN.one k0 (fun j w => ?_)) (DN.ap (m := r + 2) (DN.one k1 (fun j w => ?_)) (DN.ap (m := r + 3) (DN.one k2 (fun j w => ?_)) (DN.ap (m := r + 4) (DN.no k3 (fun _ => rfl)) (DN.ap (m := r + 5) (DN.no k4 (fun _ => rfl)) (DN.ap (m := r + 6) (DN.no k5 (fun _ => rfl)) (DN.ap (m := r + 24) ?_ (fun a j h1 h2 w => ?_)))))))
      · simp [isR] at w
        rcases w with (((rfl | rfl) | rfl) | rfl) | rfl
        · exact M2 r 0 r0
        · exact M2 r 2 r2
        · exact M2 r 5 r5
        · exact M2 r 8 r8
        · exact M2 r 9 r9
      · simp [isR] at w
        rw [fl]
        exact Mp _ _ (s j w)
      · simp [isR] at w
        rw [fl]
        exact sp j w
      · exact fun a j h1 h2 w => by rw [fl]; exact Mp _ _ (d a j h1 h2 w)
      · have := kl (a - (r + 24)) (by omega)
        rw [show r + 24 + (a - (r + 24)) = a by omega] at this
        rw [this] at w
        cases w
    · rw [val, if_pos rfl]
      split
      · rfl
      · exact z j
    · rw [val, if_neg (by omega), if_pos rfl]
      unfold va_cpy
      by_cases w : j < 6
      · rw [if_pos (by omega), if_pos w, show 0 + (j - 0) = j by omega]
      · rw [if_neg (by omega), if_neg w]
        exact (f.2.1 (r + 3) j (by omega)).1
-- the start: the class's objects
theorem KW_all : KW 7 ∧ KW 316 ∧ ∀ w, w < 8 → KW (44 + 34 * w) := by
  unfold KW
  decide +kernel
theorem s_0_init {Ne : Nat} {Q : Cc → Prop} {k : Cc} (f : FR k 43) (hN : Ne = 316) (hQ : ∀ k', FR k' 316 → Mo k k' → (∀ a, a < 44 → k'.1.1 a = k.1.1 a) → DN k' 42 316 → Q k') : m_0_init 42 Ne Q k := by
  subst hN
  have c42 : kd 42 = 0 := by decide +kernel
  have c43 : kd 43 = 25 := by decide +kernel
  unfold m_0_init
  refine ⟨by rw [f.1]; omega, by rw [f.1]; exact c43, f.zer, fun n1 en1 ka ea => ?_⟩
  have A : FR ka 44 := by rw [ea]; exact f.nx
  refine ⟨by rw [A.1]; omega, by rw [en1, f.1], fun kb eb => ?_⟩
  have B : FR kb 44 := by rw [eb]; exact A.wl (by omega)
  have r0 : kb.2.1 42 0 = true := by rw [eb]; exact wrR_t
  have mb : Mo k kb := by rw [eb, ea]; exact Mo.rf.nx.wr
  have vb : kb.1 = k.1 := by rw [eb, ea]; rfl
  clear ea eb
  refine it_cnt (fun (w : Nat) (A : Int32 → Cc → Prop) => ∀ q, FR q (44 + 34 * w) → Mo kb q → (∀ a, a < 44 → q.1.1 a = k.1.1 a) → DN q 44 (44 + 34 * w) → (∀ j, j < w → q.2.1 43 j = true) → A (nI w) q) 8 (by decide) ?_ ?_ kb B Mo.rf (fun a _ => by rw [vb]) (fun a j h1 h2 => absurd h2 (by omega)) (fun j hj => absurd hj (Nat.not_lt_zero j))
  · intro w hw A hA q F Mq v d s
    obtain K := KW_all.2.2 w hw
    unfold m_0_init_15
    refine ⟨fun z => absurd ((lei (a := 8) (by decide) (by omega)).mp z) (by omega), fun _ => ?_⟩
    refine ⟨by rw [F.1]; omega, Mq _ _ r0, by rw [F.1]; omega, by rw [F.1]; exact K.1, F.zer, fun n1 en1 q2 e2 => ?_⟩
    have F2 : FR q2 (44 + 34 * w + 1) := by rw [e2]; exact F.nx
    rw [F.1] at en1
    rw [en1]
    refine ⟨by rw [F2.1]; omega, s_8_init F2 (by rw [F2.1]) (fun j => by rw [e2]; exact (F.2.1 _ j (by omega)).1) K (fun q3 F3 M3 v3 d3 _ _ => ⟨vin hw, by rw [F3.1]; omega, by rw [F3.1]; omega, by rw [tn w (by omega)], fun q4 e4 x ex => ?_⟩)⟩
    rw [tn w (by omega)] at e4
    rw [ex, iplus]
    have F4 : FR q4 (44 + 34 * (w + 1)) := by rw [e4, show 44 + 34 * (w + 1) = 44 + 34 * w + 34 by omega]; exact F3.wl (by omega)
    have M34 : Mo q3 q4 := by rw [e4]; exact Mo.rf.wr
    have M02 : Mo q q2 := by rw [e2]; exact Mo.rf.nx
    refine hA q4 F4 (Mq.tr (M02.tr (M3.tr M34))) (fun a ha => ?_) ?_ (fun j hj => ?_)
    · rw [e4]
      show q3.1.1 a = k.1.1 a
      rw [v3 a (by omega) (by omega), e2]
      exact v a ha
    · rw [show 44 + 34 * (w + 1) = 44 + 34 * w + 34 by omega]
      exact (d.mo (M02.tr (M3.tr M34))).ap (d3.mo M34)
    · by_cases y : j = w
      · rw [e4, y]; exact wrR_t
      · exact M34 _ _ (M3 _ _ (M02 _ _ (s j (by omega))))
  intro A q F Mq v d s
  unfold m_0_init_15
  refine ⟨fun _ => ⟨F.1, hQ q F (mb.tr Mq) v ?_⟩, fun z => absurd ((lei (a := 8) (b := 8) (by decide) (by decide)).mpr (by omega)) z⟩
  refine DN.ap (m := 43) (DN.one c42 (fun j w => ?_)) (DN.ap (m := 44) (DN.one c43 (fun j w => ?_)) d)
  · simp [isR] at w
    rw [w]
    exact Mq _ _ r0
  · simp [isR] at w
    exact s j w
/-- what the class's constructor leaves -/
def st9 (k : Cc) : Prop := FR k 354 ∧ DN k 0 354 ∧ k.1.1 0 8 = 0 ∧ k.1.1 1 1 = 0 ∧ k.1.1 42 1 = 0 ∧ k.1.1 42 2 = 0 ∧ (∀ j, k.1.1 7 j = if j = 6 then 1000 else 0) ∧ (∀ j, k.1.1 10 j = if j < 6 then stV 0 j else 0) ∧ (∀ j, k.1.1 11 j = 0) ∧ ∀ j, k.1.1 12 j = 0
theorem s_9_init {Q : Cc → Prop} {k : Cc} (f : FR k 1) (z : ∀ j, k.1.1 0 j = 0) (hQ : ∀ k', st9 k' → Q k') : m_9_init 0 354 Q k := by
  have kk : kd 0 = 9 ∧ kd 1 = 7 ∧ kd 2 = 21 ∧ kd 3 = 3 ∧ kd 4 = 6 ∧ kd 5 = 20 ∧ kd 6 = 22 ∧ kd 7 = 8 ∧ kd 41 = 5 ∧ kd 42 = 0 ∧ kd 316 = 8 ∧ kd 350 = 5 ∧ kd 351 = 2 ∧ kd 352 = 28 ∧ kd 353 = 29 := by decide +kernel
  obtain ⟨c0, c1, c2, c3, c4, c5, c6, c7, c41, c42, c316, c350, c351, c352, c353⟩ := kk
  unfold m_9_init
  -- the text
  refine ⟨by rw [f.1]; omega, by rw [f.1]; exact c1, f.zer, fun n1 en1 k2 e2 => ?_⟩
  have F2 : FR k2 2 := by rw [e2]; exact f.nx
  rw [f.1] at en1
  subst en1
  refine ⟨by rw [F2.1]; omega, ?_⟩
  unfold m_7_init
  refine ⟨by rw [F2.1]; omega, by rw [F2.1]; exact c2, F2.zer, fun n2 en2 k3 e3 => ?_⟩
  have F3 : FR k3 3 := by rw [e3]; exact F2.nx
  refine ⟨by rw [F3.1]; omega, by rw [en2, F2.1], fun k4 e4 => ?_⟩
  have F4 : FR k4 3 := by rw [e4]; exact F3.wl (by omega)
  have D4 : DN k4 1 3 := by
    refine DN.ap (m := 2) (DN.one c1 (fun j w => ?_)) (DN.no c2 (fun _ => rfl))
    simp [isR] at w
    rw [w, e4]
    exact wrR_t
  have V4 : k4.1 = k.1 := by rw [e4, e3, e2]; rfl
  refine ⟨by rw [F4.1, F2.1], by rw [F4.1]; omega, rfl, fun k5 e5 => ?_⟩
  have F5 : FR k5 3 := by rw [e5]; exact F4.wl (by omega)
  have D5 : DN k5 1 3 := D4.mo (by rw [e5]; exact Mo.rf.wr)
  have a0 : k5.2.1 0 0 = true := by rw [e5]; exact wrR_t
  have V5 : k5.1 = k.1 := by rw [e5]; exact V4
  clear e5 V4 D4 e4 F4 F3 e3 en2 e2 F2
  -- the reader
  refine ⟨by rw [F5.1]; omega, by rw [F5.1]; exact c3, F5.zer, fun n6 en6 k6 e6 => ?_⟩
  have F6 : FR k6 4 := by rw [e6]; exact F5.nx
  rw [F5.1] at en6
  subst en6
  refine ⟨by rw [F6.1]; omega, ?_⟩
  unfold m_3_init
  refine ⟨by rw [F6.1]; omega, by rw [F6.1]; exact c4, F6.zer, fun n7 en7 k7 e7 => ?_⟩
  have F7 : FR k7 5 := by rw [e7]; exact F6.nx
  rw [F6.1] at en7
  subst en7
  refine ⟨by rw [F7.1, F6.1]; omega, s_6_init F7 (by rw [F7.1]) c4 c5 c6 (fun k8 F8 M8 V8 D8 => ⟨by rw [F8.1]; omega, rfl, fun k9 e9 => ?_⟩)⟩
  have F9 : FR k9 7 := by rw [e9]; exact F8.wl (by omega)
  have M59 : Mo k5 k9 := by
    rw [e9]
    have h1 : Mo k5 k7 := by rw [e7, e6]; exact Mo.rf.nx.nx
    exact (h1.tr M8).wr
  have D9 : DN k9 1 7 := by
    refine DN.ap (m := 3) (D5.mo M59) (DN.ap (m := 4) (DN.one c3 (fun j w => ?_)) (D8.mo (by rw [e9]; exact Mo.rf.wr)))
    simp [isR] at w
    rw [w, e9]
    exact wrR_t
  have V9 : k9.1 = k.1 := by rw [e9]; show k8.1 = k.1; rw [V8, e7, e6]; exact V5
  refine ⟨by rw [F9.1, F6.1], by rw [F9.1]; omega, rfl, fun k10 e10 => ?_⟩
  have F10 : FR k10 7 := by rw [e10]; exact F9.wl (by omega)
  have M10 : Mo k9 k10 := by rw [e10]; exact Mo.rf.wr
  have D10 : DN k10 1 7 := D9.mo M10
  have a0' : k10.2.1 0 0 = true := M10 _ _ (M59 _ _ a0)
  have a1 : k10.2.1 0 1 = true := by rw [e10]; exact wrR_t
  have V10 : k10.1 = k.1 := by rw [e10]; exact V9
  clear e10 M10 V9 D9 M59 F9 e9 V8 D8 M8 F8 e7 F7 e6 F6 V5 a0 D5 F5
  -- the world
  refine ⟨by rw [F10.1]; omega, by rw [F10.1]; exact c7, F10.zer, fun n11 en11 k11 e11 => ?_⟩
  have F11 : FR k11 8 := by rw [e11]; exact F10.nx
  rw [F10.1] at en11
  subst en11
  refine ⟨by rw [F11.1]; omega, s_8_init F11 (by rw [F11.1]) (fun j => by rw [e11]; exact (F10.2.1 7 j (by omega)).1) KW_all.1 (fun k12 F12 M12 V12 D12 W12 W12' => ⟨by rw [F12.1]; omega, rfl, fun k13 e13 => ?_⟩)⟩
  have F13 : FR k13 41 := by rw [e13]; exact F12.wl (by omega)
  have M13 : Mo k10 k13 := by
    rw [e13]
    have h1 : Mo k10 k11 := by rw [e11]; exact Mo.rf.nx
    exact (h1.tr M12).wr
  have D13 : DN k13 1 41 := (D10.mo M13).ap (D12.mo (by rw [e13]; exact Mo.rf.wr))
  have b0 : k13.2.1 0 0 = true := M13 _ _ a0'
  have b1 : k13.2.1 0 1 = true := M13 _ _ a1
  have b2 : k13.2.1 0 2 = true := by rw [e13]; exact wrR_t
  have zz : ∀ a j, 1 ≤ a → k.1.1 a j = 0 := fun a j ha => (f.2.1 a j ha).1
  have V13 : ∀ a j, a ≠ 7 → a ≠ 10 → k13.1.1 a j = 0 := fun a j h1 h2 => by
    rw [e13]
    show k12.1.1 a j = 0
    rw [V12 a h1 (by omega), e11]
    show k10.1.1 a j = 0
    rw [V10]
    by_cases w : a = 0
    · rw [w]; exact z j
    · exact zz a j (by omega)
  have X13 : ∀ j, k13.1.1 7 j = if j = 6 then 1000 else 0 := fun j => by rw [e13]; exact W12 j
  have Y13 : ∀ j, k13.1.1 10 j = if j < 6 then stV 0 j else 0 := fun j => by rw [e13]; exact W12' j
  clear e13 M13 D12 W12 W12' V12 M12 F12 e11 F11 D10 a0' a1 V10 F10
  -- its round
  refine ⟨by rw [F13.1]; omega, by rw [F13.1]; exact c41, F13.zer, fun n14 en14 k14 e14 => ?_⟩
  have F14 : FR k14 42 := by rw [e14]; exact F13.nx
  rw [F13.1] at en14
  subst en14
  refine ⟨by rw [F14.1]; omega, by rw [e14]; exact b2, by rw [F14.1]; omega, ?_⟩
  unfold m_5_init
  refine ⟨by rw [F14.1]; omega, rfl, fun k15 e15 => ?_⟩
  have F15 : FR k15 42 := by rw [e15]; exact F14.wl (by omega)
  refine ⟨by rw [F15.1, F14.1], by rw [F15.1]; omega, rfl, fun k16 e16 => ?_⟩
  have F16 : FR k16 42 := by rw [e16]; exact F15.wl (by omega)
  have M16 : Mo k13 k16 := by rw [e16, e15, e14]; exact Mo.rf.nx.wr.wr
  have D16 : DN k16 1 42 := by
    refine (D13.mo M16).ap (DN.one c41 (fun j w => ?_))
    simp [isR] at w
    rw [w, e16, e15]
    exact (Mo.rf.wr : Mo (wrR k14 41 0) (wrR (wrR k14 41 0) 0 3)) 41 0 wrR_t
  have d0 : k16.2.1 0 0 = true := M16 _ _ b0
  have d1 : k16.2.1 0 1 = true := M16 _ _ b1
  have d2 : k16.2.1 0 2 = true := M16 _ _ b2
  have d3 : k16.2.1 0 3 = true := by rw [e16]; exact wrR_t
  have V16 : k16.1 = k13.1 := by rw [e16, e15, e14]; rfl
  clear e16 e15 e14 M16 F15 F14 b0 b1 b2 D13 F13
  -- the history
  refine ⟨by rw [F16.1]; omega, by rw [F16.1]; exact c42, F16.zer, fun n17 en17 k17 e17 => ?_⟩
  have F17 : FR k17 43 := by rw [e17]; exact F16.nx
  rw [F16.1] at en17
  subst en17
  refine ⟨by rw [F17.1]; omega, s_0_init F17 (by rw [F17.1]) (fun k18 F18 M18 V18 D18 => ⟨by rw [F18.1]; omega, rfl, fun k19 e19 => ?_⟩)⟩
  have F19 : FR k19 316 := by rw [e19]; exact F18.wl (by omega)
  have M19 : Mo k16 k19 := by
    rw [e19]
    have h1 : Mo k16 k17 := by rw [e17]; exact Mo.rf.nx
    exact (h1.tr M18).wr
  have D19 : DN k19 1 316 := (D16.mo M19).ap (D18.mo (by rw [e19]; exact Mo.rf.wr))
  have g0 : k19.2.1 0 0 = true := M19 _ _ d0
  have g1 : k19.2.1 0 1 = true := M19 _ _ d1
  have g2 : k19.2.1 0 2 = true := M19 _ _ d2
  have g3 : k19.2.1 0 3 = true := M19 _ _ d3
  have g4 : k19.2.1 0 4 = true := by rw [e19]; exact wrR_t
  have V19 : ∀ a, a < 44 → k19.1.1 a = k13.1.1 a := fun a ha => by
    rw [e19]
    show k18.1.1 a = k13.1.1 a
    rw [V18 a ha, e17]
    show k16.1.1 a = k13.1.1 a
    rw [V16]
  clear e19 M19 D18 V18 M18 F18 e17 F17 d0 d1 d2 d3 D16 V16 F16
  -- the trial world
  refine ⟨by rw [F19.1]; omega, by rw [F19.1]; exact c316, F19.zer, fun n20 en20 k20 e20 => ?_⟩
  have F20 : FR k20 317 := by rw [e20]; exact F19.nx
  rw [F19.1] at en20
  subst en20
  refine ⟨by rw [F20.1]; omega, s_8_init F20 (by rw [F20.1]) (fun j => by rw [e20]; exact (F19.2.1 316 j (by omega)).1) KW_all.2.1 (fun k21 F21 M21 V21 D21 _ _ => ⟨by rw [F21.1]; omega, rfl, fun k22 e22 => ?_⟩)⟩
  have F22 : FR k22 350 := by rw [e22]; exact F21.wl (by omega)
  have M22 : Mo k19 k22 := by
    rw [e22]
    have h1 : Mo k19 k20 := by rw [e20]; exact Mo.rf.nx
    exact (h1.tr M21).wr
  have D22 : DN k22 1 350 := (D19.mo M22).ap (D21.mo (by rw [e22]; exact Mo.rf.wr))
  have h0 : k22.2.1 0 0 = true := M22 _ _ g0
  have h1 : k22.2.1 0 1 = true := M22 _ _ g1
  have h2 : k22.2.1 0 2 = true := M22 _ _ g2
  have h3 : k22.2.1 0 3 = true := M22 _ _ g3
  have h4 : k22.2.1 0 4 = true := M22 _ _ g4
  have h5 : k22.2.1 0 5 = true := by rw [e22]; exact wrR_t
  have V22 : ∀ a, a < 44 → k22.1.1 a = k13.1.1 a := fun a ha => by
    rw [e22]
    show k21.1.1 a = k13.1.1 a
    rw [V21 a (by omega) (by omega), e20]
    exact V19 a ha
  clear e22 M22 D21 V21 M21 F21 e20 F20 g0 g1 g2 g3 g4 D19 V19 F19
  -- its round
  refine ⟨by rw [F22.1]; omega, by rw [F22.1]; exact c350, F22.zer, fun n23 en23 k23 e23 => ?_⟩
  have F23 : FR k23 351 := by rw [e23]; exact F22.nx
  rw [F22.1] at en23
  subst en23
  refine ⟨by rw [F23.1]; omega, by rw [e23]; exact h5, by rw [F23.1]; omega, ?_⟩
  refine ⟨by rw [F23.1]; omega, rfl, fun k24 e24 => ?_⟩
  have F24 : FR k24 351 := by rw [e24]; exact F23.wl (by omega)
  refine ⟨by rw [F24.1, F23.1], by rw [F24.1]; omega, rfl, fun k25 e25 => ?_⟩
  have F25 : FR k25 351 := by rw [e25]; exact F24.wl (by omega)
  have M25 : Mo k22 k25 := by rw [e25, e24, e23]; exact Mo.rf.nx.wr.wr
  have D25 : DN k25 1 351 := by
    refine (D22.mo M25).ap (DN.one c350 (fun j w => ?_))
    simp [isR] at w
    rw [w, e25, e24]
    exact (Mo.rf.wr : Mo (wrR k23 350 0) (wrR (wrR k23 350 0) 0 6)) 350 0 wrR_t
  have i0 : k25.2.1 0 0 = true := M25 _ _ h0
  have i1 : k25.2.1 0 1 = true := M25 _ _ h1
  have i2 : k25.2.1 0 2 = true := M25 _ _ h2
  have i3 : k25.2.1 0 3 = true := M25 _ _ h3
  have i4 : k25.2.1 0 4 = true := M25 _ _ h4
  have i5 : k25.2.1 0 5 = true := M25 _ _ h5
  have i6 : k25.2.1 0 6 = true := by rw [e25]; exact wrR_t
  have V25 : k25.1 = k22.1 := by rw [e25, e24, e23]; rfl
  clear e25 e24 e23 M25 F24 F23 h0 h1 h2 h3 h4 h5 D22 F22
  -- the orders
  refine ⟨by rw [F25.1]; omega, by rw [F25.1]; exact c351, F25.zer, fun n26 en26 k26 e26 => ?_⟩
  have F26 : FR k26 352 := by rw [e26]; exact F25.nx
  rw [F25.1] at en26
  subst en26
  refine ⟨by rw [F26.1]; omega, ?_⟩
  unfold m_2_init
  refine ⟨by rw [F26.1]; omega, by rw [F26.1]; exact c352, F26.zer, fun n27 en27 k27 e27 => ?_⟩
  have F27 : FR k27 353 := by rw [e27]; exact F26.nx
  refine ⟨by rw [F27.1]; omega, by rw [en27, F26.1], fun k28 e28 => ?_⟩
  have F28 : FR k28 353 := by rw [e28]; exact F27.wl (by omega)
  refine ⟨by rw [F28.1, F26.1]; omega, by rw [F28.1]; exact c353, F28.zer, fun n29 en29 k29 e29 => ?_⟩
  have F29 : FR k29 354 := by rw [e29]; exact F28.nx
  refine ⟨by rw [F29.1]; omega, by rw [en29, F28.1], fun k30 e30 => ?_⟩
  have F30 : FR k30 354 := by rw [e30]; exact F29.wl (by omega)
  refine ⟨by rw [F30.1, F26.1], by rw [F30.1]; omega, rfl, fun k31 e31 => ?_⟩
  have F31 : FR k31 354 := by rw [e31]; exact F30.wl (by omega)
  refine ⟨by rw [F31.1]; omega, fun k32 e32 => ?_⟩
  have F32 : FR k32 354 := by rw [e32]; exact F31.wi (by omega)
  have fl : k32.2 = k31.2 := by rw [e32]; rfl
  have M31 : Mo k25 k31 := by rw [e31, e30, e29, e28, e27, e26]; exact Mo.rf.nx.nx.wr.nx.wr.wr
  have M32 : Mo k25 k32 := fun a j q => by rw [fl]; exact M31 a j q
  have j0 : k31.2.1 351 0 = true := by
    have h : Mo k28 k31 := by rw [e31, e30, e29]; exact Mo.rf.nx.wr.wr
    exact h 351 0 (by rw [e28]; exact wrR_t)
  have j2 : k31.2.1 351 2 = true := by
    have h : Mo k30 k31 := by rw [e31]; exact Mo.rf.wr
    exact h 351 2 (by rw [e30]; exact wrR_t)
  have i7 : k32.2.1 0 7 = true := by rw [fl, e31]; exact wrR_t
  have V31 : k31.1 = k22.1 := by rw [e31, e30, e29, e28, e27, e26]; exact V25
  have W : ∀ a, a < 44 → a ≠ 0 → k32.1.1 a = k13.1.1 a := fun a ha h0 => by
    rw [e32]
    show (wr k31.1 0 8 0).1 a = k13.1.1 a
    rw [wr_cell h0, V31]
    exact V22 a ha
  refine ⟨F32.1, hQ k32 ⟨F32, ?_, ?_, ?_, ?_, ?_, fun j => ?_, fun j => ?_, fun j => ?_, fun j => ?_⟩⟩
  · refine DN.ap (m := 1) (DN.one c0 (fun j w => ?_)) ((D25.mo M32).ap (DN.ap (m := 352) (DN.one c351 (fun j w => ?_)) (DN.ap (m := 353) (DN.no c352 (fun _ => rfl)) (DN.no c353 (fun _ => rfl)))))
    · simp [isR] at w
      rcases w with ((((((rfl | rfl) | rfl) | rfl) | rfl) | rfl) | rfl) | rfl
      · exact M32 _ _ i0
      · exact M32 _ _ i1
      · exact M32 _ _ i2
      · exact M32 _ _ i3
      · exact M32 _ _ i4
      · exact M32 _ _ i5
      · exact M32 _ _ i6
      · exact i7
    · simp [isR] at w
      rcases w with rfl | rfl
      · rw [fl]; exact j0
      · rw [fl]; exact j2
  · rw [e32]
    show (wr k31.1 0 8 0).1 0 8 = 0
    rw [wr_same]
  · rw [W 1 (by omega) (by omega)]; exact V13 _ _ (by omega) (by omega)
  · rw [W 42 (by omega) (by omega)]; exact V13 _ _ (by omega) (by omega)
  · rw [W 42 (by omega) (by omega)]; exact V13 _ _ (by omega) (by omega)
  · rw [W 7 (by omega) (by omega)]; exact X13 j
  · rw [W 10 (by omega) (by omega)]; exact Y13 j
  · rw [W 11 (by omega) (by omega)]; exact V13 _ _ (by omega) (by omega)
  · rw [W 12 (by omega) (by omega)]; exact V13 _ _ (by omega) (by omega)
