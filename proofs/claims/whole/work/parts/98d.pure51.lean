-- the start: the objects are made
/-- N cells are made, nothing is laid behind them -/
def FR (k : Cc) (N : Nat) : Prop := k.2.2 = N ∧ (∀ a j, N ≤ a → k.1.1 a j = 0 ∧ k.2.1 a j = false) ∧ k.1.2 = 0
def Mo (k k' : Cc) : Prop := ∀ a j, k.2.1 a j = true → k'.2.1 a j = true
/-- all references of the cells from r on are laid -/
def DN (k : Cc) (r N : Nat) : Prop := ∀ a j, r ≤ a → a < N → isR (kd a) j = true → k.2.1 a j = true
theorem FR.zer {k : Cc} {N : Nat} (f : FR k N) : zer k := ⟨fun j => (f.2.1 _ j (by rw [f.1]; exact Nat.le_refl N)).1, fun j => (f.2.1 _ j (by rw [f.1]; exact Nat.le_refl N)).2, f.2.2⟩
theorem FR.nx {k : Cc} {N : Nat} (f : FR k N) : FR (nxC k) (N + 1) := ⟨by show k.2.2 + 1 = N + 1; rw [f.1], fun a j h => f.2.1 a j (by omega), f.2.2⟩
theorem FR.wl {k : Cc} {N a j : Nat} (f : FR k N) (h : a < N) : FR (wrR k a j) N := ⟨f.1, fun b i hb => ⟨(f.2.1 b i hb).1, by rw [wrR_ne (by omega)]; exact (f.2.1 b i hb).2⟩, f.2.2⟩
theorem FR.wi {k : Cc} {N a j : Nat} {v : Int32} (f : FR k N) (h : a < N) : FR (wrI k a j v) N := ⟨f.1, fun b i hb => ⟨by show (wr k.1 a j v).1 b i = 0; rw [wr_cell (by omega)]; exact (f.2.1 b i hb).1, (f.2.1 b i hb).2⟩, f.2.2⟩
theorem FR.wf {k : Cc} {N a : Nat} {g : Nat → Int32} (f : FR k N) (h : a < N) : FR (wrF k a g) N := ⟨f.1, fun b i hb => ⟨by show (wrA k.1 a g).1 b i = 0; rw [wrA_ne (by omega)]; exact (f.2.1 b i hb).1, (f.2.1 b i hb).2⟩, f.2.2⟩
theorem Mo.rf {k : Cc} : Mo k k := fun _ _ h => h
theorem Mo.tr {k k' k'' : Cc} (h : Mo k k') (h' : Mo k' k'') : Mo k k'' := fun a j q => h' a j (h a j q)
theorem Mo.wr {k k' : Cc} {a j : Nat} (h : Mo k k') : Mo k (wrR k' a j) := fun b i q => by
  show (if b = a ∧ i = j then true else k'.2.1 b i) = true
  split
  · rfl
  · exact h b i q
theorem Mo.nx {k k' : Cc} (h : Mo k k') : Mo k (nxC k') := h
theorem wrR_t {k : Cc} {a j : Nat} : (wrR k a j).2.1 a j = true := by
  show (if a = a ∧ j = j then true else k.2.1 a j) = true
  rw [if_pos ⟨rfl, rfl⟩]
theorem DN.mo {k k' : Cc} {r N : Nat} (d : DN k r N) (h : Mo k k') : DN k' r N := fun a j h1 h2 q => h a j (d a j h1 h2 q)
theorem DN.ap {k : Cc} {r m N : Nat} (d : DN k r m) (d' : DN k m N) : DN k r N := fun a j h1 h2 q => by
  by_cases z : a < m
  · exact d a j h1 z q
  · exact d' a j (by omega) h2 q
theorem DN.one {k : Cc} {r c : Nat} (hk : kd r = c) (h : ∀ j, isR c j = true → k.2.1 r j = true) : DN k r (r + 1) := fun a j h1 h2 q => by
  have e : a = r := by omega
  subst e
  rw [hk] at q
  exact h j q
theorem DN.no {k : Cc} {r c : Nat} (hk : kd r = c) (h : ∀ j, isR c j = false) : DN k r (r + 1) := DN.one hk (fun j q => by rw [h j] at q; cases q)
theorem s_6_init {r Ne : Nat} {Q : Cc → Prop} {k : Cc} (f : FR k (r + 1)) (hN : Ne = r + 3) (k1 : kd r = 6) (k2 : kd (r + 1) = 20) (k3 : kd (r + 2) = 22) (hQ : ∀ k', FR k' (r + 3) → Mo k k' → k'.1 = k.1 → DN k' r (r + 3) → Q k') : m_6_init r Ne Q k := by
  subst hN
  unfold m_6_init
  refine ⟨by rw [f.1]; omega, by rw [f.1]; exact k2, f.zer, fun n1 en1 kb eb => ?_⟩
  have F2 : FR kb (r + 2) := by rw [eb]; exact f.nx
  refine ⟨by rw [F2.1]; omega, by rw [en1, f.1], fun kc ec => ?_⟩
  have F3 : FR kc (r + 2) := by rw [ec]; exact F2.wl (by omega)
  refine ⟨by rw [F3.1]; omega, by rw [F3.1]; exact k3, F3.zer, fun n4 en4 ke ee => ?_⟩
  have F5 : FR ke (r + 3) := by rw [ee]; exact F3.nx
  refine ⟨by rw [F5.1]; omega, by rw [en4, F3.1], fun kf ef => ?_⟩
  have F6 : FR kf (r + 3) := by rw [ef]; exact F5.wl (by omega)
  have t3 : kf.2.1 r 3 = true := by
    rw [ef, ee, ec]
    exact (Mo.rf.nx.wr : Mo (wrR kb r 3) (wrR (nxC (wrR kb r 3)) r 4)) r 3 wrR_t
  have t4 : kf.2.1 r 4 = true := by rw [ef]; exact wrR_t
  refine ⟨F6.1, hQ kf F6 ?_ ?_ ?_⟩
  · rw [ef, ee, ec, eb]
    exact Mo.rf.nx.wr.nx.wr
  · rw [ef, ee, ec, eb]
    rfl
  · refine DN.ap (m := r + 1) (DN.one k1 (fun j q => ?_)) (DN.ap (m := r + 2) (DN.no k2 (fun _ => rfl)) (DN.no k3 (fun _ => rfl)))
    simp [isR] at q
    rcases q with rfl | rfl
    · exact t3
    · exact t4
/-- the kinds of a world's cells -/
def KW (r : Nat) : Prop := kd r = 8 ∧ kd (r + 1) = 23 ∧ kd (r + 2) = 24 ∧ kd (r + 3) = 26 ∧ kd (r + 4) = 27 ∧ kd (r + 5) = 4 ∧ (∀ i, i < 6 → kd (r + 6 + 3 * i) = 6 ∧ kd (r + 6 + 3 * i + 1) = 20 ∧ kd (r + 6 + 3 * i + 2) = 22) ∧ ∀ i, i < 10 → kd (r + 24 + i) = 1
theorem s_8_init {r Ne : Nat} {Q : Cc → Prop} {k : Cc} (f : FR k (r + 1)) (hN : Ne = r + 34) (z : ∀ j, k.1.1 r j = 0) (K : KW r) (hQ : ∀ k', FR k' (r + 34) → Mo k k' → (∀ a, a ≠ r → a ≠ r + 3 → k'.1.1 a = k.1.1 a) → DN k' r (r + 34) → (∀ j, k'.1.1 r j = if j = 6 then 1000 else 0) → (∀ j, k'.1.1 (r + 3) j = if j < 6 then stV 0 j else 0) → Q k') : m_8_init r Ne Q k := by
  subst hN
  obtain ⟨k0, k1, k2, k3, k4, k5, ks, kl⟩ := K
  unfold m_8_init
  refine ⟨by rw [f.1]; omega, by rw [f.1]; exact k1, f.zer, fun n1 en1 ka ea => ?_⟩
  have A : FR ka (r + 2) := by rw [ea]; exact f.nx
  refine ⟨by rw [A.1]; omega, by rw [en1, f.1], fun kb eb => ?_⟩
  have B : FR kb (r + 2) := by rw [eb]; exact A.wl (by omega)
  refine ⟨by rw [B.1]; omega, by rw [B.1]; exact k2, B.zer, fun n2 en2 kc ec => ?_⟩
  have C : FR kc (r + 3) := by rw [ec]; exact B.nx
  refine ⟨by rw [C.1]; omega, by rw [en2, B.1], fun kd' ed => ?_⟩
  have D : FR kd' (r + 3) := by rw [ed]; exact C.wl (by omega)
  refine ⟨by rw [D.1]; omega, by rw [D.1]; exact k3, D.zer, fun n3 en3 ke ee => ?_⟩
  have E : FR ke (r + 4) := by rw [ee]; exact D.nx
  refine ⟨by rw [E.1]; omega, by rw [en3, D.1], fun kf ef => ?_⟩
  have F : FR kf (r + 4) := by rw [ef]; exact E.wl (by omega)
  refine ⟨by rw [F.1]; omega, by rw [F.1]; exact k4, F.zer, fun n4 en4 kg eg => ?_⟩
  have G : FR kg (r + 5) := by rw [eg]; exact F.nx
  refine ⟨by rw [G.1]; omega, by rw [en4, F.1], fun kh eh => ?_⟩
  have H : FR kh (r + 5) := by rw [eh]; exact G.wl (by omega)
  refine ⟨by rw [H.1]; omega, by rw [H.1]; exact k5, H.zer, fun n5 en5 ki ei => ?_⟩
  have I : FR ki (r + 6) := by rw [ei]; exact H.nx
  refine ⟨by rw [I.1]; omega, ?_⟩
  unfold m_4_init
  refine ⟨rfl, by rw [I.1]; omega, by rw [en5, H.1], fun kj ej => ?_⟩
  have J : FR kj (r + 6) := by rw [ej]; exact I.wl (by omega)
  have v0 : kj.1 = k.1 := by rw [ej, ei, eh, eg, ef, ee, ed, ec, eb, ea]; rfl
  have mk : Mo k kj := by rw [ej, ei, eh, eg, ef, ee, ed, ec, eb, ea]; exact Mo.rf.nx.wr.nx.wr.nx.wr.nx.wr.nx.wr
  have r0 : kj.2.1 r 0 = true := by
    have h : Mo kb kj := by rw [ej, ei, eh, eg, ef, ee, ed, ec]; exact Mo.rf.nx.wr.nx.wr.nx.wr.nx.wr
    exact h r 0 (by rw [eb]; exact wrR_t)
  have r2 : kj.2.1 r 2 = true := by
    have h : Mo kd' kj := by rw [ej, ei, eh, eg, ef, ee]; exact Mo.rf.nx.wr.nx.wr.nx.wr
    exact h r 2 (by rw [ed]; exact wrR_t)
  have r5 : kj.2.1 r 5 = true := by
    have h : Mo kf kj := by rw [ej, ei, eh, eg]; exact Mo.rf.nx.wr.nx.wr
    exact h r 5 (by rw [ef]; exact wrR_t)
  have r8 : kj.2.1 r 8 = true := by
    have h : Mo kh kj := by rw [ej, ei]; exact Mo.rf.nx.wr
    exact h r 8 (by rw [eh]; exact wrR_t)
  have r9 : kj.2.1 r 9 = true := by rw [ej]; exact wrR_t
  clear ej ei eh eg ef ee ed ec eb ea A B C D E F G H I en1 en2 en3 en4 en5
  refine it_cnt (fun (i : Nat) (A : Int32 → Cc → Prop) => ∀ q, FR q (r + 6 + 3 * i) → Mo kj q → q.1 = k.1 → DN q (r + 6) (r + 6 + 3 * i) → (∀ j, j < i → q.2.1 (r + 1) j = true) → A (nI i) q) 6 (by decide) ?_ ?_ kj J Mo.rf v0 (fun a j h1 h2 => absurd h2 (by omega)) (fun j hj => absurd hj (Nat.not_lt_zero j))
  · intro i hi A hA q F Mq v d s
    obtain ⟨s1, s2, s3⟩ := ks i hi
    unfold m_8_init_51
    refine ⟨fun z => absurd ((lei (a := 6) (by decide) (by omega)).mp z) (by omega), fun _ => ?_⟩
    refine ⟨by rw [F.1]; omega, Mq r 0 r0, by rw [F.1]; omega, by rw [F.1]; exact s1, F.zer, fun n1 en1 q2 e2 => ?_⟩
    have F2 : FR q2 (r + 6 + 3 * i + 1) := by rw [e2]; exact F.nx
    rw [F.1] at en1
    rw [en1]
    refine ⟨by rw [F2.1]; omega, s_6_init F2 (by rw [F2.1]) s1 s2 s3 (fun q3 F3 M3 v3 d3 => ⟨vin hi, by rw [F3.1]; omega, by rw [F3.1]; omega, by rw [tn i (by omega)], fun q4 e4 x ex => ?_⟩)⟩
    rw [tn i (by omega)] at e4
    rw [ex, iplus]
    have F4 : FR q4 (r + 6 + 3 * (i + 1)) := by rw [e4, show r + 6 + 3 * (i + 1) = r + 6 + 3 * i + 3 by omega]; exact F3.wl (by omega)
    have M34 : Mo q3 q4 := by rw [e4]; exact Mo.rf.wr
    have M02 : Mo q q2 := by rw [e2]; exact Mo.rf.nx
    refine hA q4 F4 (Mq.tr (M02.tr (M3.tr M34))) ?_ ?_ (fun j hj => ?_)
    · rw [e4]
      show q3.1 = k.1
      rw [v3, e2]
      exact v
    · rw [show r + 6 + 3 * (i + 1) = r + 6 + 3 * i + 3 by omega]
      exact (d.mo (M02.tr (M3.tr M34))).ap (d3.mo M34)
    · by_cases w : j = i
      · rw [e4, w]; exact wrR_t
      · exact M34 _ _ (M3 _ _ (M02 _ _ (s j (by omega))))
  intro A q F Mq v d s
  unfold m_8_init_51
  refine ⟨fun _ => ?_, fun z => absurd ((lei (a := 6) (b := 6) (by decide) (by decide)).mpr (by omega)) z⟩
  refine it_cnt (fun (i : Nat) (A : Int32 → Cc → Prop) => ∀ p, FR p (r + 24 + i) → Mo q p → p.1 = k.1 → (∀ j, j < i → p.2.1 (r + 2) j = true) → A (nI i) p) 10 (by decide) ?_ ?_ q F Mo.rf v (fun j hj => absurd hj (Nat.not_lt_zero j))
  · intro i hi A hA p Fp Mp vp sp
    unfold m_8_init_78
    refine ⟨fun z => absurd ((lei (a := 10) (by decide) (by omega)).mp z) (by omega), fun _ => ?_⟩
    refine ⟨by rw [Fp.1]; omega, Mp _ _ (Mq r 2 r2), by rw [Fp.1]; omega, by rw [Fp.1]; exact kl i hi, Fp.zer, fun n1 en1 p2 e2 => ?_⟩
    have F2 : FR p2 (r + 24 + i + 1) := by rw [e2]; exact Fp.nx
    rw [Fp.1] at en1
    refine ⟨by rw [F2.1]; omega, ?_⟩
    unfold m_1_init
    refine ⟨rfl, vin hi, by rw [F2.1]; omega, by rw [F2.1, en1]; omega, by rw [tn i (by omega), en1], fun p4 e4 x ex => ?_⟩
    rw [tn i (by omega)] at e4
    rw [ex, iplus]
    have M02 : Mo p p4 := by rw [e4, e2]; exact Mo.rf.nx.wr
    refine hA p4 (by rw [e4]; exact F2.wl (by omega)) (Mp.tr M02) (by rw [e4, e2]; exact vp) (fun j hj => ?_)
    by_cases w : j = i
    · rw [e4, w]; exact wrR_t
    · exact M02 _ _ (sp j (by omega))
  · intro A p Fp Mp vp sp
    unfold m_8_init_78
    refine ⟨fun _ => ?_, fun z => absurd ((lei (a := 10) (b := 10) (by decide) (by decide)).mpr (by omega)) z⟩
    have MM := Mq.tr Mp
    refine ⟨by rw [Fp.1]; omega, MM r 5 r5, by rw [Fp.1]; omega, fun p1 e1 => ⟨by rw [e1]; show r < p.2.2; rw [Fp.1]; omega, fun p2 e2 => ?_⟩⟩
    have F2 : FR p2 (r + 34) := by rw [e2, e1]; exact (Fp.wf (by omega)).wi (by omega)
    have fl : p2.2 = p.2 := by rw [e2, e1]; rfl
    have M2 : Mo kj p2 := fun a j h => by rw [fl]; exact MM a j h
    have val : ∀ a j, p2.1.1 a j = if a = r then (if j = 6 then 1000 else k.1.1 r j) else if a = r + 3 then (va_cpy (stV 0) (k.1.1 (r + 3)) 0 0 6 j) else k.1.1 a j := fun a j => by
      rw [e2, e1]
      show (wr (wrA p.1 (r + 3) _) r 6 1000).1 a j = _
      rw [rd_wr, vp]
      by_cases w : a = r
      · rw [if_pos w, if_pos w, w, wrA_ne (by omega)]
      · rw [if_neg w, if_neg w]
        by_cases w2 : a = r + 3
        · rw [if_pos w2, w2, wrA_at]
        · rw [if_neg w2, wrA_ne w2]
    refine ⟨F2.1, hQ p2 F2 (mk.tr M2) (fun a h1 h2 => by funext j; rw [val, if_neg h1, if_neg h2]) ?_ (fun j => ?_) (fun j => ?_)⟩
    · refine DN.ap (m := r + 1) (DN.one k0 (fun j w => ?_)) (DN.ap (m := r + 2) (DN.one k1 (fun j w => ?_)) (DN.ap (m := r + 3) (DN.one k2 (fun j w => ?_)) (DN.ap (m := r + 4) (DN.no k3 (fun _ => rfl)) (DN.ap (m := r + 5) (DN.no k4 (fun _ => rfl)) (DN.ap (m := r + 6) (DN.no k5 (fun _ => rfl)) (DN.ap (m := r + 24) ?_ (fun a j h1 h2 w => ?_)))))))
      · simp [isR] at w
        rcases w with (((rfl | rfl) | rfl) | rfl) | rfl
        · exact M2 r 0 r0
        · exact M2 r 2 r2
        · exact M2 r 5 r5
        · exact M2 r 8 r8
        · exact M2 r 9 r9
      · simp [isR] at w
        rw [fl]
        exact Mp _ _ (s j w)
      · simp [isR] at w
        rw [fl]
        exact sp j w
      · exact fun a j h1 h2 w => by rw [fl]; exact Mp _ _ (d a j h1 h2 w)
      · have := kl (a - (r + 24)) (by omega)
        rw [show r + 24 + (a - (r + 24)) = a by omega] at this
        rw [this] at w
        cases w
    · rw [val, if_pos rfl]
      split
      · rfl
      · exact z j
    · rw [val, if_neg (by omega), if_pos rfl]
      unfold va_cpy
      by_cases w : j < 6
      · rw [if_pos (by omega), if_pos w, show 0 + (j - 0) = j by omega]
      · rw [if_neg (by omega), if_neg w]
        exact (f.2.1 (r + 3) j (by omega)).1
