-- the start: the class's objects
theorem KW_all : KW 7 ∧ KW 316 ∧ ∀ w, w < 8 → KW (44 + 34 * w) := by
  unfold KW
  decide +kernel
theorem s_0_init {Ne : Nat} {Q : Cc → Prop} {k : Cc} (f : FR k 43) (hN : Ne = 316) (hQ : ∀ k', FR k' 316 → Mo k k' → (∀ a, a < 44 → k'.1.1 a = k.1.1 a) → DN k' 42 316 → Q k') : m_0_init 42 Ne Q k := by
  subst hN
  have c42 : kd 42 = 0 := by decide +kernel
  have c43 : kd 43 = 25 := by decide +kernel
  unfold m_0_init
  refine ⟨by rw [f.1]; omega, by rw [f.1]; exact c43, f.zer, fun n1 en1 ka ea => ?_⟩
  have A : FR ka 44 := by rw [ea]; exact f.nx
  refine ⟨by rw [A.1]; omega, by rw [en1, f.1], fun kb eb => ?_⟩
  have B : FR kb 44 := by rw [eb]; exact A.wl (by omega)
  have r0 : kb.2.1 42 0 = true := by rw [eb]; exact wrR_t
  have mb : Mo k kb := by rw [eb, ea]; exact Mo.rf.nx.wr
  have vb : kb.1 = k.1 := by rw [eb, ea]; rfl
  clear ea eb
  refine it_cnt (fun (w : Nat) (A : Int32 → Cc → Prop) => ∀ q, FR q (44 + 34 * w) → Mo kb q → (∀ a, a < 44 → q.1.1 a = k.1.1 a) → DN q 44 (44 + 34 * w) → (∀ j, j < w → q.2.1 43 j = true) → A (nI w) q) 8 (by decide) ?_ ?_ kb B Mo.rf (fun a _ => by rw [vb]) (fun a j h1 h2 => absurd h2 (by omega)) (fun j hj => absurd hj (Nat.not_lt_zero j))
  · intro w hw A hA q F Mq v d s
    obtain K := KW_all.2.2 w hw
    unfold m_0_init_15
    refine ⟨fun z => absurd ((lei (a := 8) (by decide) (by omega)).mp z) (by omega), fun _ => ?_⟩
    refine ⟨by rw [F.1]; omega, Mq _ _ r0, by rw [F.1]; omega, by rw [F.1]; exact K.1, F.zer, fun n1 en1 q2 e2 => ?_⟩
    have F2 : FR q2 (44 + 34 * w + 1) := by rw [e2]; exact F.nx
    rw [F.1] at en1
    rw [en1]
    refine ⟨by rw [F2.1]; omega, s_8_init F2 (by rw [F2.1]) (fun j => by rw [e2]; exact (F.2.1 _ j (by omega)).1) K (fun q3 F3 M3 v3 d3 _ _ => ⟨vin hw, by rw [F3.1]; omega, by rw [F3.1]; omega, by rw [tn w (by omega)], fun q4 e4 x ex => ?_⟩)⟩
    rw [tn w (by omega)] at e4
    rw [ex, iplus]
    have F4 : FR q4 (44 + 34 * (w + 1)) := by rw [e4, show 44 + 34 * (w + 1) = 44 + 34 * w + 34 by omega]; exact F3.wl (by omega)
    have M34 : Mo q3 q4 := by rw [e4]; exact Mo.rf.wr
    have M02 : Mo q q2 := by rw [e2]; exact Mo.rf.nx
    refine hA q4 F4 (Mq.tr (M02.tr (M3.tr M34))) (fun a ha => ?_) ?_ (fun j hj => ?_)
    · rw [e4]
      show q3.1.1 a = k.1.1 a
      rw [v3 a (by omega) (by omega), e2]
      exact v a ha
    · rw [show 44 + 34 * (w + 1) = 44 + 34 * w + 34 by omega]
      exact (d.mo (M02.tr (M3.tr M34))).ap (d3.mo M34)
    · by_cases y : j = w
      · rw [e4, y]; exact wrR_t
      · exact M34 _ _ (M3 _ _ (M02 _ _ (s j (by omega))))
  intro A q F Mq v d s
  unfold m_0_init_15
  refine ⟨fun _ => ⟨F.1, hQ q F (mb.tr Mq) v ?_⟩, fun z => absurd ((lei (a := 8) (b := 8) (by decide) (by decide)).mpr (by omega)) z⟩
  refine DN.ap (m := 43) (DN.one c42 (fun j w => ?_)) (DN.ap (m := 44) (DN.one c43 (fun j w => ?_)) d)
  · simp [isR] at w
    rw [w]
    exact Mq _ _ r0
  · simp [isR] at w
    exact s j w
/-- what the class's constructor leaves -/
def st9 (k : Cc) : Prop := FR k 354 ∧ DN k 0 354 ∧ k.1.1 0 8 = 0 ∧ k.1.1 1 1 = 0 ∧ k.1.1 42 1 = 0 ∧ k.1.1 42 2 = 0 ∧ (∀ j, k.1.1 7 j = if j = 6 then 1000 else 0) ∧ (∀ j, k.1.1 10 j = if j < 6 then stV 0 j else 0) ∧ (∀ j, k.1.1 11 j = 0) ∧ ∀ j, k.1.1 12 j = 0
theorem s_9_init {Q : Cc → Prop} {k : Cc} (f : FR k 1) (z : ∀ j, k.1.1 0 j = 0) (hQ : ∀ k', st9 k' → Q k') : m_9_init 0 354 Q k := by
  have kk : kd 0 = 9 ∧ kd 1 = 7 ∧ kd 2 = 21 ∧ kd 3 = 3 ∧ kd 4 = 6 ∧ kd 5 = 20 ∧ kd 6 = 22 ∧ kd 7 = 8 ∧ kd 41 = 5 ∧ kd 42 = 0 ∧ kd 316 = 8 ∧ kd 350 = 5 ∧ kd 351 = 2 ∧ kd 352 = 28 ∧ kd 353 = 29 := by decide +kernel
  obtain ⟨c0, c1, c2, c3, c4, c5, c6, c7, c41, c42, c316, c350, c351, c352, c353⟩ := kk
  unfold m_9_init
  -- the text
  refine ⟨by rw [f.1]; omega, by rw [f.1]; exact c1, f.zer, fun n1 en1 k2 e2 => ?_⟩
  have F2 : FR k2 2 := by rw [e2]; exact f.nx
  rw [f.1] at en1
  subst en1
  refine ⟨by rw [F2.1]; omega, ?_⟩
  unfold m_7_init
  refine ⟨by rw [F2.1]; omega, by rw [F2.1]; exact c2, F2.zer, fun n2 en2 k3 e3 => ?_⟩
  have F3 : FR k3 3 := by rw [e3]; exact F2.nx
  refine ⟨by rw [F3.1]; omega, by rw [en2, F2.1], fun k4 e4 => ?_⟩
  have F4 : FR k4 3 := by rw [e4]; exact F3.wl (by omega)
  have D4 : DN k4 1 3 := by
    refine DN.ap (m := 2) (DN.one c1 (fun j w => ?_)) (DN.no c2 (fun _ => rfl))
    simp [isR] at w
    rw [w, e4]
    exact wrR_t
  have V4 : k4.1 = k.1 := by rw [e4, e3, e2]; rfl
  refine ⟨by rw [F4.1, F2.1], by rw [F4.1]; omega, rfl, fun k5 e5 => ?_⟩
  have F5 : FR k5 3 := by rw [e5]; exact F4.wl (by omega)
  have D5 : DN k5 1 3 := D4.mo (by rw [e5]; exact Mo.rf.wr)
  have a0 : k5.2.1 0 0 = true := by rw [e5]; exact wrR_t
  have V5 : k5.1 = k.1 := by rw [e5]; exact V4
  clear e5 V4 D4 e4 F4 F3 e3 en2 e2 F2
  -- the reader
  refine ⟨by rw [F5.1]; omega, by rw [F5.1]; exact c3, F5.zer, fun n6 en6 k6 e6 => ?_⟩
  have F6 : FR k6 4 := by rw [e6]; exact F5.nx
  rw [F5.1] at en6
  subst en6
  refine ⟨by rw [F6.1]; omega, ?_⟩
  unfold m_3_init
  refine ⟨by rw [F6.1]; omega, by rw [F6.1]; exact c4, F6.zer, fun n7 en7 k7 e7 => ?_⟩
  have F7 : FR k7 5 := by rw [e7]; exact F6.nx
  rw [F6.1] at en7
  subst en7
  refine ⟨by rw [F7.1, F6.1]; omega, s_6_init F7 (by rw [F7.1]) c4 c5 c6 (fun k8 F8 M8 V8 D8 => ⟨by rw [F8.1]; omega, rfl, fun k9 e9 => ?_⟩)⟩
  have F9 : FR k9 7 := by rw [e9]; exact F8.wl (by omega)
  have M59 : Mo k5 k9 := by
    rw [e9]
    have h1 : Mo k5 k7 := by rw [e7, e6]; exact Mo.rf.nx.nx
    exact (h1.tr M8).wr
  have D9 : DN k9 1 7 := by
    refine DN.ap (m := 3) (D5.mo M59) (DN.ap (m := 4) (DN.one c3 (fun j w => ?_)) (D8.mo (by rw [e9]; exact Mo.rf.wr)))
    simp [isR] at w
    rw [w, e9]
    exact wrR_t
  have V9 : k9.1 = k.1 := by rw [e9]; show k8.1 = k.1; rw [V8, e7, e6]; exact V5
  refine ⟨by rw [F9.1, F6.1], by rw [F9.1]; omega, rfl, fun k10 e10 => ?_⟩
  have F10 : FR k10 7 := by rw [e10]; exact F9.wl (by omega)
  have M10 : Mo k9 k10 := by rw [e10]; exact Mo.rf.wr
  have D10 : DN k10 1 7 := D9.mo M10
  have a0' : k10.2.1 0 0 = true := M10 _ _ (M59 _ _ a0)
  have a1 : k10.2.1 0 1 = true := by rw [e10]; exact wrR_t
  have V10 : k10.1 = k.1 := by rw [e10]; exact V9
  clear e10 M10 V9 D9 M59 F9 e9 V8 D8 M8 F8 e7 F7 e6 F6 V5 a0 D5 F5
  -- the world
  refine ⟨by rw [F10.1]; omega, by rw [F10.1]; exact c7, F10.zer, fun n11 en11 k11 e11 => ?_⟩
  have F11 : FR k11 8 := by rw [e11]; exact F10.nx
  rw [F10.1] at en11
  subst en11
  refine ⟨by rw [F11.1]; omega, s_8_init F11 (by rw [F11.1]) (fun j => by rw [e11]; exact (F10.2.1 7 j (by omega)).1) KW_all.1 (fun k12 F12 M12 V12 D12 W12 W12' => ⟨by rw [F12.1]; omega, rfl, fun k13 e13 => ?_⟩)⟩
  have F13 : FR k13 41 := by rw [e13]; exact F12.wl (by omega)
  have M13 : Mo k10 k13 := by
    rw [e13]
    have h1 : Mo k10 k11 := by rw [e11]; exact Mo.rf.nx
    exact (h1.tr M12).wr
  have D13 : DN k13 1 41 := (D10.mo M13).ap (D12.mo (by rw [e13]; exact Mo.rf.wr))
  have b0 : k13.2.1 0 0 = true := M13 _ _ a0'
  have b1 : k13.2.1 0 1 = true := M13 _ _ a1
  have b2 : k13.2.1 0 2 = true := by rw [e13]; exact wrR_t
  have zz : ∀ a j, 1 ≤ a → k.1.1 a j = 0 := fun a j ha => (f.2.1 a j ha).1
  have V13 : ∀ a j, a ≠ 7 → a ≠ 10 → k13.1.1 a j = 0 := fun a j h1 h2 => by
    rw [e13]
    show k12.1.1 a j = 0
    rw [V12 a h1 (by omega), e11]
    show k10.1.1 a j = 0
    rw [V10]
    by_cases w : a = 0
    · rw [w]; exact z j
    · exact zz a j (by omega)
  have X13 : ∀ j, k13.1.1 7 j = if j = 6 then 1000 else 0 := fun j => by rw [e13]; exact W12 j
  have Y13 : ∀ j, k13.1.1 10 j = if j < 6 then stV 0 j else 0 := fun j => by rw [e13]; exact W12' j
  clear e13 M13 D12 W12 W12' V12 M12 F12 e11 F11 D10 a0' a1 V10 F10
  -- its round
  refine ⟨by rw [F13.1]; omega, by rw [F13.1]; exact c41, F13.zer, fun n14 en14 k14 e14 => ?_⟩
  have F14 : FR k14 42 := by rw [e14]; exact F13.nx
  rw [F13.1] at en14
  subst en14
  refine ⟨by rw [F14.1]; omega, by rw [e14]; exact b2, by rw [F14.1]; omega, ?_⟩
  unfold m_5_init
  refine ⟨by rw [F14.1]; omega, rfl, fun k15 e15 => ?_⟩
  have F15 : FR k15 42 := by rw [e15]; exact F14.wl (by omega)
  refine ⟨by rw [F15.1, F14.1], by rw [F15.1]; omega, rfl, fun k16 e16 => ?_⟩
  have F16 : FR k16 42 := by rw [e16]; exact F15.wl (by omega)
  have M16 : Mo k13 k16 := by rw [e16, e15, e14]; exact Mo.rf.nx.wr.wr
  have D16 : DN k16 1 42 := by
    refine (D13.mo M16).ap (DN.one c41 (fun j w => ?_))
    simp [isR] at w
    rw [w, e16, e15]
    exact (Mo.rf.wr : Mo (wrR k14 41 0) (wrR (wrR k14 41 0) 0 3)) 41 0 wrR_t
  have d0 : k16.2.1 0 0 = true := M16 _ _ b0
  have d1 : k16.2.1 0 1 = true := M16 _ _ b1
  have d2 : k16.2.1 0 2 = true := M16 _ _ b2
  have d3 : k16.2.1 0 3 = true := by rw [e16]; exact wrR_t
  have V16 : k16.1 = k13.1 := by rw [e16, e15, e14]; rfl
  clear e16 e15 e14 M16 F15 F14 b0 b1 b2 D13 F13
  -- the history
  refine ⟨by rw [F16.1]; omega, by rw [F16.1]; exact c42, F16.zer, fun n17 en17 k17 e17 => ?_⟩
  have F17 : FR k17 43 := by rw [e17]; exact F16.nx
  rw [F16.1] at en17
  subst en17
  refine ⟨by rw [F17.1]; omega, s_0_init F17 (by rw [F17.1]) (fun k18 F18 M18 V18 D18 => ⟨by rw [F18.1]; omega, rfl, fun k19 e19 => ?_⟩)⟩
  have F19 : FR k19 316 := by rw [e19]; exact F18.wl (by omega)
  have M19 : Mo k16 k19 := by
    rw [e19]
    have h1 : Mo k16 k17 := by rw [e17]; exact Mo.rf.nx
    exact (h1.tr M18).wr
  have D19 : DN k19 1 316 := (D16.mo M19).ap (D18.mo (by rw [e19]; exact Mo.rf.wr))
  have g0 : k19.2.1 0 0 = true := M19 _ _ d0
  have g1 : k19.2.1 0 1 = true := M19 _ _ d1
  have g2 : k19.2.1 0 2 = true := M19 _ _ d2
  have g3 : k19.2.1 0 3 = true := M19 _ _ d3
  have g4 : k19.2.1 0 4 = true := by rw [e19]; exact wrR_t
  have V19 : ∀ a, a < 44 → k19.1.1 a = k13.1.1 a := fun a ha => by
    rw [e19]
    show k18.1.1 a = k13.1.1 a
    rw [V18 a ha, e17]
    show k16.1.1 a = k13.1.1 a
    rw [V16]
  clear e19 M19 D18 V18 M18 F18 e17 F17 d0 d1 d2 d3 D16 V16 F16
  -- the trial world
  refine ⟨by rw [F19.1]; omega, by rw [F19.1]; exact c316, F19.zer, fun n20 en20 k20 e20 => ?_⟩
  have F20 : FR k20 317 := by rw [e20]; exact F19.nx
  rw [F19.1] at en20
  subst en20
  refine ⟨by rw [F20.1]; omega, s_8_init F20 (by rw [F20.1]) (fun j => by rw [e20]; exact (F19.2.1 316 j (by omega)).1) KW_all.2.1 (fun k21 F21 M21 V21 D21 _ _ => ⟨by rw [F21.1]; omega, rfl, fun k22 e22 => ?_⟩)⟩
  have F22 : FR k22 350 := by rw [e22]; exact F21.wl (by omega)
  have M22 : Mo k19 k22 := by
    rw [e22]
    have h1 : Mo k19 k20 := by rw [e20]; exact Mo.rf.nx
    exact (h1.tr M21).wr
  have D22 : DN k22 1 350 := (D19.mo M22).ap (D21.mo (by rw [e22]; exact Mo.rf.wr))
  have h0 : k22.2.1 0 0 = true := M22 _ _ g0
  have h1 : k22.2.1 0 1 = true := M22 _ _ g1
  have h2 : k22.2.1 0 2 = true := M22 _ _ g2
  have h3 : k22.2.1 0 3 = true := M22 _ _ g3
  have h4 : k22.2.1 0 4 = true := M22 _ _ g4
  have h5 : k22.2.1 0 5 = true := by rw [e22]; exact wrR_t
  have V22 : ∀ a, a < 44 → k22.1.1 a = k13.1.1 a := fun a ha => by
    rw [e22]
    show k21.1.1 a = k13.1.1 a
    rw [V21 a (by omega) (by omega), e20]
    exact V19 a ha
  clear e22 M22 D21 V21 M21 F21 e20 F20 g0 g1 g2 g3 g4 D19 V19 F19
  -- its round
  refine ⟨by rw [F22.1]; omega, by rw [F22.1]; exact c350, F22.zer, fun n23 en23 k23 e23 => ?_⟩
  have F23 : FR k23 351 := by rw [e23]; exact F22.nx
  rw [F22.1] at en23
  subst en23
  refine ⟨by rw [F23.1]; omega, by rw [e23]; exact h5, by rw [F23.1]; omega, ?_⟩
  refine ⟨by rw [F23.1]; omega, rfl, fun k24 e24 => ?_⟩
  have F24 : FR k24 351 := by rw [e24]; exact F23.wl (by omega)
  refine ⟨by rw [F24.1, F23.1], by rw [F24.1]; omega, rfl, fun k25 e25 => ?_⟩
  have F25 : FR k25 351 := by rw [e25]; exact F24.wl (by omega)
  have M25 : Mo k22 k25 := by rw [e25, e24, e23]; exact Mo.rf.nx.wr.wr
  have D25 : DN k25 1 351 := by
    refine (D22.mo M25).ap (DN.one c350 (fun j w => ?_))
    simp [isR] at w
    rw [w, e25, e24]
    exact (Mo.rf.wr : Mo (wrR k23 350 0) (wrR (wrR k23 350 0) 0 6)) 350 0 wrR_t
  have i0 : k25.2.1 0 0 = true := M25 _ _ h0
  have i1 : k25.2.1 0 1 = true := M25 _ _ h1
  have i2 : k25.2.1 0 2 = true := M25 _ _ h2
  have i3 : k25.2.1 0 3 = true := M25 _ _ h3
  have i4 : k25.2.1 0 4 = true := M25 _ _ h4
  have i5 : k25.2.1 0 5 = true := M25 _ _ h5
  have i6 : k25.2.1 0 6 = true := by rw [e25]; exact wrR_t
  have V25 : k25.1 = k22.1 := by rw [e25, e24, e23]; rfl
  clear e25 e24 e23 M25 F24 F23 h0 h1 h2 h3 h4 h5 D22 F22
  -- the orders
  refine ⟨by rw [F25.1]; omega, by rw [F25.1]; exact c351, F25.zer, fun n26 en26 k26 e26 => ?_⟩
  have F26 : FR k26 352 := by rw [e26]; exact F25.nx
  rw [F25.1] at en26
  subst en26
  refine ⟨by rw [F26.1]; omega, ?_⟩
  unfold m_2_init
  refine ⟨by rw [F26.1]; omega, by rw [F26.1]; exact c352, F26.zer, fun n27 en27 k27 e27 => ?_⟩
  have F27 : FR k27 353 := by rw [e27]; exact F26.nx
  refine ⟨by rw [F27.1]; omega, by rw [en27, F26.1], fun k28 e28 => ?_⟩
  have F28 : FR k28 353 := by rw [e28]; exact F27.wl (by omega)
  refine ⟨by rw [F28.1, F26.1]; omega, by rw [F28.1]; exact c353, F28.zer, fun n29 en29 k29 e29 => ?_⟩
  have F29 : FR k29 354 := by rw [e29]; exact F28.nx
  refine ⟨by rw [F29.1]; omega, by rw [en29, F28.1], fun k30 e30 => ?_⟩
  have F30 : FR k30 354 := by rw [e30]; exact F29.wl (by omega)
  refine ⟨by rw [F30.1, F26.1], by rw [F30.1]; omega, rfl, fun k31 e31 => ?_⟩
  have F31 : FR k31 354 := by rw [e31]; exact F30.wl (by omega)
  refine ⟨by rw [F31.1]; omega, fun k32 e32 => ?_⟩
  have F32 : FR k32 354 := by rw [e32]; exact F31.wi (by omega)
  have fl : k32.2 = k31.2 := by rw [e32]; rfl
  have M31 : Mo k25 k31 := by rw [e31, e30, e29, e28, e27, e26]; exact Mo.rf.nx.nx.wr.nx.wr.wr
  have M32 : Mo k25 k32 := fun a j q => by rw [fl]; exact M31 a j q
  have j0 : k31.2.1 351 0 = true := by
    have h : Mo k28 k31 := by rw [e31, e30, e29]; exact Mo.rf.nx.wr.wr
    exact h 351 0 (by rw [e28]; exact wrR_t)
  have j2 : k31.2.1 351 2 = true := by
    have h : Mo k30 k31 := by rw [e31]; exact Mo.rf.wr
    exact h 351 2 (by rw [e30]; exact wrR_t)
  have i7 : k32.2.1 0 7 = true := by rw [fl, e31]; exact wrR_t
  have V31 : k31.1 = k22.1 := by rw [e31, e30, e29, e28, e27, e26]; exact V25
  have W : ∀ a, a < 44 → a ≠ 0 → k32.1.1 a = k13.1.1 a := fun a ha h0 => by
    rw [e32]
    show (wr k31.1 0 8 0).1 a = k13.1.1 a
    rw [wr_cell h0, V31]
    exact V22 a ha
  refine ⟨F32.1, hQ k32 ⟨F32, ?_, ?_, ?_, ?_, ?_, fun j => ?_, fun j => ?_, fun j => ?_, fun j => ?_⟩⟩
  · refine DN.ap (m := 1) (DN.one c0 (fun j w => ?_)) ((D25.mo M32).ap (DN.ap (m := 352) (DN.one c351 (fun j w => ?_)) (DN.ap (m := 353) (DN.no c352 (fun _ => rfl)) (DN.no c353 (fun _ => rfl)))))
    · simp [isR] at w
      rcases w with ((((((rfl | rfl) | rfl) | rfl) | rfl) | rfl) | rfl) | rfl
      · exact M32 _ _ i0
      · exact M32 _ _ i1
      · exact M32 _ _ i2
      · exact M32 _ _ i3
      · exact M32 _ _ i4
      · exact M32 _ _ i5
      · exact M32 _ _ i6
      · exact i7
    · simp [isR] at w
      rcases w with rfl | rfl
      · rw [fl]; exact j0
      · rw [fl]; exact j2
  · rw [e32]
    show (wr k31.1 0 8 0).1 0 8 = 0
    rw [wr_same]
  · rw [W 1 (by omega) (by omega)]; exact V13 _ _ (by omega) (by omega)
  · rw [W 42 (by omega) (by omega)]; exact V13 _ _ (by omega) (by omega)
  · rw [W 42 (by omega) (by omega)]; exact V13 _ _ (by omega) (by omega)
  · rw [W 7 (by omega) (by omega)]; exact X13 j
  · rw [W 10 (by omega) (by omega)]; exact Y13 j
  · rw [W 11 (by omega) (by omega)]; exact V13 _ _ (by omega) (by omega)
  · rw [W 12 (by omega) (by omega)]; exact V13 _ _ (by omega) (by omega)
