-- the digest, on the model's side
theorem s_mixes {v : Int32} {Q : St → Prop} {σ : St} (h : Q (wrL σ (31 * σ.2 + v.toInt64))) : m_10_mixes 354 v Q σ := by
  unfold m_10_mixes
  intro σ1 e1
  rw [e1]
  exact h
theorem FM.wl {σ τ : St} {z z' : Int64} (h : FM (wrL σ z) τ) : FM (wrL σ z') (wrL τ z') := ⟨h.1, h.2.1, h.2.2.1, rfl⟩
theorem FM.pg {n l : Nat} {σ τ : St} (h : FM σ τ) : EQP n l (σ.1 355) (τ.1 355) := fun x hx _ => (h.1 x (by have := hx.1; omega)).symm
theorem d10_144 {c n l : Nat} {σ : St} {z : Int64} {Q : Int64 → St → Prop} (ok : okP c n l (σ.1 355)) (hQ : ∀ τ z', FM (wrL σ z') τ → Q (31 * dC (fIf l (σ.1 355)) z 4 + ((bsF l (σ.1 355) 4).1).toInt64) τ) : itN (m_10_digest_144 354 Q) (fun _ _ => False) FU 1 (wrL σ z) := by
  refine it_cnt (fun (k : Nat) (A : Int32 → St → Prop) => ∀ τ, FM (wrL σ (dC (fIf l (σ.1 355)) z k)) τ → A (nI (k + 1)) τ) 4 (by decide) ?_ ?_ (wrL σ z) FM.rf
  · intro k hk A hA τ f
    have eq1 : EQP n l (σ.1 355) (τ.1 355) := f.pg (σ := wrL σ _)
    unfold m_10_digest_144
    refine ⟨fun q => absurd ((lti (a := 4) (by decide) (by omega)).mp q) (by omega), fun _ => ?_⟩
    refine s_10_ifSpeed (c := c) (n := n) (l := l) (ok.tr eq1) (fun τ1 f1 => s_mixes ?_)
    intro x ex
    have F := FM.tr f f1
    have e2 : τ1.2 = dC (fIf l (σ.1 355)) z k := F.2.2.2
    rw [ex, iplus, ← vIf_eq ok eq1, e2]
    exact hA _ F.wl
  · intro A τ f
    have eq1 : EQP n l (σ.1 355) (τ.1 355) := f.pg (σ := wrL σ _)
    unfold m_10_digest_144
    refine ⟨fun _ => ?_, fun q => absurd ((lti (a := 4) (b := 4 + 1) (by decide) (by decide)).mpr (by omega)) q⟩
    refine s_10_bestSpeed (c := c) (n := n) (l := l) (ok.tr eq1) (fun τ1 f1 => s_mixes ?_)
    have F := FM.tr f f1
    have e2 : τ1.2 = dC (fIf l (σ.1 355)) z 4 := F.2.2.2
    rw [← bsF_eq ok eq1 4 (by omega), e2]
    exact hQ _ _ F.wl
theorem d10_121 {c n l : Nat} {σ : St} {z : Int64} {Q : Int64 → St → Prop} (ok : okP c n l (σ.1 355)) (hQ : itN (m_10_digest_144 354 Q) (fun _ _ => False) FU 1 (wrL σ (dC (fAc (σ.1 355)) z 7))) : itN (m_10_digest_121 354 Q) (fun _ _ => False) FU 0 (wrL σ z) := by
  refine it_cnt (fun (k : Nat) (A : Int32 → St → Prop) => A (nI k) (wrL σ (dC (fAc (σ.1 355)) z k))) 7 (by decide) ?_ ?_
  · intro k hk A hA
    unfold m_10_digest_121
    refine ⟨fun q => absurd ((lei (a := 7) (by decide) (by omega)).mp q) (by omega), fun _ => ?_⟩
    refine s_10_account (r0 := 354) ok (s_mixes ?_)
    intro x ex
    rw [ex, iplus]
    exact hA
  · intro A
    unfold m_10_digest_121
    exact ⟨fun _ => hQ, fun q => absurd ((lei (a := 7) (b := 7) (by decide) (by decide)).mpr (by omega)) q⟩
theorem d10_98 {σ : St} {z : Int64} {Q : Int64 → St → Prop} (hQ : itN (m_10_digest_121 354 Q) (fun _ _ => False) FU 0 (wrL σ (dC (fLa (σ.1 355) (σ.1 355 555 = 0)) z 6))) : itN (m_10_digest_98 354 Q) (fun _ _ => False) FU 0 (wrL σ z) := by
  refine it_cnt (fun (k : Nat) (A : Int32 → St → Prop) => A (nI k) (wrL σ (dC (fLa (σ.1 355) (σ.1 355 555 = 0)) z k))) 6 (by decide) ?_ ?_
  · intro k hk A hA
    unfold m_10_digest_98
    refine ⟨fun q => absurd ((lei (a := 6) (by decide) (by omega)).mp q) (by omega), fun _ => ?_⟩
    refine s_10_latest (r0 := 354) (s_mixes ?_)
    intro x ex
    rw [ex, iplus]
    exact hA
  · intro A
    unfold m_10_digest_98
    exact ⟨fun _ => hQ, fun q => absurd ((lei (a := 6) (b := 6) (by decide) (by decide)).mpr (by omega)) q⟩
theorem d10_55 {c n l : Nat} {σ : St} {z : Int64} {Q : Int64 → St → Prop} (ok : okP c n l (σ.1 355)) (hQ : itN (m_10_digest_98 354 Q) (fun _ _ => False) FU 0 (wrL σ (dN 4 (fLe (σ.1 355)) z l))) : itN (m_10_digest_55 354 Q) (fun _ _ => False) FU 0 (wrL σ z) := by
  have g3 : ∀ z', (wrL σ z').1 (354 + 1) 507 = nI l := fun _ => ok.1.2.2.1
  have h10 := ok.1.2.2.2
  refine it_cnt (fun (j : Nat) (A : Int32 → St → Prop) => A (nI j) (wrL σ (dN 4 (fLe (σ.1 355)) z j))) l (by omega) ?_ ?_
  · intro j hj A hA
    unfold m_10_digest_55
    rw [t507, g3]
    refine ⟨v507, fun q => absurd q (nle_of hj (by omega)), fun _ => ?_⟩
    refine it_cnt (fun (k : Nat) (B : Int32 → St → Prop) => B (nI k) (wrL σ (dC (fLe (σ.1 355) j) (dN 4 (fLe (σ.1 355)) z j) k))) 4 (by decide) ?_ ?_
    · intro k hk B hB
      unfold m_10_digest_69
      refine ⟨fun q => absurd ((lei (a := 4) (by decide) (by omega)).mp q) (by omega), fun _ => ?_⟩
      refine s_10_leg (r0 := 354) ok (s_mixes ?_)
      intro x ex
      rw [ex, iplus]
      exact hB
    · intro B
      unfold m_10_digest_69
      refine ⟨fun _ x ex => ?_, fun q => absurd ((lei (a := 4) (b := 4) (by decide) (by decide)).mpr (by omega)) q⟩
      rw [ex, iplus]
      exact hA
  · intro A
    unfold m_10_digest_55
    rw [t507, g3]
    exact ⟨v507, fun _ => hQ, fun q => absurd ((lei (by omega) (by omega)).mpr (Nat.le_refl l)) q⟩
theorem d10_str {c n l i : Nat} {σ : St} {z : Int64} {Q : St → Prop} (ok : okP c n l (σ.1 355)) (hi : i < n) (hQ : Q (wrL σ (dE (cellsN (σ.1 355) i) (fCe (σ.1 355) i) (dC (fSt (σ.1 355) i) z 8) 2))) : m_10_mixesStreet 354 (nI i) Q (wrL σ z) := by
  have h6 := ok.1.2.1
  obtain ⟨c1, c2, c3⟩ := ok.cells hi
  unfold m_10_mixesStreet
  refine it_cnt (fun (k : Nat) (A : Int32 → St → Prop) => A (nI k) (wrL σ (dC (fSt (σ.1 355) i) z k))) 8 (by decide) ?_ ?_
  · intro k hk A hA
    unfold m_10_mixesStreet_2
    refine ⟨fun q => absurd ((lei (a := 8) (by decide) (by omega)).mp q) (by omega), fun _ => ?_⟩
    refine s_10_street (r0 := 354) ok (s_mixes ?_)
    intro x ex
    rw [ex, iplus]
    exact hA
  intro A
  unfold m_10_mixesStreet_2
  refine ⟨fun _ => ?_, fun q => absurd ((lei (a := 8) (b := 8) (by decide) (by decide)).mpr (by omega)) q⟩
  refine it_cnt (fun (s : Nat) (A : Int32 → St → Prop) => A (nI s) (wrL σ (dE (cellsN (σ.1 355) i) (fCe (σ.1 355) i) (dC (fSt (σ.1 355) i) z 8) s))) 2 (by decide) ?_ ?_
  · intro s hs A hA
    unfold m_10_mixesStreet_26
    refine ⟨fun q => absurd ((lei (a := 2) (by decide) (by omega)).mp q) (by omega), fun _ => ?_⟩
    refine it_cnt (fun (cc : Nat) (B : Int32 → St → Prop) => B (nI cc) (wrL σ (dN 3 (fCe (σ.1 355) i s) (dE (cellsN (σ.1 355) i) (fCe (σ.1 355) i) (dC (fSt (σ.1 355) i) z 8) s) cc))) (cellsN (σ.1 355) i) (by omega) ?_ ?_
    · intro cc hcc B hB
      unfold m_10_mixesStreet_33
      refine s_10_of (k := 0) (by omega) (by omega) ?_
      show ((wrL σ _).1 355 (1 + 83 * i) ≤ nI cc → _) ∧ (¬ (wrL σ _).1 355 (1 + 83 * i) ≤ nI cc → _)
      rw [show ∀ z', (wrL σ z').1 355 (1 + 83 * i) = nI (cellsN (σ.1 355) i) from fun _ => c1]
      refine ⟨fun q => absurd q (nle_of hcc (by omega)), fun _ => ?_⟩
      refine it_cnt (fun (k : Nat) (D : Int32 → St → Prop) => D (nI k) (wrL σ (dC (fCe (σ.1 355) i s cc) (dN 3 (fCe (σ.1 355) i s) (dE (cellsN (σ.1 355) i) (fCe (σ.1 355) i) (dC (fSt (σ.1 355) i) z 8) s) cc) k))) 3 (by decide) ?_ ?_
      · intro k hk D hD
        unfold m_10_mixesStreet_46
        refine ⟨fun q => absurd ((lei (a := 3) (by decide) (by omega)).mp q) (by omega), fun _ => ?_⟩
        refine s_10_cell (r0 := 354) ok (s_mixes ?_)
        intro x ex
        rw [ex, iplus]
        exact hD
      · intro D
        unfold m_10_mixesStreet_46
        refine ⟨fun _ x ex => ?_, fun q => absurd ((lei (a := 3) (b := 3) (by decide) (by decide)).mpr (by omega)) q⟩
        rw [ex, iplus]
        exact hB
    · intro B
      unfold m_10_mixesStreet_33
      refine s_10_of (k := 0) (by omega) (by omega) ?_
      show ((wrL σ _).1 355 (1 + 83 * i) ≤ nI _ → _) ∧ (¬ (wrL σ _).1 355 (1 + 83 * i) ≤ nI _ → _)
      rw [show ∀ z', (wrL σ z').1 355 (1 + 83 * i) = nI (cellsN (σ.1 355) i) from fun _ => c1]
      refine ⟨fun _ x ex => ?_, fun q => absurd ((lei (by omega) (by omega)).mpr (Nat.le_refl _)) q⟩
      rw [ex, iplus]
      exact hA
  · intro A
    unfold m_10_mixesStreet_26
    exact ⟨fun _ => hQ, fun q => absurd ((lei (a := 2) (b := 2) (by decide) (by decide)).mpr (by omega)) q⟩
theorem s_10_digest {c n l : Nat} {σ : St} {Q : Int64 → St → Prop} (ok : okP c n l (σ.1 355)) (hQ : ∀ τ z, FM (wrL σ z) τ → Q (dg n l (σ.1 355) (σ.1 354 3) (σ.1 354 1) (σ.1 355 555 = 0)) τ) : m_10_digest 354 Q σ := by
  have g1 : ∀ z', (wrL σ z').1 (354 + 1) 0 = nI n := fun _ => ok.1.1
  have h6 := ok.1.2.1
  unfold m_10_digest
  intro σ1 e1
  rw [e1]
  refine it_cnt (fun (k : Nat) (A : Int32 → St → Prop) => A (nI k) (wrL σ (dC (fCt (σ.1 355) (σ.1 354 3) (σ.1 354 1)) 18926 k))) 15 (by decide) ?_ ?_
  · intro k hk A hA
    unfold m_10_digest_9
    refine ⟨fun q => absurd ((lei (a := 15) (by decide) (by omega)).mp q) (by omega), fun _ => ?_⟩
    refine s_10_count (r0 := 354) (s_mixes ?_)
    intro x ex
    rw [ex, iplus]
    exact hA
  intro A
  unfold m_10_digest_9
  refine ⟨fun _ => ?_, fun q => absurd ((lei (a := 15) (b := 15) (by decide) (by decide)).mpr (by omega)) q⟩
  refine it_cnt (fun (i : Nat) (B : Int32 → St → Prop) => B (nI i) (wrL σ (dS (fSt (σ.1 355)) (cellsN (σ.1 355)) (fCe (σ.1 355)) (dC (fCt (σ.1 355) (σ.1 354 3) (σ.1 354 1)) 18926 15) i))) n (by omega) ?_ ?_
  · intro i hi B hB
    unfold m_10_digest_32
    rw [tn0, g1]
    refine ⟨vq0, fun q => absurd q (nle_of hi (by omega)), fun _ => ?_⟩
    refine d10_str ok hi ?_
    intro x ex
    rw [ex, iplus]
    exact hB
  · intro B
    unfold m_10_digest_32
    rw [tn0, g1]
    refine ⟨vq0, fun _ => ?_, fun q => absurd ((lei (by omega) (by omega)).mpr (Nat.le_refl n)) q⟩
    exact d10_55 ok (d10_98 (d10_121 ok (d10_144 ok hQ)))
theorem Inv.wl {c : Nat} {σ : St} {z : Int64} (I : Inv c σ) : Inv c (wrL σ z) := by
  obtain ⟨hR, ⟨k, x, q1, q2, q3, q4, q5, q6⟩, ⟨m, t1, t2, t3, t4⟩, hF⟩ := I
  exact ⟨hR, ⟨k, x, q1, q2, q3, q4, q5, q6⟩, ⟨m, t1, t2, t3, t4⟩, hF⟩
theorem p_digest {c : Nat} {σ : St} {H : Int64 → St → Prop} {K : Int64 → Int64 → St → Prop} (I : Inv c σ) (hH : ∀ v σ1, m_10_digest 354 (K v) σ1 → H v σ1) (h : ∀ v τ, Inv (c + 1) τ → K v v τ) : m_9_digest 0 H σ := by
  obtain ⟨n, l, ok, e, e5⟩ := id I.1
  refine s_9_digest ok (fun τ f => hH _ _ ?_)
  have e3 : τ.1 355 = σ.1 355 := f 355 (by omega)
  have e4 : τ.1 354 = σ.1 354 := f 354 (by omega)
  refine s_10_digest (c := c) (n := n) (l := l) (by rw [e3]; exact ok.tr e) (fun υ z g => ?_)
  obtain ⟨k, x, -, -, -, k2, k3, -⟩ := I.2.1
  obtain ⟨m, -, t2, t3, -⟩ := I.2.2.1
  rw [e3, e4, k2, k3, t2, t3, ← dg_eq ok e e5]
  exact h _ _ ((g.inv (f.inv I).wl).mono (by omega))
