-- the digest, as numbers
def dC (f : Nat → Int32) (z : Int64) : Nat → Int64
  | 0 => z
  | k + 1 => 31 * dC f z k + (f k).toInt64
def dN (m : Nat) (g : Nat → Nat → Int32) (z : Int64) : Nat → Int64
  | 0 => z
  | c + 1 => dC (g c) (dN m g z c) m
def dE (v : Nat) (g : Nat → Nat → Nat → Int32) (z : Int64) : Nat → Int64
  | 0 => z
  | s + 1 => dN 3 (g s) (dE v g z s) v
def dS (st : Nat → Nat → Int32) (vs : Nat → Nat) (ce : Nat → Nat → Nat → Nat → Int32) (z : Int64) : Nat → Int64
  | 0 => z
  | i + 1 => dE (vs i) (ce i) (dC (st i) (dS st vs ce z i) 8) 2
theorem dS_0 (st : Nat → Nat → Int32) (vs : Nat → Nat) (ce : Nat → Nat → Nat → Nat → Int32) (z : Int64) : dS st vs ce z 0 = z := rfl
theorem dS_s (st : Nat → Nat → Int32) (vs : Nat → Nat) (ce : Nat → Nat → Nat → Nat → Int32) (z : Int64) (i : Nat) : dS st vs ce z (i + 1) = dE (vs i) (ce i) (dC (st i) (dS st vs ce z i) 8) 2 := rfl
noncomputable def fCt (P : Nat → Int32) (ty bk : Int32) (k : Nat) : Int32 := vCnt P ty bk (nI k)
noncomputable def fSt (P : Nat → Int32) (i k : Nat) : Int32 := vStreet P (nI i) (nI k)
noncomputable def fCe (P : Nat → Int32) (i s c k : Nat) : Int32 := vCell P (nI i) (nI s) (nI c) (nI k)
noncomputable def fLe (P : Nat → Int32) (j k : Nat) : Int32 := vLeg P (nI j) (nI k)
noncomputable def fLa (P : Nat → Int32) (no : Prop) (k : Nat) : Int32 := vLat P no (nI k)
noncomputable def fAc (P : Nat → Int32) (k : Nat) : Int32 := vAcc P (nI k)
def fIf (l : Nat) (P : Nat → Int32) (k : Nat) : Int32 := vIf l P (nI (k + 1))
noncomputable def dg1 (n : Nat) (P : Nat → Int32) (ty bk : Int32) : Int64 := dS (fSt P) (cellsN P) (fCe P) (dC (fCt P ty bk) 18926 15) n
noncomputable def dg2 (l : Nat) (P : Nat → Int32) (no : Prop) (z : Int64) : Int64 := dC (fAc P) (dC (fLa P no) (dN 4 (fLe P) z l) 6) 7
noncomputable def dg (n l : Nat) (P : Nat → Int32) (ty bk : Int32) (no : Prop) : Int64 := 31 * dC (fIf l P) (dg2 l P no (dg1 n P ty bk)) 4 + ((bsF l P 4).1).toInt64
theorem dS_eq {c n l : Nat} {P p : Nat → Int32} {z : Int64} (ok : okP c n l P) (e : EQP n l P p) : ∀ i, i ≤ n → dS (fSt P) (cellsN P) (fCe P) z i = dS (fSt p) (cellsN p) (fCe p) z i := by
  have h6 := ok.1.2.1
  intro i
  induction i with
  | zero => intro _; rw [dS_0, dS_0]
  | succ i ih =>
    intro hi
    have e1 : fSt P i = fSt p i := by funext k; exact vStreet_eq ok e
    have e2 : fCe P i = fCe p i := by funext s k w; exact vCell_eq ok e
    rw [dS_s, dS_s, ih (by omega), e1, e2, cellsN_eq e hi h6]
theorem dg_eq {c n l : Nat} {P p : Nat → Int32} {ty bk : Int32} (ok : okP c n l P) (e : EQP n l P p) (e5 : p 555 = (if P 562 = 0 then 0 else 1)) : dg n l P ty bk (P 562 = 0) = dg n l p ty bk (p 555 = 0) := by
  have a1 : fCt P ty bk = fCt p ty bk := by funext k; exact vCnt_eq e
  have a2 : fLe P = fLe p := by funext j k; exact vLeg_eq ok e
  have a3 : fLa P (P 562 = 0) = fLa p (p 555 = 0) := by funext k; exact vLat_eq e e5
  have a4 : fAc P = fAc p := by funext k; exact vAcc_eq ok e
  have a5 : fIf l P = fIf l p := by funext k; exact vIf_eq ok e
  unfold dg dg2 dg1
  rw [a1, a2, a3, a4, a5, bsF_eq ok e 4 (by omega), dS_eq ok e n (Nat.le_refl n)]
-- the class
theorem s_mix {z : Int64} {v : Int32} {Q : Int64 → St → Prop} {σ : St} (h : Q (31 * z + v.toInt64) σ) : m_9_mix z v Q σ := by
  unfold m_9_mix
  exact h
theorem d9_149 {c n l : Nat} {σ τ0 : St} {z : Int64} {Q : Int64 → St → Prop} (ok : okP c n l (pgW σ 7)) (f0 : FC σ τ0) (hQ : ∀ τ, FC σ τ → Q (31 * dC (fIf l (pgW σ 7)) z 4 + ((bsF l (pgW σ 7) 4).1).toInt64) τ) : itN (m_9_digest_149 0 Q) (fun _ _ _ => False) FU z 1 τ0 := by
  refine it_cnt (fun (k : Nat) (A : Int64 → Int32 → St → Prop) => ∀ τ, FC σ τ → A (dC (fIf l (pgW σ 7)) z k) (nI (k + 1)) τ) 4 (by decide) ?_ ?_ τ0 f0
  · intro k hk A hA τ f
    unfold m_9_digest_149
    refine ⟨fun q => absurd ((lti (a := 4) (by decide) (by omega)).mp q) (by omega), fun _ => ?_⟩
    refine s_9_ifSpeed (by rw [f.pg]; exact ok) (fun τ1 f1 => s_mix ?_)
    intro x ex
    rw [ex, iplus, f.pg]
    exact hA τ1 (FC.tr f f1)
  · intro A τ f
    unfold m_9_digest_149
    refine ⟨fun _ => ?_, fun q => absurd ((lti (a := 4) (b := 4 + 1) (by decide) (by decide)).mpr (by omega)) q⟩
    refine s_9_bestSpeed (by rw [f.pg]; exact ok) (fun τ1 f1 => s_mix ?_)
    rw [f.pg]
    exact hQ τ1 (FC.tr f f1)
theorem d9_125 {c n l : Nat} {σ : St} {z : Int64} {Q : Int64 → St → Prop} (ok : okP c n l (pgW σ 7)) (hQ : itN (m_9_digest_149 0 Q) (fun _ _ _ => False) FU (dC (fAc (pgW σ 7)) z 7) 1 σ) : itN (m_9_digest_125 0 Q) (fun _ _ _ => False) FU z 0 σ := by
  refine it_cnt (fun (k : Nat) (A : Int64 → Int32 → St → Prop) => A (dC (fAc (pgW σ 7)) z k) (nI k) σ) 7 (by decide) ?_ ?_
  · intro k hk A hA
    unfold m_9_digest_125
    refine ⟨fun q => absurd ((lti (a := 6) (by decide) (by omega)).mp q) (by omega), fun _ => ?_⟩
    refine s_9_account (r0 := 0) ok (s_mix ?_)
    intro x ex
    rw [ex, iplus]
    exact hA
  · intro A
    unfold m_9_digest_125
    exact ⟨fun _ => hQ, fun q => absurd ((lti (a := 6) (b := 7) (by decide) (by decide)).mpr (by omega)) q⟩
theorem d9_102 {σ : St} {z : Int64} {Q : Int64 → St → Prop} (hQ : itN (m_9_digest_125 0 Q) (fun _ _ _ => False) FU (dC (fLa (pgW σ 7) (pgW σ 7 562 = 0)) z 6) 0 σ) : itN (m_9_digest_102 0 Q) (fun _ _ _ => False) FU z 0 σ := by
  refine it_cnt (fun (k : Nat) (A : Int64 → Int32 → St → Prop) => A (dC (fLa (pgW σ 7) (pgW σ 7 562 = 0)) z k) (nI k) σ) 6 (by decide) ?_ ?_
  · intro k hk A hA
    unfold m_9_digest_102
    refine ⟨fun q => absurd ((lti (a := 5) (by decide) (by omega)).mp q) (by omega), fun _ => ?_⟩
    refine s_9_latest (r0 := 0) (s_mix ?_)
    intro x ex
    rw [ex, iplus]
    exact hA
  · intro A
    unfold m_9_digest_102
    exact ⟨fun _ => hQ, fun q => absurd ((lti (a := 5) (b := 6) (by decide) (by decide)).mpr (by omega)) q⟩
theorem d9_56 {c n l : Nat} {σ : St} {z : Int64} {Q : Int64 → St → Prop} (ok : okP c n l (pgW σ 7)) (hQ : itN (m_9_digest_102 0 Q) (fun _ _ _ => False) FU (dN 4 (fLe (pgW σ 7)) z l) 0 σ) : itN (m_9_digest_56 0 Q) (fun _ _ _ => False) FU z 0 σ := by
  have g3 : σ.1 (0 + 7) 3 = nI l := ok.1.2.2.1
  have h10 := ok.1.2.2.2
  refine it_cnt (fun (j : Nat) (A : Int64 → Int32 → St → Prop) => A (dN 4 (fLe (pgW σ 7)) z j) (nI j) σ) l (by omega) ?_ ?_
  · intro j hj A hA
    unfold m_9_digest_56
    rw [g3]
    refine ⟨fun q => absurd q (nle_of hj (by omega)), fun _ => ?_⟩
    refine it_cnt (fun (k : Nat) (B : Int64 → Int32 → St → Prop) => B (dC (fLe (pgW σ 7) j) (dN 4 (fLe (pgW σ 7)) z j) k) (nI k) σ) 4 (by decide) ?_ ?_
    · intro k hk B hB
      unfold m_9_digest_70
      refine ⟨fun q => absurd ((lti (a := 3) (by decide) (by omega)).mp q) (by omega), fun _ => ?_⟩
      refine s_9_leg (r0 := 0) ok (s_mix ?_)
      intro x ex
      rw [ex, iplus]
      exact hB
    · intro B
      unfold m_9_digest_70
      refine ⟨fun _ x ex => ?_, fun q => absurd ((lti (a := 3) (b := 4) (by decide) (by decide)).mpr (by omega)) q⟩
      rw [ex, iplus]
      exact hA
  · intro A
    unfold m_9_digest_56
    rw [g3]
    exact ⟨fun _ => hQ, fun q => absurd ((lei (by omega) (by omega)).mpr (Nat.le_refl l)) q⟩
theorem d9_str {c n l i : Nat} {σ : St} {z : Int64} {Q : Int64 → St → Prop} (ok : okP c n l (pgW σ 7)) (hi : i < n) (hQ : Q (dE (cellsN (pgW σ 7) i) (fCe (pgW σ 7) i) (dC (fSt (pgW σ 7) i) z 8) 2) σ) : m_9_mixStreet 0 z (nI i) Q σ := by
  have h6 := ok.1.2.1
  obtain ⟨c1, c2, c3⟩ := ok.cells hi
  unfold m_9_mixStreet
  refine it_cnt (fun (k : Nat) (A : Int64 → Int32 → St → Prop) => A (dC (fSt (pgW σ 7) i) z k) (nI k) σ) 8 (by decide) ?_ ?_
  · intro k hk A hA
    unfold m_9_mixStreet_6
    refine ⟨fun q => absurd ((lti (a := 7) (by decide) (by omega)).mp q) (by omega), fun _ => ?_⟩
    refine s_9_street (r0 := 0) ok (s_mix ?_)
    intro x ex
    rw [ex, iplus]
    exact hA
  intro A
  unfold m_9_mixStreet_6
  refine ⟨fun _ => ⟨vin (by omega), fun v ev => ?_⟩, fun q => absurd ((lti (a := 7) (b := 8) (by decide) (by decide)).mpr (by omega)) q⟩
  rw [tn i (by omega), show (0 + 7 + 1 + 5 + 3 * i : Nat) = 7 + 1 + 5 + 3 * i by omega, pg_st (B := 7) (k := 0) (by omega) (by omega) c1] at ev
  rw [ev]
  refine it_cnt (fun (s : Nat) (A : Int64 → Int32 → St → Prop) => A (dE (cellsN (pgW σ 7) i) (fCe (pgW σ 7) i) (dC (fSt (pgW σ 7) i) z 8) s) (nI s) σ) 2 (by decide) ?_ ?_
  · intro s hs A hA
    unfold m_9_mixStreet_50
    refine ⟨fun q => absurd ((lei (a := 2) (by decide) (by omega)).mp q) (by omega), fun _ => ?_⟩
    refine it_cnt (fun (cc : Nat) (B : Int64 → Int32 → St → Prop) => B (dN 3 (fCe (pgW σ 7) i s) (dE (cellsN (pgW σ 7) i) (fCe (pgW σ 7) i) (dC (fSt (pgW σ 7) i) z 8) s) cc) (nI cc) σ) (cellsN (pgW σ 7) i) (by omega) ?_ ?_
    · intro cc hcc B hB
      unfold m_9_mixStreet_59
      refine ⟨fun q => absurd q (nle_of hcc (by omega)), fun _ => ?_⟩
      refine it_cnt (fun (k : Nat) (D : Int64 → Int32 → St → Prop) => D (dC (fCe (pgW σ 7) i s cc) (dN 3 (fCe (pgW σ 7) i s) (dE (cellsN (pgW σ 7) i) (fCe (pgW σ 7) i) (dC (fSt (pgW σ 7) i) z 8) s) cc) k) (nI k) σ) 3 (by decide) ?_ ?_
      · intro k hk D hD
        unfold m_9_mixStreet_69
        refine ⟨fun q => absurd ((lti (a := 2) (by decide) (by omega)).mp q) (by omega), fun _ => ?_⟩
        refine s_9_cell (r0 := 0) ok (s_mix ?_)
        intro x ex
        rw [ex, iplus]
        exact hD
      · intro D
        unfold m_9_mixStreet_69
        refine ⟨fun _ x ex => ?_, fun q => absurd ((lti (a := 2) (b := 3) (by decide) (by decide)).mpr (by omega)) q⟩
        rw [ex, iplus]
        exact hB
    · intro B
      unfold m_9_mixStreet_59
      refine ⟨fun _ x ex => ?_, fun q => absurd ((lei (by omega) (by omega)).mpr (Nat.le_refl _)) q⟩
      rw [ex, iplus]
      exact hA
  · intro A
    unfold m_9_mixStreet_50
    exact ⟨fun _ => hQ, fun q => absurd ((lei (a := 2) (b := 2) (by decide) (by decide)).mpr (by omega)) q⟩
theorem s_9_digest {c n l : Nat} {σ : St} {Q : Int64 → St → Prop} (ok : okP c n l (pgW σ 7)) (hQ : ∀ τ, FC σ τ → Q (dg n l (pgW σ 7) (σ.1 1 1) (σ.1 42 2) (pgW σ 7 562 = 0)) τ) : m_9_digest 0 Q σ := by
  have g1 : σ.1 (0 + 7) 1 = nI n := ok.1.1
  have h6 := ok.1.2.1
  unfold m_9_digest
  refine it_cnt (fun (k : Nat) (A : Int64 → Int32 → St → Prop) => A (dC (fCt (pgW σ 7) (σ.1 1 1) (σ.1 42 2)) 18926 k) (nI k) σ) 15 (by decide) ?_ ?_
  · intro k hk A hA
    unfold m_9_digest_6
    refine ⟨fun q => absurd ((lei (a := 15) (by decide) (by omega)).mp q) (by omega), fun _ => ?_⟩
    refine s_9_count (r0 := 0) (s_mix ?_)
    intro x ex
    rw [ex, iplus]
    exact hA
  intro A
  unfold m_9_digest_6
  refine ⟨fun _ => ?_, fun q => absurd ((lei (a := 15) (b := 15) (by decide) (by decide)).mpr (by omega)) q⟩
  refine it_cnt (fun (i : Nat) (B : Int64 → Int32 → St → Prop) => B (dS (fSt (pgW σ 7)) (cellsN (pgW σ 7)) (fCe (pgW σ 7)) (dC (fCt (pgW σ 7) (σ.1 1 1) (σ.1 42 2)) 18926 15) i) (nI i) σ) n (by omega) ?_ ?_
  · intro i hi B hB
    unfold m_9_digest_30
    rw [g1]
    refine ⟨fun q => absurd q (nle_of hi (by omega)), fun _ => ?_⟩
    refine d9_str ok hi ?_
    intro x ex
    rw [ex, iplus]
    exact hB
  · intro B
    unfold m_9_digest_30
    rw [g1]
    refine ⟨fun _ => ?_, fun q => absurd ((lei (by omega) (by omega)).mpr (Nat.le_refl n)) q⟩
    exact d9_56 ok (d9_102 (d9_125 ok (d9_149 ok FC.rf hQ)))
