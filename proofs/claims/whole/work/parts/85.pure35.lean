-- what would be, with another speed
theorem out_id {c n l : Nat} {P p : Nat → Int32} (ok : okP c n l P) (e : EQP n l P p) : outL id l P = outL id l p ∧ outU id l P = outU id l p :=
  out_eq ok (ord_id l) (clr_id ok.1.2.2.2 e (clF_clr ok.1.2.2.2) (clF_clr ok.1.2.2.2)) (clF_clr ok.1.2.2.2)
theorem okP.sp {c n l v : Nat} {P : Nat → Int32} (ok : okP c n l P) (hv : 1 ≤ v ∧ v ≤ 4) : okP c n l (upd P 499 (nI v)) := ok.set1 (k := 0) (by omega) ⟨v, hv.1, hv.2, rfl, fun q => absurd q (by omega)⟩
theorem sp_of {x : Int32} (h1 : ¬ x < 1) (h2 : x ≤ 4) : ∃ v, 1 ≤ v ∧ v ≤ 4 ∧ x = nI v := by
  rcases ix x 5 with g | ⟨j, rfl, hj, hj2⟩ | ⟨v, rfl, hv⟩
  · exact absurd (Int32.lt_trans g (by decide)) h1
  · exact absurd ((leI (b := 4) (by omega) (by omega)).mp h2) (by omega)
  · refine ⟨v, ?_, by omega, rfl⟩
    have := mt (ltI (a := v) (b := 1) (by omega) (by omega)).mpr h1
    omega
/-- what ifSpeed(x) tells -/
def vIf (l : Nat) (P : Nat → Int32) (x : Int32) : Int32 := if x < 1 then -1 else if x ≤ 4 then outL id l (upd P 499 x) else -1
theorem vIf_eq {c n l : Nat} {P p : Nat → Int32} {x : Int32} (ok : okP c n l P) (e : EQP n l P p) : vIf l P x = vIf l p x := by
  unfold vIf
  split
  · rfl
  · rename_i h1
    split
    · rename_i h2
      obtain ⟨v, a, b, rfl⟩ := sp_of h1 h2
      exact (out_id (ok.sp ⟨a, b⟩) (EQP.up e (by omega) rfl)).1
    · rfl
theorem s_9_ifSpeed {c n l : Nat} {σ : St} {x : Int32} {Q : Int32 → St → Prop} (ok : okP c n l (pgW σ 7)) (hQ : ∀ τ, FC σ τ → Q (vIf l (pgW σ 7) x) τ) : m_9_ifSpeed 0 x Q σ := by
  unfold m_9_ifSpeed
  unfold vIf at hQ
  refine ⟨fun h1 => ?_, fun h1 => ⟨fun h2 => ?_, fun h2 => ?_⟩⟩
  · have := hQ σ FC.rf
    rw [if_pos h1] at this
    exact this
  · obtain ⟨v, a, b, rfl⟩ := sp_of h1 h2
    refine s_9_trySpeed ok ⟨a, b⟩ (fun τ f g _ => ?_)
    have := hQ τ f
    rw [if_neg h1, if_pos h2, ← g] at this
    exact this
  · have := hQ σ FC.rf
    rw [if_neg h1, if_neg h2] at this
    exact this
theorem lay_FM {σ τ : St} (f8 : ∀ a, a ≠ 358 → τ.1 a = σ.1 a) (f2 : τ.2 = σ.2) : FM σ τ :=
  ⟨fun y _ => by rw [f8 355 (by omega)], fun a ha => f8 a (by omega), fun j _ => by rw [f8 354 (by omega)], f2⟩
theorem s_10_ifSpeed {c n l : Nat} {σ : St} {x : Int32} {Q : Int32 → St → Prop} (ok : okP c n l (σ.1 355)) (hQ : ∀ τ, FM σ τ → Q (vIf l (σ.1 355) x) τ) : m_10_ifSpeed 354 x Q σ := by
  unfold m_10_ifSpeed
  unfold vIf at hQ
  refine s_10_in (fun q1 q2 => ⟨fun _ => ?_, fun q => absurd q (by decide)⟩) (fun q => ⟨fun z => absurd rfl z, fun _ => ?_⟩)
  · obtain ⟨v, a, b, rfl⟩ := sp_of q1 (nlt_le.mp q2)
    refine s_10_laysOrder (fun τ f8 o8 f2 => ?_)
    have e8 : τ.1 355 = σ.1 355 := f8 355 (by omega)
    refine s_10_loadWith (c := c) (n := n) (l := l) (o := id) (by rw [e8]; exact ok.sp ⟨a, b⟩) (ord_id l) (fun j hj => o8 j (by have := ok.1.2.2.2; omega)) (fun υ f g _ => ?_)
    have := hQ υ (FM.tr (lay_FM f8 f2) f)
    rw [if_neg q1, if_pos (nlt_le.mp q2)] at this
    rw [e8]
    exact this
  · have := hQ σ FM.rf
    rcases q with q | q
    · rw [if_pos q] at this
      exact this
    · rw [if_neg (fun z => absurd (Int32.lt_trans q z) (by decide)), if_neg (fun z => nlt_le.mpr z q)] at this
      exact this
theorem p_ifSpeed {c : Nat} {σ : St} {x1 : Int32} {H : Int32 → St → Prop} {K : Int32 → Int32 → St → Prop} (I : Inv c σ) (hH : ∀ v σ1, m_10_ifSpeed 354 x1 (K v) σ1 → H v σ1) (h : ∀ v τ, Inv (c + 1) τ → K v v τ) : m_9_ifSpeed 0 x1 H σ := by
  obtain ⟨n, l, ok, e, e5⟩ := id I.1
  refine s_9_ifSpeed ok (fun τ f => hH _ _ ?_)
  have e3 : τ.1 355 = σ.1 355 := f 355 (by omega)
  refine s_10_ifSpeed (c := c) (n := n) (l := l) (by rw [e3]; exact ok.tr e) (fun υ g => ?_)
  rw [e3, ← vIf_eq ok e]
  exact h _ _ ((g.inv (f.inv I)).mono (by omega))
/-- the best speed, its load, its units, of the speeds 1 to k -/
def bsF (l : Nat) (P : Nat → Int32) : Nat → Int32 × Int32 × Int32
  | 0 => (1, -1, 0)
  | k + 1 => if (bsF l P k).2.1 < outL id l (upd P 499 (nI (k + 1))) ∨ (outL id l (upd P 499 (nI (k + 1))) = (bsF l P k).2.1 ∧ outU id l (upd P 499 (nI (k + 1))) < (bsF l P k).2.2) then (nI (k + 1), outL id l (upd P 499 (nI (k + 1))), outU id l (upd P 499 (nI (k + 1)))) else bsF l P k
theorem bsF_s (l : Nat) (P : Nat → Int32) (k : Nat) : bsF l P (k + 1) = if (bsF l P k).2.1 < outL id l (upd P 499 (nI (k + 1))) ∨ (outL id l (upd P 499 (nI (k + 1))) = (bsF l P k).2.1 ∧ outU id l (upd P 499 (nI (k + 1))) < (bsF l P k).2.2) then (nI (k + 1), outL id l (upd P 499 (nI (k + 1))), outU id l (upd P 499 (nI (k + 1)))) else bsF l P k := rfl
theorem bsF_eq {c n l : Nat} {P p : Nat → Int32} (ok : okP c n l P) (e : EQP n l P p) : ∀ k, k ≤ 4 → bsF l P k = bsF l p k := by
  intro k
  induction k with
  | zero => intro _; rfl
  | succ k ih =>
    intro hk
    obtain ⟨g1, g2⟩ := out_id (ok.sp (v := k + 1) ⟨by omega, by omega⟩) (EQP.up e (x := 499) (v := nI (k + 1)) (by omega) rfl)
    rw [bsF_s, bsF_s, ih (by omega), g1, g2]
theorem bsF_n0 (l : Nat) (P : Nat → Int32) : ∀ k, k ≤ 4 → ∃ v, (bsF l P k).1 = nI v ∧ 1 ≤ v ∧ v ≤ 4 := by
  intro k
  induction k with
  | zero => intro _; exact ⟨1, rfl, by omega, by omega⟩
  | succ k ih =>
    intro hk
    rw [bsF_s]
    split
    · exact ⟨k + 1, rfl, by omega, by omega⟩
    · exact ih (by omega)
theorem FC.pg {σ τ : St} (f : FC σ τ) : pgW τ 7 = pgW σ 7 := pgW_cg (fun a h1 h2 => f a (by omega))
theorem s_9_bestSpeed {c n l : Nat} {σ : St} {Q : Int32 → St → Prop} (ok : okP c n l (pgW σ 7)) (hQ : ∀ τ, FC σ τ → Q (bsF l (pgW σ 7) 4).1 τ) : m_9_bestSpeed 0 Q σ := by
  unfold m_9_bestSpeed
  refine it_cnt (fun (k : Nat) (A : Int32 → Int32 → Int32 → Int32 → St → Prop) => ∀ τ, FC σ τ → A (bsF l (pgW σ 7) k).1 (bsF l (pgW σ 7) k).2.1 (bsF l (pgW σ 7) k).2.2 (nI (k + 1)) τ) 4 (by decide) ?_ ?_ σ FC.rf
  · intro k hk A hA τ f
    unfold m_9_bestSpeed_9
    refine ⟨fun q => absurd ((lti (a := 4) (by decide) (by omega)).mp q) (by omega), fun _ => ?_⟩
    refine s_9_trySpeed (by rw [f.pg]; exact ok) ⟨by omega, by omega⟩ (fun τ1 f1 g1 g2 => ?_)
    rw [f.pg] at g1 g2
    intro t et u eu
    have et' : t = outL id l (upd (pgW σ 7) 499 (nI (k + 1))) := et.trans g1
    have eu' : u = outU id l (upd (pgW σ 7) 499 (nI (k + 1))) := eu.trans g2
    have F := FC.tr f f1
    have hA' := hA τ1 F
    rw [bsF_s, ← et', ← eu'] at hA'
    refine ⟨fun q => ?_, fun q => ⟨fun q2 => ?_, fun q2 => ⟨fun q3 => ?_, fun q3 => ?_⟩⟩⟩
    · unfold m_9_bestSpeed_63
      intro x ex
      rw [ex, iplus]
      rw [if_pos (Or.inl q)] at hA'
      exact hA'
    · intro x ex
      rw [ex, iplus]
      rw [if_neg (fun z => z.elim q (fun z => q2 z.1))] at hA'
      exact hA'
    · intro x ex
      rw [ex, iplus]
      rw [if_neg (fun z => z.elim q (fun z => nlt_le.mpr q3 z.2))] at hA'
      exact hA'
    · unfold m_9_bestSpeed_63
      intro x ex
      rw [ex, iplus]
      rw [if_pos (Or.inr ⟨q2, nle_lt.mp q3⟩)] at hA'
      exact hA'
  · intro A τ f
    unfold m_9_bestSpeed_9
    exact ⟨fun _ => hQ τ f, fun q => absurd ((lti (a := 4) (b := 4 + 1) (by decide) (by decide)).mpr (by omega)) q⟩
theorem s_10_bestSpeed {c n l : Nat} {σ : St} {Q : Int32 → St → Prop} (ok : okP c n l (σ.1 355)) (hQ : ∀ τ, FM σ τ → Q (bsF l (σ.1 355) 4).1 τ) : m_10_bestSpeed 354 Q σ := by
  have h10 := ok.1.2.2.2
  unfold m_10_bestSpeed
  refine s_10_laysOrder (fun τ0 f8 o8 f2 => ?_)
  refine it_cnt (fun (k : Nat) (A : Int32 → Int32 → Int32 → Int32 → St → Prop) => ∀ τ, FM σ τ → (∀ j, j < 10 → τ.1 358 j = nI j) → A (if k = 0 then 0 else (bsF l (σ.1 355) k).1) (if k = 0 then 0 else (bsF l (σ.1 355) k).2.1) (if k = 0 then 0 else (bsF l (σ.1 355) k).2.2) (nI (k + 1)) τ) 4 (by decide) ?_ ?_ τ0 (lay_FM f8 f2) o8
  · intro k hk A hA τ f o9
    unfold m_10_bestSpeed_13
    refine ⟨fun q => absurd ((lti (a := 4) (by decide) (by omega)).mp q) (by omega), fun _ => ?_⟩
    have eq1 : EQP n l (σ.1 355) (τ.1 355) := fun x hx _ => (f.1 x (by have := hx.1; omega)).symm
    have okτ := ok.tr eq1
    obtain ⟨w1, w2⟩ := out_id (ok.sp (v := k + 1) ⟨by omega, by omega⟩) (EQP.up eq1 (x := 499) (v := nI (k + 1)) (by omega) rfl)
    obtain ⟨tn', tn1, tn2⟩ := outL_nn (ok.sp (v := k + 1) ⟨by omega, by omega⟩) (ord_id l)
    refine s_10_loadWith (c := c) (n := n) (l := l) (o := id) (okτ.sp ⟨by omega, by omega⟩) (ord_id l) (fun j hj => o9 j (by omega)) (fun τ1 f1 g1 g2 => ?_)
    have F := FM.tr f f1
    have o1 : ∀ j, j < 10 → τ1.1 358 j = nI j := fun j hj => by rw [g1 358 (by omega)]; exact o9 j hj
    have hA' := hA τ1 F o1
    rw [if_neg (by omega), if_neg (by omega), if_neg (by omega), bsF_s] at hA'
    rw [← w1]
    rw [← w2] at g2
    have up : (bsF l (σ.1 355) k).2.1 < outL id l (upd (σ.1 355) 499 (nI (k + 1))) ∨ (outL id l (upd (σ.1 355) 499 (nI (k + 1))) = (bsF l (σ.1 355) k).2.1 ∧ outU id l (upd (σ.1 355) 499 (nI (k + 1))) < (bsF l (σ.1 355) k).2.2) → m_10_bestSpeed_51 354 (nI (k + 1)) (outL id l (upd (σ.1 355) 499 (nI (k + 1)))) A Q τ1 := fun z => by
      unfold m_10_bestSpeed_51
      intro u eu x ex
      rw [if_pos z] at hA'
      rw [ex, iplus, eu, g2]
      exact hA'
    by_cases k0 : k = 0
    · have z : (bsF l (σ.1 355) k).2.1 < outL id l (upd (σ.1 355) 499 (nI (k + 1))) := by
        rw [tn1, k0]
        exact m1_nI (by omega)
      exact ⟨fun _ => up (Or.inl z), fun q => absurd (if_pos k0) q⟩
    · rw [if_neg k0, if_neg k0, if_neg k0]
      obtain ⟨b, b1, b2, b3⟩ := bsF_n0 l (σ.1 355) k (by omega)
      refine ⟨fun q => absurd (b1.symm.trans q) (fun q => absurd ((eqi (b := 0) (by omega) (by omega)).mp q) (by omega)), fun _ => ⟨fun q => up (Or.inl q), fun q => ⟨fun q2 => ?_, fun q2 => ⟨fun q3 => ?_, fun q3 => ?_⟩⟩⟩⟩
      · intro x ex
        rw [ex, iplus]
        rw [if_neg (fun z => z.elim q (fun z => q2 z.1))] at hA'
        exact hA'
      · intro x ex
        rw [ex, iplus]
        rw [g2] at q3
        rw [if_neg (fun z => z.elim q (fun z => nlt_le.mpr q3 z.2))] at hA'
        exact hA'
      · rw [g2] at q3
        exact up (Or.inr ⟨q2, nle_lt.mp q3⟩)
  · intro A τ f o9
    unfold m_10_bestSpeed_13
    exact ⟨fun _ => hQ τ f, fun q => absurd ((lti (a := 4) (b := 4 + 1) (by decide) (by decide)).mpr (by omega)) q⟩
theorem p_bestSpeed {c : Nat} {σ : St} {H : Int32 → St → Prop} {K : Int32 → Int32 → St → Prop} (I : Inv c σ) (hH : ∀ v σ1, m_10_bestSpeed 354 (K v) σ1 → H v σ1) (h : ∀ v τ, Inv (c + 1) τ → K v v τ) : m_9_bestSpeed 0 H σ := by
  obtain ⟨n, l, ok, e, e5⟩ := id I.1
  refine s_9_bestSpeed ok (fun τ f => hH _ _ ?_)
  have e3 : τ.1 355 = σ.1 355 := f 355 (by omega)
  refine s_10_bestSpeed (c := c) (n := n) (l := l) (by rw [e3]; exact ok.tr e) (fun υ g => ?_)
  rw [e3, ← bsF_eq ok e 4 (by omega)]
  exact h _ _ ((g.inv (f.inv I)).mono (by omega))
