-- a text, read as a street: the model
def TM (m : Nat) (T : Nat → Nat) (σ : St) : Prop := σ.1 354 3 = nI m ∧ ∀ j, j < m → σ.1 356 j = nI (T j)
def mF (σ τ : St) : Prop := (∀ a, a ≠ 354 → a ≠ 357 → τ.1 a = σ.1 a) ∧ (∀ j, j ≠ 4 → j ≠ 5 → j ≠ 6 → τ.1 354 j = σ.1 354 j)
def mS (σ τ : St) (i : Nat) (M : Nat → Int32) : Prop := mF σ τ ∧ τ.1 354 6 = nI i ∧ τ.1 354 4 = 0 ∧ τ.1 357 = M
def mE (σ τ : St) (k x : Nat) : Prop := mF σ τ ∧ τ.1 354 4 = nI k ∧ τ.1 354 5 = nI x
theorem TM.r {m : Nat} {T : Nat → Nat} {σ τ : St} (h : TM m T σ) (r : mF σ τ) : TM m T τ := ⟨by rw [r.2 3 (by omega) (by omega) (by omega)]; exact h.1, fun j hj => by rw [r.1 356 (by omega) (by omega)]; exact h.2 j hj⟩
theorem mF.w {σ τ : St} {j : Nat} {v : Int32} (h : mF σ τ) (h1 : j = 4 ∨ j = 5 ∨ j = 6) : mF σ (wr τ 354 j v) := ⟨fun b hb hc => by rw [wr_cell hb]; exact h.1 b hb hc, fun b q1 q2 q3 => by rw [wr_else (by omega)]; exact h.2 b q1 q2 q3⟩
theorem mF.m {σ τ : St} {j : Nat} {v : Int32} (h : mF σ τ) : mF σ (wr τ 357 j v) := ⟨fun b hb hc => by rw [wr_cell hc]; exact h.1 b hb hc, fun b q1 q2 q3 => by rw [wr_cell (by omega)]; exact h.2 b q1 q2 q3⟩
theorem mS.at {σ τ υ : St} {i : Nat} {M : Nat → Int32} (S : mS σ τ i M) (e : υ = wr τ 354 6 (τ.1 354 6 + 1)) : mS σ υ (i + 1) M := by
  obtain ⟨s1, s2, s3, s4⟩ := S
  rw [e]
  exact ⟨s1.w (by omega), by rw [wr_same, s2, iplus], by rw [wr_else (by omega)]; exact s3, by rw [wr_cell (by omega)]; exact s4⟩
theorem mS.m {σ τ υ : St} {i j : Nat} {v : Int32} {M : Nat → Int32} (S : mS σ τ i M) (e : υ = wr τ 357 j v) : mS σ υ i (upd M j v) := by
  obtain ⟨s1, s2, s3, s4⟩ := S
  rw [e]
  exact ⟨s1.m, by rw [wr_cell (by omega)]; exact s2, by rw [wr_cell (by omega)]; exact s3, by rw [wr_at, s4]⟩
theorem s_10_here {m i : Nat} {T : Nat → Nat} {σ τ : St} {M : Nat → Int32} {Q : Int32 → St → Prop} (hT : TX m T) (C : TM m T σ) (S : mS σ τ i M) (hi : i < 1000) (h1 : i < m → Q (nI (T i)) τ) (h0 : m ≤ i → Q (-9) τ) : m_10_here 354 Q τ := by
  obtain ⟨s1, s2, -⟩ := S
  obtain ⟨c1, c2⟩ := C.r s1
  have := hT.1
  unfold m_10_here
  rw [c1, s2]
  refine ⟨fun q => h0 ((lei (by omega) (by omega)).mp q), fun q => ?_⟩
  have q := mt (lei (a := m) (b := i) (by omega) (by omega)).mpr q
  refine ⟨vin (by omega), ?_⟩
  rw [tn i (by omega), show (354 + 2 : Nat) = 356 from rfl, c2 i (by omega)]
  exact h1 (by omega)
theorem s_10_isDigit {m i : Nat} {T : Nat → Nat} {σ τ : St} {M : Nat → Int32} {Q : Int32 → St → Prop} (hT : TX m T) (C : TM m T σ) (S : mS σ τ i M) (hi : i < 1000) (h1 : dI T i → Q 1 τ) (h0 : ¬ dI T i → Q 0 τ) : m_10_isDigit 354 Q τ := by
  have h126 := hT.hi i
  unfold m_10_isDigit
  refine s_10_here hT C S hi (fun a => ?_) (fun a => ?_)
  · refine s_10_in (fun q1 q2 => ⟨isB1, h1 ?_⟩) (fun q => ⟨isB0, h0 ?_⟩)
    · have w1 := mt (lti (a := T i) (b := 48) (by omega) (by decide)).mpr q1
      have w2 := mt (lti (a := 57) (b := T i) (by decide) (by omega)).mpr q2
      omega
    · rcases q with q | q
      · have := (lti (a := T i) (b := 48) (by omega) (by decide)).mp q
        omega
      · have := (lti (a := 57) (b := T i) (by decide) (by omega)).mp q
        omega
  · have := hT.2.2 i a
    exact s_10_in (fun q1 q2 => absurd (by decide) q1) (fun q => ⟨isB0, h0 (by omega)⟩)
theorem s_10_isCell' {m i : Nat} {T : Nat → Nat} {σ τ : St} {M : Nat → Int32} {Q : Int32 → St → Prop} (hT : TX m T) (C : TM m T σ) (S : mS σ τ i M) (hi : i < 1000) (h1 : ceI T i → Q 1 τ) (h0 : ¬ ceI T i → Q 0 τ) : m_10_isCellHere 354 Q τ := by
  have h126 := hT.hi i
  unfold m_10_isCellHere
  refine s_10_isDigit hT C S hi (fun d => ⟨fun _ => h1 (Or.inl d), fun q => absurd q (by decide)⟩) (fun d => ⟨fun q => absurd rfl q, fun _ => ?_⟩)
  refine s_10_here hT C S hi (fun a => ?_) (fun a => ?_)
  · refine s_10_in (fun q1 q2 => ⟨fun q => absurd q (by decide), fun _ => h1 (Or.inr ?_)⟩) (fun q => ⟨fun _ => h0 ?_, fun q => absurd rfl q⟩)
    · have w1 := mt (lti (a := T i) (b := 97) (by omega) (by decide)).mpr q1
      have w2 := mt (lti (a := 106) (b := T i) (by decide) (by omega)).mpr q2
      exact ⟨by omega, by omega⟩
    · rcases q with q | q
      · have := (lti (a := T i) (b := 97) (by omega) (by decide)).mp q
        exact fun z => z.elim d (fun z => by have := z.1; omega)
      · have := (lti (a := 106) (b := T i) (by decide) (by omega)).mp q
        exact fun z => z.elim d (fun z => by have := z.2; omega)
  · have := hT.2.2 i a
    exact s_10_in (fun q1 q2 => absurd (by decide) q1) (fun q => ⟨fun _ => h0 (by omega), fun q => absurd rfl q⟩)
theorem s_10_fails {k x : Nat} {σ τ : St} {Q : Int32 → St → Prop} (S : mF σ τ) (h : ∀ υ, mE σ υ k x → Q 0 υ) : m_10_fails 354 (nI k) (nI x) Q τ := by
  unfold m_10_fails
  intro σ1 e1 σ2 e2
  rw [e1] at e2
  refine h σ2 ⟨?_, ?_, ?_⟩
  · rw [e2]
    exact (S.w (by omega)).w (by omega)
  · rw [e2, wr_else (by omega), wr_same]
  · rw [e2, wr_same]
theorem s_10_takes {m i : Nat} {T : Nat → Nat} {σ τ : St} {M : Nat → Int32} {Q : Int32 → St → Prop} (hT : TX m T) (C : TM m T σ) (S : mS σ τ i M) (hi : i < 1000) (h1 : T i = 47 → ∀ υ, mS σ υ (i + 1) M → Q 1 υ) (h0 : T i ≠ 47 → ∀ υ, mE σ υ 1 i → Q 0 υ) : m_10_takes 354 47 Q τ := by
  have h126 := hT.hi i
  have fl : T i ≠ 47 → m_10_fails 354 1 (τ.1 354 6) (fun (v_5 : Int32) (σ_4 : St) => (isB v_5 ∧ Q v_5 σ_4)) τ := fun q => by
    rw [S.2.1]
    exact s_10_fails (k := 1) S.1 (fun υ e => ⟨isB0, h0 q υ e⟩)
  unfold m_10_takes
  refine s_10_here hT C S hi (fun a => ⟨fun q υ e => ?_, fun q => fl (fun z => q (by rw [z]; rfl))⟩) (fun a => ⟨fun q => absurd q (by decide), fun _ => fl (by rw [hT.2.2 i a]; decide)⟩)
  exact h1 ((eqi (b := 47) (by omega) (by decide)).mp q) υ (S.at e)
theorem s_10_readsDistance {m : Nat} {T : Nat → Nat} {σ τ : St} {M : Nat → Int32} {Q : Int32 → St → Prop} (hT : TX m T) (C : TM m T σ) (S : mS σ τ 0 M) (h1 : (rdD T).1 = 0 → ∀ υ, mS σ υ (i1 T) (upd M 1 (nI (vD T))) → Q 1 υ) (h0 : (rdD T).1 ≠ 0 → ∀ υ, mE σ υ (rdD T).1 (i1 T) → Q 0 υ) : m_10_readsDistance 354 Q τ := by
  have H : ∀ k x v, rdD T = (k, x, v) → (k = 0 → ∀ υ, mS σ υ x (upd M 1 (nI v)) → Q 1 υ) ∧ (k ≠ 0 → ∀ υ, mE σ υ k x → Q 0 υ) := fun k x v e => by
    unfold i1 vD at h1
    unfold i1 at h0
    rw [e] at h1 h0
    exact ⟨h1, h0⟩
  clear h1 h0
  have hi0 := hT.hi 0
  have hi1' := hT.hi 1
  -- the fault at the place where it stands
  have c57 : ∀ i τ', mS σ τ' i M → rdD T = (1, i, 0) → m_10_readsDistance_57 354 Q τ' := fun i τ' S' e => by
    unfold m_10_readsDistance_57
    rw [S'.2.1]
    exact s_10_fails (k := 1) S'.1 (fun υ es => ⟨isB0, (H _ _ _ e).2 (by decide) υ es⟩)
  -- behind the digits
  have c43 : ∀ i v τ', 1 ≤ i → i < 5 → v < 1000 → mS σ τ' i M → (dI T i → rdD T = (1, i, 0)) → (¬ dI T i → 60 < v → rdD T = (2, 0, 0)) → (¬ dI T i → ¬ 60 < v → T i = 47 → rdD T = (0, i + 1, v)) → (¬ dI T i → ¬ 60 < v → T i ≠ 47 → rdD T = (1, i, 0)) → m_10_readsDistance_43 354 (nI v) Q τ' := fun i v τ' hi hi5 hv S' g1 g2 g3 g4 => by
    unfold m_10_readsDistance_43
    rw [S'.2.1]
    refine ⟨fun q => absurd ((eqi (b := 0) (by omega) (by decide)).mp q) (by omega), fun _ => ?_⟩
    refine s_10_isDigit hT C S' (by omega) (fun d => ⟨fun q => absurd q (by decide), fun _ => c57 i τ' S' (g1 d)⟩) (fun d => ⟨fun _ => ⟨vin (by decide), fun σ3 e3 => ?_⟩, fun q => absurd rfl q⟩)
    have S3 := S'.m (j := 1) e3
    refine ⟨fun q => ?_, fun q => ?_⟩
    · have q := (lti (a := 60) (by decide) (by omega)).mp q
      exact s_10_fails (k := 2) (x := 0) S3.1 (fun υ es => ⟨isB0, (H _ _ _ (g2 d q)).2 (by decide) υ es⟩)
    · have q := mt (lti (a := 60) (b := v) (by decide) (by omega)).mpr q
      exact s_10_takes hT C S3 (by omega) (fun w υ h => ⟨isB1, (H _ _ _ (g3 d q w)).1 rfl υ h⟩) (fun w υ es => ⟨isB0, (H _ _ _ (g4 d q w)).2 (by decide) υ es⟩)
  unfold m_10_readsDistance
  have step : ∀ i v (A : Int32 → St → Prop) τ', i < 2 → v < 100 → mS σ τ' i M → dI T i → (∀ υ, mS σ υ (i + 1) M → A (nI (10 * v + (T i - 48))) υ) → m_10_readsDistance_2 354 Q A (nI v) τ' := fun i v A τ' hi hv S' d h => by
    have h126 := hT.hi i
    unfold m_10_readsDistance_2
    refine s_10_isDigit hT C S' (by omega) (fun _ => ⟨fun q => absurd q (by decide), fun _ => ?_⟩) (fun q => absurd d q)
    rw [S'.2.1]
    refine ⟨fun q => absurd ((lei (a := 2) (by decide) (by omega)).mp q) (by omega), fun _ => ?_⟩
    refine s_10_here hT C S' (by omega) (fun a => ?_) (fun a => absurd (hT.2.2 i a) (by omega))
    intro x ex σ6 e6
    rw [ex, show (48 : Int32) = nI 48 from rfl, li 10, pk_mul, nI_add, pk_sub (by omega), show 10 * v + T i - 48 = 10 * v + (T i - 48) by omega]
    exact h σ6 (S'.at e6)
  by_cases d0 : dI T 0
  · by_cases d1 : dI T 1
    · refine it_cnt (fun (k : Nat) (A : Int32 → St → Prop) => ∀ τ, mS σ τ k M → A (nI (if k = 0 then 0 else if k = 1 then T 0 - 48 else 10 * (T 0 - 48) + (T 1 - 48))) τ) 2 (by decide) ?_ ?_ τ S
      · intro k hk A hA τ' S'
        rcases (by omega : k = 0 ∨ k = 1) with rfl | rfl
        · refine step 0 0 A τ' (by omega) (by omega) S' d0 (fun υ Su => ?_)
          have := hA υ Su
          rw [show 10 * 0 + (T 0 - 48) = T 0 - 48 by omega]
          exact this
        · exact step 1 (T 0 - 48) A τ' (by omega) (by omega) S' d1 (fun υ Su => hA υ Su)
      · intro A τ' S'
        have g := c43 2 (10 * (T 0 - 48) + (T 1 - 48)) τ' (by omega) (by omega) (by omega) S' (fun d => by unfold rdD; rw [if_pos d0, if_pos d1, if_pos d]) (fun d q => by unfold rdD; rw [if_pos d0, if_pos d1, if_neg d, if_pos q]) (fun d q w => by unfold rdD; rw [if_pos d0, if_pos d1, if_neg d, if_neg q, if_pos w]) (fun d q w => by unfold rdD; rw [if_pos d0, if_pos d1, if_neg d, if_neg q, if_neg w])
        rw [if_neg (by omega), if_neg (by omega)]
        unfold m_10_readsDistance_2
        refine s_10_isDigit hT C S' (by omega) (fun _ => ⟨fun _ => g, fun _ => ?_⟩) (fun _ => ⟨fun _ => g, fun q => absurd rfl q⟩)
        rw [S'.2.1]
        exact ⟨fun _ => g, fun q => absurd ((lei (a := 2) (b := 2) (by decide) (by decide)).mpr (by omega)) q⟩
    · refine it_cnt (fun (k : Nat) (A : Int32 → St → Prop) => ∀ τ, mS σ τ k M → A (nI (if k = 0 then 0 else T 0 - 48)) τ) 1 (by decide) ?_ ?_ τ S
      · intro k hk A hA τ' S'
        obtain rfl : k = 0 := by omega
        refine step 0 0 A τ' (by omega) (by omega) S' d0 (fun υ Su => ?_)
        have := hA υ Su
        rw [show 10 * 0 + (T 0 - 48) = T 0 - 48 by omega]
        exact this
      · intro A τ' S'
        have g := c43 1 (T 0 - 48) τ' (by omega) (by omega) (by omega) S' (fun d => absurd d d1) (fun d q => absurd q (by omega)) (fun d q w => by unfold rdD; rw [if_pos d0, if_neg d1, if_pos w]) (fun d q w => by unfold rdD; rw [if_pos d0, if_neg d1, if_neg w])
        rw [if_neg (by omega)]
        unfold m_10_readsDistance_2
        exact s_10_isDigit hT C S' (by omega) (fun q => absurd q d1) (fun _ => ⟨fun _ => g, fun q => absurd rfl q⟩)
  · refine it_cnt (fun (k : Nat) (A : Int32 → St → Prop) => ∀ τ, mS σ τ k M → A (nI k) τ) 0 (by decide) (fun k hk => absurd hk (Nat.not_lt_zero k)) ?_ τ S
    intro A τ' S'
    unfold m_10_readsDistance_2
    refine s_10_isDigit hT C S' (by omega) (fun q => absurd q d0) (fun _ => ⟨fun _ => ?_, fun q => absurd rfl q⟩)
    unfold m_10_readsDistance_43
    refine ⟨fun _ => c57 0 τ' S' (by unfold rdD; rw [if_neg d0]), fun q => absurd S'.2.1 q⟩
theorem s_10_readsTrees {m i : Nat} {T : Nat → Nat} {σ τ : St} {M : Nat → Int32} {Q : Int32 → St → Prop} (hT : TX m T) (C : TM m T σ) (hi : i < 900) (S : mS σ τ i M) (h1 : (rdT T i).1 = 0 → ∀ υ, mS σ υ (rdT T i).2.1 (upd M 2 (nI (rdT T i).2.2)) → Q 1 υ) (h0 : (rdT T i).1 ≠ 0 → ∀ υ, mE σ υ (rdT T i).1 (rdT T i).2.1 → Q 0 υ) : m_10_readsTrees 354 Q τ := by
  have H : ∀ k x v, rdT T i = (k, x, v) → (k = 0 → ∀ υ, mS σ υ x (upd M 2 (nI v)) → Q 1 υ) ∧ (k ≠ 0 → ∀ υ, mE σ υ k x → Q 0 υ) := fun k x v e => by
    rw [e] at h1 h0
    exact ⟨h1, h0⟩
  clear h1 h0
  have h126 := hT.hi i
  unfold m_10_readsTrees
  refine s_10_isDigit hT C S (by omega) (fun d => ⟨fun _ => ?_, fun q => absurd q (by decide)⟩) (fun d => ⟨fun q => absurd rfl q, fun _ => ?_⟩)
  · refine s_10_here hT C S (by omega) (fun a => ⟨vin (by decide), fun σ5 e5 σ6 e6 => ?_⟩) (fun a => absurd (hT.2.2 i a) (by omega))
    rw [show (48 : Int32) = nI 48 from rfl, pk_sub (by omega)] at e5
    have S6 := (S.m (j := 2) e5).at e6
    refine s_10_takes hT C S6 (by omega) (fun q υ h => ⟨isB1, (H 0 (i + 2) _ ?_).1 rfl υ h⟩) (fun q υ h => ⟨isB0, (H 1 (i + 1) 0 ?_).2 (by decide) υ h⟩)
    · unfold rdT; rw [if_pos d, if_pos q]
    · unfold rdT; rw [if_pos d, if_neg q]
  · rw [S.2.1]
    refine s_10_fails (k := 1) S.1 (fun υ es => ⟨isB0, (H 1 i 0 ?_).2 (by decide) υ es⟩)
    unfold rdT; rw [if_neg d]
