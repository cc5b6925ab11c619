-- a text, read as a street: the class
def TC (m : Nat) (T : Nat → Nat) (σ : St) : Prop := σ.1 1 1 = nI m ∧ ∀ j, j < m → σ.1 2 j = nI (T j)
def rF (σ τ : St) : Prop := ∀ a, (a < 3 ∨ 6 < a) → τ.1 a = σ.1 a
def rS (σ τ : St) (i : Nat) (D E F : Nat → Int32) : Prop := rF σ τ ∧ τ.1 3 2 = nI i ∧ τ.1 3 3 = 0 ∧ τ.1 4 = D ∧ τ.1 5 = E ∧ τ.1 6 = F
def eS (σ τ : St) (k x : Nat) : Prop := rF σ τ ∧ τ.1 3 3 = nI k ∧ τ.1 3 1 = nI x
theorem TC.r {m : Nat} {T : Nat → Nat} {σ τ : St} (h : TC m T σ) (r : rF σ τ) : TC m T τ := ⟨by rw [r 1 (by omega)]; exact h.1, fun j hj => by rw [r 2 (by omega)]; exact h.2 j hj⟩
theorem rF.w {σ τ : St} {a j : Nat} {v : Int32} (h : rF σ τ) (h1 : 3 ≤ a) (h2 : a ≤ 6) : rF σ (wr τ a j v) := fun b hb => by rw [wr_cell (by omega)]; exact h b hb
theorem rS.at {σ τ υ : St} {i : Nat} {D E F : Nat → Int32} (S : rS σ τ i D E F) (e : υ = wr τ 3 2 (τ.1 3 2 + 1)) : rS σ υ (i + 1) D E F := by
  obtain ⟨s1, s2, s3, s4, s5, s6⟩ := S
  rw [e]
  exact ⟨s1.w (by omega) (by omega), by rw [wr_same, s2, iplus], by rw [wr_else (by omega)]; exact s3, by rw [wr_cell (by omega)]; exact s4, by rw [wr_cell (by omega)]; exact s5, by rw [wr_cell (by omega)]; exact s6⟩
theorem rS.d {σ τ υ : St} {i j : Nat} {v : Int32} {D E F : Nat → Int32} (S : rS σ τ i D E F) (e : υ = wr τ 4 j v) : rS σ υ i (upd D j v) E F := by
  obtain ⟨s1, s2, s3, s4, s5, s6⟩ := S
  rw [e]
  exact ⟨s1.w (by omega) (by omega), by rw [wr_cell (by omega)]; exact s2, by rw [wr_cell (by omega)]; exact s3, by rw [wr_at, s4], by rw [wr_cell (by omega)]; exact s5, by rw [wr_cell (by omega)]; exact s6⟩
theorem rS.e {σ τ υ : St} {i j : Nat} {v : Int32} {D E F : Nat → Int32} (S : rS σ τ i D E F) (e : υ = wr τ 5 j v) : rS σ υ i D (upd E j v) F := by
  obtain ⟨s1, s2, s3, s4, s5, s6⟩ := S
  rw [e]
  exact ⟨s1.w (by omega) (by omega), by rw [wr_cell (by omega)]; exact s2, by rw [wr_cell (by omega)]; exact s3, by rw [wr_cell (by omega)]; exact s4, by rw [wr_at, s5], by rw [wr_cell (by omega)]; exact s6⟩
theorem rS.f {σ τ υ : St} {i j : Nat} {v : Int32} {D E F : Nat → Int32} (S : rS σ τ i D E F) (e : υ = wr τ 6 j v) : rS σ υ i D E (upd F j v) := by
  obtain ⟨s1, s2, s3, s4, s5, s6⟩ := S
  rw [e]
  exact ⟨s1.w (by omega) (by omega), by rw [wr_cell (by omega)]; exact s2, by rw [wr_cell (by omega)]; exact s3, by rw [wr_cell (by omega)]; exact s4, by rw [wr_cell (by omega)]; exact s5, by rw [wr_at, s6]⟩
theorem s_7_sign {m i : Nat} {T : Nat → Nat} {σ : St} {Q : Int32 → St → Prop} (hT : TX m T) (h : TC m T σ) (hi : i < 1000) (h1 : i < m → Q (nI (T i)) σ) (h0 : m ≤ i → Q (-1) σ) : m_7_signAt 1 (nI i) Q σ := by
  unfold m_7_signAt
  have := hT.1
  rw [h.1]
  refine ⟨fun q => absurd q (nn0 (by omega)), fun _ => ⟨fun q => h0 ((lei (by omega) (by omega)).mp q), fun q => ?_⟩⟩
  have q := mt (lei (a := m) (b := i) (by omega) (by omega)).mpr q
  refine ⟨vin (by omega), ?_⟩
  rw [tn i (by omega), show (1 + 1 : Nat) = 2 from rfl, h.2 i (by omega)]
  exact h1 (by omega)
theorem s_3_dig1 {v : Nat} {σ : St} {Q : Int32 → St → Prop} (hv : v < 1000) (h1 : 48 ≤ v ∧ v ≤ 57 → Q 1 σ) (h0 : ¬ (48 ≤ v ∧ v ≤ 57) → Q 0 σ) : m_3_isDigit (nI v) Q σ := by
  unfold m_3_isDigit
  refine ⟨fun q => h0 ?_, fun q => ⟨fun q2 => h0 ?_, fun q2 => h1 ?_⟩⟩
  · have := (lti (a := v) (b := 48) (by omega) (by decide)).mp q
    omega
  · have := (lti (a := 57) (b := v) (by decide) (by omega)).mp q2
    omega
  · have := mt (lti (a := v) (b := 48) (by omega) (by decide)).mpr q
    have := mt (lti (a := 57) (b := v) (by decide) (by omega)).mpr q2
    omega
theorem s_3_digm {σ : St} {Q : Int32 → St → Prop} (h0 : Q 0 σ) : m_3_isDigit (-1) Q σ := by
  unfold m_3_isDigit
  exact ⟨fun _ => h0, fun q => absurd (by decide) q⟩
theorem TX.lt {m i : Nat} {T : Nat → Nat} (hT : TX m T) (h : T i ≠ 0) : i < m := by
  rcases Nat.lt_or_ge i m with q | q
  · exact q
  · exact absurd (hT.2.2 i q) h
theorem TX.hi {m : Nat} {T : Nat → Nat} (hT : TX m T) (i : Nat) : T i ≤ 126 := by
  rcases Nat.lt_or_ge i m with q | q
  · exact (hT.2.1 i q).2
  · rw [hT.2.2 i q]; omega
theorem s_dig {m i : Nat} {T : Nat → Nat} {σ : St} {Q : Int32 → St → Prop} (hT : TX m T) (h : TC m T σ) (hi : i < 1000) (h1 : dI T i → Q 1 σ) (h0 : ¬ dI T i → Q 0 σ) : m_7_signAt 1 (nI i) (fun v σ1 => m_3_isDigit v Q σ1) σ :=
  s_7_sign hT h hi (fun _ => s_3_dig1 (by have := hT.hi i; omega) h1 h0) (fun a => s_3_digm (h0 (by have := hT.2.2 i a; omega)))
theorem s_3_fail {k x : Nat} {σ τ : St} {Q : Int32 → St → Prop} (S : rF σ τ) (h : ∀ υ, eS σ υ k x → Q 0 υ) : m_3_fail 3 (nI k) (nI x) Q τ := by
  unfold m_3_fail
  intro σ1 e1 σ2 e2
  rw [e1] at e2
  refine h σ2 ⟨?_, ?_, ?_⟩
  · rw [e2]
    exact (S.w (by omega) (by omega)).w (by omega) (by omega)
  · rw [e2, wr_else (by omega), wr_same]
  · rw [e2, wr_same]
theorem s_3_readSlash {m i : Nat} {T : Nat → Nat} {σ τ : St} {D E F : Nat → Int32} {Q : Int32 → St → Prop} (hT : TX m T) (C : TC m T σ) (S : rS σ τ i D E F) (hi : i < 1000) (h1 : T i = 47 → ∀ υ, rS σ υ (i + 1) D E F → Q 1 υ) (h0 : T i ≠ 47 → ∀ υ, eS σ υ 1 i → Q 0 υ) : m_3_readSlash 3 1 Q τ := by
  obtain ⟨s1, s2, -⟩ := id S
  unfold m_3_readSlash
  rw [s2]
  have fl : T i ≠ 47 → m_3_fail 3 1 (τ.1 3 2) (fun (v_5 : Int32) (σ_4 : St) => (isB v_5 ∧ Q v_5 σ_4)) τ := fun q => by
    rw [s2]
    exact s_3_fail (k := 1) s1 (fun υ e => ⟨isB0, h0 q υ e⟩)
  refine s_7_sign hT (C.r s1) hi (fun a => ⟨fun q υ eυ => ?_, fun q => fl (fun z => q (by rw [z]; rfl))⟩) (fun a => ⟨fun q => absurd q (by decide), fun _ => fl (by rw [hT.2.2 i a]; decide)⟩)
  have b := hT.hi i
  exact h1 ((eqi (b := 47) (by omega) (by decide)).mp q) υ (S.at eυ)
theorem s_114 {m i v : Nat} {T : Nat → Nat} {σ τ : St} {D E F : Nat → Int32} {Q : Int32 → St → Prop} (hT : TX m T) (C : TC m T σ) (S : rS σ τ i D E F) (hi : i < 1000) (h1 : T i = 47 → ∀ υ, rS σ υ (i + 1) (upd D 1 (nI v)) E F → Q 1 υ) (h0 : T i ≠ 47 → ∀ υ, eS σ υ 1 i → Q 0 υ) : m_3_readDistance_114 3 1 (nI v) Q τ := by
  unfold m_3_readDistance_114
  intro σ1 e1
  exact s_3_readSlash hT C (S.d e1) hi (fun q υ h => ⟨isB1, h1 q υ h⟩) (fun q υ h => ⟨isB0, h0 q υ h⟩)
theorem s_3_readDistance {m : Nat} {T : Nat → Nat} {σ τ : St} {D E F : Nat → Int32} {Q : Int32 → St → Prop} (hT : TX m T) (C : TC m T σ) (S : rS σ τ 0 D E F) (h1 : (rdD T).1 = 0 → ∀ υ, rS σ υ (i1 T) (upd D 1 (nI (vD T))) E F → Q 1 υ) (h0 : (rdD T).1 ≠ 0 → ∀ υ, eS σ υ (rdD T).1 (i1 T) → Q 0 υ) : m_3_readDistance 3 1 Q τ := by
  have H : ∀ k x v, rdD T = (k, x, v) → (k = 0 → ∀ υ, rS σ υ x (upd D 1 (nI v)) E F → Q 1 υ) ∧ (k ≠ 0 → ∀ υ, eS σ υ k x → Q 0 υ) := fun k x v e => by
    unfold i1 vD at h1
    unfold i1 at h0
    rw [e] at h1 h0
    exact ⟨h1, h0⟩
  clear h1 h0
  obtain ⟨s1, s2, -⟩ := id S
  have hi0 := hT.hi 0
  have hi1' := hT.hi 1
  unfold m_3_readDistance
  rw [s2]
  refine s_dig hT (C.r s1) (by omega) (fun d0 => ⟨fun _ => ?_, fun q => absurd q (by decide)⟩) (fun d0 => ⟨fun q => absurd rfl q, fun _ => ?_⟩)
  · rw [s2]
    refine s_7_sign hT (C.r s1) (by omega) (fun a0 => ?_) (fun a => absurd (hT.2.2 0 a) (by omega))
    intro x2 ex2 σ8 e8
    rw [show (48 : Int32) = nI 48 from rfl, pk_sub (by omega)] at ex2
    rw [ex2]
    have S8 : rS σ σ8 1 D E F := S.at e8
    obtain ⟨t1, t2, -⟩ := id S8
    rw [t2]
    refine s_dig hT (C.r t1) (by omega) (fun d1 => ⟨fun q => absurd q (by decide), fun _ => ?_⟩) (fun d1 => ⟨fun _ => ?_, fun q => absurd rfl q⟩)
    · rw [t2]
      refine s_7_sign hT (C.r t1) (by omega) (fun a1 => ?_) (fun a => absurd (hT.2.2 1 a) (by omega))
      intro x3 ex3 σ9 e9
      have ev : x3 = nI (10 * (T 0 - 48) + (T 1 - 48)) := by
        rw [ex3, show (48 : Int32) = nI 48 from rfl, li 10, pk_mul, nI_add, pk_sub (by omega)]
        congr 1
        omega
      rw [ev]
      have S9 : rS σ σ9 2 D E F := S8.at e9
      obtain ⟨u1, u2, -⟩ := id S9
      have g114 : ¬ dI T 2 → ¬ 60 < 10 * (T 0 - 48) + (T 1 - 48) ∨ dI T 2 → m_3_readDistance_114 3 1 (nI (10 * (T 0 - 48) + (T 1 - 48))) Q σ9 := fun nd q => by
        have nb : ¬ 60 < 10 * (T 0 - 48) + (T 1 - 48) := q.elim id (fun z => absurd z nd)
        refine s_114 hT C S9 (by omega) (fun q2 => (H 0 3 _ ?_).1 rfl) (fun q2 => (H 1 2 0 ?_).2 (by decide))
        · unfold rdD; rw [if_pos d0, if_pos d1, if_neg nd, if_neg nb, if_pos q2]
        · unfold rdD; rw [if_pos d0, if_pos d1, if_neg nd, if_neg nb, if_neg q2]
      have gd : dI T 2 → m_3_readDistance_114 3 1 (nI (10 * (T 0 - 48) + (T 1 - 48))) Q σ9 := fun d2 => by
        refine s_114 hT C S9 (by omega) (fun q2 => absurd q2 (by omega)) (fun q2 => (H 1 2 0 ?_).2 (by decide))
        unfold rdD; rw [if_pos d0, if_pos d1, if_pos d2]
      unfold m_3_readDistance_87
      refine ⟨fun q => ?_, fun q => ?_⟩
      · have q := (lei (b := 60) (by omega) (by decide)).mp q
        by_cases d2 : dI T 2
        · exact gd d2
        · exact g114 d2 (Or.inl (by omega))
      · have q := mt (lei (b := 60) (by omega) (by decide)).mpr q
        rw [u2]
        refine s_dig hT (C.r u1) (by omega) (fun d2 => ⟨fun _ => gd d2, fun q => absurd q (by decide)⟩) (fun d2 => ⟨fun q => absurd rfl q, fun _ => ?_⟩)
        refine s_3_fail (k := 2) (x := 0) u1 (fun υ e => ⟨isB0, (H 2 0 0 ?_).2 (by decide) υ e⟩)
        unfold rdD; rw [if_pos d0, if_pos d1, if_neg d2, if_pos (by omega)]
    · unfold m_3_readDistance_87
      refine ⟨fun _ => ?_, fun q => absurd ((lei (b := 60) (by omega) (by decide)).mpr (by omega)) q⟩
      refine s_114 hT C S8 (by omega) (fun q2 => (H 0 2 _ ?_).1 rfl) (fun q2 => (H 1 1 0 ?_).2 (by decide))
      · unfold rdD; rw [if_pos d0, if_neg d1, if_pos q2]
      · unfold rdD; rw [if_pos d0, if_neg d1, if_neg q2]
  · rw [s2]
    refine s_3_fail (k := 1) (x := 0) s1 (fun υ e => ⟨isB0, (H 1 0 0 ?_).2 (by decide) υ e⟩)
    unfold rdD; rw [if_neg d0]
theorem s_3_readTrees {m i : Nat} {T : Nat → Nat} {σ τ : St} {D E F : Nat → Int32} {Q : Int32 → St → Prop} (hT : TX m T) (C : TC m T σ) (hi : i < 900) (S : rS σ τ i D E F) (h1 : (rdT T i).1 = 0 → ∀ υ, rS σ υ (rdT T i).2.1 (upd D 2 (nI (rdT T i).2.2)) E F → Q 1 υ) (h0 : (rdT T i).1 ≠ 0 → ∀ υ, eS σ υ (rdT T i).1 (rdT T i).2.1 → Q 0 υ) : m_3_readTrees 3 1 Q τ := by
  have H : ∀ k x v, rdT T i = (k, x, v) → (k = 0 → ∀ υ, rS σ υ x (upd D 2 (nI v)) E F → Q 1 υ) ∧ (k ≠ 0 → ∀ υ, eS σ υ k x → Q 0 υ) := fun k x v e => by
    rw [e] at h1 h0
    exact ⟨h1, h0⟩
  clear h1 h0
  obtain ⟨s1, s2, -⟩ := id S
  have hi0 := hT.hi i
  unfold m_3_readTrees
  rw [s2]
  refine s_dig hT (C.r s1) (by omega) (fun d0 => ⟨fun _ => ?_, fun q => absurd q (by decide)⟩) (fun d0 => ⟨fun q => absurd rfl q, fun _ => ?_⟩)
  · rw [s2]
    refine s_7_sign hT (C.r s1) (by omega) (fun a0 => ?_) (fun a => absurd (hT.2.2 i a) (by omega))
    intro σ7 e7 σ8 e8
    rw [show (48 : Int32) = nI 48 from rfl, pk_sub (by omega)] at e7
    have S8 := (S.d e7).at e8
    refine s_3_readSlash hT C S8 (by omega) (fun q υ h => ⟨isB1, (H 0 (i + 2) _ ?_).1 rfl υ h⟩) (fun q υ h => ⟨isB0, (H 1 (i + 1) 0 ?_).2 (by decide) υ h⟩)
    · unfold rdT; rw [if_pos d0, if_pos q]
    · unfold rdT; rw [if_pos d0, if_neg q]
  · rw [s2]
    refine s_3_fail (k := 1) (x := i) s1 (fun υ e => ⟨isB0, (H 1 i 0 ?_).2 (by decide) υ e⟩)
    unfold rdT; rw [if_neg d0]
