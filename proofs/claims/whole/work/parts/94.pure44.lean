-- a text, read as a street: the class's sides
def fE (T : Nat → Nat) (s i k : Nat) (E : Nat → Int32) : Nat → Int32 := fun y => if 20 * s ≤ y ∧ y < 20 * s + k then nI (dvI T (i + (y - 20 * s))) else E y
def fF (T : Nat → Nat) (s i k : Nat) (E : Nat → Int32) : Nat → Int32 := fun y => if 20 * s ≤ y ∧ y < 20 * s + k then nI (pvI T (i + (y - 20 * s))) else E y
theorem fE_0 {T : Nat → Nat} {s i : Nat} {E : Nat → Int32} : fE T s i 0 E = E := by
  funext y
  unfold fE
  rw [if_neg (by omega)]
theorem fF_0 {T : Nat → Nat} {s i : Nat} {E : Nat → Int32} : fF T s i 0 E = E := by
  funext y
  unfold fF
  rw [if_neg (by omega)]
theorem fE_s {T : Nat → Nat} {s i k : Nat} {E : Nat → Int32} : upd (fE T s i k E) (20 * s + k) (nI (dvI T (i + k))) = fE T s i (k + 1) E := by
  funext y
  rw [rd_upd]
  unfold fE
  by_cases q : y = 20 * s + k
  · rw [if_pos q, if_pos (by omega), show i + (y - 20 * s) = i + k by omega]
  · rw [if_neg q]
    by_cases z : 20 * s ≤ y ∧ y < 20 * s + k
    · rw [if_pos z, if_pos (by omega)]
    · rw [if_neg z, if_neg (by omega)]
theorem fF_s {T : Nat → Nat} {s i k : Nat} {E : Nat → Int32} : upd (fF T s i k E) (20 * s + k) (nI (pvI T (i + k))) = fF T s i (k + 1) E := by
  funext y
  rw [rd_upd]
  unfold fF
  by_cases q : y = 20 * s + k
  · rw [if_pos q, if_pos (by omega), show i + (y - 20 * s) = i + k by omega]
  · rw [if_neg q]
    by_cases z : 20 * s ≤ y ∧ y < 20 * s + k
    · rw [if_pos z, if_pos (by omega)]
    · rw [if_neg z, if_neg (by omega)]
theorem s_3_readCell {m i pl : Nat} {T : Nat → Nat} {σ τ : St} {D E F : Nat → Int32} {Q : Int32 → St → Prop} (hT : TX m T) (C : TC m T σ) (hi : i < 900) (hp : pl < 40) (S : rS σ τ i D E F) (h1 : ceI T i → ∀ υ, rS σ υ (i + 1) D (upd E pl (nI (dvI T i))) (upd F pl (nI (pvI T i))) → Q 1 υ) (h0 : ¬ ceI T i → ∀ υ, eS σ υ 1 i → Q 0 υ) : m_3_readCell 3 1 (nI pl) Q τ := by
  obtain ⟨s1, s2, -⟩ := id S
  have hi0 := hT.hi i
  have nb0 : vp_nar .boolean 0 = 0 := nar_b isB0
  have nb1 : vp_nar .boolean 1 = 1 := nar_b isB1
  -- the sign is a cell's
  have c73 : ∀ b p : Nat, b ≤ T i → nI (10 * (T i - b)) = nI (dvI T i) → (nI p : Int32) = nI (pvI T i) → isB (nI p) → ceI T i → m_3_readCell_73 3 (nI pl) (nI p) Q (nI b) (nI (T i)) 10 (nI pl) (3 + 1 + 1) τ := fun b p hb e1 e2 hbp hc => by
    unfold m_3_readCell_73
    rw [tn pl (by omega)]
    refine ⟨vin hp, fun σ1 f1 => ⟨vin hp, fun σ2 f2 σ3 f3 => ?_⟩⟩
    rw [li 10, pk_sub hb, pk_mul, e1] at f1
    rw [nar_b hbp, e2] at f2
    exact h1 hc σ3 (((S.e f1).f f2).at f3)
  have c26 : ∀ v, (v = -1 → m ≤ i) → (v ≠ -1 → i < m ∧ v = nI (T i)) → (v = -1 ∨ ¬ lI T i) → m_3_readCell_26 3 (nI pl) v Q 0 τ := fun v g0 g1 g2 => by
    have fl : ¬ ceI T i → m_3_fail 3 1 (τ.1 3 2) (fun (v_4 : Int32) (σ_3 : St) => (isB v_4 ∧ Q v_4 σ_3)) τ := fun q => by
      rw [s2]
      exact s_3_fail (k := 1) s1 (fun υ e => ⟨isB0, h0 q υ e⟩)
    unfold m_3_readCell_26
    refine ⟨fun q => absurd rfl q, fun _ => ?_⟩
    by_cases qv : v = -1
    · rw [qv]
      have := hT.2.2 i (g0 qv)
      exact s_3_digm ⟨fun q => absurd rfl q, fun _ => fl (by omega)⟩
    · obtain ⟨him, ev⟩ := g1 qv
      have nl : ¬ lI T i := g2.elim (fun z => absurd z qv) id
      rw [ev]
      refine s_3_dig1 (by omega) (fun d => ⟨fun _ => ?_, fun q => absurd q (by decide)⟩) (fun d => ⟨fun q => absurd rfl q, fun _ => fl (fun z => z.elim d nl)⟩)
      unfold m_3_readCell_50
      refine ⟨fun _ => ?_, fun q => absurd rfl q⟩
      exact c73 48 0 d.1 (by unfold dvI; rw [if_neg (by omega)]) (by unfold pvI; rw [if_neg (by omega)]) isB0 (Or.inl d)
  unfold m_3_readCell
  rw [s2]
  refine s_7_sign hT (C.r s1) (by omega) (fun a => ?_) (fun a => ?_)
  · have nm : nI (T i) ≠ -1 := fun z => by
      have : (0 : Int32) ≤ -1 := by rw [← z]; exact (lei (a := 0) (by decide) (by omega)).mpr (Nat.zero_le _)
      exact absurd this (by decide)
    refine ⟨fun q => c26 _ (fun z => absurd z nm) (fun _ => ⟨a, rfl⟩) (Or.inr ?_), fun q => ⟨fun q2 => c26 _ (fun z => absurd z nm) (fun _ => ⟨a, rfl⟩) (Or.inr ?_), fun q2 => ?_⟩⟩
    · have := (lti (a := T i) (b := 97) (by omega) (by decide)).mp q
      omega
    · have := (lti (a := 106) (b := T i) (by decide) (by omega)).mp q2
      omega
    · have w1 := mt (lti (a := T i) (b := 97) (by omega) (by decide)).mpr q
      have w2 := mt (lti (a := 106) (b := T i) (by decide) (by omega)).mpr q2
      unfold m_3_readCell_26
      refine ⟨fun _ => ?_, fun z => absurd z (by decide)⟩
      unfold m_3_readCell_50
      refine ⟨fun z => absurd z (by decide), fun _ => ?_⟩
      exact c73 97 1 (by omega) (by unfold dvI; rw [if_pos (by omega)]) (by unfold pvI; rw [if_pos (by omega)]) isB1 (Or.inr ⟨by omega, by omega⟩)
  · refine ⟨fun _ => c26 _ (fun _ => a) (fun z => absurd rfl z) (Or.inl rfl), fun q => absurd (by decide) q⟩
theorem s_9_place {s k : Nat} {Q : Int32 → St → Prop} {σ : St} (h : Q (nI (20 * s + k)) σ) : m_9_placeOf (nI s) (nI k) Q σ := s_9_placeOf h
theorem s_3_readLeft {m i n : Nat} {T : Nat → Nat} {σ τ : St} {D E F : Nat → Int32} {Q : Int32 → St → Prop} (hT : TX m T) (C : TC m T σ) (hi : i < 800) (S : rS σ τ i D E F) (hn : n ≤ 20) (hin : ∀ j, j < n → ceI T (i + j)) (hout : n < 20 → ¬ ceI T (i + n)) (h1 : 1 ≤ n → T (i + n) = 47 → ∀ υ D', rS σ υ (i + n + 1) D' (fE T 0 i n E) (fF T 0 i n F) → D' 0 = nI n → (∀ y, y ≠ 0 → D' y = D y) → Q 1 υ) (h0 : n = 0 ∨ T (i + n) ≠ 47 → ∀ υ, eS σ υ 1 (i + n) → Q 0 υ) : m_3_readLeftSide 3 1 Q τ := by
  unfold m_3_readLeftSide
  refine it_cnt (fun (k : Nat) (A : Int32 → St → Prop) => ∀ τ D', rS σ τ (i + k) D' (fE T 0 i k E) (fF T 0 i k F) → (∀ y, y ≠ 0 → D' y = D y) → (0 < k → D' 0 = nI k) → A (nI k) τ) n (by omega) ?_ ?_ τ D (by rw [fE_0, fF_0]; exact S) (fun _ _ => rfl) (fun q => absurd q (by omega))
  · intro k hk A hA τ1 D' S1 d1 d2
    obtain ⟨s1, s2, -⟩ := id S1
    have hc := hin k hk
    have h126 := hT.hi (i + k)
    have c28 : m_3_readLeftSide_28 3 1 (nI k) A Q τ1 := by
      unfold m_3_readLeftSide_28
      refine s_9_place (s := 0) ?_
      refine s_3_readCell hT C (by omega) (by omega) S1 (fun _ υ Su => ⟨fun _ => ?_, fun q => absurd q (by decide)⟩) (fun q => absurd hc q)
      intro σ5 e5 x ex
      have S5 := Su.d e5
      rw [ex, iplus]
      rw [iplus, fE_s, fF_s] at S5
      exact hA σ5 _ S5 (fun y hy => by rw [upd_n hy]; exact d1 y hy) (fun _ => upd_s)
    unfold m_3_readLeftSide_2
    refine ⟨fun q => absurd ((lei (a := 20) (by decide) (by omega)).mp q) (by omega), fun _ => ⟨fun _ => c28, fun _ => ?_⟩⟩
    rw [s2]
    refine s_7_sign hT (C.r s1) (by omega) (fun a => ⟨fun _ => c28, fun q => ?_⟩) (fun a => absurd (hT.2.2 _ a) (by omega))
    have := (eqi (b := 47) (by omega) (by decide)).mp q
    exfalso
    rcases hc with ⟨z, _⟩ | ⟨z, _⟩ <;> omega
  · intro A τ1 D' S1 d1 d2
    obtain ⟨s1, s2, -⟩ := id S1
    have h126 := hT.hi (i + n)
    have c59 : 1 ≤ n → m_3_readLeftSide_59 3 1 Q τ1 := fun q1 => by
      unfold m_3_readLeftSide_59
      exact s_3_readSlash hT C S1 (by omega) (fun q υ h => ⟨isB1, h1 q1 q υ D' h (d2 q1) d1⟩) (fun q υ h => ⟨isB0, h0 (Or.inr q) υ h⟩)
    have c28 : n < 20 → (n = 0 ∨ T (i + n) ≠ 47) → m_3_readLeftSide_28 3 1 (nI n) A Q τ1 := fun qn qz => by
      have hc := hout qn
      unfold m_3_readLeftSide_28
      refine s_9_place (s := 0) ?_
      exact s_3_readCell hT C (by omega) (by omega) S1 (fun q => absurd q hc) (fun _ υ e => ⟨fun q => absurd rfl q, fun _ => h0 qz υ e⟩)
    unfold m_3_readLeftSide_2
    refine ⟨fun q => c59 ?_, fun q => ⟨fun q2 => c28 ?_ (Or.inl ?_), fun q2 => ?_⟩⟩
    · have := (lei (a := 20) (by decide) (by omega)).mp q
      omega
    · have := mt (lei (a := 20) (b := n) (by decide) (by omega)).mpr q
      omega
    · have := (lei (a := n) (b := 0) (by omega) (by decide)).mp q2
      omega
    · have w1 := mt (lei (a := 20) (b := n) (by decide) (by omega)).mpr q
      have w2 := mt (lei (a := n) (b := 0) (by omega) (by decide)).mpr q2
      rw [s2]
      refine s_7_sign hT (C.r s1) (by omega) (fun a => ⟨fun q3 => c28 (by omega) (Or.inr (fun z => q3 (by rw [z]; rfl))), fun q3 => c59 (by omega)⟩) (fun a => ⟨fun q3 => c28 (by omega) (Or.inr (by rw [hT.2.2 _ a]; decide)), fun q3 => absurd q3 (by decide)⟩)
theorem s_3_readRight {m i n q : Nat} {T : Nat → Nat} {σ τ : St} {D E F : Nat → Int32} {Q : Int32 → St → Prop} (hT : TX m T) (C : TC m T σ) (hi : i < 800) (S : rS σ τ i D E F) (hD : D 0 = nI n) (hn : n ≤ 20) (hq : q ≤ n) (hin : ∀ j, j < q → ceI T (i + j)) (hout : q < n → ¬ ceI T (i + q)) (h1 : q = n → T (i + n) = 0 → ∀ υ, rS σ υ (i + n) D (fE T 1 i n E) (fF T 1 i n F) → Q 1 υ) (h0 : q < n ∨ T (i + n) ≠ 0 → ∀ υ, eS σ υ 1 (i + q) → Q 0 υ) : m_3_readRightSide 3 1 Q τ := by
  unfold m_3_readRightSide
  refine it_cnt (fun (k : Nat) (A : Int32 → St → Prop) => ∀ τ, rS σ τ (i + k) D (fE T 1 i k E) (fF T 1 i k F) → A (nI k) τ) q (by omega) ?_ ?_ τ (by rw [fE_0, fF_0]; exact S)
  · intro k hk A hA τ1 S1
    obtain ⟨s1, s2, s3, s4, -⟩ := id S1
    have hc := hin k hk
    unfold m_3_readRightSide_2
    rw [show (3 + 1 : Nat) = 4 from rfl, s4, hD]
    refine ⟨fun z => absurd z (nle_of (by omega) (by omega)), fun _ => ?_⟩
    refine s_9_place (s := 1) ?_
    refine s_3_readCell hT C (by omega) (by omega) S1 (fun _ υ Su => ⟨fun _ => ?_, fun z => absurd z (by decide)⟩) (fun z => absurd hc z)
    intro x ex
    rw [ex, iplus]
    rw [fE_s, fF_s] at Su
    exact hA υ Su
  · intro A τ1 S1
    obtain ⟨s1, s2, s3, s4, -⟩ := id S1
    unfold m_3_readRightSide_2
    rw [show (3 + 1 : Nat) = 4 from rfl, s4, hD]
    refine ⟨fun z => ?_, fun z => ?_⟩
    · have z := (lei (by omega) (by omega)).mp z
      have eq : q = n := by omega
      subst eq
      have fl : T (i + q) ≠ 0 → m_3_fail 3 1 (τ1.1 3 2) (fun (v_4 : Int32) (σ_3 : St) => ((v_4 = 0 → Q (0 : Int32) σ_3) ∧ (¬ v_4 = 0 → Q (1 : Int32) σ_3))) τ1 := fun w => by
        rw [s2]
        exact s_3_fail (k := 1) s1 (fun υ e => ⟨fun _ => h0 (Or.inr w) υ e, fun y => absurd rfl y⟩)
      rw [s2]
      refine s_7_sign hT (C.r s1) (by omega) (fun a => ⟨fun w => ?_, fun _ => fl (by have := hT.2.1 _ a; omega)⟩) (fun a => ⟨fun _ => h1 rfl (hT.2.2 _ a) τ1 S1, fun w => absurd rfl w⟩)
      exfalso
      have h126 := hT.hi (i + q)
      have : (0 : Int32) ≤ -1 := by rw [← w]; exact (lei (a := 0) (by decide) (by omega)).mpr (Nat.zero_le _)
      exact absurd this (by decide)
    · have z := mt (lei (a := n) (b := q) (by omega) (by omega)).mpr z
      refine s_9_place (s := 1) ?_
      exact s_3_readCell hT C (by omega) (by omega) S1 (fun w => absurd w (hout (by omega))) (fun _ υ e => ⟨fun w => absurd rfl w, fun _ => h0 (Or.inl (by omega)) υ e⟩)
theorem fE_cV {T : Nat → Nat} {E : Nat → Int32} {y : Nat} (hy : y < 40) (h0 : E y = 0) (hn : vN T ≤ 20) : fE T 1 (i3 T) (vN T) (fE T 0 (i2 T) (vN T) E) y = nI (cV T y) := by
  unfold fE cV
  by_cases a : 20 ≤ y
  · rw [if_pos a]
    by_cases b : y - 20 < vN T
    · rw [if_pos b, if_pos (by omega)]
    · rw [if_neg b, if_neg (by omega), if_neg (by omega)]
      exact h0
  · rw [if_neg a, if_neg (by omega)]
    by_cases b : y < vN T
    · rw [if_pos b, if_pos (by omega)]
      rfl
    · rw [if_neg b, if_neg (by omega)]
      exact h0
theorem fF_cP {T : Nat → Nat} {E : Nat → Int32} {y : Nat} (hy : y < 40) (h0 : E y = 0) (hn : vN T ≤ 20) : fF T 1 (i3 T) (vN T) (fF T 0 (i2 T) (vN T) E) y = nI (cP T y) := by
  unfold fF cP
  by_cases a : 20 ≤ y
  · rw [if_pos a]
    by_cases b : y - 20 < vN T
    · rw [if_pos b, if_pos (by omega)]
    · rw [if_neg b, if_neg (by omega), if_neg (by omega)]
      exact h0
  · rw [if_neg a, if_neg (by omega)]
    by_cases b : y < vN T
    · rw [if_pos b, if_pos (by omega)]
      rfl
    · rw [if_neg b, if_neg (by omega)]
      exact h0
