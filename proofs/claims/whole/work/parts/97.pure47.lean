-- a text, read as a street: the model's sides
theorem s_10_fails2 {k x : Nat} {σ τ : St} {Q : Int32 → St → Prop} (S : mF σ τ) (h : ∀ υ, mE σ υ k x → υ.1 354 6 = τ.1 354 6 → Q 0 υ) : m_10_fails 354 (nI k) (nI x) Q τ := by
  unfold m_10_fails
  intro σ1 e1 σ2 e2
  rw [e1] at e2
  refine h σ2 ⟨?_, ?_, ?_⟩ ?_
  · rw [e2]
    exact (S.w (by omega)).w (by omega)
  · rw [e2, wr_else (by omega), wr_same]
  · rw [e2, wr_same]
  · rw [e2, wr_else (by omega), wr_else (by omega)]
theorem s_10_takes2 {m i : Nat} {T : Nat → Nat} {σ τ : St} {M : Nat → Int32} {Q : Int32 → St → Prop} (hT : TX m T) (C : TM m T σ) (S : mS σ τ i M) (hi : i < 1000) (h1 : T i = 47 → ∀ υ, mS σ υ (i + 1) M → Q 1 υ) (h0 : T i ≠ 47 → ∀ υ, mE σ υ 1 i → υ.1 354 6 = nI i → Q 0 υ) : m_10_takes 354 47 Q τ := by
  have h126 := hT.hi i
  have fl : T i ≠ 47 → m_10_fails 354 1 (τ.1 354 6) (fun (v_5 : Int32) (σ_4 : St) => (isB v_5 ∧ Q v_5 σ_4)) τ := fun q => by
    have s2 := S.2.1
    rw [s2]
    exact s_10_fails2 (k := 1) S.1 (fun υ e e6 => ⟨isB0, h0 q υ e (e6.trans s2)⟩)
  unfold m_10_takes
  refine s_10_here hT C S hi (fun a => ⟨fun q υ e => ?_, fun q => fl (fun z => q (by rw [z]; rfl))⟩) (fun a => ⟨fun q => absurd q (by decide), fun _ => fl (by rw [hT.2.2 i a]; decide)⟩)
  exact h1 ((eqi (b := 47) (by omega) (by decide)).mp q) υ (S.at e)
theorem s_10_readsCell {m i s k : Nat} {T : Nat → Nat} {σ τ : St} {M : Nat → Int32} {Q : St → Prop} (hT : TX m T) (C : TM m T σ) (S : mS σ τ i M) (hi : i < 900) (hs : s < 2) (hk : k < 20) (hc : ceI T i) (hQ : ∀ υ, mS σ υ (i + 1) (upd (upd M (3 + (20 * s + k)) (nI (dvI T i))) (43 + (20 * s + k)) (nI (pvI T i))) → Q υ) : m_10_readsCell 354 (nI s) (nI k) Q τ := by
  have h126 := hT.hi i
  have c12 : ∀ p b : Nat, (p = 0 ∧ b = 48 ∨ p = 1 ∧ b = 97) → b ≤ T i → nI (10 * (T i - b)) = nI (dvI T i) → (nI p : Int32) = nI (pvI T i) → m_10_readsCell_12 354 (nI s) (nI k) Q (nI p) τ := fun p b hpb hb e1 e2 => by
    have c41 : m_10_readsCell_41 354 (nI s) (nI k) (nI p) Q (nI b) (nI (T i)) 10 (3 + nI (20 * s + k)) (354 + 3) τ := by
      unfold m_10_readsCell_41
      rw [li 3, nI_add, tn _ (by omega), show (354 + 3 : Nat) = 357 from rfl]
      refine ⟨vin (by omega), fun σ1 f1 => ?_⟩
      rw [li 10, pk_sub hb, pk_mul, e1] at f1
      have S1 := S.m f1
      refine s_10_placeOf ?_
      have c65 : ∀ v : Int32, v = nI (pvI T i) → m_10_readsCell_65 354 Q v (43 + nI (20 * s + k)) 357 σ1 := fun v ev => by
        unfold m_10_readsCell_65
        rw [li 43, nI_add, tn _ (by omega)]
        refine ⟨vin (by omega), fun σ2 f2 σ3 f3 => ?_⟩
        rw [ev] at f2
        exact hQ σ3 ((S1.m f2).at f3)
      rcases hpb with ⟨rfl, rfl⟩ | ⟨rfl, rfl⟩
      · exact ⟨fun _ => c65 0 e2, fun q => absurd rfl q⟩
      · exact ⟨fun q => absurd q (by decide), fun _ => c65 1 e2⟩
    unfold m_10_readsCell_12
    refine s_10_placeOf ?_
    refine s_10_here hT C S (by omega) (fun a => ?_) (fun a => ?_)
    · rcases hpb with ⟨rfl, rfl⟩ | ⟨rfl, rfl⟩
      · exact ⟨fun _ => c41, fun q => absurd rfl q⟩
      · exact ⟨fun q => absurd q (by decide), fun _ => c41⟩
    · have := hT.2.2 i a
      omega
  unfold m_10_readsCell
  refine s_10_isDigit hT C S (by omega) (fun d => ⟨fun _ => ?_, fun q => absurd q (by decide)⟩) (fun d => ⟨fun q => absurd rfl q, fun _ => ?_⟩)
  · exact c12 0 48 (by omega) (by omega) (by unfold dvI; rw [if_neg (by omega)]) (by unfold pvI; rw [if_neg (by omega)])
  · have hl : lI T i := hc.elim (fun z => absurd z d) id
    have := hl.1
    exact c12 1 97 (by omega) (by omega) (by unfold dvI; rw [if_pos (by omega)]) (by unfold pvI; rw [if_pos (by omega)])
def gM (T : Nat → Nat) (s i k : Nat) (M : Nat → Int32) : Nat → Int32 := fun y => if 3 + 20 * s ≤ y ∧ y < 3 + 20 * s + k then nI (dvI T (i + (y - (3 + 20 * s)))) else if 43 + 20 * s ≤ y ∧ y < 43 + 20 * s + k then nI (pvI T (i + (y - (43 + 20 * s)))) else M y
theorem gM_0 {T : Nat → Nat} {s i : Nat} {M : Nat → Int32} : gM T s i 0 M = M := by
  funext y
  unfold gM
  rw [if_neg (by omega), if_neg (by omega)]
theorem gM_s {T : Nat → Nat} {s i k : Nat} {M : Nat → Int32} (hs : s < 2) (hk : k < 20) : upd (upd (gM T s i k M) (3 + (20 * s + k)) (nI (dvI T (i + k)))) (43 + (20 * s + k)) (nI (pvI T (i + k))) = gM T s i (k + 1) M := by
  funext y
  rw [rd_upd, rd_upd]
  unfold gM
  by_cases q : y = 43 + (20 * s + k)
  · rw [if_pos q, if_neg (by omega), if_pos (by omega), show i + (y - (43 + 20 * s)) = i + k by omega]
  · rw [if_neg q]
    by_cases q2 : y = 3 + (20 * s + k)
    · rw [if_pos q2, if_pos (by omega), show i + (y - (3 + 20 * s)) = i + k by omega]
    · rw [if_neg q2]
      by_cases z : 3 + 20 * s ≤ y ∧ y < 3 + 20 * s + k
      · rw [if_pos z, if_pos (by omega)]
      · rw [if_neg z, if_neg (show ¬ (3 + 20 * s ≤ y ∧ y < 3 + 20 * s + (k + 1)) by omega)]
        by_cases z2 : 43 + 20 * s ≤ y ∧ y < 43 + 20 * s + k
        · rw [if_pos z2, if_pos (by omega)]
        · rw [if_neg z2, if_neg (by omega)]
theorem s_10_readsSides {m i n q : Nat} {T : Nat → Nat} {σ τ : St} {M : Nat → Int32} {Q : Int32 → St → Prop} (hT : TX m T) (C : TM m T σ) (hi : i < 800) (S : mS σ τ i M) (hn : n ≤ 20) (hin : ∀ j, j < n → ceI T (i + j)) (hout : n < 20 → ¬ ceI T (i + n)) (hq : q ≤ n) (hin2 : ∀ j, j < q → ceI T (i + n + 1 + j)) (hout2 : q < n → ¬ ceI T (i + n + 1 + q))
    (h1 : 1 ≤ n → T (i + n) = 47 → q = n → T (i + n + 1 + n) = 0 → ∀ υ p, mS σ υ p (gM T 1 (i + n + 1) n (upd (gM T 0 i n M) 0 (nI n))) → Q 1 υ)
    (ha : n = 0 ∨ T (i + n) ≠ 47 → ∀ υ, mE σ υ 1 (i + n) → Q 0 υ)
    (hb : 1 ≤ n → T (i + n) = 47 → (q < n ∨ T (i + n + 1 + n) ≠ 0) → ∀ υ, mE σ υ 1 (i + n + 1 + q) → Q 0 υ) : m_10_readsSides 354 Q τ := by
  unfold m_10_readsSides
  refine it_cnt (fun (k : Nat) (A : Int32 → St → Prop) => ∀ τ, mS σ τ (i + k) (gM T 0 i k M) → A (nI k) τ) n (by omega) ?_ ?_ τ (by rw [gM_0]; exact S)
  · intro k hk A hA τ1 S1
    unfold m_10_readsSides_2
    refine ⟨fun z => absurd ((lei (a := 20) (by decide) (by omega)).mp z) (by omega), fun _ => ?_⟩
    refine s_10_isCell' hT C S1 (by omega) (fun hc => ⟨fun z => absurd z (by decide), fun _ => ?_⟩) (fun z => absurd (hin k hk) z)
    refine s_10_readsCell (s := 0) hT C S1 (by omega) (by omega) (by omega) hc (fun υ Su => ?_)
    intro x ex
    rw [ex, iplus]
    rw [gM_s (by omega) (by omega)] at Su
    exact hA υ Su
  · intro A τ1 S1
    have c27 : m_10_readsSides_27 354 (nI n) Q τ1 := by
      unfold m_10_readsSides_27
      refine ⟨vin (by decide), fun σ1 e1 => ?_⟩
      rw [tn0, show (354 + 3 : Nat) = 357 from rfl] at e1
      have S2 := S1.m e1
      have c47 : ∀ υ, mF σ υ → υ.1 354 6 = nI (i + n) → (n = 0 ∨ T (i + n) ≠ 47) → m_10_readsSides_47 354 Q υ := fun υ f e6 w => by
        unfold m_10_readsSides_47
        rw [e6]
        exact s_10_fails (k := 1) f (fun υ es => ⟨isB0, ha w υ es⟩)
      refine ⟨fun z => c47 σ1 S2.1 S2.2.1 (Or.inl ((eqi (b := 0) (by omega) (by decide)).mp z)), fun z => ?_⟩
      have n1 : 1 ≤ n := by
        have := mt (eqi (a := n) (b := 0) (by omega) (by decide)).mpr z
        omega
      refine s_10_takes2 hT C S2 (by omega) (fun w υ Su => ⟨fun _ => ?_, fun q => absurd q (by decide)⟩) (fun w υ es e6 => ⟨fun q => absurd rfl q, fun _ => c47 υ es.1 e6 (Or.inr w)⟩)
      refine it_cnt (fun (k : Nat) (B : Int32 → St → Prop) => ∀ τ, mS σ τ (i + n + 1 + k) (gM T 1 (i + n + 1) k (upd (gM T 0 i n M) 0 (nI n))) → B (nI k) τ) q (by omega) ?_ ?_ υ (by rw [gM_0]; exact Su)
      · intro k hk B hB τ3 S3
        unfold m_10_readsSides_59
        refine ⟨fun z => absurd z (nle_of (by omega) (by omega)), fun _ => ?_⟩
        refine s_10_isCell' hT C S3 (by omega) (fun hc => ⟨fun _ => ?_, fun z => absurd z (by decide)⟩) (fun z => absurd (hin2 k hk) z)
        refine s_10_readsCell (s := 1) hT C S3 (by omega) (by omega) (by omega) hc (fun υ Su => ?_)
        intro x ex
        rw [ex, iplus]
        rw [gM_s (by omega) (by omega)] at Su
        exact hB υ Su
      · intro B τ3 S3
        unfold m_10_readsSides_59
        refine ⟨fun z => ?_, fun z => ?_⟩
        · have z := (lei (by omega) (by omega)).mp z
          have eqn : q = n := by omega
          subst eqn
          have hm := hT.1
          have lst : i + q + 1 + (q - 1) < m := hT.lt (by
            have := hin2 (q - 1) (by omega)
            rcases this with ⟨w, _⟩ | ⟨w, _⟩ <;> omega)
          rw [S3.2.1, (C.r S3.1).1]
          refine ⟨fun w2 => h1 n1 w rfl ?_ τ3 _ S3, fun w2 => ?_⟩
          · have w2 := (eqi (by omega) (by omega)).mp w2
            exact hT.2.2 _ (by omega)
          · refine s_10_fails (k := 1) S3.1 (fun υ es => ⟨fun _ => hb n1 w (Or.inr (fun w3 => w2 ?_)) υ es, fun w => absurd rfl w⟩)
            have : ¬ i + q + 1 + q < m := fun w4 => by have := (hT.2.1 _ w4).1; omega
            rw [show i + q + 1 + q = m by omega]
        · have z := mt (lei (a := n) (b := q) (by omega) (by omega)).mpr z
          refine s_10_isCell' hT C S3 (by omega) (fun hc => absurd hc (hout2 (by omega))) (fun _ => ⟨fun z => absurd rfl z, fun _ => ?_⟩)
          rw [S3.2.1]
          exact s_10_fails (k := 1) S3.1 (fun υ es => ⟨isB0, hb n1 w (Or.inl (by omega)) υ es⟩)
    unfold m_10_readsSides_2
    refine ⟨fun _ => c27, fun z => ?_⟩
    have z := mt (lei (a := 20) (b := n) (by decide) (by omega)).mpr z
    exact s_10_isCell' hT C S1 (by omega) (fun hc => absurd hc (hout (by omega))) (fun _ => ⟨fun _ => c27, fun w => absurd rfl w⟩)
theorem gM_c {T : Nat → Nat} {M : Nat → Int32} (hn : vN T ≤ 20) : (∀ s k, s < 2 → k < vN T → gM T 1 (i3 T) (vN T) (upd (gM T 0 (i2 T) (vN T) M) 0 (nI (vN T))) (3 + (20 * s + k)) = nI (cV T (20 * s + k)) ∧ gM T 1 (i3 T) (vN T) (upd (gM T 0 (i2 T) (vN T) M) 0 (nI (vN T))) (43 + (20 * s + k)) = nI (cP T (20 * s + k))) ∧ (∀ y, 1 ≤ y → y < 3 → gM T 1 (i3 T) (vN T) (upd (gM T 0 (i2 T) (vN T) M) 0 (nI (vN T))) y = M y) ∧ gM T 1 (i3 T) (vN T) (upd (gM T 0 (i2 T) (vN T) M) 0 (nI (vN T))) 0 = nI (vN T) := by
  refine ⟨fun s k hs hk => ?_, fun y h1 h2 => ?_, ?_⟩
  · rcases (by omega : s = 0 ∨ s = 1) with rfl | rfl
    · refine ⟨?_, ?_⟩
      · unfold gM cV
        rw [if_neg (by omega), if_neg (by omega), upd_n (by omega), if_pos (by omega), if_neg (by omega), if_pos (by omega)]
        congr 2
        omega
      · unfold gM cP
        rw [if_neg (by omega), if_neg (by omega), upd_n (by omega), if_neg (by omega), if_pos (by omega), if_neg (by omega), if_pos (by omega)]
        congr 2
        omega
    · refine ⟨?_, ?_⟩
      · unfold gM cV
        rw [if_pos (by omega), if_pos (by omega), if_pos (by omega)]
        congr 2
        omega
      · unfold gM cP
        rw [if_neg (by omega), if_pos (by omega), if_pos (by omega), if_pos (by omega)]
        congr 2
        omega
  · unfold gM
    rw [if_neg (by omega), if_neg (by omega), upd_n (by omega), if_neg (by omega), if_neg (by omega)]
  · unfold gM
    rw [if_neg (by omega), if_neg (by omega), upd_s]
