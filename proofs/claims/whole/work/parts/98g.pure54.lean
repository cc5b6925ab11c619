-- the law's loop
def lawK (A : Int32 → St → Prop) (i : Int32) (v v' : Int32) (τ : St) : Prop := (v = v' → ∀ x : Int32, x = i + 5 → A x τ) ∧ (¬ v = v' → (0 : Int32) = 1)
def lawZ (A : Int32 → St → Prop) (i : Int32) (v v' : Int64) (τ : St) : Prop := (lg_cmp v v' = 0 → ∀ x : Int32, x = i + 5 → A x τ) ∧ (¬ lg_cmp v v' = 0 → (0 : Int32) = 1)
theorem lgc (z : Int64) : lg_cmp z z = 0 := by
  unfold lg_cmp
  rw [if_neg (show ¬ z > z from Int64.lt_irrefl), if_pos rfl]
theorem law_step {L t : Nat} {xs : Nat → Int32} {A : Int32 → St → Prop} {σ : St} (hL : L ≤ 2560) (ht : 5 * t + 5 ≤ L) (I : Inv t σ) (nx : ∀ τ, Inv (t + 1) τ → A (nI (5 * t) + 5) τ) : m_L_law_18 0 354 L xs (fun v _ => v = 1) A (nI (5 * t)) σ := by
  have v0 : vp_in (nI (5 * t)) L := vin (by omega) (by omega)
  have v1 : vp_in (nI (5 * t) + 1) L := by rw [iplus]; exact vin (by omega) (by omega)
  have v2 : vp_in (nI (5 * t) + 2) L := by rw [show (2 : Int32) = nI 2 from rfl, nI_add]; exact vin (by omega) (by omega)
  have v3 : vp_in (nI (5 * t) + 3) L := by rw [show (3 : Int32) = nI 3 from rfl, nI_add]; exact vin (by omega) (by omega)
  have v4 : vp_in (nI (5 * t) + 4) L := by rw [show (4 : Int32) = nI 4 from rfl, nI_add]; exact vin (by omega) (by omega)
  have hK : ∀ v τ, Inv (t + 1) τ → lawK A (nI (5 * t)) v v τ := fun v τ I' => ⟨fun _ x ex => by rw [ex]; exact nx τ I', fun q => absurd rfl q⟩
  have hZ : ∀ v τ, Inv (t + 1) τ → lawZ A (nI (5 * t)) v v τ := fun v τ I' => ⟨fun _ x ex => by rw [ex]; exact nx τ I', fun q => absurd (lgc v) q⟩
  have tc : t < 100000 := by omega
  unfold m_L_law_18
  refine ⟨fun q => ?_, fun _ => ⟨v0, fun _ x ex => by rw [ex]; exact nx σ (I.mono (by omega)), ?_⟩⟩
  · exfalso
    rw [show (Int32.ofNat L : Int32) = nI L from rfl, show (5 : Int32) = nI 5 from rfl, pk_sub (by omega), lti (by omega) (by omega)] at q
    omega
  refine ⟨fun _ => ⟨v1, p_type (K := lawK A (nI (5 * t))) I (fun v σ1 m => ⟨v1, m⟩) hK⟩,
    fun _ => p_clearText (K := lawK A (nI (5 * t))) I (fun v σ1 m => m) hK,
    fun _ => ⟨v1, p_load (K := lawK A (nI (5 * t))) I (fun v σ1 m => ⟨v1, m⟩) hK⟩,
    fun _ => p_faultKind (K := lawK A (nI (5 * t))) I (fun v σ1 m => m) hK,
    fun _ => ⟨v1, v2, v3, p_addStreet (K := lawK A (nI (5 * t))) I (fun v σ1 m => ⟨v1, v2, v3, m⟩) hK⟩,
    fun _ => ⟨v1, p_dropStreet (K := lawK A (nI (5 * t))) I (fun v σ1 m => ⟨v1, m⟩) hK⟩,
    fun _ => ⟨v1, v2, v3, v4, p_lay (K := lawK A (nI (5 * t))) I (fun v σ1 m => ⟨v1, v2, v3, v4, m⟩) hK⟩,
    fun _ => ⟨v1, v2, v3, v4, fun q => ?_, fun q => ?_⟩,
    fun _ => ⟨v1, v2, v3, v4, p_cell (K := lawK A (nI (5 * t))) I (fun v σ1 m => ⟨v1, v2, v3, v4, m⟩) hK⟩,
    fun _ => ⟨v1, v2, p_street (K := lawK A (nI (5 * t))) I (fun v σ1 m => ⟨v1, v2, m⟩) hK⟩,
    fun _ => ⟨v1, v2, p_set (K := lawK A (nI (5 * t))) I (fun v σ1 m => ⟨v1, v2, m⟩) hK⟩,
    fun _ => ⟨v1, v2, p_addLeg (K := lawK A (nI (5 * t))) I (fun v σ1 m => ⟨v1, v2, m⟩) hK⟩,
    fun _ => ⟨v1, p_dropLeg (K := lawK A (nI (5 * t))) I (fun v σ1 m => ⟨v1, m⟩) hK⟩,
    fun _ => ⟨v1, v2, p_leg (K := lawK A (nI (5 * t))) I (fun v σ1 m => ⟨v1, v2, m⟩) hK⟩,
    fun _ => p_shift (K := lawK A (nI (5 * t))) tc I (fun v σ1 m => m) hK,
    fun _ => ⟨v1, p_night (K := lawK A (nI (5 * t))) I (fun v σ1 m => ⟨v1, m⟩) hK⟩,
    fun _ => ⟨v1, p_rain (K := lawK A (nI (5 * t))) I (fun v σ1 m => ⟨v1, m⟩) hK⟩,
    fun _ => ⟨v1, p_latest (K := lawK A (nI (5 * t))) I (fun v σ1 m => ⟨v1, m⟩) hK⟩,
    fun _ => ⟨v1, p_ifSpeed (K := lawK A (nI (5 * t))) I (fun v σ1 m => ⟨v1, m⟩) hK⟩,
    fun _ => p_bestSpeed (K := lawK A (nI (5 * t))) I (fun v σ1 m => m) hK,
    fun _ => ⟨v1, v2, fun q => ?_, fun q => ?_⟩,
    fun _ => ⟨v1, p_nightsTo (K := lawK A (nI (5 * t))) I (fun v σ1 m => ⟨v1, m⟩) hK⟩,
    fun _ => ⟨v1, p_account (K := lawK A (nI (5 * t))) I (fun v σ1 m => ⟨v1, m⟩) hK⟩,
    fun _ => p_undo (K := lawK A (nI (5 * t))) I (fun v σ1 m => m) hK,
    fun _ => ⟨v1, p_count (K := lawK A (nI (5 * t))) I (fun v σ1 m => ⟨v1, m⟩) hK⟩,
    fun _ => p_digest (K := lawZ A (nI (5 * t))) I (fun v σ1 m => m) hZ⟩
  · unfold m_L_law_372
    refine p_park (K := lawK A (nI (5 * t))) isB0 I (fun v σ1 m => ⟨v1, v2, v3, v4, fun _ => ?_, fun w => absurd q w⟩) hK
    unfold m_L_law_404
    exact m
  · unfold m_L_law_372
    refine p_park (K := lawK A (nI (5 * t))) isB1 I (fun v σ1 m => ⟨v1, v2, v3, v4, fun w => absurd w q, fun _ => ?_⟩) hK
    unfold m_L_law_404
    exact m
  · unfold m_L_law_757
    refine p_bestOrder (K := lawK A (nI (5 * t))) I (fun v σ1 m => ⟨v1, v2, fun _ => ?_, fun w => absurd q w⟩) hK
    unfold m_L_law_779
    exact m
  · unfold m_L_law_757
    refine p_bestOrder (K := lawK A (nI (5 * t))) I (fun v σ1 m => ⟨v1, v2, fun w => absurd w q, fun _ => ?_⟩) hK
    unfold m_L_law_779
    exact m
theorem law_ok {L : Nat} {xs : Nat → Int32} {σ : St} (hL : L ≤ 2560) (I : Inv 0 σ) : m_L_law 0 354 L xs (fun v _ => v = 1) σ := by
  unfold m_L_law
  refine it_lt (fun (m : Nat) (A : Int32 → St → Prop) => ∀ t τ, m + 5 * t = 3000 → 5 * t ≤ L + 5 → Inv t τ → A (nI (5 * t)) τ) ?_ 3000 (by omega) 0 σ (by omega) (by omega) I
  intro m A hA t τ hm ht I'
  by_cases q : 5 * t + 5 ≤ L
  · refine law_step hL q I' (fun τ' I2 => ?_)
    rw [show (5 : Int32) = nI 5 from rfl, nI_add]
    exact hA (m - 5) (by omega) (t + 1) τ' (by omega) (by omega) I2
  · unfold m_L_law_18
    have lt : Int32.ofNat L - 5 < nI (5 * t) := by
      rw [show (Int32.ofNat L : Int32) = nI L from rfl, show (5 : Int32) = nI 5 from rfl, Int32.lt_iff_toInt_lt, pk_sub_toInt (by omega) (by omega), nI_toInt (by omega)]
      omega
    exact ⟨fun _ => rfl, fun z => absurd lt z⟩
theorem pure_ok (L : Nat) (xs : Nat → Int32) (hL : L ≤ 2560) : pureAll L xs := by
  have f0 : FR k00 0 := ⟨rfl, fun _ _ _ => ⟨rfl, rfl⟩, rfl⟩
  unfold pureAll
  refine s_9_init f0.nx (fun _ => rfl) (fun k1 s => ⟨s.1.zer, ?_⟩)
  refine s_10_init s.1.nx (fun k2 F M D low pg => ⟨⟨F.1, fun a j ha q => ?_⟩, law_ok hL ?_⟩)
  · exact ((s.2.1.mo (Mo.rf.nx.tr M)).ap D) a j (Nat.zero_le a) ha q
  · refine inv0 s (fun a ha => by rw [low a (by omega)]; rfl) (fun j => ?_) pg
    rw [low 354 (by omega)]
    exact (s.1.2.1 354 j (Nat.le_refl 354)).1
