-- the next order, on both sides
theorem s_2_stepOrder {σ : St} {l : Nat} {o : List Nat} {Q : Int32 → St → Prop} (hl : 1 ≤ l) (h6 : l ≤ 6) (h3 : σ.1 351 3 = nI l) (ho : OR 353 l o σ) (h0 : nxt l o = none → Q 0 σ) (h1 : ∀ o' τ, nxt l o = some o' → OR 353 l o' τ → eC 353 σ τ → Q 1 τ) : m_2_stepOrder 351 Q σ := by
  have bd : ∀ k, k < l → gO o k < 6 := fun k hk => by have := ho.1.2.1 k hk; omega
  -- from the swap on
  have fin : ∀ r j, r + 1 < l → r < j → j < l → riL o (l - 1) = some r → grL o r (l - 1) = j → m_2_stepOrder_73 351 (nI r) (nI j) Q σ := fun r j hr hj hjl er ej => by
    unfold m_2_stepOrder_73
    refine s_2_swap ho h6 (by omega) hjl (fun τ g1 g2 x3 ex3 x4 ex4 => ?_)
    rw [g2.1 351 (by omega), h3, show (1 : Int32) = nI 1 from rfl, pk_sub (by omega)] at ex4
    rw [ex3, ex4, iplus]
    have en := nxt_s er
    rw [ej] at en
    refine it_lt (fun (m : Nat) (A : Int32 → Int32 → St → Prop) => ∀ τ' p a b f, m = b - a → b - a ≤ f → a ≤ l → b < l → OR 353 l p τ' → eC 353 σ τ' → rvL f p a b = rvL l (swL o r j) (r + 1) (l - 1) → A (nI a) (nI b) τ') ?_ (l - 1 - (r + 1)) (by omega) τ (swL o r j) (r + 1) (l - 1) l rfl (by omega) (by omega) (by omega) g1 g2 rfl
    intro m A hA τ' p a b f em hf ha hb hp he hv
    unfold m_2_stepOrder_91
    refine ⟨fun q => ?_, fun q => ?_⟩
    · have q := (lei (by omega) (by omega)).mp q
      have e : rvL f p a b = p := by
        cases f with
        | zero => rfl
        | succ f => rw [rvL_s, if_neg (by omega)]
      rw [e] at hv
      exact h1 _ τ' en (by rw [← hv]; exact hp) he
    · have q : a < b := by
        have := mt (lei (a := b) (b := a) (by omega) (by omega)).mpr q
        omega
      obtain ⟨f', rfl⟩ : ∃ f', f = f' + 1 := ⟨f - 1, by omega⟩
      refine s_2_swap hp h6 (by omega) hb (fun τ2 k1 k2 y3 ey3 y4 ey4 => ?_)
      obtain ⟨b', rfl⟩ : ∃ b', b = b' + 1 := ⟨b - 1, by omega⟩
      rw [ey3, ey4, iplus, i_m1]
      rw [rvL_s, if_pos q, Nat.add_sub_cancel] at hv
      exact hA (b' - (a + 1)) (by omega) τ2 _ (a + 1) b' f' rfl (by omega) (by omega) (by omega) k1 (he.tr k2) hv
  unfold m_2_stepOrder
  intro x1 ex1
  rw [h3, lm2 l (by omega) hl] at ex1
  rw [ex1]
  refine it_lt (fun (k : Nat) (A : Int32 → St → Prop) => k ≤ l - 1 → riL o k = riL o (l - 1) → A (nI k + (-1)) σ) ?_ (l - 1) (by omega) (Nat.le_refl _) rfl
  intro k A hA hk hr
  unfold m_2_stepOrder_7
  cases k with
  | zero =>
    rw [xm_0]
    refine ⟨fun _ => ?_, fun q => absurd (by decide) q⟩
    unfold m_2_stepOrder_34
    exact ⟨fun q => absurd q (by decide), fun _ => h0 (nxt_n hr.symm)⟩
  | succ k =>
    rw [xm_succ]
    refine ⟨fun q => absurd q (nn0 (by omega)), fun _ => ?_⟩
    rw [iplus, tn k (by omega), tn (k + 1) (by omega), show (351 + 2 : Nat) = 353 from rfl, ho.2 k (by omega), ho.2 (k + 1) (by omega)]
    have b1 := bd k (by omega)
    have b2 := bd (k + 1) (by omega)
    rw [riL_s] at hr
    refine ⟨vin (by omega), vin (by omega), fun q => ?_, fun q => ?_⟩
    · have q := (lei (by omega) (by omega)).mp q
      rw [if_neg (by omega)] at hr
      unfold m_2_stepOrder_34
      refine ⟨fun _ x2 ex2 => ?_, fun q => absurd ((lei (a := 0) (by omega) (by omega)).mpr (Nat.zero_le k)) q⟩
      rw [h3, show (1 : Int32) = nI 1 from rfl, pk_sub (by omega)] at ex2
      rw [ex2]
      refine it_lt (fun (j : Nat) (A : Int32 → St → Prop) => j ≤ l - 1 → k < j → grL o k j = grL o k (l - 1) → A (nI j) σ) ?_ (l - 1) (by omega) (Nat.le_refl _) (by omega) rfl
      intro j A hA hj hkj hg
      obtain ⟨j, rfl⟩ : ∃ j', j = j' + 1 := ⟨j - 1, by omega⟩
      unfold m_2_stepOrder_47
      rw [tn k (by omega), tn (j + 1) (by omega), show (351 + 2 : Nat) = 353 from rfl, ho.2 k (by omega), ho.2 (j + 1) (by omega)]
      have b3 := bd (j + 1) (by omega)
      rw [grL_s] at hg
      refine ⟨fun q2 => absurd ((lei (by omega) (by omega)).mp q2) (by omega), fun _ => ⟨vin (by omega), vin (by omega), fun q2 => ?_, fun q2 => ?_⟩⟩
      · have q2 := (lei (by omega) (by omega)).mp q2
        rw [if_neg (by omega)] at hg
        exact fin k (j + 1) (by omega) hkj (by omega) hr.symm hg.symm
      · have q2 := mt (lei (a := gO o k) (b := gO o (j + 1)) (by omega) (by omega)).mpr q2
        rw [if_pos (by omega)] at hg
        intro x3 ex3
        rw [ex3, i_m1]
        refine hA j (by omega) (by omega) ?_ hg
        -- at the step behind the rise the order isn't smaller
        rcases Nat.lt_or_ge k j with z | z
        · exact z
        · exfalso
          have : j = k := by omega
          subst this
          omega
    · have q := mt (lei (a := gO o k) (b := gO o (k + 1)) (by omega) (by omega)).mpr q
      rw [if_pos (by omega)] at hr
      intro x2 ex2
      rw [ex2]
      exact hA k (by omega) (by omega) hr
theorem s_10_ordersNext {σ : St} {l : Nat} {o : List Nat} {Q : Int32 → St → Prop} (hl : 1 ≤ l) (h6 : l ≤ 6) (h3 : σ.1 355 507 = nI l) (ho : OR 358 l o σ) (h0 : nxt l o = none → Q 0 σ) (h1 : ∀ o' τ, nxt l o = some o' → OR 358 l o' τ → eC 358 σ τ → Q 1 τ) : m_10_ordersNext 354 Q σ := by
  have bd : ∀ k, k < l → gO o k < 6 := fun k hk => by have := ho.1.2.1 k hk; omega
  unfold m_10_ordersNext
  refine ⟨v507, fun n en x1 ex1 => ?_⟩
  rw [t507, show (354 + 1 : Nat) = 355 from rfl, h3] at en
  rw [en, lm2 l (by omega) hl] at ex1
  rw [ex1, en]
  refine it_lt (fun (k : Nat) (A : Int32 → St → Prop) => k ≤ l - 1 → riL o k = riL o (l - 1) → A (nI k + (-1)) σ) ?_ (l - 1) (by omega) (Nat.le_refl _) rfl
  intro k A hA hk hr
  unfold m_10_ordersNext_13
  cases k with
  | zero =>
    rw [xm_0]
    refine ⟨fun _ => ?_, fun q => absurd (by decide) q⟩
    unfold m_10_ordersNext_40
    exact ⟨fun q => absurd q (by decide), fun _ => h0 (nxt_n hr.symm)⟩
  | succ k =>
    rw [xm_succ]
    refine ⟨fun q => absurd q (nn0 (by omega)), fun _ => ?_⟩
    rw [iplus, tn k (by omega), tn (k + 1) (by omega), show (354 + 4 : Nat) = 358 from rfl, ho.2 k (by omega), ho.2 (k + 1) (by omega)]
    have b1 := bd k (by omega)
    have b2 := bd (k + 1) (by omega)
    rw [riL_s] at hr
    refine ⟨vin (by omega), vin (by omega), fun q => ?_, fun q => ?_⟩
    · have q := (lei (by omega) (by omega)).mp q
      rw [if_neg (by omega)] at hr
      unfold m_10_ordersNext_40
      refine ⟨fun _ x2 ex2 => ?_, fun q => absurd ((lei (a := 0) (by omega) (by omega)).mpr (Nat.zero_le k)) q⟩
      rw [show (1 : Int32) = nI 1 from rfl, pk_sub (by omega)] at ex2
      rw [ex2]
      refine it_lt (fun (j : Nat) (A : Int32 → St → Prop) => j ≤ l - 1 → k < j → grL o k j = grL o k (l - 1) → A (nI j) σ) ?_ (l - 1) (by omega) (Nat.le_refl _) (by omega) rfl
      intro j A hA hj hkj hg
      obtain ⟨j, rfl⟩ : ∃ j', j = j' + 1 := ⟨j - 1, by omega⟩
      unfold m_10_ordersNext_50
      rw [tn k (by omega), tn (j + 1) (by omega), show (354 + 4 : Nat) = 358 from rfl, ho.2 k (by omega), ho.2 (j + 1) (by omega)]
      have b3 := bd (j + 1) (by omega)
      rw [grL_s] at hg
      refine ⟨vin (by omega), vin (by omega), fun q2 => ?_, fun q2 => ?_⟩
      · have q2 := (lei (by omega) (by omega)).mp q2
        rw [if_neg (by omega)] at hg
        have en' := nxt_s hr.symm
        rw [← hg] at en'
        refine s_10_swaps ho h6 (by omega) (by omega) (fun τ g1 g2 x3 ex3 x4 ex4 => ?_)
        rw [show (1 : Int32) = nI 1 from rfl, pk_sub (by omega)] at ex3
        rw [ex3, ex4, iplus]
        refine it_lt (fun (m : Nat) (A : Int32 → Int32 → St → Prop) => ∀ τ' p a b f, m = b - a → b - a ≤ f → a ≤ l → b < l → OR 358 l p τ' → eC 358 σ τ' → rvL f p a b = rvL l (swL o k (j + 1)) (k + 1) (l - 1) → A (nI b) (nI a) τ') ?_ (l - 1 - (k + 1)) (by omega) τ (swL o k (j + 1)) (k + 1) (l - 1) l rfl (by omega) (by omega) (by omega) g1 g2 rfl
        intro m A hA τ' p a b f em hf ha hb hp he hv
        unfold m_10_ordersNext_87
        refine ⟨fun q => ?_, fun q => ?_⟩
        · have q := (lei (by omega) (by omega)).mp q
          have e : rvL f p a b = p := by
            cases f with
            | zero => rfl
            | succ f => rw [rvL_s, if_neg (by omega)]
          rw [e] at hv
          exact h1 _ τ' en' (by rw [← hv]; exact hp) he
        · have q : a < b := by
            have := mt (lei (a := b) (b := a) (by omega) (by omega)).mpr q
            omega
          obtain ⟨f', rfl⟩ : ∃ f', f = f' + 1 := ⟨f - 1, by omega⟩
          refine s_10_swaps hp h6 (by omega) hb (fun τ2 k1 k2 y3 ey3 y4 ey4 => ?_)
          obtain ⟨b', rfl⟩ : ∃ b', b = b' + 1 := ⟨b - 1, by omega⟩
          rw [ey3, ey4, iplus, i_m1]
          rw [rvL_s, if_pos q, Nat.add_sub_cancel] at hv
          exact hA (b' - (a + 1)) (by omega) τ2 _ (a + 1) b' f' rfl (by omega) (by omega) (by omega) k1 (he.tr k2) hv
      · have q2 := mt (lei (a := gO o k) (b := gO o (j + 1)) (by omega) (by omega)).mpr q2
        rw [if_pos (by omega)] at hg
        intro x3 ex3
        rw [ex3, i_m1]
        refine hA j (by omega) (by omega) ?_ hg
        rcases Nat.lt_or_ge k j with z | z
        · exact z
        · exfalso
          have : j = k := by omega
          subst this
          omega
    · have q := mt (lei (a := gO o k) (b := gO o (k + 1)) (by omega) (by omega)).mpr q
      rw [if_pos (by omega)] at hr
      intro x2 ex2
      rw [ex2]
      exact hA k (by omega) (by omega) hr
