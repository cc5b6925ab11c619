-- the calls, one by one: those that only tell
theorem p_cell {c : Nat} {σ : St} {x1 x2 x3 x4 : Int32} {H : Int32 → St → Prop} {K : Int32 → Int32 → St → Prop} (I : Inv c σ) (hH : ∀ v σ1, m_10_cell 354 x1 x2 x3 x4 (K v) σ1 → H v σ1) (h : ∀ v τ, Inv (c + 1) τ → K v v τ) : m_9_cell 0 x1 x2 x3 x4 H σ := by
  obtain ⟨n, l, ok, e, -⟩ := id I.1
  refine s_9_cell (r0 := 0) ok (hH _ _ (s_10_cell (r0 := 354) (ok.tr e) ?_))
  show K (vCell (pgW σ 7) x1 x2 x3 x4) (vCell (σ.1 355) x1 x2 x3 x4) σ
  rw [← vCell_eq ok e]
  exact h _ _ (I.mono (by omega))
theorem p_street {c : Nat} {σ : St} {x1 x2 : Int32} {H : Int32 → St → Prop} {K : Int32 → Int32 → St → Prop} (I : Inv c σ) (hH : ∀ v σ1, m_10_street 354 x1 x2 (K v) σ1 → H v σ1) (h : ∀ v τ, Inv (c + 1) τ → K v v τ) : m_9_street 0 x1 x2 H σ := by
  obtain ⟨n, l, ok, e, -⟩ := id I.1
  refine s_9_street (r0 := 0) ok (hH _ _ (s_10_street (r0 := 354) (ok.tr e) ?_))
  show K (vStreet (pgW σ 7) x1 x2) (vStreet (σ.1 355) x1 x2) σ
  rw [← vStreet_eq ok e]
  exact h _ _ (I.mono (by omega))
theorem p_leg {c : Nat} {σ : St} {x1 x2 : Int32} {H : Int32 → St → Prop} {K : Int32 → Int32 → St → Prop} (I : Inv c σ) (hH : ∀ v σ1, m_10_leg 354 x1 x2 (K v) σ1 → H v σ1) (h : ∀ v τ, Inv (c + 1) τ → K v v τ) : m_9_leg 0 x1 x2 H σ := by
  obtain ⟨n, l, ok, e, -⟩ := id I.1
  refine s_9_leg (r0 := 0) ok (hH _ _ (s_10_leg (r0 := 354) (ok.tr e) ?_))
  show K (vLeg (pgW σ 7) x1 x2) (vLeg (σ.1 355) x1 x2) σ
  rw [← vLeg_eq ok e]
  exact h _ _ (I.mono (by omega))
theorem p_latest {c : Nat} {σ : St} {x1 : Int32} {H : Int32 → St → Prop} {K : Int32 → Int32 → St → Prop} (I : Inv c σ) (hH : ∀ v σ1, m_10_latest 354 x1 (K v) σ1 → H v σ1) (h : ∀ v τ, Inv (c + 1) τ → K v v τ) : m_9_latest 0 x1 H σ := by
  obtain ⟨n, l, ok, e, e5⟩ := id I.1
  refine s_9_latest (r0 := 0) (hH _ _ (s_10_latest (r0 := 354) ?_))
  show K (vLat (pgW σ 7) (pgW σ 7 562 = 0) x1) (vLat (σ.1 355) (σ.1 355 555 = 0) x1) σ
  rw [← vLat_eq e e5]
  exact h _ _ (I.mono (by omega))
theorem p_account {c : Nat} {σ : St} {x1 : Int32} {H : Int32 → St → Prop} {K : Int32 → Int32 → St → Prop} (I : Inv c σ) (hH : ∀ v σ1, m_10_account 354 x1 (K v) σ1 → H v σ1) (h : ∀ v τ, Inv (c + 1) τ → K v v τ) : m_9_account 0 x1 H σ := by
  obtain ⟨n, l, ok, e, -⟩ := id I.1
  refine s_9_account (r0 := 0) ok (hH _ _ (s_10_account (r0 := 354) (ok.tr e) ?_))
  show K (vAcc (pgW σ 7) x1) (vAcc (σ.1 355) x1) σ
  rw [← vAcc_eq ok e]
  exact h _ _ (I.mono (by omega))
theorem p_nightsTo {c : Nat} {σ : St} {x1 : Int32} {H : Int32 → St → Prop} {K : Int32 → Int32 → St → Prop} (I : Inv c σ) (hH : ∀ v σ1, m_10_nightsTo 354 x1 (K v) σ1 → H v σ1) (h : ∀ v τ, Inv (c + 1) τ → K v v τ) : m_9_nightsTo 0 x1 H σ := by
  obtain ⟨n, l, ok, e, -⟩ := id I.1
  refine s_9_nightsTo (r0 := 0) ok (hH _ _ (s_10_nightsTo (r0 := 354) (ok.tr e) ?_))
  show K (vNT (pgW σ 7) x1) (vNT (σ.1 355) x1) σ
  rw [← vNT_eq ok e]
  exact h _ _ (I.mono (by omega))
theorem p_count {c : Nat} {σ : St} {x1 : Int32} {H : Int32 → St → Prop} {K : Int32 → Int32 → St → Prop} (I : Inv c σ) (hH : ∀ v σ1, m_10_count 354 x1 (K v) σ1 → H v σ1) (h : ∀ v τ, Inv (c + 1) τ → K v v τ) : m_9_count 0 x1 H σ := by
  obtain ⟨n, l, ok, e, -⟩ := id I.1
  refine s_9_count (r0 := 0) (hH _ _ (s_10_count (r0 := 354) ?_))
  show K (vCnt (pgW σ 7) (σ.1 1 1) (σ.1 42 2) x1) (vCnt (σ.1 355) (σ.1 354 3) (σ.1 354 1) x1) σ
  obtain ⟨k, x, -, -, -, k2, k3, -⟩ := I.2.1
  obtain ⟨m, -, t2, t3, -⟩ := I.2.2.1
  rw [← vCnt_eq e, k2, k3, t2, t3]
  exact h _ _ (I.mono (by omega))
theorem p_faultKind {c : Nat} {σ : St} {H : Int32 → St → Prop} {K : Int32 → Int32 → St → Prop} (I : Inv c σ) (hH : ∀ v σ1, m_10_faultKind 354 (K v) σ1 → H v σ1) (h : ∀ v τ, Inv (c + 1) τ → K v v τ) : m_9_faultKind 0 H σ := by
  unfold m_9_faultKind
  refine hH _ _ ?_
  unfold m_10_faultKind
  rw [I.2.2.2]
  exact h _ _ (I.mono (by omega))
-- the text
theorem Inv.txt {c : Nat} {σ τ : St} (I : Inv c σ) (hf : ∀ a, 2 < a → a ≠ 354 → a ≠ 356 → τ.1 a = σ.1 a) (h1 : τ.1 354 1 = σ.1 354 1) (h4 : τ.1 0 8 = τ.1 354 4) (hT : TXT τ) : Inv c τ := by
  obtain ⟨hR, ⟨k, x, q1, q2, q3, q4, q5, q6⟩, -, -⟩ := I
  refine ⟨?_, ⟨k, x, q1, q2, ?_, ?_, ?_, fun j hj => ?_⟩, hT, h4⟩
  · rw [pgW_cg (σ := σ) (fun a h1 h2 => hf a (by omega) (by omega) (by omega)), hf 355 (by omega) (by omega) (by omega)]
    exact hR
  · rw [hf 42 (by omega) (by omega) (by omega)]; exact q3
  · rw [hf 42 (by omega) (by omega) (by omega)]; exact q4
  · rw [h1]; exact q5
  · rw [pgW_cg (σ := σ) (fun a h1 h2 => hf a (by omega) (by omega) (by omega)), hf 355 (by omega) (by omega) (by omega)]
    exact q6 j hj
theorem u16 : ∀ j, j < 127 → ((nI j).toUInt32 % 65536).toInt32 = nI j ∧ vp_nar .char (nI j) = nI j := by decide +kernel
theorem p_type {c : Nat} {σ : St} {x1 : Int32} {H : Int32 → St → Prop} {K : Int32 → Int32 → St → Prop} (I : Inv c σ) (hH : ∀ v σ1, m_10_type 354 x1 (K v) σ1 → H v σ1) (h : ∀ v τ, Inv (c + 1) τ → K v v τ) : m_9_type 0 x1 H σ := by
  obtain ⟨m, hm, t2, t3, t4⟩ := id I.2.2.1
  have no : (∀ j, 32 ≤ j → j ≤ 126 → x1 ≠ nI j) → H (-1) σ := fun hn => by
    refine hH _ _ ?_
    unfold m_10_type
    refine s_10_inN (a := 32) (b := 126) (by omega) (by omega) (fun j h1 h2 e => absurd e (hn j h1 h2)) (fun _ => ⟨fun q => absurd rfl q, fun _ => h _ _ (I.mono (by omega))⟩)
  unfold m_9_type
  rcases ix x1 127 with g | ⟨j, rfl, hj, hj2⟩ | ⟨j, rfl, hj⟩
  · exact ⟨fun _ => no (fun j h1 h2 => neg_ne g (by omega)), fun q => absurd (Int32.lt_trans g (by decide)) q⟩
  · exact ⟨fun q => absurd ((ltI (b := 32) (by omega) (by omega)).mp q) (by omega), fun _ => ⟨fun q => absurd ((leI (b := 126) (by omega) (by omega)).mp q) (by omega), fun _ => no (fun k h1 h2 e => by rw [eqI (by omega) (by omega)] at e; omega)⟩⟩
  · refine ⟨fun q => no (fun k h1 h2 e => by have q := (ltI (b := 32) (by omega) (by omega)).mp q; rw [eqI (by omega) (by omega)] at e; omega), fun q => ⟨fun _ => ?_, fun q => absurd ((leI (b := 126) (by omega) (by omega)).mpr (by omega)) q⟩⟩
    have hj32 : 32 ≤ j := by
      have := mt (ltI (a := j) (b := 32) (by omega) (by omega)).mpr q
      omega
    have inn : ∀ {Q : Int32 → St → Prop} {σ' : St}, Q 1 σ' → m_10_in (nI j) 32 126 Q σ' := fun hq => s_10_inN (a := 32) (b := 126) (by omega) (by omega) (fun _ _ _ _ => hq) (fun q => absurd rfl (q j hj32 (by omega)))
    rw [t2]
    refine ⟨fun q => ?_, fun q => ?_⟩
    · have hm80 : m < 80 := (ltI (b := 80) (by omega) (by omega)).mp q
      unfold m_7_append
      rw [t2, (u16 j hj).1, (u16 j hj).2, tn m (by omega)]
      refine ⟨fun q => absurd ((leI (a := 80) (by omega) (by omega)).mp q) (by omega), fun _ => ⟨vin hm80, fun σ1 e1 σ2 e2 => ?_⟩⟩
      have e11 : σ1.1 (0 + 1) 1 = nI m := by rw [e1, wr_cell (by omega)]; exact t2
      rw [e11, li 1, nI_add] at e2
      have e21 : σ2.1 (0 + 1) 1 = nI (m + 1) := by rw [e2, wr_same]
      show H (σ2.1 (0 + 1) 1) σ2
      rw [e21]
      refine hH _ _ ?_
      unfold m_10_type
      refine inn ⟨fun _ => ?_, fun q => absurd q (by decide)⟩
      have f2 : ∀ a, 2 < a → σ2.1 a = σ.1 a := fun a ha => by rw [e2, wr_cell (by omega), e1, wr_cell (by omega)]
      rw [f2 354 (by omega), t3, tn m (by omega)]
      refine ⟨fun _ => ⟨vin hm80, fun σ3 e3 σ4 e4 => ?_⟩, fun q => absurd ((eqi (b := 80) (by omega) (by omega)).mp q) (by omega)⟩
      have e33 : σ3.1 354 3 = nI m := by rw [e3, wr_cell (by omega), f2 354 (by omega)]; exact t3
      rw [e33, li 1, nI_add] at e4
      have e43 : σ4.1 354 3 = nI (m + 1) := by rw [e4, wr_same]
      rw [e43]
      have f4 : ∀ a, a ≠ 354 → a ≠ 356 → σ4.1 a = σ2.1 a := fun a h1 h2 => by rw [e4, wr_cell h1, e3, wr_cell h2]
      have f5 : ∀ j, j ≠ 3 → σ4.1 354 j = σ.1 354 j := fun j hj => by rw [e4, wr_else (Or.inr hj), e3, wr_cell (by omega), f2 354 (by omega)]
      refine h _ _ (Inv.mono (c := c) (Inv.txt I (fun a h1 h2 h3 => by rw [f4 a h2 h3, f2 a h1]) (f5 1 (by omega)) ?_ ⟨m + 1, by omega, ?_, e43, fun k hk => ?_⟩) (by omega))
      · rw [f4 0 (by omega) (by omega), f5 4 (by omega), e2, wr_cell (by omega), e1, wr_cell (by omega)]
        exact I.2.2.2
      · rw [f4 1 (by omega) (by omega)]
        exact e21
      · rw [f4 2 (by omega) (by omega), e2, wr_cell (by omega), e1]
        have g356 : σ4.1 356 k = if k = m then nI j else σ.1 356 k := by
          rw [e4, wr_cell (by omega), e3, rd_wr, if_pos rfl, f2 356 (by omega)]
        rw [g356, rd_wr, if_pos rfl]
        by_cases qk : k = m
        · rw [if_pos qk, if_pos qk]
          exact ⟨j, hj32, by omega, rfl, rfl⟩
        · rw [if_neg qk, if_neg qk]
          exact t4 k (by omega)
    · have hm80 : m = 80 := by
        have := mt (ltI (a := m) (b := 80) (by omega) (by omega)).mpr q
        omega
      subst hm80
      refine hH _ _ ?_
      unfold m_10_type
      refine inn ⟨fun _ => ?_, fun q => absurd q (by decide)⟩
      rw [t3]
      exact ⟨fun q => absurd rfl q, fun _ => h _ _ (I.mono (by omega))⟩
theorem p_clearText {c : Nat} {σ : St} {H : Int32 → St → Prop} {K : Int32 → Int32 → St → Prop} (I : Inv c σ) (hH : ∀ v σ1, m_10_clearText 354 (K v) σ1 → H v σ1) (h : ∀ v τ, Inv (c + 1) τ → K v v τ) : m_9_clearText 0 H σ := by
  obtain ⟨m, hm, t2, t3, t4⟩ := id I.2.2.1
  unfold m_9_clearText
  intro x e1 σ2 e2
  refine hH _ _ ?_
  unfold m_10_clearText
  intro x' e1' σ3 e3
  have f2 : ∀ a, a ≠ 1 → σ2.1 a = σ.1 a := fun a ha => by rw [e2, wr_cell (by omega)]
  rw [f2 354 (by omega), t3] at e1'
  rw [show (0 + 1 : Nat) = 1 from rfl, t2] at e1
  rw [e1, e1']
  have f3 : ∀ a, a ≠ 354 → σ3.1 a = σ2.1 a := fun a ha => by rw [e3, wr_cell ha]
  have f5 : ∀ j, j ≠ 3 → σ3.1 354 j = σ.1 354 j := fun j hj => by rw [e3, wr_else (Or.inr hj), f2 354 (by omega)]
  refine h _ _ (Inv.mono (c := c) (Inv.txt I (fun a h1 h2 h3 => by rw [f3 a h2, f2 a (by omega)]) (f5 1 (by omega)) ?_ ⟨0, by omega, ?_, ?_, fun k hk => by omega⟩) (by omega))
  · rw [f3 0 (by omega), f2 0 (by omega), f5 4 (by omega)]
    exact I.2.2.2
  · rw [f3 1 (by omega), e2]
    exact wr_same
  · rw [e3]
    exact wr_same
-- undo
theorem p_undo {c : Nat} {σ : St} {H : Int32 → St → Prop} {K : Int32 → Int32 → St → Prop} (I : Inv c σ) (hH : ∀ v σ1, m_10_undo 354 (K v) σ1 → H v σ1) (h : ∀ v τ, Inv (c + 1) τ → K v v τ) : m_9_undo 0 H σ := by
  obtain ⟨hR, ⟨k, x, q1, q2, q3, q4, q5, q6⟩, ⟨m, hm, t2, t3, t4⟩, hF⟩ := id I
  unfold m_9_undo
  rw [show (0 + 42 : Nat) = 42 from rfl, show (0 + 7 : Nat) = 7 from rfl, q4]
  refine ⟨fun q => ?_, fun q => ?_⟩
  · have hk : k ≠ 0 := fun e => q (by rw [e]; rfl)
    unfold m_0_restore
    intro σ1 e1
    have ex : (nI x + 8 - 1) - (nI x + 8 - 1) / 8 * 8 = nI ((x + 7) % 8) := by
      rw [show (8 : Int32) = nI 8 from rfl, nI_add, show (1 : Int32) = nI 1 from rfl, pk_sub (by omega), show x + 8 - 1 = x + 7 by omega]
      exact mod8 (by omega)
    rw [q3, ex] at e1
    have e11 : σ1.1 42 1 = nI ((x + 7) % 8) := by rw [e1, wr_same]
    have f1 : ∀ a, a ≠ 42 → σ1.1 a = σ.1 a := fun a ha => by rw [e1, wr_cell ha]
    rw [e11]
    refine ⟨vin (by omega), ?_⟩
    rw [tn _ (by omega)]
    have e0 : pgW σ1 (42 + 1 + 1 + 34 * ((x + 7) % 8)) = pgW σ (44 + 34 * ((x + 7) % 8)) := by
      rw [show 42 + 1 + 1 + 34 * ((x + 7) % 8) = 44 + 34 * ((x + 7) % 8) by omega]
      exact pgW_cg (fun a h1 h2 => f1 a (by omega))
    have r0 := q6 0 (by omega)
    rw [show (x + 7 - 0) % 8 = (x + 7) % 8 by omega, ← e0] at r0
    obtain ⟨n, l, ok, er, e5⟩ := id r0
    refine s_8_copyFrom ok (by omega) (fun τ P hτ hP σ5 e5 => ?_)
    have f5 : ∀ a, a ≠ 42 → ¬ (7 ≤ a ∧ a < 41) → σ5.1 a = σ.1 a := fun a h1 h2 => by rw [e5, wr_cell h1, hτ.2.1 a (by omega), f1 a h1]
    have t42 : τ.1 42 = σ1.1 42 := hτ.2.1 42 (by omega)
    have e52 : σ5.1 42 2 = nI (k - 1) := by
      rw [e5, wr_same, t42, e1, wr_else (by omega), q4, show (1 : Int32) = nI 1 from rfl, pk_sub (by omega)]
    have e51 : σ5.1 42 1 = nI ((x + 7) % 8) := by rw [e5, wr_else (by omega), t42, e11]
    show H (σ5.1 42 2) σ5
    rw [e52]
    refine hH _ _ ?_
    unfold m_10_undo
    rw [f5 354 (by omega) (by omega), q5]
    refine ⟨fun _ => ?_, fun q2 => absurd q2 q⟩
    refine s_10_copies (b := 0) (by omega) (by omega) (by omega) (fun σ7 e7 => ?_)
    rw [f5 355 (by omega) (by omega)] at e7
    rw [wrA_ne (by omega), f5 354 (by omega) (by omega), q5, show (1 : Int32) = nI 1 from rfl, pk_sub (by omega)] at e7
    have e71 : σ7.1 354 1 = nI (k - 1) := by rw [e7, wr_same]
    rw [e71]
    have f7 : ∀ a, a ≠ 354 → a ≠ 355 → σ7.1 a = σ5.1 a := fun a h1 h2 => by rw [e7, wr_cell h1, wrA_ne h2]
    have g7 : ∀ j, j ≠ 1 → σ7.1 354 j = σ.1 354 j := fun j hj => by rw [e7, wr_else (Or.inr hj), wrA_ne (by omega), f5 354 (by omega) (by omega)]
    have p7 : ∀ y, σ7.1 355 y = cpg k 0 (σ.1 355) y := fun y => by rw [e7, wr_cell (by omega), wrA_at]
    refine h _ _ (Inv.mono (c := c) ⟨?_, ⟨k - 1, (x + 7) % 8, by omega, by omega, ?_, ?_, e71, fun j hj => ?_⟩, ⟨m, hm, ?_, ?_, fun j hj => ?_⟩, ?_⟩ (by omega))
    · have e7w : pgW σ7 7 = P := by
        rw [← hτ.1]
        exact pgW_cg (fun a h1 h2 => by rw [f7 a (by omega) (by omega), e5, wr_cell (by omega)])
      rw [e7w]
      refine (r0.cgl (fun n' l' o1 y hy => ?_)).cg (fun i hi => ?_)
      · have en := o1.inj ok.1.1 (by have := ok.1.2.1; omega)
        have el := o1.injl ok.1.2.2.1 (by have := ok.1.2.2.2; omega)
        subst en el
        exact hP y hy
      · rw [p7]
        unfold cpg
        rw [if_pos (by omega), show 564 * k + (i - 564 * 0) = 564 * (k - 0) + i by omega]
    · rw [f7 42 (by omega) (by omega)]; exact e51
    · rw [f7 42 (by omega) (by omega)]; exact e52
    · have ej := q6 (j + 1) (by omega)
      rw [show (x + 7 - (j + 1)) % 8 = ((x + 7) % 8 + 7 - j) % 8 by omega] at ej
      rw [pgW_cg (σ := σ) (fun a h1 h2 => by rw [f7 a (by omega) (by omega), f5 a (by omega) (by omega)])]
      refine ej.cg (fun i hi => ?_)
      show σ7.1 355 (564 * (k - 1 - j) + i) = σ.1 355 (564 * (k - (j + 1)) + i)
      rw [p7]
      unfold cpg
      rw [if_neg (by omega), show k - 1 - j = k - (j + 1) by omega]
    · rw [f7 1 (by omega) (by omega), f5 1 (by omega) (by omega)]; exact t2
    · rw [g7 3 (by omega)]; exact t3
    · rw [f7 2 (by omega) (by omega), f5 2 (by omega) (by omega), f7 356 (by omega) (by omega), f5 356 (by omega) (by omega)]
      exact t4 j hj
    · rw [f7 0 (by omega) (by omega), f5 0 (by omega) (by omega), g7 4 (by omega)]
      exact hF
  · refine hH _ _ ?_
    unfold m_10_undo
    rw [q5]
    exact ⟨fun q2 => absurd q q2, fun _ => h _ _ (I.mono (by omega))⟩
