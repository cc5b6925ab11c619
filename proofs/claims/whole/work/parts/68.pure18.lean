-- a street goes
def kpt (f : Nat → Int32) (x : Int32) : Nat → Nat
  | 0 => 0
  | j + 1 => kpt f x j + (if f j = x then 0 else 1)
theorem kpt_le (f : Nat → Int32) (x : Int32) : ∀ k, kpt f x k ≤ k := by
  intro k
  induction k with
  | zero => exact Nat.le_refl 0
  | succ k ih => unfold kpt; split <;> omega
theorem kpt_ex (f : Nat → Int32) (x : Int32) : ∀ k m, m < kpt f x k → ∃ j, j < k ∧ f j ≠ x ∧ kpt f x j = m := by
  intro k
  induction k with
  | zero => intro m h; exact absurd h (Nat.not_lt_zero m)
  | succ k ih =>
    intro m h
    unfold kpt at h
    by_cases q : f k = x
    · rw [if_pos q] at h
      obtain ⟨j, h1, h2⟩ := ih m (by omega)
      exact ⟨j, by omega, h2⟩
    · rw [if_neg q] at h
      by_cases q2 : m < kpt f x k
      · obtain ⟨j, h1, h2⟩ := ih m q2
        exact ⟨j, by omega, h2⟩
      · exact ⟨k, by omega, q, by omega⟩
theorem kpt_eq {f g : Nat → Int32} {x : Int32} : ∀ k, (∀ j, j < k → f j = g j) → kpt f x k = kpt g x k := by
  intro k
  induction k with
  | zero => intro _; rfl
  | succ k ih =>
    intro h
    unfold kpt
    rw [ih (fun j hj => h j (by omega)), h k (by omega)]
def adjL (x v : Int32) : Int32 := if v ≤ x then v else v - 1
/-- what the page P' of k streets fewer shows, next to P -/
def drS (n l k : Nat) (P P' : Nat → Int32) : Prop :=
  P' 0 = nI (n - 1) ∧ P' 548 = 0 ∧ P' 507 = nI (kpt (fun j => P (508 + 4 * j)) (nI k) l) ∧ P' 558 = P 558 + (sD P (4 + 83 * k) (cellsN P k) + sD P (24 + 83 * k) (cellsN P k)) ∧
  (∀ j, j < l → P (508 + 4 * j) ≠ nI k → P' (508 + 4 * kpt (fun j => P (508 + 4 * j)) (nI k) j) = adjL (nI k) (P (508 + 4 * j)) ∧ P' (509 + 4 * kpt (fun j => P (508 + 4 * j)) (nI k) j) = P (509 + 4 * j)) ∧
  (∀ y, 1 ≤ y → y < 1 + 83 * k → P' y = P y) ∧ (∀ y, 1 + 83 * k ≤ y → y < 1 + 83 * (n - 1) → P' y = P (y + 83)) ∧
  (∀ y, 499 ≤ y → y < 507 → P' y = P y) ∧ (∀ y, 549 ≤ y → y ≠ 558 → P' y = P y)
theorem RN.dropStreet {c n l k : Nat} {P p P' p' : Nat → Int32} (h : RN c n l P p) (hk : k < n) (a : drS n l k P P') (b : drS n l k p p') : RN c (n - 1) (kpt (fun j => P (508 + 4 * j)) (nI k) l) P' p' := by
  obtain ⟨ok, e, e5⟩ := h
  obtain ⟨⟨h1, h2, h3, h4⟩, h5, h6, h7, s7, h9, h10⟩ := id ok
  obtain ⟨a1, a2, a3, a4, a5, a6, a7, a8, a9⟩ := a
  obtain ⟨b1, b2, b3, b4, b5, b6, b7, b8, b9⟩ := b
  have kle := kpt_le (fun j => P (508 + 4 * j)) (nI k) l
  have ke : ∀ m, m ≤ l → kpt (fun j => P (508 + 4 * j)) (nI k) m = kpt (fun j => p (508 + 4 * j)) (nI k) m := fun m hm => kpt_eq m (fun j hj => e.le (f := 0) (by omega) h4 (by omega))
  refine ⟨⟨⟨a1, by omega, a3, by omega⟩, fun i hi => ?_, fun i j hi hj => ?_, fun m hm => ?_, ?_, ?_, ?_⟩, fun y hy hq => ?_, ?_⟩
  · by_cases q : i < k
    · rw [a6 _ (by omega) (by omega), a6 _ (by omega) (by omega), a6 _ (by omega) (by omega)]
      exact h5 i (by omega)
    · rw [a7 _ (by omega) (by omega), a7 _ (by omega) (by omega), a7 _ (by omega) (by omega), show 1 + 83 * i + 83 = 1 + 83 * (i + 1) by omega, show 2 + 83 * i + 83 = 2 + 83 * (i + 1) by omega, show 3 + 83 * i + 83 = 3 + 83 * (i + 1) by omega]
      exact h5 (i + 1) (by omega)
  · by_cases q : i < k
    · rw [a6 _ (by omega) (by omega), a6 _ (by omega) (by omega)]
      exact h6 i j (by omega) hj
    · rw [a7 _ (by omega) (by omega), a7 _ (by omega) (by omega), show 4 + 83 * i + j + 83 = 4 + 83 * (i + 1) + j by omega, show 44 + 83 * i + j + 83 = 44 + 83 * (i + 1) + j by omega]
      exact h6 (i + 1) j (by omega) hj
  · obtain ⟨j, j1, j2, j3⟩ := kpt_ex _ _ l m hm
    subst j3
    obtain ⟨c1, c2⟩ := a5 j j1 j2
    obtain ⟨⟨v, v1, v2⟩, w⟩ := h7 j j1
    rw [c1, c2, v1]
    refine ⟨?_, w⟩
    have j2 : ¬ P (508 + 4 * j) = nI k := j2
    rw [v1, eqi (by omega) (by omega)] at j2
    unfold adjL
    by_cases q : v ≤ k
    · rw [if_pos ((lei (by omega) (by omega)).mpr q)]
      exact ⟨v, rfl, by omega⟩
    · rw [if_neg (fun q2 => q ((lei (by omega) (by omega)).mp q2)), show (1 : Int32) = nI 1 from rfl, pk_sub (by omega)]
      exact ⟨v - 1, rfl, by omega⟩
  · rw [a8 499 (by omega) (by omega), a8 500 (by omega) (by omega), a8 501 (by omega) (by omega), a8 502 (by omega) (by omega), a8 503 (by omega) (by omega), a8 504 (by omega) (by omega), a8 505 (by omega) (by omega), a8 506 (by omega) (by omega)]
    exact s7
  · rw [a2]; exact isB0
  · rw [a9 562 (by omega) (by omega)]; exact h10
  · have nl : ¬ leg23 y := fun q => hq q a2
    have y3 := hy.2.2.1
    have y4 := hy.2.2.2
    have y1 := hy.1
    have y2 := hy.2.1
    rcases (by omega : y = 0 ∨ (1 ≤ y ∧ y < 1 + 83 * k) ∨ (1 + 83 * k ≤ y ∧ y < 499) ∨ (499 ≤ y ∧ y < 507) ∨ y = 507 ∨ (508 ≤ y ∧ y < 548) ∨ y = 548 ∨ y = 558 ∨ (549 ≤ y ∧ y ≠ 558)) with q | q | q | q | q | q | q | q | q
    · subst q; rw [a1, b1]
    · rw [a6 y q.1 q.2, b6 y q.1 q.2]
      exact e.nv ⟨y1, y2, fun g1 g2 => by omega, fun g1 g2 => by omega⟩ nl
    · have := y3 (by omega) q.2
      rw [a7 y q.1 this, b7 y q.1 this]
      exact e.lo ⟨by omega, by omega, fun g1 g2 => by omega, fun g1 g2 => by omega⟩ (by omega)
    · rw [a8 y q.1 q.2, b8 y q.1 q.2]
      exact e.set q.1 (by omega)
    · subst q; rw [a3, b3, ke l (Nat.le_refl l)]
    · have y5 := y4 q.1 q.2
      obtain ⟨j, j1, j2, j3⟩ := kpt_ex (fun j => P (508 + 4 * j)) (nI k) l ((y - 508) / 4) (by omega)
      obtain ⟨c1, c2⟩ := a5 j j1 j2
      have ej := e.le (f := 0) j1 h4 (by omega)
      have ej1 := e.le (f := 1) j1 h4 (by omega)
      rw [show 508 + 4 * j + 0 = 508 + 4 * j from rfl] at ej
      rw [show 508 + 4 * j + 1 = 509 + 4 * j by omega] at ej1
      obtain ⟨d1, d2⟩ := b5 j j1 (by rw [← ej]; exact j2)
      rw [← ke j (by omega), ← ej] at d1
      rw [← ke j (by omega), ← ej1] at d2
      rw [j3] at c1 c2 d1 d2
      unfold leg23 at nl
      rcases (by omega : y = 508 + 4 * ((y - 508) / 4) ∨ y = 509 + 4 * ((y - 508) / 4)) with q2 | q2
      · rw [q2, show (508 + 4 * ((y - 508) / 4) - 508) / 4 = (y - 508) / 4 by omega] at *
        rw [c1, d1]
      · rw [← q2] at c2 d2
        rw [c2, d2]
    · subst q; rw [a2, b2]
    · subst q
      obtain ⟨hv, hv1, hv2⟩ := ok.cells hk
      have d0 := e.sd (i := k) hk h2 (s := 0) (by omega) hv2
      have d1 := e.sd (i := k) hk h2 (s := 1) (by omega) hv2
      rw [show 4 + 83 * k + 20 * 0 = 4 + 83 * k by omega] at d0
      rw [show 4 + 83 * k + 20 * 1 = 24 + 83 * k by omega] at d1
      rw [a4, b4, ← cellsN_eq e hk h2, d0, d1, e.hi (x := 558) (by omega) (by omega) (by omega)]
    · rw [a9 y q.1 q.2, b9 y q.1 q.2]
      exact e.hi (by omega) y1 y2
  · rw [b9 555 (by omega) (by omega), a9 562 (by omega) (by omega)]; exact e5
theorem wr_id {σ : St} {a j : Nat} {v : Int32} (h : σ.1 a j = v) : wr σ a j v = σ := by
  refine st_ext (fun b i => ?_) rfl
  rw [rd_wr]
  split
  · split
    · rename_i q1 q2; rw [q1, q2]; exact h.symm
    · rfl
  · rfl
theorem s_1_any {σ τ : St} {B a b : Nat} {P : Nat → Int32} {Q : St → Prop} (h : toW σ τ B P) (ha : a < 10) (hb : b < 10) (hQ : ∀ τ' P', toW σ τ' B P' → (∀ f, f < 4 → P' (508 + 4 * a + f) = P (508 + 4 * b + f)) → (∀ y, (y < 508 + 4 * a ∨ 512 + 4 * a ≤ y) → P' y = P y) → Q τ') : m_1_copyFrom (B + 2 + 22 + a) (B + 2 + 22 + b) Q τ := by
  by_cases q : b = a
  · subst q
    unfold m_1_copyFrom
    intro σ1 e1 σ2 e2 σ3 e3 σ4 e4
    rw [wr_id rfl] at e1
    subst e1
    rw [wr_id rfl] at e2
    subst e2
    rw [wr_id rfl] at e3
    subst e3
    rw [wr_id rfl] at e4
    subst e4
    exact hQ _ P h (fun _ _ => rfl) (fun _ _ => rfl)
  · refine s_1_cp h ha (by omega) (fun τ' h' => hQ τ' _ h' (fun f hf => ?_) (fun y hy => ?_))
    · have gl : ∀ f, f < 4 → τ.1 (B + 2 + 22 + b) f = P (508 + 4 * b + f) := fun f hf => by rw [gle τ B hb hf, h.g]
      rw [gl 0 (by omega), gl 1 (by omega), gl 2 (by omega), gl 3 (by omega)]
      simp only [rd_upd]
      rcases (by omega : f = 0 ∨ f = 1 ∨ f = 2 ∨ f = 3) with rfl | rfl | rfl | rfl
      · rw [if_neg (by omega), if_neg (by omega), if_neg (by omega), if_pos rfl]
      · rw [if_neg (by omega), if_neg (by omega), if_pos rfl]
      · rw [if_neg (by omega), if_pos rfl]
      · rw [if_pos rfl]
    · iterate 4 rw [upd_n (by omega)]
theorem s_8_removeLegsIn {σ0 σ : St} {B l k : Nat} {P : Nat → Int32} {Q : St → Prop} (h : toW σ0 σ B P) (hl : P 507 = nI l) (h10 : l ≤ 10) (hQ : ∀ τ P', toW σ0 τ B P' → (∀ j, j < l → P (508 + 4 * j) ≠ nI k → P' (508 + 4 * kpt (fun j => P (508 + 4 * j)) (nI k) j) = adjL (nI k) (P (508 + 4 * j)) ∧ P' (509 + 4 * kpt (fun j => P (508 + 4 * j)) (nI k) j) = P (509 + 4 * j)) → P' 507 = nI (kpt (fun j => P (508 + 4 * j)) (nI k) l) → (∀ y, y ≠ 507 → (y < 508 ∨ 548 ≤ y) → P' y = P y) → Q τ) : m_8_removeLegsIn B (nI k) Q σ := by
  unfold m_8_removeLegsIn
  refine it_cnt (fun (m : Nat) (A : Int32 → Int32 → St → Prop) => ∀ τ P', toW σ0 τ B P' → (∀ j, j < m → P (508 + 4 * j) ≠ nI k → P' (508 + 4 * kpt (fun j => P (508 + 4 * j)) (nI k) j) = adjL (nI k) (P (508 + 4 * j)) ∧ P' (509 + 4 * kpt (fun j => P (508 + 4 * j)) (nI k) j) = P (509 + 4 * j)) → (∀ y, (y < 508 ∨ 508 + 4 * m ≤ y) → P' y = P y) → A (nI (kpt (fun j => P (508 + 4 * j)) (nI k) m)) (nI m) τ) l (by omega) ?_ ?_ σ P h (fun j hj => by omega) (fun _ _ => rfl)
  · intro m hm A hA τ P' t h1 h2
    have kle := kpt_le (fun j => P (508 + 4 * j)) (nI k) m
    unfold m_8_removeLegsIn_4
    rw [g507, t.g, h2 507 (by omega), hl]
    refine ⟨fun q => absurd q (nle_of hm (by omega)), fun _ => ⟨vin (by omega), ?_⟩⟩
    have gl : ∀ f, f < 4 → τ.1 (B + 2 + 22 + m) f = P (508 + 4 * m + f) := fun f hf => by rw [gle τ B (by omega) hf, t.g, h2 _ (by omega)]
    rw [tn m (by omega), gl 0 (by omega), show 508 + 4 * m + 0 = 508 + 4 * m from rfl]
    have hA : ∀ τ P', toW σ0 τ B P' → (∀ j, j < m + 1 → P (508 + 4 * j) ≠ nI k → P' (508 + 4 * kpt (fun j => P (508 + 4 * j)) (nI k) j) = adjL (nI k) (P (508 + 4 * j)) ∧ P' (509 + 4 * kpt (fun j => P (508 + 4 * j)) (nI k) j) = P (509 + 4 * j)) → (∀ y, (y < 508 ∨ 508 + 4 * (m + 1) ≤ y) → P' y = P y) → A (nI (kpt (fun j => P (508 + 4 * j)) (nI k) m + (if P (508 + 4 * m) = nI k then 0 else 1))) (nI (m + 1)) τ := hA
    refine ⟨fun q x ex => ?_, fun q => ⟨vin (by omega), vin (by omega), ?_⟩⟩
    · rw [if_pos q] at hA
      rw [ex, li 1, nI_add]
      refine hA τ P' t (fun j hj hne => ?_) (fun y hy => h2 y (by omega))
      by_cases q2 : j = m
      · subst q2; exact absurd q hne
      · exact h1 j (by omega) hne
    · rw [if_neg q] at hA
      rw [tn (kpt (fun j => P (508 + 4 * j)) (nI k) m) (by omega)]
      refine s_1_any t (by omega) (by omega) (fun τ1 P1 t1 c1 c2 => ⟨vin (by omega), ?_⟩)
      have f0 := c1 0 (by omega)
      have f1 := c1 1 (by omega)
      rw [h2 _ (by omega)] at f0 f1
      rw [show 508 + 4 * kpt (fun j => P (508 + 4 * j)) (nI k) m + 0 = 508 + 4 * kpt (fun j => P (508 + 4 * j)) (nI k) m from rfl, show 508 + 4 * m + 0 = 508 + 4 * m from rfl] at f0
      rw [show 508 + 4 * kpt (fun j => P (508 + 4 * j)) (nI k) m + 1 = 509 + 4 * kpt (fun j => P (508 + 4 * j)) (nI k) m by omega, show 508 + 4 * m + 1 = 509 + 4 * m by omega] at f1
      have e0 : τ1.1 (B + 2 + 22 + kpt (fun j => P (508 + 4 * j)) (nI k) m) 0 = P (508 + 4 * m) := by rw [gle τ1 B (f := 0) (by omega) (by omega), t1.g]; exact f0
      rw [e0]
      have fin : ∀ τ2 P2, toW σ0 τ2 B P2 → P2 (508 + 4 * kpt (fun j => P (508 + 4 * j)) (nI k) m) = adjL (nI k) (P (508 + 4 * m)) → (∀ y, y ≠ 508 + 4 * kpt (fun j => P (508 + 4 * j)) (nI k) m → P2 y = P1 y) → A (nI (kpt (fun j => P (508 + 4 * j)) (nI k) m + 1)) (nI (m + 1)) τ2 := fun τ2 P2 t2 d1 d2 => by
        refine hA τ2 P2 t2 (fun j hj hne => ?_) (fun y hy => ?_)
        · by_cases q2 : j = m
          · subst q2
            refine ⟨d1, ?_⟩
            rw [d2 _ (by omega)]
            exact f1
          · have hjm : kpt (fun j => P (508 + 4 * j)) (nI k) j < kpt (fun j => P (508 + 4 * j)) (nI k) m := by
              have mono : ∀ d a, kpt (fun j => P (508 + 4 * j)) (nI k) a ≤ kpt (fun j => P (508 + 4 * j)) (nI k) (a + d) := by
                intro d a
                induction d with
                | zero => exact Nat.le_refl _
                | succ d ih => exact Nat.le_trans ih (Nat.le_add_right _ _)
              have m1 := mono (m - (j + 1)) (j + 1)
              rw [show j + 1 + (m - (j + 1)) = m by omega] at m1
              have m2 : kpt (fun j => P (508 + 4 * j)) (nI k) (j + 1) = kpt (fun j => P (508 + 4 * j)) (nI k) j + (if P (508 + 4 * j) = nI k then 0 else 1) := rfl
              rw [if_neg hne] at m2
              omega
            rw [d2 _ (by omega), d2 _ (by omega), c2 _ (by omega), c2 _ (by omega)]
            exact h1 j (by omega) hne
        · rw [d2 _ (by omega), c2 _ (by omega)]
          exact h2 y (by omega)
      refine ⟨fun q2 x2 ex2 x3 ex3 => ?_, fun q2 => ⟨vin (by omega), fun σ12 e12 x2 ex2 x3 ex3 => ?_⟩⟩
      · rw [ex2, ex3, li 1, nI_add, nI_add]
        refine fin τ1 P1 t1 ?_ (fun _ _ => rfl)
        unfold adjL
        rw [if_pos q2]
        exact f0
      · rw [ex2, ex3, li 1, nI_add, nI_add]
        have t2 := tw_le t1 (a := kpt (fun j => P (508 + 4 * j)) (nI k) m) (f := 0) (v := P (508 + 4 * m) - 1) (by omega) (by omega)
        rw [← e12] at t2
        refine fin σ12 _ t2 ?_ (fun y hy => upd_n hy)
        unfold adjL
        rw [if_neg q2]
        exact upd_s
  · intro A τ P' t h1 h2
    unfold m_8_removeLegsIn_4
    rw [g507, t.g, h2 507 (by omega), hl]
    refine ⟨fun _ σ1 e1 => ?_, fun q => absurd ((lei (by omega) (by omega)).mpr (Nat.le_refl l)) q⟩
    have t1 := tw_n507 t (v := nI (kpt (fun j => P (508 + 4 * j)) (nI k) l))
    rw [← e1] at t1
    refine hQ σ1 _ t1 (fun j hj hne => ?_) upd_s (fun y g1 g2 => by rw [upd_n g1]; exact h2 y (by omega))
    rw [upd_n (by omega), upd_n (by omega)]
    exact h1 j hj hne
