-- the history, on both sides
def clsRec (c : Nat) (σ τ : St) (P : Nat → Int32) : Prop := ∃ x k, x < 8 ∧ k ≤ 8 ∧ σ.1 42 1 = nI x ∧ σ.1 42 2 = nI k ∧ τ.1 42 1 = nI ((x + 1) % 8) ∧ τ.1 42 2 = nI (min (k + 1) 8) ∧ (∃ n l, okP c n l (pgW σ 7) ∧ ∀ y, vis n l y → pgW τ (44 + 34 * x) y = pgW σ 7 y) ∧ (∀ w, w < 8 → w ≠ x → pgW τ (44 + 34 * w) = pgW σ (44 + 34 * w)) ∧ pgW τ 7 = P ∧ (∀ a, a < 3 ∨ 354 ≤ a → τ.1 a = σ.1 a)
theorem pgW_cg {σ τ : St} {B : Nat} (h : ∀ a, B ≤ a → a < B + 34 → τ.1 a = σ.1 a) : pgW τ B = pgW σ B := by
  funext y
  unfold pgW
  by_cases hq : y < 564
  · rw [if_pos hq, if_pos hq, h _ (by omega) (by have := oa_lt y hq; omega)]
  · rw [if_neg hq, if_neg hq]
/-- after the record, only the world, the rounds, the trial world and the orders are touched -/
theorem clsRec.end {c : Nat} {σ τ υ : St} {P P' : Nat → Int32} (h : clsRec c σ τ P) (hP : pgW υ 7 = P') (hf : ∀ a, (a < 3 ∨ 42 ≤ a ∧ a < 316 ∨ 354 ≤ a) → υ.1 a = τ.1 a) : clsRec c σ υ P' := by
  obtain ⟨x, k, h1, h2, h3, h4, h5, h6, ⟨n, l, ok, hc⟩, h7, h8, h9⟩ := h
  refine ⟨x, k, h1, h2, h3, h4, ?_, ?_, ⟨n, l, ok, fun y hy => ?_⟩, fun w hw hx => ?_, hP, fun a ha => ?_⟩
  · rw [hf 42 (by omega)]; exact h5
  · rw [hf 42 (by omega)]; exact h6
  · rw [← hc y hy]
    exact congrFun (pgW_cg (fun a h1 h2 => hf a (by omega))) y
  · rw [← h7 w hw hx]
    exact pgW_cg (fun a h1 h2 => hf a (by omega))
  · rw [hf a (by omega), h9 a ha]
theorem clsRec.toW {c : Nat} {σ τ υ : St} {P P' : Nat → Int32} (h : clsRec c σ τ P) (hP : toW τ υ 7 P') : clsRec c σ υ P' :=
  h.end hP.1 (fun a ha => hP.2.1 a (by omega))
theorem mod8 {k : Nat} (h : k < 1000001) : nI k - nI k / 8 * 8 = nI (k % 8) := pk_rem (a := k) (d := 8) (by omega) (by decide) (by decide)
theorem s_0_remember {c n l x k : Nat} {Q : St → Prop} {σ : St} (ok : okP c n l (pgW σ 7)) (hx : σ.1 42 1 = nI x) (hx8 : x < 8) (hk : σ.1 42 2 = nI k) (hk8 : k ≤ 8) (h : ∀ τ, clsRec c σ τ (pgW σ 7) → (∀ a, a < 42 → τ.1 a = σ.1 a) → Q τ) : m_0_remember 42 7 Q σ := by
  unfold m_0_remember
  rw [hx]
  refine ⟨vin hx8, ?_⟩
  rw [tn x (by omega)]
  refine s_8_copyFrom ok (by omega) (fun τ P hτ hP σ4 e4 σ5 e5 => ?_)
  have t42 : τ.1 42 = σ.1 42 := hτ.2.1 42 (by omega)
  rw [t42, hx, li 1, nI_add, mod8 (by omega)] at e4
  have e42 : σ4.1 42 2 = nI k := by rw [e4, wr_else (by omega), t42]; exact hk
  rw [e42, li 1, nI_add] at e5
  have f5 : ∀ a, a ≠ 42 → σ5.1 a = τ.1 a := fun a ha => by rw [e5, wr_cell ha, e4, wr_cell ha]
  refine h σ5 ⟨x, k, hx8, hk8, hx, hk, ?_, ?_, ⟨n, l, ok, fun y hy => ?_⟩, fun w hw hwx => ?_, ?_, fun a ha => ?_⟩ (fun a ha => ?_)
  · rw [e5, wr_else (by omega), e4, wr_same]
  · rw [e5, wr_same]
    by_cases q : 8 < k + 1
    · rw [if_pos (show (8 : Int32) < nI (k + 1) from (lti (a := 8) (by omega) (by omega)).mpr q), Nat.min_eq_right (by omega)]
      rfl
    · rw [if_neg (show ¬ (8 : Int32) < nI (k + 1) from fun q2 => q ((lti (a := 8) (by omega) (by omega)).mp q2)), Nat.min_eq_left (by omega)]
  · have : pgW σ5 (44 + 34 * x) = P := by
      rw [show (44 + 34 * x : Nat) = 42 + 1 + 1 + 34 * x by omega, ← hτ.1]
      exact pgW_cg (fun a h1 h2 => f5 a (by omega))
    rw [this]
    exact hP y hy
  · refine pgW_cg (fun a h1 h2 => ?_)
    rw [f5 a (by omega)]
    exact hτ.2.1 a (by omega)
  · refine pgW_cg (fun a h1 h2 => ?_)
    rw [f5 a (by omega)]
    exact hτ.2.1 a (by omega)
  · rw [f5 a (by omega)]
    exact hτ.2.1 a (by omega)
  · rw [f5 a (by omega)]
    exact hτ.2.1 a (by omega)
-- the model's pages
def cpg (a b : Nat) (f : Nat → Int32) (y : Nat) : Int32 := if 564 * b ≤ y ∧ y < 564 * b + 564 then f (564 * a + (y - 564 * b)) else f y
theorem wrA_at {σ : St} {k : Nat} {f : Nat → Int32} : (wrA σ k f).1 k = f := by simp [wrA]
theorem wr_A {σ : St} {k j : Nat} {f : Nat → Int32} {v : Int32} : wr (wrA σ k f) k j v = wrA σ k (upd f j v) := by
  unfold wr
  rw [wrA_at]
  unfold wrA
  refine Prod.ext (funext fun a => ?_) rfl
  by_cases q : a = k
  · simp [q]
  · simp [q]
theorem wrA_id {σ : St} {k : Nat} {f : Nat → Int32} (h : f = σ.1 k) : wrA σ k f = σ := by
  subst h
  unfold wrA
  refine Prod.ext (funext fun a => ?_) rfl
  by_cases q : a = k
  · simp [q]
  · simp [q]
theorem pgI (a k : Nat) : (564 : Int32) * nI a + nI k = nI (564 * a + k) := by rw [li 564, pk_mul, nI_add]
theorem s_10_copies {r0 a b : Nat} {Q : St → Prop} {σ : St} (ha : a < 10) (hb : b < 10) (hab : a ≠ b) (h : Q (wrA σ (r0 + 1) (cpg a b (σ.1 (r0 + 1))))) : m_10_copies r0 (nI a) (nI b) Q σ := by
  unfold m_10_copies
  refine it_cnt (fun (k : Nat) (B : Int32 → St → Prop) => ∀ τ, τ = (wrA σ (r0 + 1) (fun y => if 564 * b ≤ y ∧ y < 564 * b + k then σ.1 (r0 + 1) (564 * a + (y - 564 * b)) else σ.1 (r0 + 1) y)) → B (nI k) τ) 564 (by decide) ?_ ?_ σ ?_
  · intro k hk B hB τ e
    subst e
    unfold m_10_copies_2
    refine ⟨fun q => absurd ((lei (a := 564) (by decide) (by omega)).mp q) (by omega), fun _ => ?_⟩
    rw [pgI, pgI, wrA_at, tn _ (by omega), tn _ (by omega)]
    refine ⟨vq (by omega), vq (by omega), fun σ1 e1 x ex => ?_⟩
    rw [ex, li, nI_add, e1, wr_A]
    have : (upd (fun y => if 564 * b ≤ y ∧ y < 564 * b + k then σ.1 (r0 + 1) (564 * a + (y - 564 * b)) else σ.1 (r0 + 1) y) (564 * b + k) (if 564 * b ≤ 564 * a + k ∧ 564 * a + k < 564 * b + k then σ.1 (r0 + 1) (564 * a + (564 * a + k - 564 * b)) else σ.1 (r0 + 1) (564 * a + k))) = (fun y => if 564 * b ≤ y ∧ y < 564 * b + (k + 1) then σ.1 (r0 + 1) (564 * a + (y - 564 * b)) else σ.1 (r0 + 1) y) := by
      funext y
      rw [rd_upd]
      by_cases q : y = 564 * b + k
      · rw [if_pos q, if_neg (by omega), if_pos (by omega), q, show 564 * b + k - 564 * b = k by omega]
      · rw [if_neg q]
        by_cases q2 : 564 * b ≤ y ∧ y < 564 * b + k
        · rw [if_pos q2, if_pos (by omega)]
        · rw [if_neg q2, if_neg (by omega)]
    rw [this]
    exact hB _ rfl
  · intro B τ e
    subst e
    unfold m_10_copies_2
    exact ⟨fun _ => h, fun q => absurd ((lei (a := 564) (by decide) (by decide)).mpr (Nat.le_refl 564)) q⟩
  · exact (wrA_id (by funext y; rw [if_neg (by omega)])).symm
def modRec (k : Nat) (σ τ : St) : Prop := (∀ a, a ≠ 354 → a ≠ 355 → τ.1 a = σ.1 a) ∧ (∀ j, j ≠ 1 → τ.1 354 j = σ.1 354 j) ∧ τ.1 354 1 = nI (min (k + 1) 8) ∧ (∀ i, i < 564 → τ.1 355 i = σ.1 355 i) ∧ (∀ i, i < 564 → τ.1 355 (564 * (min (k + 1) 8) + i) = σ.1 355 i) ∧ (∀ j i, j + 1 < min (k + 1) 8 → i < 564 → τ.1 355 (564 * (min (k + 1) 8 - (j + 1)) + i) = σ.1 355 (564 * (k - j) + i))
theorem s_10_records {k : Nat} {Q : St → Prop} {σ : St} (hk : σ.1 354 1 = nI k) (hk8 : k ≤ 8) (h : ∀ τ, modRec k σ τ → Q τ) : m_10_records 354 Q σ := by
  unfold m_10_records
  rw [hk]
  have fin : ∀ (σ' : St) (k' : Nat), k' < 8 → σ'.1 354 1 = nI k' → (∀ a, a ≠ 354 → a ≠ 355 → σ'.1 a = σ.1 a) → (∀ j, j ≠ 1 → σ'.1 354 j = σ.1 354 j) → k' + 1 = min (k + 1) 8 → (∀ i, i < 564 → σ'.1 355 i = σ.1 355 i) → (∀ j i, j < k' → i < 564 → σ'.1 355 (564 * (k' - j) + i) = σ.1 355 (564 * (k - j) + i)) → m_10_records_41 354 Q σ' := by
    intro σ' k' hk' h1 h2 h3 h4 h5 h6
    unfold m_10_records_41
    intro σ1 e1
    rw [h1, li, nI_add] at e1
    have e2 : σ1.1 354 1 = nI (k' + 1) := by rw [e1, wr_same]
    have e3 : σ1.1 355 = σ'.1 355 := by rw [e1, wr_cell (by omega)]
    rw [e2]
    refine s_10_copies (a := 0) (by omega) (by omega) (by omega) ?_
    refine h _ ⟨fun a ha hb => ?_, fun j hj => ?_, ?_, fun i hi => ?_, fun i hi => ?_, fun j i hj hi => ?_⟩
    · rw [wrA_ne (by omega), e1, wr_cell ha]
      exact h2 a ha hb
    · rw [wrA_ne (by omega), e1, wr_else (Or.inr hj)]
      exact h3 j hj
    · rw [wrA_ne (by omega), e2, h4]
    · rw [wrA_at, e3]
      unfold cpg
      rw [if_neg (by omega)]
      exact h5 i hi
    · rw [wrA_at, e3, ← h4]
      unfold cpg
      rw [if_pos (by omega), show 564 * 0 + (564 * (k' + 1) + i - 564 * (k' + 1)) = i by omega]
      exact h5 i hi
    · rw [wrA_at, e3, ← h4]
      rw [← h4] at hj
      unfold cpg
      rw [if_neg (by omega), show k' + 1 - (j + 1) = k' - j by omega]
      exact h6 j i (by omega) hi
  refine ⟨fun q => ?_, fun q => ?_⟩
  · have q : k ≠ 8 := fun e => q (by rw [e]; rfl)
    exact fin σ k (by omega) hk (fun _ _ _ => rfl) (fun _ _ => rfl) (by omega) (fun _ _ => rfl) (fun _ _ _ _ => rfl)
  · have q : k = 8 := (eqi (b := 8) (by omega) (by omega)).mp q
    subst q
    refine it_from (fun (k : Nat) (B : Int32 → St → Prop) => ∀ τ, (∀ a, a ≠ 355 → τ.1 a = σ.1 a) → (∀ y, y < 564 ∨ 564 * k ≤ y → τ.1 355 y = σ.1 355 y) → (∀ w i, 1 ≤ w → w < k → i < 564 → τ.1 355 (564 * w + i) = σ.1 355 (564 * (w + 1) + i)) → B (nI k) τ) 1 8 (by decide) (by decide) ?_ ?_ σ (fun _ _ => rfl) (fun _ _ => rfl) (fun w i h1 h2 => by omega)
    · intro k hk1 hk B hB τ h1 h2 h3
      unfold m_10_records_11
      refine ⟨fun q => absurd ((lei (a := 8) (by decide) (by omega)).mp q) (by omega), fun _ => ?_⟩
      rw [li 1, nI_add]
      refine s_10_copies (by omega) (by omega) (by omega) ?_
      intro x ex
      rw [ex]
      refine hB _ (fun a ha => ?_) (fun y hy => ?_) (fun w i hw1 hw hi => ?_)
      · rw [wrA_ne (by omega)]
        exact h1 a ha
      · rw [wrA_at]
        unfold cpg
        rw [if_neg (by omega)]
        exact h2 y (by omega)
      · rw [wrA_at]
        unfold cpg
        by_cases q : w = k
        · subst q
          rw [if_pos (by omega), show 564 * w + i - 564 * w = i by omega]
          exact h2 _ (by omega)
        · rw [if_neg (by omega)]
          exact h3 w i hw1 (by omega) hi
    · intro B τ h1 h2 h3
      unfold m_10_records_11
      refine ⟨fun _ σ1 e1 => ?_, fun q => absurd ((lei (a := 8) (by decide) (by decide)).mpr (Nat.le_refl 8)) q⟩
      rw [h1 354 (by omega), hk, show (1 : Int32) = nI 1 from rfl, pk_sub (by decide)] at e1
      refine fin σ1 7 (by omega) (by rw [e1, wr_same]) (fun a ha hb => ?_) (fun j hj => ?_) (by decide) (fun i hi => ?_) (fun j i hj hi => ?_)
      · rw [e1, wr_cell ha]
        exact h1 a hb
      · rw [e1, wr_else (Or.inr hj), h1 354 (by omega)]
      · rw [e1, wr_cell (by omega)]
        exact h2 i (by omega)
      · rw [e1, wr_cell (by omega), h3 (7 - j) i (by omega) (by omega) hi, show 7 - j + 1 = 8 - j by omega]
/-- what a call of the model leaves as it was, behind the record -/
def modEnd (τ υ : St) (p : Nat → Int32) : Prop := (∀ i, i < 564 → υ.1 355 i = p i) ∧ (∀ y, 564 ≤ y → y < 5076 → υ.1 355 y = τ.1 355 y) ∧ (∀ a, a < 354 ∨ a = 356 → υ.1 a = τ.1 a) ∧ (∀ j, j = 1 ∨ j = 3 → υ.1 354 j = τ.1 354 j)
theorem step_rec {c c' k : Nat} {σ σ1 σ2 σ3 : St} {P p : Nat → Int32} (I : HIST c σ) (IR : REL c (pgW σ 7) (σ.1 355)) (IT : TXT σ) (hc : c ≤ c') (hk : σ.1 354 1 = nI k) (hk8 : k ≤ 8) (h1 : clsRec c σ σ1 P) (h2 : modRec k σ1 σ2) (h3 : modEnd σ2 σ3 p) (hR : REL c' P p) : REL c' (pgW σ3 7) (σ3.1 355) ∧ HIST c' σ3 ∧ TXT σ3 := by
  obtain ⟨x, k', hx8, hk8', ax, ak, bx, bk, ⟨n, l, ok, hcp⟩, hot, hP, hfr⟩ := h1
  obtain ⟨m1, m2, m3, m4, m5, m6⟩ := h2
  obtain ⟨d1, d2, d3, d4⟩ := h3
  have up : ∀ a, a < 354 → σ3.1 a = σ1.1 a := fun a ha => by rw [d3 a (Or.inl ha), m1 a (by omega) (by omega)]
  obtain ⟨k2, x2, q1, q2, q3, q4, q5, q6⟩ := I
  have : x2 = x := (eqi (by omega) (by omega)).mp (q3.symm.trans ax)
  subst this
  have : k2 = k' := (eqi (by omega) (by omega)).mp (q4.symm.trans ak)
  subst this
  have : k2 = k := (eqi (by omega) (by omega)).mp (q5.symm.trans hk)
  subst this
  refine ⟨?_, ⟨min (k2 + 1) 8, (x2 + 1) % 8, by omega, by omega, ?_, ?_, ?_, fun j hj => ?_⟩, ?_⟩
  · rw [pgW_cg (σ := σ1) (fun a _ h => up a (by omega)), hP]
    exact hR.cg d1
  · rw [up 42 (by omega)]; exact bx
  · rw [up 42 (by omega)]; exact bk
  · rw [d4 1 (Or.inl rfl), m3]
  · rw [pgW_cg (σ := σ1) (fun a _ h => up a (by omega))]
    rcases Nat.eq_zero_or_pos j with q | q
    · subst q
      rw [show ((x2 + 1) % 8 + 7 - 0) % 8 = x2 by omega]
      refine REL.mono (c := c) ?_ hc
      have e : REL c (pgW σ1 (44 + 34 * x2)) (σ.1 355) := by
        obtain ⟨n', l', o1, o2, o3⟩ := IR
        have en := o1.inj ok.1.1 (by have := ok.1.2.1; omega)
        have el := o1.injl ok.1.2.2.1 (by have := ok.1.2.2.2; omega)
        subst en el
        exact ⟨_, _, o1.cg (fun y _ hv => hcp y hv), o2.cgl hcp, by rw [hcp 562 (vis_hi (by omega) (by omega) (by omega))]; exact o3⟩
      refine e.cg (fun i hi => ?_)
      show σ3.1 355 (564 * (min (k2 + 1) 8 - 0) + i) = σ.1 355 i
      rw [d2 _ (by omega) (by omega), show min (k2 + 1) 8 - 0 = min (k2 + 1) 8 by omega, m5 i hi, hfr 355 (by omega)]
    · obtain ⟨j, rfl⟩ : ∃ j', j = j' + 1 := ⟨j - 1, by omega⟩
      rw [show ((x2 + 1) % 8 + 7 - (j + 1)) % 8 = (x2 + 7 - j) % 8 by omega, hot _ (by omega) (by omega)]
      refine REL.mono (c := c) ?_ hc
      refine (q6 j (by omega)).cg (fun i hi => ?_)
      show σ3.1 355 (564 * (min (k2 + 1) 8 - (j + 1)) + i) = σ.1 355 (564 * (k2 - j) + i)
      rw [d2 _ (by omega) (by omega), m6 j i hj hi, hfr 355 (by omega)]
  · obtain ⟨m, t1, t2, t3, t4⟩ := IT
    refine ⟨m, t1, ?_, ?_, fun j hj => ?_⟩
    · rw [up 1 (by omega), hfr 1 (by omega)]; exact t2
    · rw [d4 3 (Or.inr rfl), m2 3 (by omega), hfr 354 (by omega)]; exact t3
    · obtain ⟨v, v1, v2, v3, v4⟩ := t4 j hj
      refine ⟨v, v1, v2, ?_, ?_⟩
      · rw [up 2 (by omega), hfr 2 (by omega)]; exact v3
      · rw [d3 356 (Or.inr rfl), m1 356 (by omega) (by omega), hfr 356 (by omega)]; exact v4
