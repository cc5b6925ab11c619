theorem okP.park {c n l i k : Nat} {P : Nat → Int32} {v : Int32} (h : okP c n l P) (hi : i < n) (hk : k < 40) (hw : isB v) : okP c n l (upd P (44 + 83 * i + k) v) := by
  obtain ⟨⟨h1, h2, h3, h4⟩, h5, h6, h7, s, h9, h10⟩ := h
  refine ⟨⟨by rw [upd_n (by omega)]; exact h1, h2, by rw [upd_n (by omega)]; exact h3, h4⟩, fun a ha => ?_, fun a b ha hb => ?_, fun j hj => ?_, ?_, ?_, ?_⟩
  · rw [upd_n (by omega), upd_n (by omega), upd_n (by omega)]
    exact h5 a ha
  · refine ⟨by rw [upd_n (by omega)]; exact (h6 a b ha hb).1, ?_⟩
    rw [rd_upd]
    split
    · exact hw
    · exact (h6 a b ha hb).2
  · rw [upd_n (by omega), upd_n (by omega)]
    exact h7 j hj
  · iterate 8 rw [upd_n (by omega)]
    exact s
  · rw [upd_n (by omega)]; exact h9
  · rw [upd_n (by omega)]; exact h10
/-- one of the places 499 to 506 is set anew -/
theorem okP.sets {c n l x : Nat} {P : Nat → Int32} {v : Int32} (h : okP c n l P) (h1 : 499 ≤ x) (h2 : x < 507) (hs : (∃ v', upd P x v 499 = nI v' ∧ 1 ≤ v' ∧ v' ≤ 4) ∧ (∃ cap h, upd P x v 500 = nI cap ∧ upd P x v 506 = nI h ∧ 20 ≤ cap ∧ cap ≤ 2000 ∧ h ≤ cap) ∧ (∃ v', upd P x v 501 = nI v' ∧ v' ≤ 9) ∧ (∃ v', upd P x v 502 = nI v' ∧ 100 ≤ v' ∧ v' ≤ 6000) ∧ (∃ v', upd P x v 503 = nI v' ∧ v' ≤ 1000) ∧ (∃ v', upd P x v 504 = nI v' ∧ v' ≤ 400) ∧ (∃ v', upd P x v 505 = nI v' ∧ v' ≤ 1000)) : okP c n l (upd P x v) := by
  obtain ⟨⟨h3, h4, h5, h6⟩, h7, h8, h9, s, h10, h11⟩ := h
  refine ⟨⟨by rw [upd_n (by omega)]; exact h3, h4, by rw [upd_n (by omega)]; exact h5, h6⟩, fun a ha => ?_, fun a b ha hb => ?_, fun j hj => ?_, hs, ?_, ?_⟩
  · rw [upd_n (by omega), upd_n (by omega), upd_n (by omega)]
    exact h7 a ha
  · rw [upd_n (by omega), upd_n (by omega)]
    exact h8 a b ha hb
  · rw [upd_n (by omega), upd_n (by omega)]
    exact h9 j hj
  · rw [upd_n (by omega)]; exact h10
  · rw [upd_n (by omega)]; exact h11
theorem okP.brush {c n l w : Nat} {P : Nat → Int32} (h : okP c n l P) (hw : w ≤ 1000) : okP c n l (upd P 505 (nI w)) := by
  refine h.sets (by omega) (by omega) ?_
  obtain ⟨s1, s2, s3, s4, s5, s6, s7⟩ := h.2.2.2.2.1
  exact ⟨s1, s2, s3, s4, s5, s6, ⟨w, upd_s, hw⟩⟩
theorem okP.spare {c n l w : Nat} {P : Nat → Int32} (h : okP c n l P) (hw : w ≤ 9) : okP c n l (upd P 501 (nI w)) := by
  refine h.sets (by omega) (by omega) ?_
  obtain ⟨s1, s2, s3, s4, s5, s6, s7⟩ := h.2.2.2.2.1
  exact ⟨s1, s2, ⟨w, upd_s, hw⟩, s4, s5, s6, s7⟩
theorem okP.load {c n l w cap : Nat} {P : Nat → Int32} (h : okP c n l P) (hc : P 500 = nI cap) (hc2 : cap ≤ 2000) (hw : w ≤ cap) : okP c n l (upd P 506 (nI w)) := by
  refine h.sets (by omega) (by omega) ?_
  obtain ⟨s1, ⟨cap', g, s2, s2b, s2c, s2d, s2e⟩, s3, s4, s5, s6, s7⟩ := h.2.2.2.2.1
  have : cap = cap' := (eqi (by omega) (by omega)).mp (hc.symm.trans s2)
  subst this
  exact ⟨s1, ⟨cap, w, hc, upd_s, s2c, s2d, hw⟩, s3, s4, s5, s6, s7⟩
theorem okP.known {c n l : Nat} {P : Nat → Int32} {v : Int32} (h : okP c n l P) (hw : isB v) : okP c n l (upd P 548 v) := by
  obtain ⟨⟨h3, h4, h5, h6⟩, h7, h8, h9, s, h10, h11⟩ := h
  refine ⟨⟨h3, h4, h5, h6⟩, fun a ha => ?_, fun a b ha hb => ?_, fun j hj => ?_, s, ?_, h11⟩
  · rw [upd_n (by omega), upd_n (by omega), upd_n (by omega)]
    exact h7 a ha
  · rw [upd_n (by omega), upd_n (by omega)]
    exact h8 a b ha hb
  · rw [upd_n (by omega), upd_n (by omega)]
    exact h9 j hj
  · rw [upd_s]; exact hw
theorem okP.shifts {c n l v : Nat} {P : Nat → Int32} (h : okP c n l P) (hw : v ≤ c) : okP c n l (upd P 562 (nI v)) := by
  obtain ⟨⟨h3, h4, h5, h6⟩, h7, h8, h9, s, h10, h11⟩ := h
  refine ⟨⟨h3, h4, h5, h6⟩, fun a ha => ?_, fun a b ha hb => ?_, fun j hj => ?_, s, h10, v, upd_s, hw⟩
  · rw [upd_n (by omega), upd_n (by omega), upd_n (by omega)]
    exact h7 a ha
  · rw [upd_n (by omega), upd_n (by omega)]
    exact h8 a b ha hb
  · rw [upd_n (by omega), upd_n (by omega)]
    exact h9 j hj
theorem EQP.up {n l x : Nat} {P p : Nat → Int32} {v w : Int32} (e : EQP n l P p) (hx : x ≠ 548) (hv : v = w) : EQP n l (upd P x v) (upd p x w) := by
  subst hv
  intro y hy hl
  rw [rd_upd, rd_upd]
  split
  · rfl
  · exact e y hy (fun q => by have := hl q; rw [upd_n (fun q => hx q.symm)] at this; exact this)
theorem eqp_un {n l : Nat} {P p : Nat → Int32} (e : EQP n l P p) : EQP n l (upd P 548 0) (upd p 548 0) := by
  intro y hy hl
  rw [rd_upd, rd_upd]
  split
  · rfl
  · refine e y hy (fun q => ?_)
    have := hl q
    rw [upd_s] at this
    exact absurd rfl this
theorem REL.cg {c : Nat} {P p q : Nat → Int32} (h : REL c P p) (e : ∀ x, x < 564 → q x = p x) : REL c P q := by
  obtain ⟨n, l, h1, h2, h3⟩ := h
  exact ⟨n, l, h1, fun x hx hl => (h2 x hx hl).trans (e x hx.1).symm, (e 555 (by omega)).trans h3⟩
theorem ite_e {p : Prop} [Decidable p] {a b c : Int32} (h1 : p → a = c) (h2 : ¬ p → b = c) : ite p a b = c := by
  split
  · exact h1 (by assumption)
  · exact h2 (by assumption)
-- copies of worlds
theorem o_blk : ∀ y, y < 564 → ∀ i, i < 6 → (((oa y = 6 + 3 * i ∨ oa y = 7 + 3 * i ∨ oa y = 8 + 3 * i) ↔ (1 + 83 * i ≤ y ∧ y < 84 + 83 * i)) ∧ (oa y = 6 + 3 * i → oj y < 3) ∧ (oa y = 7 + 3 * i → oj y < 40) ∧ (oa y = 8 + 3 * i → oj y < 40)) := by decide +kernel
theorem o_six : ∀ y, y < 564 → ((oa y = 3 ↔ (499 ≤ y ∧ y < 505)) ∧ (oa y = 4 ↔ (556 ≤ y ∧ y < 562)) ∧ (oa y = 5 ↔ (549 ≤ y ∧ y < 555)) ∧ (oa y = 3 → oj y < 6) ∧ (oa y = 4 → oj y < 6) ∧ (oa y = 5 → oj y < 6)) := by decide +kernel
theorem toW.wrS {σ τ : St} {B0 i : Nat} {P : Nat → Int32} {c d k : Nat → Int32} (h : toW σ τ B0 P) (hi : i < 6) : ∃ P', toW σ (wrS τ (B0 + 1 + 5 + 3 * i) c d k) B0 P' ∧ (∀ y, y < 1 + 83 * i ∨ 84 + 83 * i ≤ y → P' y = P y) ∧ (∀ j, j < 3 → P' (1 + 83 * i + j) = c j) ∧ (∀ j, j < 40 → P' (4 + 83 * i + j) = d j) ∧ (∀ j, j < 40 → P' (44 + 83 * i + j) = k j) := by
  refine ⟨_, ⟨rfl, fun a ha => ?_, h.2.2⟩, fun y hy => ?_, fun j hj => ?_, fun j hj => ?_, fun j hj => ?_⟩
  · rw [← h.2.1 a ha]
    funext j
    rw [rd_wrS, if_neg (by omega), if_neg (by omega), if_neg (by omega)]
  · rw [← h.1]
    unfold pgW
    by_cases hq : y < 564
    · rw [if_pos hq, if_pos hq]
      have hb := (o_blk y hq i hi).1
      rw [rd_wrS, if_neg (by omega), if_neg (by omega), if_neg (by omega)]
    · rw [if_neg hq, if_neg hq]
  · rw [← gst _ _ hi hj, rd_wrS, if_pos rfl]
  · rw [← gdi _ _ hi hj, rd_wrS, if_neg (by omega), if_pos rfl]
  · rw [← gpa _ _ hi hj, rd_wrS, if_neg (by omega), if_neg (by omega), if_pos rfl]
theorem tw_w {σ τ : St} {B a j x : Nat} {P : Nat → Int32} {v : Int32} (h : toW σ τ B P) (hx : x < 564) (ha : a = B + oa x) (hj : j = oj x) : toW σ (wr τ a j v) B (upd P x v) := h.wr rfl hx ha hj
theorem tw_le {σ τ : St} {B0 a f : Nat} {P : Nat → Int32} {v : Int32} (h : toW σ τ B0 P) (ha : a < 10) (hf : f < 4) : toW σ (wr τ (B0 + 2 + 22 + a) f v) B0 (upd P (508 + 4 * a + f) v) := by
  obtain ⟨h1, h2, h3⟩ := oaLe (B := B0) (x := 508 + 4 * a + f) ha hf rfl
  exact tw_w h h1 h2 h3
theorem s_1_cp {σ τ : St} {B0 a r1 : Nat} {P : Nat → Int32} {Q : St → Prop} (h : toW σ τ B0 P) (ha : a < 10) (hr : r1 ≠ B0 + 2 + 22 + a) (hQ : ∀ τ', toW σ τ' B0 (upd (upd (upd (upd P (508 + 4 * a + 0) (τ.1 r1 0)) (508 + 4 * a + 1) (τ.1 r1 1)) (508 + 4 * a + 2) (τ.1 r1 2)) (508 + 4 * a + 3) (τ.1 r1 3)) → Q τ') : m_1_copyFrom (B0 + 2 + 22 + a) r1 Q τ := by
  unfold m_1_copyFrom
  intro σ1 e1 σ2 e2 σ3 e3 σ4 e4
  have h1 := tw_le h (f := 0) (v := τ.1 r1 0) ha (by omega)
  rw [← e1] at h1
  have r1e : ∀ j, σ1.1 r1 j = τ.1 r1 j := fun j => by rw [e1, wr_cell hr]
  have h2 := tw_le h1 (f := 1) (v := σ1.1 r1 1) ha (by omega)
  rw [← e2, r1e] at h2
  have r2e : ∀ j, σ2.1 r1 j = τ.1 r1 j := fun j => by rw [e2, wr_cell hr, r1e]
  have h3 := tw_le h2 (f := 2) (v := σ2.1 r1 2) ha (by omega)
  rw [← e3, r2e] at h3
  have r3e : ∀ j, σ3.1 r1 j = τ.1 r1 j := fun j => by rw [e3, wr_cell hr, r2e]
  have h4 := tw_le h3 (f := 3) (v := σ3.1 r1 3) ha (by omega)
  rw [← e4, r3e] at h4
  exact hQ σ4 h4
theorem toW.six {σ τ : St} {B0 b x0 : Nat} {P : Nat → Int32} {f : Nat → Int32} (h : toW σ τ B0 P) (hb : b = 3 ∧ x0 = 499 ∨ b = 4 ∧ x0 = 556 ∨ b = 5 ∧ x0 = 549) : ∃ P', toW σ (wrA τ (B0 + b) f) B0 P' ∧ (∀ y, y < x0 ∨ x0 + 6 ≤ y → P' y = P y) ∧ ∀ j, j < 6 → P' (x0 + j) = f j := by
  refine ⟨_, ⟨rfl, fun a ha => ?_, h.2.2⟩, fun y hy => ?_, fun j hj => ?_⟩
  · rw [← h.2.1 a ha]
    exact wrA_ne (by omega)
  · rw [← h.1]
    unfold pgW
    by_cases hq : y < 564
    · rw [if_pos hq, if_pos hq]
      have := o_six y hq
      rw [wrA_ne (by omega)]
    · rw [if_neg hq, if_neg hq]
  · unfold pgW
    rw [if_pos (by omega)]
    obtain ⟨o1, o2, o3, o4, o5, o6⟩ := o_se j hj
    rcases hb with ⟨rfl, rfl⟩ | ⟨rfl, rfl⟩ | ⟨rfl, rfl⟩
    · rw [o1, o2]; simp [wrA]
    · rw [o3, o4]; simp [wrA]
    · rw [o5, o6]; simp [wrA]
theorem tw_rep {σ τ : St} {B0 k : Nat} {P : Nat → Int32} {v : Int32} (h : toW σ τ B0 P) (hk : k < 6) : toW σ (wr τ (B0 + 5) k v) B0 (upd P (549 + k) v) := by
  obtain ⟨o1, o2, o3, o4, o5, o6⟩ := o_se k hk
  exact tw_w h (by omega) (by rw [o5]) o6.symm
theorem tw_sum {σ τ : St} {B0 k : Nat} {P : Nat → Int32} {v : Int32} (h : toW σ τ B0 P) (hk : k < 6) : toW σ (wr τ (B0 + 4) k v) B0 (upd P (556 + k) v) := by
  obtain ⟨o1, o2, o3, o4, o5, o6⟩ := o_se k hk
  exact tw_w h (by omega) (by rw [o3]) o4.symm
theorem tw_seti {σ τ : St} {B0 k : Nat} {P : Nat → Int32} {v : Int32} (h : toW σ τ B0 P) (hk : k < 6) : toW σ (wr τ (B0 + 3) k v) B0 (upd P (499 + k) v) := by
  obtain ⟨o1, o2, o3, o4, o5, o6⟩ := o_se k hk
  exact tw_w h (by omega) (by rw [o1]) o2.symm
theorem tw_di {σ τ : St} {B0 i k : Nat} {P : Nat → Int32} {v : Int32} (h : toW σ τ B0 P) (hi : i < 6) (hk : k < 40) : toW σ (wr τ (B0 + 1 + 5 + 3 * i + 1) k v) B0 (upd P (4 + 83 * i + k) v) := by
  obtain ⟨h1, h2, h3⟩ := oaDi (B := B0) (x := 4 + 83 * i + k) hi hk rfl
  exact tw_w h h1 h2 h3
theorem tw_pa {σ τ : St} {B0 i k : Nat} {P : Nat → Int32} {v : Int32} (h : toW σ τ B0 P) (hi : i < 6) (hk : k < 40) : toW σ (wr τ (B0 + 1 + 5 + 3 * i + 2) k v) B0 (upd P (44 + 83 * i + k) v) := by
  obtain ⟨h1, h2, h3⟩ := oaPa (B := B0) (x := 44 + 83 * i + k) hi hk rfl
  exact tw_w h h1 h2 h3
theorem tw_st {σ τ : St} {B0 i k : Nat} {P : Nat → Int32} {v : Int32} (h : toW σ τ B0 P) (hi : i < 6) (hk : k < 3) : toW σ (wr τ (B0 + 1 + 5 + 3 * i) k v) B0 (upd P (1 + 83 * i + k) v) := by
  obtain ⟨h1, h2, h3⟩ := oaSt (B := B0) (x := 1 + 83 * i + k) hi hk rfl
  exact tw_w h h1 h2 h3
theorem tw_n0 {σ τ : St} {B0 : Nat} {P : Nat → Int32} {v : Int32} (h : toW σ τ B0 P) : toW σ (wr τ B0 1 v) B0 (upd P 0 v) := tw_w h (x := 0) (by omega) rfl rfl
theorem tw_n507 {σ τ : St} {B0 : Nat} {P : Nat → Int32} {v : Int32} (h : toW σ τ B0 P) : toW σ (wr τ B0 3 v) B0 (upd P 507 v) := tw_w h (x := 507) (by omega) rfl rfl
theorem tw_n548 {σ τ : St} {B0 : Nat} {P : Nat → Int32} {v : Int32} (h : toW σ τ B0 P) : toW σ (wr τ B0 4 v) B0 (upd P 548 v) := tw_w h (x := 548) (by omega) rfl rfl
theorem tw_n505 {σ τ : St} {B0 : Nat} {P : Nat → Int32} {v : Int32} (h : toW σ τ B0 P) : toW σ (wr τ B0 6 v) B0 (upd P 505 v) := tw_w h (x := 505) (by omega) rfl rfl
theorem tw_n506 {σ τ : St} {B0 : Nat} {P : Nat → Int32} {v : Int32} (h : toW σ τ B0 P) : toW σ (wr τ B0 7 v) B0 (upd P 506 v) := tw_w h (x := 506) (by omega) rfl rfl
theorem tw_n562 {σ τ : St} {B0 : Nat} {P : Nat → Int32} {v : Int32} (h : toW σ τ B0 P) : toW σ (wr τ B0 10 v) B0 (upd P 562 v) := tw_w h (x := 562) (by omega) rfl rfl
theorem tw_n563 {σ τ : St} {B0 : Nat} {P : Nat → Int32} {v : Int32} (h : toW σ τ B0 P) : toW σ (wr τ B0 11 v) B0 (upd P 563 v) := tw_w h (x := 563) (by omega) rfl rfl
theorem vp6 : ¬ (6 : Int32) < 0 ∧ (6 : Int32).toNatClampNeg ≤ 6 ∧ (6 : Int32).toNatClampNeg ≤ 6 := by decide
/-- all that shows is copied from the world at B1 to the world at B0 -/
theorem s_8_copyFrom {c n l B0 B1 : Nat} {Q : St → Prop} {σ : St} (ok : okP c n l (pgW σ B1)) (hd : B0 + 34 ≤ B1 ∨ B1 + 34 ≤ B0) (h : ∀ τ P, toW σ τ B0 P → (∀ y, vis n l y → P y = pgW σ B1 y) → Q τ) : m_8_copyFrom B0 B1 Q σ := by
  unfold m_8_copyFrom
  have hn := ok.1.1
  have h6 := ok.1.2.1
  have hl := ok.1.2.2.1
  have h10 := ok.1.2.2.2
  intro σ1 e1
  have far : ∀ {τ P}, toW σ τ B0 P → ∀ a, B1 ≤ a → a < B1 + 34 → τ.1 a = σ.1 a := fun ht a h1 h2 => ht.2.1 a (by omega)
  refine it_cnt (fun (k : Nat) (A : Int32 → St → Prop) => ∀ τ P, toW σ τ B0 P → P 0 = nI n → (∀ y, 1 ≤ y → y < 1 + 83 * k → P y = pgW σ B1 y) → A (nI k) τ) n (by omega) ?_ ?_ σ1 (upd (pgW σ B0) 0 (nI n)) ?_ upd_s ?_
  · intro k hk A hA τ P hτ h0 hs
    unfold m_8_copyFrom_10
    rw [g0, hτ.g, h0]
    refine ⟨fun q => absurd q (nle_of hk (by omega)), fun _ => ⟨vin (by omega), vin (by omega), ?_⟩⟩
    rw [tn k (by omega)]
    have fs : ∀ a, a < 3 → τ.1 (B1 + 1 + 5 + 3 * k + a) = σ.1 (B1 + 1 + 5 + 3 * k + a) := fun a ha => far hτ _ (by omega) (by omega)
    refine s_6_copyFrom (by omega) (fun j hj => ?_) ?_
    · rw [fs 2 (by omega), gpa σ B1 (by omega) hj]
      exact (ok.2.2.1 k j hk hj).2
    · obtain ⟨P', w1, w2, w3, w4, w5⟩ := hτ.wrS (i := k) (c := fun j => if j < 3 then τ.1 (B1 + 1 + 5 + 3 * k) j else τ.1 (B0 + 1 + 5 + 3 * k) j) (d := fun j => if j < 40 then τ.1 (B1 + 1 + 5 + 3 * k + 1) j else τ.1 (B0 + 1 + 5 + 3 * k + 1) j) (k := fun j => if j < 40 then τ.1 (B1 + 1 + 5 + 3 * k + 2) j else τ.1 (B0 + 1 + 5 + 3 * k + 2) j) (by omega)
      intro x ex
      rw [ex, li, nI_add]
      refine hA _ P' w1 (by rw [w2 0 (by omega)]; exact h0) (fun y hy1 hy2 => ?_)
      by_cases q : y < 1 + 83 * k
      · rw [w2 y (by omega)]
        exact hs y hy1 q
      · obtain ⟨r, rfl⟩ : ∃ r, y = 1 + 83 * k + r := ⟨y - (1 + 83 * k), by omega⟩
        by_cases q1 : r < 3
        · rw [w3 r q1, if_pos q1, ← gst σ B1 (by omega) q1]
          exact congrFun (fs 0 (by omega)) r
        · by_cases q2 : r < 43
          · have w4 := w4 (r - 3) (by omega)
            rw [show 4 + 83 * k + (r - 3) = 1 + 83 * k + r by omega] at w4
            rw [w4, if_pos (by omega), fs 1 (by omega), gdi σ B1 (by omega) (by omega)]
            congr 1
            omega
          · have w5 := w5 (r - 43) (by omega)
            rw [show 44 + 83 * k + (r - 43) = 1 + 83 * k + r by omega] at w5
            rw [w5, if_pos (by omega), fs 2 (by omega), gpa σ B1 (by omega) (by omega)]
            congr 1
            omega
  · intro A τ P hτ h0 hs
    unfold m_8_copyFrom_10
    rw [g0, hτ.g, h0]
    refine ⟨fun _ σ2 e2 => ?_, fun q => absurd ((lei (by omega) (by omega)).mpr (Nat.le_refl n)) q⟩
    rw [far hτ B1 (by omega) (by omega), g507, hl] at e2
    have hτ2 := tw_n507 hτ (v := nI l)
    rw [← e2] at hτ2
    refine it_cnt (fun (k : Nat) (A : Int32 → St → Prop) => ∀ τ P, toW σ τ B0 P → P 507 = nI l → P 0 = nI n → (∀ y, 1 ≤ y → y < 1 + 83 * n → P y = pgW σ B1 y) → (∀ y, 508 ≤ y → y < 508 + 4 * k → P y = pgW σ B1 y) → A (nI k) τ) l (by omega) ?_ ?_ σ2 _ hτ2 upd_s (by rw [upd_n (by omega)]; exact h0) (fun y h1 h2 => by rw [upd_n (by omega)]; exact hs y h1 h2) (fun y h1 h2 => by omega)
    · intro k hk A hA τ P hτ hp h0 hs hg
      unfold m_8_copyFrom_49
      rw [g507, hτ.g, hp]
      refine ⟨fun q => absurd q (nle_of hk (by omega)), fun _ => ⟨vin (by omega), vin (by omega), ?_⟩⟩
      rw [tn k (by omega)]
      refine s_1_cp hτ (by omega) (by omega) (fun τ' h' x ex => ?_)
      rw [ex, li, nI_add]
      refine hA τ' _ h' ?_ ?_ (fun y h1 h2 => ?_) (fun y h1 h2 => ?_)
      · iterate 4 rw [upd_n (by omega)]
        exact hp
      · iterate 4 rw [upd_n (by omega)]
        exact h0
      · iterate 4 rw [upd_n (by omega)]
        exact hs y h1 h2
      · have fl : ∀ f, f < 4 → τ.1 (B1 + 2 + 22 + k) f = pgW σ B1 (508 + 4 * k + f) := fun f hf => by rw [far hτ _ (by omega) (by omega), gle σ B1 (by omega) hf]
        rw [fl 0 (by omega), fl 1 (by omega), fl 2 (by omega), fl 3 (by omega)]
        simp only [rd_upd]
        split
        · rename_i q; rw [q]
        · split
          · rename_i q; rw [q]
          · split
            · rename_i q; rw [q]
            · split
              · rename_i q; rw [q]
              · exact hg y h1 (by omega)
    · intro A τ P hτ hp h0 hs hg
      unfold m_8_copyFrom_49
      rw [g507, hτ.g, hp]
      refine ⟨fun _ => ?_, fun q => absurd ((lei (by omega) (by omega)).mpr (Nat.le_refl l)) q⟩
      have r0 : ∀ {τ P}, toW σ τ B0 P → ∀ j, τ.1 B1 j = σ.1 B1 j := fun ht j => by rw [far ht B1 (by omega) (by omega)]
      refine ⟨by rw [r0 hτ, g548]; exact ok.2.2.2.2.2.1, fun σ1 e1 => ?_⟩
      have t1 := tw_n548 hτ (v := τ.1 B1 4)
      rw [← e1, r0 hτ, g548] at t1
      refine ⟨vp6.1, vp6.2.1, vp6.2.2, fun σ2 e2 => ?_⟩
      obtain ⟨P2, t2, p2a, p2b⟩ := t1.six (b := 3) (x0 := 499) (f := va_cpy (σ1.1 (B1 + 3)) (σ1.1 (B0 + 3)) 0 0 (6 : Int32).toNatClampNeg) (Or.inl ⟨rfl, rfl⟩)
      rw [← e2] at t2
      intro σ3 e3
      have t3 := tw_n505 t2 (v := σ2.1 B1 6)
      rw [← e3, r0 t2, g505] at t3
      intro σ4 e4
      have t4 := tw_n506 t3 (v := σ3.1 B1 7)
      rw [← e4, r0 t3, g506] at t4
      refine ⟨vp6.1, vp6.2.1, vp6.2.2, fun σ5 e5 => ?_⟩
      obtain ⟨P5, t5, p5a, p5b⟩ := t4.six (b := 4) (x0 := 556) (f := va_cpy (σ4.1 (B1 + 4)) (σ4.1 (B0 + 4)) 0 0 (6 : Int32).toNatClampNeg) (Or.inr (Or.inl ⟨rfl, rfl⟩))
      rw [← e5] at t5
      unfold m_4_copyFrom
      have r5 : ∀ {τ P}, toW σ τ B0 P → ∀ j, j < 6 → τ.1 (B1 + 5) j = pgW σ B1 (549 + j) := fun ht j hj => by rw [far ht _ (by omega) (by omega), grep σ B1 hj]
      intro σ6 e6
      have t6 := tw_rep t5 (k := 0) (v := σ5.1 (B1 + 5) 0) (by omega)
      rw [← e6, r5 t5 0 (by omega)] at t6
      intro σ7 e7
      have t7 := tw_rep t6 (k := 1) (v := σ6.1 (B1 + 5) 1) (by omega)
      rw [← e7, r5 t6 1 (by omega)] at t7
      intro σ8 e8
      have t8 := tw_rep t7 (k := 2) (v := σ7.1 (B1 + 5) 2) (by omega)
      rw [← e8, r5 t7 2 (by omega)] at t8
      intro σ9 e9
      have t9 := tw_rep t8 (k := 3) (v := σ8.1 (B1 + 5) 3) (by omega)
      rw [← e9, r5 t8 3 (by omega)] at t9
      intro σ10 e10
      have t10 := tw_rep t9 (k := 4) (v := σ9.1 (B1 + 5) 4) (by omega)
      rw [← e10, r5 t9 4 (by omega)] at t10
      intro σ11 e11
      have t11 := tw_rep t10 (k := 5) (v := σ10.1 (B1 + 5) 5) (by omega)
      rw [← e11, r5 t10 5 (by omega)] at t11
      intro σ12 e12
      have t12 := tw_n562 t11 (v := σ11.1 B1 10)
      rw [← e12, r0 t11, g562] at t12
      intro σ13 e13
      have t13 := tw_n563 t12 (v := σ12.1 B1 11)
      rw [← e13, r0 t12, g563] at t13
      refine h σ13 _ t13 (fun y hv => ?_)
      simp only [rd_upd]
      have six : ∀ j, j < 6 → va_cpy (σ1.1 (B1 + 3)) (σ1.1 (B0 + 3)) 0 0 (6 : Int32).toNatClampNeg j = pgW σ B1 (499 + j) := fun j hj => by
        rw [tn6]
        unfold va_cpy
        rw [if_pos (by omega), show 0 + (j - 0) = j by omega, far t1 _ (by omega) (by omega), gset σ B1 hj]
      have six2 : ∀ j, j < 6 → va_cpy (σ4.1 (B1 + 4)) (σ4.1 (B0 + 4)) 0 0 (6 : Int32).toNatClampNeg j = pgW σ B1 (556 + j) := fun j hj => by
        rw [tn6]
        unfold va_cpy
        rw [if_pos (by omega), show 0 + (j - 0) = j by omega, far t4 _ (by omega) (by omega), gsum σ B1 hj]
      have go : P5 y = if y = 506 then pgW σ B1 506 else if y = 505 then pgW σ B1 505 else if y < 499 ∨ 505 ≤ y ∧ (y < 556 ∨ 562 ≤ y) then (if y = 548 then pgW σ B1 548 else P y) else pgW σ B1 y := by
        by_cases q5 : y < 556 ∨ 562 ≤ y
        · rw [p5a y (by omega)]
          simp only [rd_upd]
          by_cases q6 : y = 506
          · rw [if_pos q6, if_pos q6]
          · rw [if_neg q6, if_neg q6]
            by_cases q7 : y = 505
            · rw [if_pos q7, if_pos q7]
            · rw [if_neg q7, if_neg q7]
              by_cases q8 : y < 499 ∨ 505 ≤ y
              · rw [if_pos (show y < 499 ∨ 505 ≤ y ∧ (y < 556 ∨ 562 ≤ y) from by omega), p2a y (by omega), rd_upd]
              · obtain ⟨j, rfl⟩ : ∃ j, y = 499 + j := ⟨y - 499, by omega⟩
                rw [p2b j (by omega), six j (by omega), if_neg (by omega)]
        · obtain ⟨j, rfl⟩ : ∃ j, y = 556 + j := ⟨y - 556, by omega⟩
          rw [p5b j (by omega), six2 j (by omega), if_neg (by omega), if_neg (by omega), if_neg (by omega)]
      rw [go]
      have ep : y < 499 ∨ 505 ≤ y ∧ (y < 556 ∨ 562 ≤ y) → y ≠ 548 → y ≠ 505 → y ≠ 506 → y < 549 → P y = pgW σ B1 y := fun h1 h2 h3 h4 h5 => by
        rcases (by omega : y = 0 ∨ (1 ≤ y ∧ y < 499) ∨ y = 507 ∨ (508 ≤ y ∧ y < 548)) with q | q | q | q
        · subst q; rw [h0]; exact hn.symm
        · exact hs y q.1 (hv.2.2.1 q.1 q.2)
        · subst q; rw [hp]; exact hl.symm
        · exact hg y q.1 (hv.2.2.2 q.1 q.2)
      have h555 := hv.2.1
      have h564 := hv.1
      iterate 10 refine ite_e (fun q => by rw [q]) (fun _ => ?_)
      refine ite_e (fun q => ite_e (fun q => by rw [q]) (fun _ => ep q (by omega) (by omega) (by omega) (by omega))) (fun _ => rfl)
  · rw [e1, g0, hn]
    exact tw_n0 toW.rf
  · intro y h1 h2
    omega
