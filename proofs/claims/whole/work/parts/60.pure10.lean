-- pages: what a written place leaves as it was
theorem upd_comm {P : Nat → Int32} {x y : Nat} {v w : Int32} (h : x ≠ y) : upd (upd P x v) y w = upd (upd P y w) x v := by
  funext z
  unfold upd
  by_cases h1 : z = y
  · subst h1
    rw [if_pos rfl, if_neg (fun q => h q.symm), if_pos rfl]
  · rw [if_neg h1]
    by_cases h2 : z = x
    · rw [if_pos h2, if_pos h2]
    · rw [if_neg h2, if_neg h2, if_neg h1]
theorem upd_self {P : Nat → Int32} {x : Nat} {v : Int32} (h : P x = v) : upd P x v = P := by
  funext z
  unfold upd
  by_cases h1 : z = x
  · rw [if_pos h1, h1, h]
  · rw [if_neg h1]
theorem upd_upd {P : Nat → Int32} {x : Nat} {v w : Int32} : upd (upd P x v) x w = upd P x w := by
  funext z
  unfold upd
  by_cases h1 : z = x
  · rw [if_pos h1, if_pos h1]
  · rw [if_neg h1, if_neg h1, if_neg h1]
theorem rd_upd {P : Nat → Int32} {x z : Nat} {v : Int32} : upd P x v z = if z = x then v else P z := rfl
/-- the places that okP speaks of -/
def okR (x : Nat) : Prop := x < 508 ∨ (508 ≤ x ∧ x < 548 ∧ (x - 508) % 4 < 2) ∨ x = 548 ∨ x = 562
theorem okP.cg {c n l : Nat} {P p : Nat → Int32} (h : okP c n l P) (e : ∀ x, okR x → vis n l x → p x = P x) : okP c n l p := by
  obtain ⟨⟨h1, h2, h3, h4⟩, h5, h6, h7, ⟨s1, s2, s3, s4, s5, s6, s7⟩, h9, h10⟩ := h
  have lo : ∀ x, x < 508 → vis n l x → p x = P x := fun x hx hv => e x (Or.inl hx) hv
  have es : ∀ x, 499 ≤ x → x < 508 → p x = P x := fun x h1 h2 => lo x h2 (vis_set h1 h2)
  have et : ∀ i k, i < n → k < 83 → p (1 + 83 * i + k) = P (1 + 83 * i + k) := fun i k hi hk => lo _ (by omega) (vis_st hi h2 hk)
  refine ⟨⟨by rw [lo 0 (by omega) vis_0]; exact h1, h2, by rw [es 507 (by omega) (by omega)]; exact h3, h4⟩, fun i hi => ?_, fun i k hi hk => ?_, fun j hj => ?_, ⟨?_, ?_, ?_, ?_, ?_, ?_, ?_⟩, ?_, ?_⟩
  · have e1 := et i 0 hi (by omega)
    have e2 := et i 1 hi (by omega)
    have e3 := et i 2 hi (by omega)
    rw [show 1 + 83 * i + 0 = 1 + 83 * i by omega] at e1
    rw [show 1 + 83 * i + 1 = 2 + 83 * i by omega] at e2
    rw [show 1 + 83 * i + 2 = 3 + 83 * i by omega] at e3
    rw [e1, e2, e3]
    exact h5 i hi
  · have e1 := et i (3 + k) hi (by omega)
    have e2 := et i (43 + k) hi (by omega)
    rw [show 1 + 83 * i + (3 + k) = 4 + 83 * i + k by omega] at e1
    rw [show 1 + 83 * i + (43 + k) = 44 + 83 * i + k by omega] at e2
    rw [e1, e2]
    exact h6 i k hi hk
  · have e1 := e (508 + 4 * j + 0) (Or.inr (Or.inl ⟨by omega, by omega, by omega⟩)) (vis_le hj h4 (by omega))
    have e2 := e (508 + 4 * j + 1) (Or.inr (Or.inl ⟨by omega, by omega, by omega⟩)) (vis_le hj h4 (by omega))
    rw [show 508 + 4 * j + 0 = 508 + 4 * j by omega] at e1
    rw [show 508 + 4 * j + 1 = 509 + 4 * j by omega] at e2
    rw [e1, e2]
    exact h7 j hj
  · rw [es 499 (by omega) (by omega)]; exact s1
  · rw [es 500 (by omega) (by omega), es 506 (by omega) (by omega)]; exact s2
  · rw [es 501 (by omega) (by omega)]; exact s3
  · rw [es 502 (by omega) (by omega)]; exact s4
  · rw [es 503 (by omega) (by omega)]; exact s5
  · rw [es 504 (by omega) (by omega)]; exact s6
  · rw [es 505 (by omega) (by omega)]; exact s7
  · rw [e 548 (Or.inr (Or.inr (Or.inl rfl))) (vis_hi (by omega) (by omega) (by omega))]; exact h9
  · rw [e 562 (Or.inr (Or.inr (Or.inr rfl))) (vis_hi (by omega) (by omega) (by omega))]; exact h10
theorem okP.inert {c n l x : Nat} {P : Nat → Int32} {v : Int32} (h : okP c n l P) (hx : ¬ okR x) : okP c n l (upd P x v) :=
  h.cg (fun y hy _ => upd_n (fun q => hx (q ▸ hy)))
theorem inert_hi {x : Nat} (h1 : 549 ≤ x) (h2 : x ≠ 562) : ¬ okR x := by unfold okR; omega
theorem inert_leg {j f : Nat} (hj : j < 10) (h1 : 2 ≤ f) (h2 : f < 4) : ¬ okR (508 + 4 * j + f) := by unfold okR; omega
theorem okP.dirt {c n l i k w : Nat} {P : Nat → Int32} (h : okP c n l P) (hi : i < n) (hk : k < 40) (hw : w ≤ 99) : okP c n l (upd P (4 + 83 * i + k) (nI w)) := by
  obtain ⟨⟨h1, h2, h3, h4⟩, h5, h6, h7, s, h9, h10⟩ := h
  refine ⟨⟨by rw [upd_n (by omega)]; exact h1, h2, by rw [upd_n (by omega)]; exact h3, h4⟩, fun a ha => ?_, fun a b ha hb => ?_, fun j hj => ?_, ?_, ?_, ?_⟩
  · rw [upd_n (by omega), upd_n (by omega), upd_n (by omega)]
    exact h5 a ha
  · refine ⟨?_, by rw [upd_n (by omega)]; exact (h6 a b ha hb).2⟩
    rw [rd_upd]
    split
    · exact ⟨w, rfl, hw⟩
    · exact (h6 a b ha hb).1
  · rw [upd_n (by omega), upd_n (by omega)]
    exact h7 j hj
  · iterate 8 rw [upd_n (by omega)]
    exact s
  · rw [upd_n (by omega)]; exact h9
  · rw [upd_n (by omega)]; exact h10
theorem okP.park {c n l i k : Nat} {P : Nat → Int32} {v : Int32} (h : okP c n l P) (hi : i < n) (hk : k < 40) (hw : isB v) : okP c n l (upd P (44 + 83 * i + k) v) := by
  obtain ⟨⟨h1, h2, h3, h4⟩, h5, h6, h7, s, h9, h10⟩ := h
  refine ⟨⟨by rw [upd_n (by omega)]; exact h1, h2, by rw [upd_n (by omega)]; exact h3, h4⟩, fun a ha => ?_, fun a b ha hb => ?_, fun j hj => ?_, ?_, ?_, ?_⟩
  · rw [upd_n (by omega), upd_n (by omega), upd_n (by omega)]
    exact h5 a ha
  · refine ⟨by rw [upd_n (by omega)]; exact (h6 a b ha hb).1, ?_⟩
    rw [rd_upd]
    split
    · exact hw
    · exact (h6 a b ha hb).2
  · rw [upd_n (by omega), upd_n (by omega)]
    exact h7 j hj
  · iterate 8 rw [upd_n (by omega)]
    exact s
  · rw [upd_n (by omega)]; exact h9
  · rw [upd_n (by omega)]; exact h10
/-- one of the places 499 to 506 is set anew -/
theorem okP.sets {c n l x : Nat} {P : Nat → Int32} {v : Int32} (h : okP c n l P) (h1 : 499 ≤ x) (h2 : x < 507) (hs : (∃ v', upd P x v 499 = nI v' ∧ 1 ≤ v' ∧ v' ≤ 4) ∧ (∃ cap h, upd P x v 500 = nI cap ∧ upd P x v 506 = nI h ∧ 20 ≤ cap ∧ cap ≤ 2000 ∧ h ≤ cap) ∧ (∃ v', upd P x v 501 = nI v' ∧ v' ≤ 9) ∧ (∃ v', upd P x v 502 = nI v' ∧ 100 ≤ v' ∧ v' ≤ 6000) ∧ (∃ v', upd P x v 503 = nI v' ∧ v' ≤ 1000) ∧ (∃ v', upd P x v 504 = nI v' ∧ v' ≤ 400) ∧ (∃ v', upd P x v 505 = nI v' ∧ v' ≤ 1000)) : okP c n l (upd P x v) := by
  obtain ⟨⟨h3, h4, h5, h6⟩, h7, h8, h9, s, h10, h11⟩ := h
  refine ⟨⟨by rw [upd_n (by omega)]; exact h3, h4, by rw [upd_n (by omega)]; exact h5, h6⟩, fun a ha => ?_, fun a b ha hb => ?_, fun j hj => ?_, hs, ?_, ?_⟩
  · rw [upd_n (by omega), upd_n (by omega), upd_n (by omega)]
    exact h7 a ha
  · rw [upd_n (by omega), upd_n (by omega)]
    exact h8 a b ha hb
  · rw [upd_n (by omega), upd_n (by omega)]
    exact h9 j hj
  · rw [upd_n (by omega)]; exact h10
  · rw [upd_n (by omega)]; exact h11
theorem okP.brush {c n l w : Nat} {P : Nat → Int32} (h : okP c n l P) (hw : w ≤ 1000) : okP c n l (upd P 505 (nI w)) := by
  refine h.sets (by omega) (by omega) ?_
  obtain ⟨s1, s2, s3, s4, s5, s6, s7⟩ := h.2.2.2.2.1
  exact ⟨s1, s2, s3, s4, s5, s6, ⟨w, upd_s, hw⟩⟩
theorem okP.spare {c n l w : Nat} {P : Nat → Int32} (h : okP c n l P) (hw : w ≤ 9) : okP c n l (upd P 501 (nI w)) := by
  refine h.sets (by omega) (by omega) ?_
  obtain ⟨s1, s2, s3, s4, s5, s6, s7⟩ := h.2.2.2.2.1
  exact ⟨s1, s2, ⟨w, upd_s, hw⟩, s4, s5, s6, s7⟩
theorem okP.load {c n l w cap : Nat} {P : Nat → Int32} (h : okP c n l P) (hc : P 500 = nI cap) (hc2 : cap ≤ 2000) (hw : w ≤ cap) : okP c n l (upd P 506 (nI w)) := by
  refine h.sets (by omega) (by omega) ?_
  obtain ⟨s1, ⟨cap', g, s2, s2b, s2c, s2d, s2e⟩, s3, s4, s5, s6, s7⟩ := h.2.2.2.2.1
  have : cap = cap' := (eqi (by omega) (by omega)).mp (hc.symm.trans s2)
  subst this
  exact ⟨s1, ⟨cap, w, hc, upd_s, s2c, s2d, hw⟩, s3, s4, s5, s6, s7⟩
theorem okP.known {c n l : Nat} {P : Nat → Int32} {v : Int32} (h : okP c n l P) (hw : isB v) : okP c n l (upd P 548 v) := by
  obtain ⟨⟨h3, h4, h5, h6⟩, h7, h8, h9, s, h10, h11⟩ := h
  refine ⟨⟨h3, h4, h5, h6⟩, fun a ha => ?_, fun a b ha hb => ?_, fun j hj => ?_, s, ?_, h11⟩
  · rw [upd_n (by omega), upd_n (by omega), upd_n (by omega)]
    exact h7 a ha
  · rw [upd_n (by omega), upd_n (by omega)]
    exact h8 a b ha hb
  · rw [upd_n (by omega), upd_n (by omega)]
    exact h9 j hj
  · rw [upd_s]; exact hw
theorem okP.shifts {c n l v : Nat} {P : Nat → Int32} (h : okP c n l P) (hw : v ≤ c) : okP c n l (upd P 562 (nI v)) := by
  obtain ⟨⟨h3, h4, h5, h6⟩, h7, h8, h9, s, h10, h11⟩ := h
  refine ⟨⟨h3, h4, h5, h6⟩, fun a ha => ?_, fun a b ha hb => ?_, fun j hj => ?_, s, h10, v, upd_s, hw⟩
  · rw [upd_n (by omega), upd_n (by omega), upd_n (by omega)]
    exact h7 a ha
  · rw [upd_n (by omega), upd_n (by omega)]
    exact h8 a b ha hb
  · rw [upd_n (by omega), upd_n (by omega)]
    exact h9 j hj
theorem EQP.up {n l x : Nat} {P p : Nat → Int32} {v w : Int32} (e : EQP n l P p) (hx : x ≠ 548) (hv : v = w) : EQP n l (upd P x v) (upd p x w) := by
  subst hv
  intro y hy hl
  rw [rd_upd, rd_upd]
  split
  · rfl
  · exact e y hy (fun q => by have := hl q; rw [upd_n (fun q => hx q.symm)] at this; exact this)
theorem eqp_un {n l : Nat} {P p : Nat → Int32} (e : EQP n l P p) : EQP n l (upd P 548 0) (upd p 548 0) := by
  intro y hy hl
  rw [rd_upd, rd_upd]
  split
  · rfl
  · refine e y hy (fun q => ?_)
    have := hl q
    rw [upd_s] at this
    exact absurd rfl this
theorem REL.cg {c : Nat} {P p q : Nat → Int32} (h : REL c P p) (e : ∀ x, x < 564 → q x = p x) : REL c P q := by
  obtain ⟨n, l, h1, h2, h3⟩ := h
  exact ⟨n, l, h1, fun x hx hl => (h2 x hx hl).trans (e x hx.1).symm, (e 555 (by omega)).trans h3⟩
theorem EQP.cgl {n l : Nat} {P P' p : Nat → Int32} (h : EQP n l P p) (e : ∀ x, vis n l x → P' x = P x) : EQP n l P' p := by
  intro x hx hl
  rw [e x hx]
  exact h x hx (fun q => by have := hl q; rw [e 548 (vis_hi (by omega) (by omega) (by omega))] at this; exact this)
theorem REL.cgl {c : Nat} {P P' p : Nat → Int32} (h : REL c P p) (e : ∀ n l, okP c n l P → ∀ x, vis n l x → P' x = P x) : REL c P' p := by
  obtain ⟨n, l, h1, h2, h3⟩ := h
  have e := e n l h1
  exact ⟨n, l, h1.cg (fun x _ hv => e x hv), h2.cgl e, by rw [e 562 (vis_hi (by omega) (by omega) (by omega))]; exact h3⟩
