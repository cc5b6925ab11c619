-- load: the model
theorem s_10_read3 {m : Nat} {T : Nat → Nat} {σ τ : St} {M : Nat → Int32} {E G : St → Prop} (hT : TX m T) (C : TM m T σ) (S : mS σ τ 0 M)
    (hE : (rdA T).1 ≠ 0 → ∀ υ, mE σ υ (rdA T).1 (rdA T).2 → E υ)
    (hG : (rdA T).1 = 0 → ∀ υ N, mF σ υ → υ.1 354 4 = 0 → υ.1 357 = N → N 0 = nI (vN T) → N 1 = nI (vD T) → N 2 = nI (vT T) → (∀ s k, s < 2 → k < vN T → N (3 + (20 * s + k)) = nI (cV T (20 * s + k)) ∧ N (43 + (20 * s + k)) = nI (cP T (20 * s + k))) → G υ) :
    m_10_readsDistance 354 (fun (v_6 : Int32) (σ_5 : St) => ((v_6 = 0 → E σ_5) ∧ (¬ v_6 = 0 → m_10_readsTrees 354 (fun (v_8 : Int32) (σ_7 : St) => ((v_8 = 0 → E σ_7) ∧ (¬ v_8 = 0 → m_10_readsSides 354 (fun (v_10 : Int32) (σ_9 : St) => ((¬ v_10 = 0 → G σ_9) ∧ (v_10 = 0 → E σ_9))) σ_7))) σ_5))) τ := by
  have bad : ∀ k x υ, rdA T = (k, x) → k ≠ 0 → mE σ υ k x → E υ := fun k x υ e hk es => by
    rw [e] at hE
    exact hE hk υ es
  refine s_10_readsDistance hT C S (fun q1 υ1 S1 => ⟨fun q => absurd q (by decide), fun _ => ?_⟩) (fun q1 υ1 es => ⟨fun _ => bad _ _ υ1 ?_ q1 es, fun q => absurd rfl q⟩)
  rotate_left
  · unfold rdA
    rw [if_neg q1]
  obtain ⟨a1, a2⟩ := rdD_ok q1
  refine s_10_readsTrees hT C (by omega) S1 (fun q2 υ2 S2 => ⟨fun q => absurd q (by decide), fun _ => ?_⟩) (fun q2 υ2 es => ⟨fun _ => bad _ _ υ2 ?_ q2 es, fun q => absurd rfl q⟩)
  rotate_left
  · unfold rdA
    rw [if_pos q1, if_neg q2]
    rfl
  obtain ⟨b1, b2⟩ := rdT_ok q2
  have bi2 : i2 T = i1 T + 2 := b2
  have S2 : mS σ υ2 (i2 T) (upd (upd M 1 (nI (vD T))) 2 (nI (vT T))) := S2
  have w20 := cnL_le T 20 (i2 T)
  have e0 : cnL T (i2 T) 20 = 0 ∨ T (i2 T + cnL T (i2 T) 20) ≠ 47 → rdA T = (1, i2 T + cnL T (i2 T) 20) := fun g => by
    have e : rdL T (i2 T) = (1, i2 T + cnL T (i2 T) 20, 0) := rdLw_0 g
    have q3 : ¬ (rdL T (i2 T)).1 = 0 := by rw [e]; exact Nat.one_ne_zero
    unfold rdA i3
    rw [if_pos q1, if_pos q2, if_neg q3, e]
  have e1 : 1 ≤ cnL T (i2 T) 20 → T (i2 T + cnL T (i2 T) 20) = 47 → i3 T = i2 T + cnL T (i2 T) 20 + 1 ∧ vN T = cnL T (i2 T) 20 ∧ rdA T = rdR T (i3 T) (vN T) := fun g1 g2 => by
    have e : rdL T (i2 T) = (0, i2 T + cnL T (i2 T) 20 + 1, cnL T (i2 T) 20) := rdLw_1 g1 g2
    have q3 : (rdL T (i2 T)).1 = 0 := by rw [e]
    refine ⟨by unfold i3; rw [e], by unfold vN; rw [e], ?_⟩
    unfold rdA
    rw [if_pos q1, if_pos q2, if_pos q3]
  refine s_10_readsSides (n := cnL T (i2 T) 20) (q := cnL T (i2 T + cnL T (i2 T) 20 + 1) (cnL T (i2 T) 20)) hT C (by omega) S2 w20 (fun j hj => cnL_in 20 _ j hj) (fun h => cnL_out 20 _ h) (cnL_le T _ _) (fun j hj => cnL_in _ _ j hj) (fun h => cnL_out _ _ h) (fun g1 g2 g3 g4 υ p S3 => ⟨fun _ => ?_, fun q => absurd q (by decide)⟩) (fun g υ es => ⟨fun q => absurd rfl q, fun _ => bad _ _ υ (e0 g) (by decide) es⟩) (fun g1 g2 g υ es => ⟨fun q => absurd rfl q, fun _ => bad 1 (i2 T + cnL T (i2 T) 20 + 1 + cnL T (i2 T + cnL T (i2 T) 20 + 1) (cnL T (i2 T) 20)) υ ?_ (by decide) es⟩)
  · obtain ⟨f1, f2, f3⟩ := e1 g1 g2
    rw [← f1, ← f2] at S3 g3 g4
    rw [← f2] at w20
    have eR : rdA T = (0, 0) := by rw [f3]; exact rdRw_1 g3 g4
    obtain ⟨c1, c2, c3⟩ := gM_c (T := T) (M := upd (upd M 1 (nI (vD T))) 2 (nI (vT T))) w20
    refine hG (by rw [eR]) υ _ S3.1 S3.2.2.1 S3.2.2.2 c3 ?_ ?_ c1
    · rw [c2 1 (by omega) (by omega), upd_n (by omega), upd_s]
    · rw [c2 2 (by omega) (by omega), upd_s]
  · obtain ⟨f1, f2, f3⟩ := e1 g1 g2
    rw [← f1, ← f2] at g ⊢
    rw [f3]
    exact rdRw_0 (cnL_le T (vN T) (i3 T)) g
/-- behind the record and the sums: the street is laid -/
theorem s_10_load118 {n x : Nat} {T : Nat → Nat} {p N : Nat → Int32} {σ11 τ : St} {Q : Int32 → St → Prop} (hx6 : x < 6) (r3 : 1 ≤ vN T) (r4 : vN T ≤ 20) (M0 : modE σ11 τ) (w : τ.1 357 = N) (n0 : N 0 = nI (vN T)) (n1 : N 1 = nI (vD T)) (n2 : N 2 = nI (vT T)) (n3 : ∀ s k, s < 2 → k < vN T → N (3 + (20 * s + k)) = nI (cV T (20 * s + k)) ∧ N (43 + (20 * s + k)) = nI (cP T (20 * s + k)))
    (p0 : τ.1 355 0 = nI (if x < n then n else n + 1)) (p1 : τ.1 355 548 = 0) (p2 : τ.1 355 558 = (if x < n then p 558 + (sD p (4 + 83 * x) (cellsN p x) + sD p (24 + 83 * x) (cellsN p x)) else p 558)) (p3 : ∀ y, y < 564 → y ≠ 0 → y ≠ 548 → y ≠ 558 → τ.1 355 y = p y)
    (hQ : ∀ υ, modE σ11 υ → ldS n x T p (υ.1 355) → Q (nI (vN T)) υ) : m_10_load_118 354 (nI x) Q τ := by
  unfold m_10_load_118
  rw [tn0, tn1, tn2, show (354 + 3 : Nat) = 357 from rfl, w, n0, n1, n2]
  refine ⟨vin (by decide), vin (by decide), vin (by decide), ?_⟩
  refine s_10_empties hx6 (fun τ1 M1 a0 a1 a2 a3 a4 a5 => ?_)
  have w1 : τ1.1 357 = N := by rw [a5 357 (by omega)]; exact w
  refine it_cnt (fun (k : Nat) (A : Int32 → St → Prop) => ∀ υ, modE σ11 υ → υ.1 357 = N → (∀ y, (y < 4 + 83 * x ∨ 84 + 83 * x ≤ y) → υ.1 355 y = τ1.1 355 y) → (∀ y, y < 40 → υ.1 355 (4 + 83 * x + y) = (if 2 * (y % 20) + y / 20 < k then nI (cV T y) else 0) ∧ υ.1 355 (44 + 83 * x + y) = (if 2 * (y % 20) + y / 20 < k then nI (cP T y) else 0)) → A (nI k) υ) (2 * vN T) (by omega) ?_ ?_ τ1 (M0.tr M1) w1 (fun _ _ => rfl) (fun y hy => ?_)
  rotate_left 2
  · rw [if_neg (Nat.not_lt_zero _), if_neg (Nat.not_lt_zero _), a3 y (by omega)]
    refine ⟨rfl, ?_⟩
    have := a3 (40 + y) (by omega)
    rw [show 4 + 83 * x + (40 + y) = 44 + 83 * x + y by omega] at this
    exact this
  · intro k hk A hA υ M wυ b1 b2
    unfold m_10_load_143
    rw [tn0, show (354 + 3 : Nat) = 357 from rfl, wυ, n0, mul2]
    refine ⟨vin (by decide), fun q => absurd q (nle_of hk (by omega)), fun _ => ?_⟩
    rw [rem2 (by omega), div2 (by omega)]
    refine s_10_placeOf ?_
    obtain ⟨m1, m2⟩ := n3 (k % 2) (k / 2) (by omega) (by omega)
    rw [li 3, li 43, nI_add, nI_add, tn _ (by omega), tn _ (by omega), wυ, m1]
    refine ⟨vin (by omega), s_10_sets hx6 (by omega) ⟨vin (by omega), ?_⟩⟩
    rw [wr_cell (by omega), wυ, m2]
    refine s_10_sets hx6 (by omega) ?_
    intro x' ex'
    rw [ex', iplus]
    have wp : (wr (wr υ (354 + 1) (1 + 83 * x + (3 + (20 * (k % 2) + k / 2))) (nI (cV T (20 * (k % 2) + k / 2)))) (354 + 1) (1 + 83 * x + (43 + (20 * (k % 2) + k / 2))) (nI (cP T (20 * (k % 2) + k / 2)))).1 355 = upd (upd (υ.1 355) (1 + 83 * x + (3 + (20 * (k % 2) + k / 2))) (nI (cV T (20 * (k % 2) + k / 2)))) (1 + 83 * x + (43 + (20 * (k % 2) + k / 2))) (nI (cP T (20 * (k % 2) + k / 2))) := by
      refine wr_at.trans ?_
      rw [wr_at]
    refine hA _ ((M.p (by omega)).p (by omega)) (by rw [wr_cell (by omega), wr_cell (by omega)]; exact wυ) (fun y hy => ?_) (fun y hy => ?_)
    · rw [wp, upd_n (by omega), upd_n (by omega)]
      exact b1 y hy
    · obtain ⟨z1, z2⟩ := b2 y hy
      rw [wp]
      by_cases q : y = 20 * (k % 2) + k / 2
      · have qk : 2 * (y % 20) + y / 20 = k := by omega
        refine ⟨?_, ?_⟩
        · rw [upd_n (by omega), show 4 + 83 * x + y = 1 + 83 * x + (3 + (20 * (k % 2) + k / 2)) by omega, upd_s, if_pos (by omega), q]
        · rw [show 44 + 83 * x + y = 1 + 83 * x + (43 + (20 * (k % 2) + k / 2)) by omega, upd_s, if_pos (by omega), q]
      · have qk : 2 * (y % 20) + y / 20 ≠ k := by omega
        refine ⟨?_, ?_⟩
        · rw [upd_n (by omega), upd_n (by omega), z1]
          by_cases q2 : 2 * (y % 20) + y / 20 < k
          · rw [if_pos q2, if_pos (by omega)]
          · rw [if_neg q2, if_neg (by omega)]
        · rw [upd_n (by omega), upd_n (by omega), z2]
          by_cases q2 : 2 * (y % 20) + y / 20 < k
          · rw [if_pos q2, if_pos (by omega)]
          · rw [if_neg q2, if_neg (by omega)]
  · intro A υ M wυ b1 b2
    unfold m_10_load_143
    rw [tn0, show (354 + 3 : Nat) = 357 from rfl, wυ, n0, mul2]
    refine ⟨vin (by decide), fun _ => ?_, fun q => absurd ((lei (by omega) (by omega)).mpr (Nat.le_refl _)) q⟩
    have hc : υ.1 355 (1 + 83 * x) = nI (vN T) := by rw [b1 _ (by omega)]; exact a0
    have vC : ∀ y, y < 40 → υ.1 355 (4 + 83 * x + y) = nI (cV T y) := fun y hy => by
      rw [(b2 y hy).1]
      by_cases q : 2 * (y % 20) + y / 20 < 2 * vN T
      · rw [if_pos q]
      · rw [if_neg q]
        unfold cV
        by_cases q2 : 20 ≤ y
        · rw [if_pos q2, if_neg (by omega)]; rfl
        · rw [if_neg q2, if_neg (by omega)]; rfl
    have vP : ∀ y, y < 40 → υ.1 355 (44 + 83 * x + y) = nI (cP T y) := fun y hy => by
      rw [(b2 y hy).2]
      by_cases q : 2 * (y % 20) + y / 20 < 2 * vN T
      · rw [if_pos q]
      · rw [if_neg q]
        unfold cP
        by_cases q2 : 20 ≤ y
        · rw [if_pos q2, if_neg (by omega)]; rfl
        · rw [if_neg q2, if_neg (by omega)]; rfl
    have eS : ∀ s, s < 2 → sD (υ.1 (354 + 1)) (4 + 83 * x + 20 * s) (vN T) = sD (fun y => nI (cV T y)) (20 * s) (vN T) := fun s hs => sD_eq _ (fun k hk => by rw [show (354 + 1 : Nat) = 355 from rfl, show 4 + 83 * x + 20 * s + k = 4 + 83 * x + (20 * s + k) by omega]; exact vC _ (by omega))
    refine s_10_sideSum (s := 0) hx6 (by omega) hc r4 (s_10_sideSum (s := 1) hx6 (by omega) hc r4 (s_10_books (k := 0) (by omega) ⟨vin (by decide), ?_⟩))
    rw [eS 0 (by omega), eS 1 (by omega), show (354 + 1 : Nat) = 355 from rfl, wr_cell (by omega), wυ, n0]
    have wf : ∀ v, (wr υ 355 (556 + 0) v).1 355 = upd (υ.1 355) 556 v := fun v => wr_at
    refine hQ _ (M.p (by omega)) ?_
    rw [wf, show (20 * 0 : Nat) = 0 from rfl, show (20 * 1 : Nat) = 20 from rfl]
    refine ⟨?_, ?_, ?_, ?_, ?_, fun k hk => ⟨?_, ?_⟩, ?_, ?_, fun y g0 g1 g2 g3 g4 g5 => ?_⟩
    · rw [upd_n (by omega), b1 0 (by omega), a4 0 (by omega)]; exact p0
    · rw [upd_n (by omega), b1 548 (by omega), a4 548 (by omega)]; exact p1
    · rw [upd_n (by omega)]; exact hc
    · rw [upd_n (by omega), b1 _ (by omega)]; exact a1
    · rw [upd_n (by omega), b1 _ (by omega)]; exact a2
    · rw [upd_n (by omega)]; exact vC k hk
    · rw [upd_n (by omega)]; exact vP k hk
    · rw [upd_s, b1 _ (by omega), a4 _ (by omega), p3 _ (by omega) (by omega) (by omega) (by omega)]
    · rw [upd_n (by omega), b1 558 (by omega), a4 558 (by omega)]; exact p2
    · rw [upd_n g3, b1 y (by omega), a4 y g5]; exact p3 y g0 g1 g2 g4
theorem Inv.ld {c : Nat} {σ τ : St} (I : Inv c σ) (hf : ∀ a, a ≠ 0 → (a < 3 ∨ 6 < a) → a ≠ 354 → a ≠ 357 → τ.1 a = σ.1 a) (h4 : ∀ j, j = 1 ∨ j = 3 → τ.1 354 j = σ.1 354 j) (hF : τ.1 0 8 = τ.1 354 4) : Inv c τ := by
  obtain ⟨hR, ⟨k, x, q1, q2, q3, q4, q5, q6⟩, ⟨m, t1, t2, t3, t4⟩, -⟩ := I
  have w7 : pgW τ 7 = pgW σ 7 := pgW_cg (fun a h1 h2 => hf a (by omega) (by omega) (by omega) (by omega))
  refine ⟨by rw [w7, hf 355 (by omega) (by omega) (by omega) (by omega)]; exact hR, ⟨k, x, q1, q2, by rw [hf 42 (by omega) (by omega) (by omega) (by omega)]; exact q3, by rw [hf 42 (by omega) (by omega) (by omega) (by omega)]; exact q4, by rw [h4 1 (by omega)]; exact q5, fun j hj => ?_⟩, ⟨m, t1, by rw [hf 1 (by omega) (by omega) (by omega) (by omega)]; exact t2, by rw [h4 3 (by omega)]; exact t3, fun j hj => by rw [hf 2 (by omega) (by omega) (by omega) (by omega), hf 356 (by omega) (by omega) (by omega) (by omega)]; exact t4 j hj⟩, hF⟩
  rw [pgW_cg (σ := σ) (fun a h1 h2 => hf a (by omega) (by omega) (by omega) (by omega)), hf 355 (by omega) (by omega) (by omega) (by omega)]
  exact q6 j hj
