theorem s_8_removeStreet {c n l B k : Nat} {Q : St → Prop} {σ : St} (ok : okP c n l (pgW σ B)) (hk : k < n) (hQ : ∀ τ P', toW σ τ B P' → drS n l k (pgW σ B) P' → Q τ) : m_8_removeStreet B (nI k) Q σ := by
  obtain ⟨⟨h1, h2, h3, h4⟩, h5, h6, h7, s7, h9, h10⟩ := id ok
  obtain ⟨hv, hv1, hv2⟩ := ok.cells hk
  unfold m_8_removeStreet
  rw [tn k (by omega), tn2]
  refine ⟨vi2, vin (by omega), s_6_allDirt (pg_st (k := 0) (by omega) (by omega) hv) hv2 ⟨vi2, fun σ4 e4 => ?_⟩⟩
  have d0 := sd_pg (σ := σ) (B := B) (i := k) (s := 0) (by omega) (by omega) hv2
  have d1 := sd_pg (σ := σ) (B := B) (i := k) (s := 1) (by omega) (by omega) hv2
  rw [show 4 + 83 * k + 20 * 0 = 4 + 83 * k by omega, show 20 * 0 = 0 from rfl] at d0
  rw [show 4 + 83 * k + 20 * 1 = 24 + 83 * k by omega, show 20 * 1 = 20 from rfl] at d1
  rw [d0, d1, gsum σ B (k := 2) (by omega)] at e4
  have t4 := tw_sum (toW.rf (σ := σ) (B := B)) (k := 2) (v := pgW σ B (556 + 2) + (sD (pgW σ B) (4 + 83 * k) (cellsN (pgW σ B) k) + sD (pgW σ B) (24 + 83 * k) (cellsN (pgW σ B) k))) (by omega)
  rw [← e4] at t4
  refine it_from (fun (j : Nat) (A : Int32 → St → Prop) => ∀ τ P', toW σ τ B P' → (∀ y, 1 + 83 * k ≤ y → y < 1 + 83 * j → P' y = pgW σ B (y + 83)) → (∀ y, y ≠ 558 → (y < 1 + 83 * k ∨ 1 + 83 * j ≤ y) → P' y = pgW σ B y) → P' 558 = pgW σ B (556 + 2) + (sD (pgW σ B) (4 + 83 * k) (cellsN (pgW σ B) k) + sD (pgW σ B) (24 + 83 * k) (cellsN (pgW σ B) k)) → A (nI j) τ) k (n - 1) (by omega) (by omega) ?_ ?_ σ4 _ t4 (fun y g1 g2 => by omega) (fun y g1 g2 => upd_n g1) upd_s
  · intro j hj1 hj A hA τ P' t c1 c2 c3
    unfold m_8_removeStreet_20
    rw [g0, t.g, c2 0 (by omega) (by omega), h1, show (1 : Int32) = nI 1 from rfl, pk_sub (by omega)]
    refine ⟨fun q => absurd q (nle_of hj (by omega)), fun _ => ?_⟩
    rw [nI_add, tn j (by omega), tn (j + 1) (by omega)]
    refine ⟨vin (by omega), vin (by omega), ?_⟩
    have st : ∀ a, a < 3 → τ.1 (B + 1 + 5 + 3 * (j + 1)) a = pgW σ B (1 + 83 * (j + 1) + a) := fun a ha => by rw [gst τ B (by omega) ha, t.g, c2 _ (by omega) (by omega)]
    have di : ∀ a, a < 40 → τ.1 (B + 1 + 5 + 3 * (j + 1) + 1) a = pgW σ B (4 + 83 * (j + 1) + a) := fun a ha => by rw [gdi τ B (by omega) ha, t.g, c2 _ (by omega) (by omega)]
    have pa : ∀ a, a < 40 → τ.1 (B + 1 + 5 + 3 * (j + 1) + 2) a = pgW σ B (44 + 83 * (j + 1) + a) := fun a ha => by rw [gpa τ B (by omega) ha, t.g, c2 _ (by omega) (by omega)]
    refine s_6_copyFrom (by omega) (fun a ha => by rw [pa a ha]; exact (h6 (j + 1) a (by omega) ha).2) (fun x ex => ?_)
    obtain ⟨P1, t1, q1, q2, q3, q4⟩ := t.wrS (i := j) (c := fun a => if a < 3 then τ.1 (B + 1 + 5 + 3 * (j + 1)) a else τ.1 (B + 1 + 5 + 3 * j) a) (d := fun a => if a < 40 then τ.1 (B + 1 + 5 + 3 * (j + 1) + 1) a else τ.1 (B + 1 + 5 + 3 * j + 1) a) (k := fun a => if a < 40 then τ.1 (B + 1 + 5 + 3 * (j + 1) + 2) a else τ.1 (B + 1 + 5 + 3 * j + 2) a) (by omega)
    rw [ex]
    refine hA _ P1 t1 (fun y g1 g2 => ?_) (fun y g1 g2 => ?_) ?_
    · by_cases q : y < 1 + 83 * j
      · rw [q1 y (by omega)]; exact c1 y g1 q
      · obtain ⟨r, rfl⟩ : ∃ r, y = 1 + 83 * j + r := ⟨y - (1 + 83 * j), by omega⟩
        by_cases r1 : r < 3
        · rw [q2 r r1, if_pos r1, st r r1]; congr 1; omega
        · by_cases r2 : r < 43
          · have := q3 (r - 3) (by omega)
            rw [show 4 + 83 * j + (r - 3) = 1 + 83 * j + r by omega] at this
            rw [this, if_pos (by omega), di _ (by omega)]; congr 1; omega
          · have := q4 (r - 43) (by omega)
            rw [show 44 + 83 * j + (r - 43) = 1 + 83 * j + r by omega] at this
            rw [this, if_pos (by omega), pa _ (by omega)]; congr 1; omega
    · rw [q1 y (by omega)]; exact c2 y g1 (by omega)
    · rw [q1 558 (by omega)]; exact c3
  · intro A τ P' t c1 c2 c3
    unfold m_8_removeStreet_20
    rw [g0, t.g, c2 0 (by omega) (by omega), h1, show (1 : Int32) = nI 1 from rfl, pk_sub (by omega)]
    refine ⟨fun _ σ1 e1 => ?_, fun q => absurd ((lei (by omega) (by omega)).mpr (Nat.le_refl (n - 1))) q⟩
    have t1 := tw_n0 t (v := nI (n - 1))
    rw [← e1] at t1
    have lg : ∀ y, 499 ≤ y → y ≠ 558 → upd P' 0 (nI (n - 1)) y = pgW σ B y := fun y g1 g2 => by rw [upd_n (by omega)]; exact c2 y g2 (by omega)
    have ef : (fun j => upd P' 0 (nI (n - 1)) (508 + 4 * j)) = (fun j => pgW σ B (508 + 4 * j)) ∨ True := Or.inr trivial
    have kq : ∀ m, m ≤ l → kpt (fun j => upd P' 0 (nI (n - 1)) (508 + 4 * j)) (nI k) m = kpt (fun j => pgW σ B (508 + 4 * j)) (nI k) m := fun m hm => kpt_eq m (fun j hj => lg _ (by omega) (by omega))
    refine s_8_removeLegsIn (k := k) t1 (by rw [lg 507 (by omega) (by omega)]; exact h3) h4 (fun τ2 P2 t2 d1 d2 d3 σ4 e4 => ?_)
    have t4 := tw_n548 t2 (v := 0)
    rw [← e4] at t4
    rw [kq l (Nat.le_refl l)] at d2
    refine hQ σ4 _ t4 ⟨?_, upd_s, ?_, ?_, fun j hj hne => ?_, fun y g1 g2 => ?_, fun y g1 g2 => ?_, fun y g1 g2 => ?_, fun y g1 g2 => ?_⟩
    · rw [upd_n (by omega), d3 0 (by omega) (by omega)]; exact upd_s
    · rw [upd_n (by omega)]; exact d2
    · rw [upd_n (by omega), d3 558 (by omega) (by omega), upd_n (by omega)]; exact c3
    · have := d1 j hj (by rw [lg _ (by omega) (by omega)]; exact hne)
      rw [kq j (by omega), lg _ (by omega) (by omega), lg _ (by omega) (by omega)] at this
      have kl := kpt_le (fun j => pgW σ B (508 + 4 * j)) (nI k) j
      rw [upd_n (by omega), upd_n (by omega)]
      exact this
    · rw [upd_n (by omega), d3 y (by omega) (by omega), upd_n (by omega)]; exact c2 y (by omega) (by omega)
    · rw [upd_n (by omega), d3 y (by omega) (by omega), upd_n (by omega)]; exact c1 y g1 g2
    · rw [upd_n (by omega), d3 y (by omega) (by omega), upd_n (by omega)]; exact c2 y (by omega) (by omega)
    · rw [upd_n (by omega), d3 y (by omega) (by omega), upd_n (by omega)]; exact c2 y (by omega) (by omega)
theorem stI (k : Nat) : (1 : Int32) + 83 * nI k = nI (1 + 83 * k) := by rw [li 1, li 83, pk_mul, nI_add]
theorem p_dropStreet {c : Nat} {σ : St} {x1 : Int32} {H : Int32 → St → Prop} {K : Int32 → Int32 → St → Prop} (I : Inv c σ) (hH : ∀ v σ1, m_10_dropStreet 354 x1 (K v) σ1 → H v σ1) (h : ∀ v τ, Inv (c + 1) τ → K v v τ) : m_9_dropStreet 0 x1 H σ := by
  obtain ⟨n, l, ok, e, e5⟩ := id I.1
  have h6 := ok.1.2.1
  have h10 := ok.1.2.2.2
  have p0 : σ.1 355 0 = nI n := (e.lo vis_0 (by omega)).symm.trans ok.1.1
  unfold m_9_dropStreet
  refine s_8_hasStreet (n := n) ok.1.1 (by omega) (fun k hk e1 => ?_) (fun hn => ⟨fun q => absurd rfl q, fun _ => hH _ _ ?_⟩)
  · subst e1
    refine ⟨fun _ => ?_, fun q => absurd q (by decide)⟩
    refine rem1 I (fun τ hτ hlow => ?_)
    have pg : pgW τ 7 = pgW σ 7 := pgW_cg (fun a h1 h2 => hlow a (by omega))
    refine s_8_removeStreet (B := 7) (c := c) (n := n) (l := l) (by rw [pg]; exact ok) hk (fun σ6 P' t6 d6 => ?_)
    rw [pg] at d6
    have hrec := hτ.toW t6
    have hfr : σ6.1 355 = σ.1 355 := hrec.cel (by omega)
    show H (σ6.1 7 3) σ6
    rw [g507, t6.g, d6.2.2.1]
    refine hH _ _ ?_
    unfold m_10_dropStreet
    refine s_10_isStreet (r0 := 354) (n := n) (by rw [show (354 + 1 : Nat) = 355 from rfl, hfr]; exact p0) (by omega) (fun _ _ _ => ⟨fun _ => ?_, fun q => absurd q (by decide)⟩) (fun q => absurd rfl (q k hk))
    refine rec1 I hrec (fun σ7 hR7 hfin => ?_)
    have R7 := hR7.at ok
    have ok7 := ok.tr R7.2.1
    rw [t548, tn0, show (354 + 1 : Nat) = 355 from rfl]
    refine ⟨v548, fun σ9 e9 => ?_⟩
    have w9 : σ9.1 355 = upd (σ7.1 355) 548 0 := by rw [e9]; exact wr_at
    have M9 : modE σ7 σ9 := by rw [e9]; exact modE.rf.p (by omega)
    obtain ⟨hv, hv1, hv2⟩ := ok7.cells hk
    have sq : ∀ s, s < 2 → sD (σ9.1 (354 + 1)) (4 + 83 * k + 20 * s) (cellsN (σ7.1 355) k) = sD (σ7.1 355) (4 + 83 * k + 20 * s) (cellsN (σ7.1 355) k) := fun s hs => sD_eq _ (fun j hj => by rw [show (354 + 1 : Nat) = 355 from rfl, w9, upd_n (by omega)])
    refine s_10_sideSum (s := 0) (by omega) (by omega) (by rw [show (354 + 1 : Nat) = 355 from rfl, w9, upd_n (by omega)]; exact hv) hv2 ?_
    refine s_10_sideSum (s := 1) (by omega) (by omega) (by rw [show (354 + 1 : Nat) = 355 from rfl, w9, upd_n (by omega)]; exact hv) hv2 ?_
    rw [sq 0 (by omega), sq 1 (by omega), show 4 + 83 * k + 20 * 0 = 4 + 83 * k by omega, show 4 + 83 * k + 20 * 1 = 24 + 83 * k by omega]
    refine s_10_books (k := 2) (by omega) ⟨vq0, vq0, fun σ12 e12 x2 ex => ?_⟩
    have w12 : σ12.1 355 = upd (upd (upd (σ7.1 355) 548 0) 558 (σ7.1 355 558 + (sD (σ7.1 355) (4 + 83 * k) (cellsN (σ7.1 355) k) + sD (σ7.1 355) (24 + 83 * k) (cellsN (σ7.1 355) k)))) 0 (nI (n - 1)) := by
      rw [e12, wr_at, wr_at, show (354 + 1 : Nat) = 355 from rfl, w9, upd_n (by omega), upd_n (by omega), upd_n (by omega), ok7.1.1, show (1 : Int32) = nI 1 from rfl, pk_sub (by omega)]
    have M12 : modE σ7 σ12 := by rw [e12]; exact (M9.p (by omega)).p (by omega)
    rw [ex, stI k]
    refine it_from (fun (j : Nat) (A : Int32 → St → Prop) => ∀ τ, modE σ7 τ → (∀ y, 1 + 83 * k ≤ y → y < j → τ.1 355 y = σ7.1 355 (y + 83)) → (∀ y, y ≠ 0 → y ≠ 548 → y ≠ 558 → (y < 1 + 83 * k ∨ j ≤ y) → τ.1 355 y = σ7.1 355 y) → τ.1 355 0 = nI (n - 1) → τ.1 355 548 = 0 → τ.1 355 558 = σ7.1 355 558 + (sD (σ7.1 355) (4 + 83 * k) (cellsN (σ7.1 355) k) + sD (σ7.1 355) (24 + 83 * k) (cellsN (σ7.1 355) k)) → A (nI j) τ) (1 + 83 * k) (1 + 83 * (n - 1)) (by omega) (by omega) ?_ ?_ σ12 M12 (fun y g1 g2 => by omega) (fun y g1 g2 g3 g4 => by rw [w12, upd_n g1, upd_n g3, upd_n g2]) (by rw [w12, upd_s]) (by rw [w12, upd_n (by omega), upd_n (by omega), upd_s]) (by rw [w12, upd_n (by omega), upd_s])
    · intro j hj1 hj A hA τ M c1 c2 c3 c4 c5
      unfold m_10_dropStreet_58
      rw [tn0, show (354 + 1 : Nat) = 355 from rfl, c3, stI]
      refine ⟨vq0, fun q => absurd q (nle_of hj (by omega)), fun _ => ?_⟩
      rw [li 83, nI_add, tn j (by omega), tn (j + 83) (by omega)]
      refine ⟨vq (by omega), vq (by omega), fun σ1 e1 x' ex' => ?_⟩
      rw [ex', li 1, nI_add]
      have w1 : σ1.1 355 = upd (τ.1 355) j (τ.1 355 (j + 83)) := by rw [e1]; exact wr_at
      refine hA σ1 (by rw [e1]; exact M.p (by omega)) (fun y g1 g2 => ?_) (fun y g1 g2 g3 g4 => ?_) ?_ ?_ ?_
      · rw [w1, rd_upd]
        refine ite_e (fun q => by rw [q, c2 _ (by omega) (by omega) (by omega) (by omega)]) (fun _ => c1 y g1 (by omega))
      · rw [w1, upd_n (by omega)]; exact c2 y g1 g2 g3 (by omega)
      · rw [w1, upd_n (by omega)]; exact c3
      · rw [w1, upd_n (by omega)]; exact c4
      · rw [w1, upd_n (by omega)]; exact c5
    · intro A τ1 M c1 c2 c3 c4 c5
      unfold m_10_dropStreet_58
      rw [tn0, show (354 + 1 : Nat) = 355 from rfl, c3, stI]
      refine ⟨vq0, fun _ => ?_, fun q => absurd ((lei (by omega) (by omega)).mpr (Nat.le_refl _)) q⟩
      have q507 : σ7.1 355 507 = nI l := ok7.1.2.2.1
      refine it_cnt (fun (m : Nat) (A : Int32 → Int32 → St → Prop) => ∀ τ, modE σ7 τ → (∀ j, j < m → σ7.1 355 (508 + 4 * j) ≠ nI k → τ.1 355 (508 + 4 * kpt (fun j => σ7.1 355 (508 + 4 * j)) (nI k) j) = adjL (nI k) (σ7.1 355 (508 + 4 * j)) ∧ τ.1 355 (509 + 4 * kpt (fun j => σ7.1 355 (508 + 4 * j)) (nI k) j) = σ7.1 355 (509 + 4 * j)) → (∀ y, 508 + 4 * m ≤ y → y < 548 → τ.1 355 y = σ7.1 355 y) → (∀ y, (y < 508 ∨ 548 ≤ y) → τ.1 355 y = τ1.1 355 y) → A (nI (kpt (fun j => σ7.1 355 (508 + 4 * j)) (nI k) m)) (nI m) τ) l (by omega) ?_ ?_ τ1 M (fun j hj => by omega) (fun y g1 g2 => c2 y (by omega) (by omega) (by omega) (by omega)) (fun _ _ => rfl)
      · intro m hm A hA τ M' b1 b2 b3
        have kle := kpt_le (fun j => σ7.1 355 (508 + 4 * j)) (nI k) m
        unfold m_10_dropStreet_98
        rw [t507, show (354 + 1 : Nat) = 355 from rfl, b3 507 (by omega), c2 507 (by omega) (by omega) (by omega) (by omega), q507]
        refine ⟨v507, fun q => absurd q (nle_of hm (by omega)), fun _ => ?_⟩
        refine s_10_legOf (f := 0) (by omega) (by omega) ?_
        have f0 : τ.1 (354 + 1) (508 + 4 * m + 0) = σ7.1 355 (508 + 4 * m) := b2 _ (by omega) (by omega)
        have f1 : τ.1 (354 + 1) (509 + 4 * m) = σ7.1 355 (509 + 4 * m) := b2 _ (by omega) (by omega)
        rw [f0]
        have hA : ∀ τ, modE σ7 τ → (∀ j, j < m + 1 → σ7.1 355 (508 + 4 * j) ≠ nI k → τ.1 355 (508 + 4 * kpt (fun j => σ7.1 355 (508 + 4 * j)) (nI k) j) = adjL (nI k) (σ7.1 355 (508 + 4 * j)) ∧ τ.1 355 (509 + 4 * kpt (fun j => σ7.1 355 (508 + 4 * j)) (nI k) j) = σ7.1 355 (509 + 4 * j)) → (∀ y, 508 + 4 * (m + 1) ≤ y → y < 548 → τ.1 355 y = σ7.1 355 y) → (∀ y, (y < 508 ∨ 548 ≤ y) → τ.1 355 y = τ1.1 355 y) → A (nI (kpt (fun j => σ7.1 355 (508 + 4 * j)) (nI k) m + (if σ7.1 355 (508 + 4 * m) = nI k then 0 else 1))) (nI (m + 1)) τ := hA
        refine ⟨fun q x ex => ?_, fun q => ?_⟩
        · rw [if_pos q] at hA
          rw [ex, li 1, nI_add]
          refine hA τ M' (fun j hj hne => ?_) (fun y g1 g2 => b2 y (by omega) g2) b3
          by_cases q2 : j = m
          · subst q2; exact absurd q hne
          · exact b1 j (by omega) hne
        · rw [if_neg q] at hA
          refine s_10_legOf (f := 0) (by omega) (by omega) ?_
          rw [f0, legI0]
          have goal : ∀ {QQ : Int32 → St → Prop} (v : Int32), v = adjL (nI k) (σ7.1 355 (508 + 4 * m)) → m_10_dropStreet_154 354 (nI k) (nI (kpt (fun j => σ7.1 355 (508 + 4 * j)) (nI k) m)) (nI m) A QQ v (nI (508 + 4 * kpt (fun j => σ7.1 355 (508 + 4 * j)) (nI k) m)) (354 + 1) τ := fun {QQ} v hv => by
            unfold m_10_dropStreet_154
            rw [tn _ (by omega)]
            refine ⟨vq (by omega), fun σ1 e1 => ?_⟩
            have w1 : σ1.1 355 = upd (τ.1 355) (508 + 4 * kpt (fun j => σ7.1 355 (508 + 4 * j)) (nI k) m) v := by rw [e1]; exact wr_at
            refine s_10_legOf (f := 1) (by omega) (by omega) ?_
            have f1' : σ1.1 (354 + 1) (508 + 4 * m + 1) = σ7.1 355 (509 + 4 * m) := by
              rw [show (354 + 1 : Nat) = 355 from rfl, w1, upd_n (by omega), show 508 + 4 * m + 1 = 509 + 4 * m by omega]
              exact f1
            rw [f1', legI0, show (1 : Int32) = nI 1 from rfl, nI_add, nI_add, nI_add, tn _ (by omega)]
            refine ⟨vq (by omega), fun σ4 e4 x2 ex2 x3 ex3 => ?_⟩
            rw [ex2, ex3]
            have w4 : σ4.1 355 = upd (upd (τ.1 355) (508 + 4 * kpt (fun j => σ7.1 355 (508 + 4 * j)) (nI k) m) v) (508 + 4 * kpt (fun j => σ7.1 355 (508 + 4 * j)) (nI k) m + 1) (σ7.1 355 (509 + 4 * m)) := by rw [e4, wr_at, show (354 + 1 : Nat) = 355 from rfl, w1]
            refine hA σ4 (by rw [e4, e1]; exact (M'.p (by omega)).p (by omega)) (fun j hj hne => ?_) (fun y g1 g2 => ?_) (fun y g => ?_)
            · by_cases q2 : j = m
              · subst q2
                refine ⟨?_, ?_⟩
                · rw [w4, upd_n (by omega), upd_s]; exact hv
                · rw [w4, show 509 + 4 * kpt (fun j => σ7.1 355 (508 + 4 * j)) (nI k) j = 508 + 4 * kpt (fun j => σ7.1 355 (508 + 4 * j)) (nI k) j + 1 by omega, upd_s]
              · have hjm : kpt (fun j => σ7.1 355 (508 + 4 * j)) (nI k) j < kpt (fun j => σ7.1 355 (508 + 4 * j)) (nI k) m := by
                  have mono : ∀ d a, kpt (fun j => σ7.1 355 (508 + 4 * j)) (nI k) a ≤ kpt (fun j => σ7.1 355 (508 + 4 * j)) (nI k) (a + d) := by
                    intro d a
                    induction d with
                    | zero => exact Nat.le_refl _
                    | succ d ih => exact Nat.le_trans ih (Nat.le_add_right _ _)
                  have m1 := mono (m - (j + 1)) (j + 1)
                  rw [show j + 1 + (m - (j + 1)) = m by omega] at m1
                  have m2 : kpt (fun j => σ7.1 355 (508 + 4 * j)) (nI k) (j + 1) = kpt (fun j => σ7.1 355 (508 + 4 * j)) (nI k) j + (if σ7.1 355 (508 + 4 * j) = nI k then 0 else 1) := rfl
                  rw [if_neg hne] at m2
                  omega
                rw [w4, upd_n (by omega), upd_n (by omega), upd_n (by omega), upd_n (by omega)]
                exact b1 j (by omega) hne
            · rw [w4, upd_n (by omega), upd_n (by omega)]
              exact b2 y (by omega) g2
            · rw [w4, upd_n (by omega), upd_n (by omega)]
              exact b3 y g
          refine ⟨fun q2 => goal _ ?_, fun q2 => goal _ ?_⟩
          · unfold adjL
            rw [if_pos q2]
          · unfold adjL
            rw [if_neg q2]
      · intro A τ M' b1 b2 b3
        unfold m_10_dropStreet_98
        rw [t507, show (354 + 1 : Nat) = 355 from rfl, b3 507 (by omega), c2 507 (by omega) (by omega) (by omega) (by omega), q507]
        refine ⟨v507, fun _ => ⟨v507, fun σ1 e1 => ?_⟩, fun q => absurd ((lei (by omega) (by omega)).mpr (Nat.le_refl l)) q⟩
        have w1 : σ1.1 355 = upd (τ.1 355) 507 (nI (kpt (fun j => σ7.1 355 (508 + 4 * j)) (nI k) l)) := by rw [e1]; exact wr_at
        have ke : kpt (fun j => pgW σ 7 (508 + 4 * j)) (nI k) l = kpt (fun j => σ7.1 355 (508 + 4 * j)) (nI k) l := kpt_eq l (fun j hj => R7.2.1.le (f := 0) hj h10 (by omega))
        have D : drS n l k (σ7.1 355) (σ1.1 355) := by
          rw [w1]
          refine ⟨?_, ?_, upd_s, ?_, fun j hj hne => ?_, fun y g1 g2 => ?_, fun y g1 g2 => ?_, fun y g1 g2 => ?_, fun y g1 g2 => ?_⟩
          · rw [upd_n (by omega), b3 0 (by omega)]; exact c3
          · rw [upd_n (by omega), b3 548 (by omega)]; exact c4
          · rw [upd_n (by omega), b3 558 (by omega)]; exact c5
          · rw [upd_n (by omega), upd_n (by omega)]
            exact b1 j hj hne
          · rw [upd_n (by omega), b3 y (by omega)]; exact c2 y (by omega) (by omega) (by omega) (by omega)
          · rw [upd_n (by omega), b3 y (by omega)]; exact c1 y g1 g2
          · rw [upd_n (by omega), b3 y (by omega)]; exact c2 y (by omega) (by omega) (by omega) (by omega)
          · rw [upd_n (by omega), b3 y (by omega)]; exact c2 y (by omega) (by omega) (by omega) (by omega)
        have Rn := R7.dropStreet hk d6 D
        rw [← ke]
        exact h _ _ (hfin (c + 1) _ (by omega) (by rw [e1]; exact M'.p (by omega)) ((REL.of Rn).mono (c := c) (by omega)))
  · unfold m_10_dropStreet
    exact s_10_isStreet (r0 := 354) p0 (by omega) (fun i hi e => absurd e (hn i hi)) (fun _ => ⟨fun q => absurd rfl q, fun _ => h _ _ (I.mono (by omega))⟩)
