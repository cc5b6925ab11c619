-- the law's own shift: what it asks of the class when its own walk is done
theorem endF_506 {P : Nat → Int32} {x : Int32} : endF P x 506 = if 2 * P 506 < P 500 then P 506 else 0 := by
  have a6 : endA P x 506 = P 506 := upd_n (by omega)
  have a5 : endA P x 500 = P 500 := upd_n (by omega)
  unfold endF endD
  rw [upd_n (by omega), upd_n (by omega), endC_y (by omega) (by omega)]
  unfold endB
  rw [a6, a5]
  split
  · exact a6
  · exact upd_s
theorem endF_561 {P : Nat → Int32} {x : Int32} : endF P x 561 = if 2 * P 506 < P 500 then P 561 else P 561 + P 506 := by
  have a6 : endA P x 506 = P 506 := upd_n (by omega)
  have a5 : endA P x 500 = P 500 := upd_n (by omega)
  have a1 : endA P x 561 = P 561 := upd_n (by omega)
  unfold endF endD
  rw [upd_n (by omega), upd_n (by omega), endC_y (by omega) (by omega)]
  unfold endB
  rw [a6, a5]
  split
  · exact a1
  · unfold dmp
    rw [upd_n (by omega), upd_s, a1, a6]
theorem endB_A {P : Nat → Int32} {x : Int32} {y : Nat} (h : y ≠ 550) (h1 : y ≠ 561) (h2 : y ≠ 506) : endB (endA P x) y = P y := by
  rw [endB_y h1 h2]
  exact upd_n h
theorem endF_505 {P : Nat → Int32} {x : Int32} : endF P x 505 = if P 503 ≤ P 505 then P 505 else if P 501 ≤ 0 then P 505 else 1000 := by
  unfold endF endD
  rw [upd_n (by omega), upd_n (by omega)]
  unfold endC
  rw [endB_A (y := 503) (by omega) (by omega) (by omega), endB_A (y := 505) (by omega) (by omega) (by omega), endB_A (y := 501) (by omega) (by omega) (by omega)]
  split
  · exact endB_A (by omega) (by omega) (by omega)
  · split
    · exact endB_A (by omega) (by omega) (by omega)
    · rw [upd_n (by omega), upd_s]
theorem endF_501 {P : Nat → Int32} {x : Int32} : endF P x 501 = if P 503 ≤ P 505 then P 501 else if P 501 ≤ 0 then P 501 else P 501 - 1 := by
  unfold endF endD
  rw [upd_n (by omega), upd_n (by omega)]
  unfold endC
  rw [endB_A (y := 503) (by omega) (by omega) (by omega), endB_A (y := 505) (by omega) (by omega) (by omega), endB_A (y := 501) (by omega) (by omega) (by omega)]
  split
  · exact endB_A (by omega) (by omega) (by omega)
  · split
    · exact endB_A (by omega) (by omega) (by omega)
    · rw [upd_s]
theorem endF_548 {P : Nat → Int32} {x : Int32} : endF P x 548 = 1 := by
  unfold endF endD
  exact upd_s
/-- the rows of the law hold what the class's page Z shows -/
def LZ (n l : Nat) (τ : St) : Prop := (∀ i s k, i < n → s < 2 → k < cellsN (pgW τ 7) i → τ.1 354 (12 * i + cellsN (pgW τ 7) i * s + k) = pgW τ 7 (4 + 83 * i + (20 * s + k))) ∧ ∀ j, j < l → τ.1 356 j = pgW τ 7 (508 + 4 * j + 2) ∧ τ.1 357 j = pgW τ 7 (508 + 4 * j + 3)
theorem L_970 {c n l : Nat} {τ : St} {Q : Int32 → St → Prop} (ok : okP c n l (pgW τ 7)) (sm : SM n l (pgW τ 7)) (lz : LZ n l τ) (hb : bal n (pgW τ 7)) (h : Q 1 τ) : itN (m_L_shift_970 0 (nI n) 354 Q) (fun _ _ _ => False) FU 1 0 τ := by
  obtain ⟨s1, s2, s3⟩ := id sm
  have h6 := ok.1.2.1
  have fin : m_L_shift_1062 0 1 Q τ := by
    unfold m_L_shift_1062
    refine ⟨fun q => absurd q (by decide), fun _ => a_bal ok hb ⟨fun q => absurd q (by decide), fun _ => h⟩⟩
  refine it_cnt (fun (i : Nat) (B : Int32 → Int32 → St → Prop) => B 1 (nI i) τ) n (by omega) ?_ ?_
  · intro i hi B hB
    unfold m_L_shift_970
    refine ⟨fun q => absurd q (nle_of hi (by omega)), fun _ => ⟨fun q => absurd q (by decide), fun _ => ?_⟩⟩
    obtain ⟨cv, cv1, cv2⟩ := ok.cells hi
    have c6 := s3 i hi
    have n0 : ¬ nI (cellsN (pgW τ 7) i) = 0 := fun q => absurd ((eqi (b := 0) (by omega) (by omega)).mp q) (by omega)
    refine it_cnt (fun (k : Nat) (A : Int32 → Int32 → St → Prop) => A 1 (nI k) τ) (2 * cellsN (pgW τ 7) i) (by omega) ?_ ?_
    · intro k hk A hA
      have e1 : nI k / nI (cellsN (pgW τ 7) i) = nI (k / cellsN (pgW τ 7) i) := pk_div (by omega) (by omega) (by omega)
      have e2 : nI k - nI k / nI (cellsN (pgW τ 7) i) * nI (cellsN (pgW τ 7) i) = nI (k % cellsN (pgW τ 7) i) := pk_rem (by omega) (by omega) (by omega)
      have b1 : k / cellsN (pgW τ 7) i < 2 := (Nat.div_lt_iff_lt_mul (by omega)).mpr hk
      have b2 : k % cellsN (pgW τ 7) i < cellsN (pgW τ 7) i := Nat.mod_lt _ (by omega)
      have b3 : cellsN (pgW τ 7) i * (k / cellsN (pgW τ 7) i) + k % cellsN (pgW τ 7) i = k := Nat.div_add_mod _ _
      have rw0 := lz.1 i _ _ hi b1 b2
      rw [Nat.add_assoc, b3] at rw0
      unfold m_L_shift_984
      refine a_st (c := c) (n := n) (l := l) (i := i) (r := 0) ok hi (by omega) ?_
      rw [show 1 + 83 * i + 0 = 1 + 83 * i from rfl, cv]
      refine ⟨fun q => absurd q ?_, fun _ => ⟨fun q => absurd q (by decide), fun _ => ?_⟩⟩
      · rw [li 2, pk_mul]
        exact nle_of hk (by omega)
      refine a_st (c := c) (n := n) (l := l) (i := i) (r := 0) ok hi (by omega) ?_
      rw [show 1 + 83 * i + 0 = 1 + 83 * i from rfl, cv]
      refine ⟨n0, ?_⟩
      refine a_st (c := c) (n := n) (l := l) (i := i) (r := 0) ok hi (by omega) ?_
      rw [show 1 + 83 * i + 0 = 1 + 83 * i from rfl, cv]
      refine ⟨n0, ?_⟩
      rw [e2, e1]
      refine a_cell (c := c) (n := n) (l := l) (i := i) (r := 0) ok hi b1 b2 (by omega) ?_
      rw [li 12, pk_mul, nI_add, tn _ (by omega), rw0, show 4 + 40 * 0 + 83 * i = 4 + 83 * i by omega]
      refine ⟨vin (by omega), fun q => absurd rfl q, fun _ x ex => ?_⟩
      rw [ex, iplus]
      exact hA
    · intro A
      unfold m_L_shift_984
      refine a_st (c := c) (n := n) (l := l) (i := i) (r := 0) ok hi (by omega) ?_
      rw [show 1 + 83 * i + 0 = 1 + 83 * i from rfl, cv]
      refine ⟨fun _ x ex => ?_, fun q => absurd ?_ q⟩
      · rw [ex, iplus]
        exact hB
      · rw [li 2, pk_mul]
        exact (lei (by omega) (by omega)).mpr (Nat.le_refl _)
  · intro B
    unfold m_L_shift_970
    exact ⟨fun _ => fin, fun q => absurd ((lei (by omega) (by omega)).mpr (Nat.le_refl n)) q⟩
theorem L_913 {c n l : Nat} {τ : St} {Q : Int32 → St → Prop} (ok : okP c n l (pgW τ 7)) (sm : SM n l (pgW τ 7)) (lz : LZ n l τ) (h548 : pgW τ 7 548 ≠ 0) (hb : bal n (pgW τ 7)) (h : Q 1 τ) : itN (m_L_shift_913 0 (nI n) (nI l) 354 356 357 Q) (fun _ _ _ => False) FU 1 0 τ := by
  have h10 := ok.1.2.2.2
  have fin := L_970 (Q := Q) ok sm lz hb h
  refine it_cnt (fun (j : Nat) (B : Int32 → Int32 → St → Prop) => B 1 (nI j) τ) l (by omega) ?_ ?_
  · intro j hj B hB
    unfold m_L_shift_913
    refine ⟨fun q => absurd q (nle_of hj (by omega)), fun _ => ⟨fun q => absurd q (by decide), fun _ => ?_⟩⟩
    refine a_leg (c := c) (n := n) (l := l) (j := j) (r := 2) ok hj (by omega) (fun _ => h548) ?_
    rw [tn j (by omega), (lz.2 j hj).1]
    refine ⟨vin (by omega), fun q => absurd rfl q, fun _ => ?_⟩
    refine a_leg (c := c) (n := n) (l := l) (j := j) (r := 3) ok hj (by omega) (fun _ => h548) ?_
    rw [(lz.2 j hj).2]
    refine ⟨vin (by omega), fun q => absurd rfl q, fun _ x ex => ?_⟩
    rw [ex, iplus]
    exact hB
  · intro B
    unfold m_L_shift_913
    exact ⟨fun _ => fin, fun q => absurd ((lei (by omega) (by omega)).mpr (Nat.le_refl l)) q⟩
theorem L_833 {n l : Nat} {x12 : Int32} {x16 : Int32} {x17 : Int32} {x18 : Int32} {x19 : Int32} {x20 : Int32} {x23 : Int32} {Q : Int32 → St → Prop} {τ : St} (h562 : pgW τ 7 562 ≠ 0) (e0 : pgW τ 7 549 = x16) (e1 : pgW τ 7 550 = x23 - x12) (e2 : pgW τ 7 551 = x17) (e3 : pgW τ 7 552 = x18) (e4 : pgW τ 7 553 = x19) (e5 : pgW τ 7 554 = x20) (h : itN (m_L_shift_913 0 (nI n) (nI l) 354 356 357 Q) (fun _ _ _ => False) FU 1 0 τ) : m_L_shift_833 0 (nI n) (nI l) 354 356 357 x12 x16 x17 x18 x19 x20 x23 Q 1 τ := by
  unfold m_L_shift_833
  refine ⟨fun q => absurd q (by decide), fun _ => ?_⟩
  refine a_lat (k := 0) (by omega) h562 ⟨fun q => absurd e0 q, fun _ => ?_⟩
  refine a_lat (k := 1) (by omega) h562 ⟨fun q => absurd e1 q, fun _ => ?_⟩
  refine a_lat (k := 2) (by omega) h562 ⟨fun q => absurd e2 q, fun _ => ?_⟩
  refine a_lat (k := 3) (by omega) h562 ⟨fun q => absurd e3 q, fun _ => ?_⟩
  refine a_lat (k := 4) (by omega) h562 ⟨fun q => absurd e4 q, fun _ => ?_⟩
  exact a_lat (k := 5) (by omega) h562 ⟨fun q => absurd e5 q, fun _ => h⟩
theorem L_783 {c n l : Nat} {x9 : Int32} {x11 : Int32} {x12 : Int32} {x14 : Int32} {x16 : Int32} {x17 : Int32} {x18 : Int32} {x19 : Int32} {x20 : Int32} {x21 : Int32} {x23 : Int32} {Q : Int32 → St → Prop} {t0 : Int32} {t1 : Int32} {τ : St} (ok : okP c n l (pgW τ 7)) (e : t1 = t0) (e6 : pgW τ 7 506 = x9) (hA : x21 = 0 → pgW τ 7 501 = x11 - 0) (hB : ¬ x21 = 0 → pgW τ 7 501 = x11 - 1) (e14 : pgW τ 7 561 = x14) (h : m_L_shift_833 0 (nI n) (nI l) 354 356 357 x12 x16 x17 x18 x19 x20 x23 Q 1 τ) : m_L_shift_783 0 (nI n) (nI l) 354 356 357 x9 x11 x12 x14 x16 x17 x18 x19 x20 x21 x23 Q t0 t1 τ := by
  unfold m_L_shift_783
  refine ⟨fun q => absurd e q, fun _ => ?_⟩
  refine a_cnt (k := 4) (by omega) (by omega) ⟨fun q => absurd e6 q, fun _ => ?_⟩
  refine a_cnt (k := 6) (by omega) (by omega) ⟨fun q => ?_, fun q => ?_⟩
  · unfold m_L_shift_814
    refine ⟨fun q2 => absurd (hA q) q2, fun _ => ?_⟩
    exact a_acc (k := 5) ok (by omega) ⟨fun q2 => absurd e14 q2, fun _ => h⟩
  · unfold m_L_shift_814
    refine ⟨fun q2 => absurd (hB q) q2, fun _ => ?_⟩
    exact a_acc (k := 5) ok (by omega) ⟨fun q2 => absurd e14 q2, fun _ => h⟩
