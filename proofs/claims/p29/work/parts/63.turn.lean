-- the law's own shift: a turn of its inner loop
theorem mnI_le {a b : Int32} (q : b ≤ a) : mnI a b = b := by
  unfold mnI
  by_cases z : b < a
  · rw [if_pos z]
  · rw [if_neg z]
    exact Int32.le_antisymm (Int32.not_lt.mp z) q
theorem mnI_nle {a b : Int32} (q : ¬ b ≤ a) : mnI a b = a := if_neg (fun z => q (Int32.le_of_lt z))
theorem mnI_eq {a b : Int32} : mnI a b = a ↔ a ≤ b := by
  unfold mnI
  by_cases z : b < a
  · rw [if_pos z]
    refine ⟨fun e => absurd z (by rw [e]; exact fun q => Int32.lt_irrefl q), fun e => absurd e (Int32.not_le.mpr z)⟩
  · rw [if_neg z]
    exact ⟨fun _ => Int32.not_lt.mp z, fun _ => rfl⟩
theorem L_467 {x1 : Int32} {x2 : Int32} {x7 : Int32} {x8 : Int32} {x9 : Int32} {x10 : Int32} {x11 : Int32} {x12 : Int32} {x13 : Int32} {x14 : Int32} {x15 : Int32} {x16 : Int32} {x17 : Int32} {x18 : Int32} {x19 : Int32} {x21 : Int32} {x22 : Int32} {x25 : Int32} {B225 : Int32 → Int32 → Int32 → Int32 → Int32 → Int32 → Int32 → Int32 → Int32 → Int32 → St → Prop} {B361 : Int32 → Int32 → Int32 → Int32 → Int32 → Int32 → Int32 → Int32 → St → Prop} {Q : Int32 → St → Prop} {σ : St} {W : Int32} {a j : Nat} (ha : a < 36) (hj : j < 10)
    (hTW : (mnI W (x10 - x9)) < W → x9 + (mnI W (x10 - x9)) = x10)
    (hA : x9 + (mnI W (x10 - x9)) = x10 → 3 * x22 + 100 ≤ x12 → B361 (x8 - (mnI (1 + (mnI W (x10 - x9)) * x7 / 20) x8)) 0 (x12 - (2 * x22 + 100)) (x14 + (x9 + (mnI W (x10 - x9)))) x16 (x17 + 1) (x18 + (mnI W (x10 - x9))) (x19 + (mnI (1 + (mnI W (x10 - x9)) * x7 / 20) x8)) (wr (wr (wr σ 354 a (σ.1 354 a - (mnI W (x10 - x9)))) 357 j (σ.1 357 j + (mnI W (x10 - x9)))) 356 j (σ.1 356 j + (if W ≤ x10 - x9 then 1 else 0))))
    (hB : x9 + (mnI W (x10 - x9)) = x10 → ¬ 3 * x22 + 100 ≤ x12 → B361 (x8 - (mnI (1 + (mnI W (x10 - x9)) * x7 / 20) x8)) (x9 + (mnI W (x10 - x9))) x12 x14 3 x17 (x18 + (mnI W (x10 - x9))) (x19 + (mnI (1 + (mnI W (x10 - x9)) * x7 / 20) x8)) (wr (wr (wr σ 354 a (σ.1 354 a - (mnI W (x10 - x9)))) 357 j (σ.1 357 j + (mnI W (x10 - x9)))) 356 j (σ.1 356 j + (if W ≤ x10 - x9 then 1 else 0))))
    (hC : ¬ x9 + (mnI W (x10 - x9)) = x10 → B361 (x8 - (mnI (1 + (mnI W (x10 - x9)) * x7 / 20) x8)) (x9 + (mnI W (x10 - x9))) x12 x14 x16 x17 (x18 + (mnI W (x10 - x9))) (x19 + (mnI (1 + (mnI W (x10 - x9)) * x7 / 20) x8)) (wr (wr (wr σ 354 a (σ.1 354 a - (mnI W (x10 - x9)))) 357 j (σ.1 357 j + (mnI W (x10 - x9)))) 356 j (σ.1 356 j + (if W ≤ x10 - x9 then 1 else 0)))) : m_L_shift_467 0 x1 x2 354 355 356 357 x7 x8 x9 x10 x11 x12 x13 x14 x15 x16 x17 x18 x19 (nI j) x21 x22 x25 (nI a) B225 B361 Q W σ := by
  have tj := tn j (by omega)
  have ta := tn a (by omega)
  have h600 : x9 + (mnI W (x10 - x9)) = x10 → m_L_shift_600 0 x1 x2 354 355 356 357 x7 (x8 - (mnI (1 + (mnI W (x10 - x9)) * x7 / 20) x8)) (x9 + (mnI W (x10 - x9))) x10 x11 x12 x13 x14 x15 x16 x17 (x18 + (mnI W (x10 - x9))) (x19 + (mnI (1 + (mnI W (x10 - x9)) * x7 / 20) x8)) (nI j) x21 x22 x25 B225 B361 Q (wr (wr (wr σ 354 a (σ.1 354 a - (mnI W (x10 - x9)))) 357 j (σ.1 357 j + (mnI W (x10 - x9)))) 356 j (σ.1 356 j + (if W ≤ x10 - x9 then 1 else 0))) := fun hf => by
    unfold m_L_shift_600
    refine ⟨fun q y1 e1 y2 e2 y3 e3 => ?_, fun q => hB hf q⟩
    rw [e1, e2, e3]
    exact hA hf q
  have h584 : m_L_shift_584 0 x1 x2 354 355 356 357 x7 (x8 - (mnI (1 + (mnI W (x10 - x9)) * x7 / 20) x8)) (x9 + (mnI W (x10 - x9))) x10 x11 x12 x13 x14 x15 x16 x17 (x18 + (mnI W (x10 - x9))) (x19 + (mnI (1 + (mnI W (x10 - x9)) * x7 / 20) x8)) (nI j) x21 x22 x25 W (mnI W (x10 - x9)) B225 B361 Q (if W ≤ x10 - x9 then 1 else 0) (σ.1 356 j) (nI j) 356 (wr (wr σ 354 a (σ.1 354 a - (mnI W (x10 - x9)))) 357 j (σ.1 357 j + (mnI W (x10 - x9)))) := by
    unfold m_L_shift_584
    refine ⟨vin (by omega), fun s5 e5 => ?_⟩
    rw [tj] at e5
    subst e5
    exact ⟨fun q => h600 (hTW q), fun _ => ⟨fun q2 => hC q2, fun q2 => h600 q2⟩⟩
  have hTe : (mnI W (x10 - x9)) = W ↔ W ≤ x10 - x9 := mnI_eq
  have h550 : m_L_shift_550 0 x1 x2 354 355 356 357 x7 x8 (x9 + (mnI W (x10 - x9))) x10 x11 x12 x13 x14 x15 x16 x17 (x18 + (mnI W (x10 - x9))) x19 (nI j) x21 x22 x25 W (mnI W (x10 - x9)) B225 B361 Q (mnI (1 + (mnI W (x10 - x9)) * x7 / 20) x8) (wr (wr σ 354 a (σ.1 354 a - (mnI W (x10 - x9)))) 357 j (σ.1 357 j + (mnI W (x10 - x9)))) := by
    unfold m_L_shift_550
    intro y1 e1 y2 e2
    rw [e1, e2, tj]
    refine ⟨vin (by omega), fun q => ?_, fun q => ?_⟩
    · have h := h584
      rw [if_neg (fun z => q (hTe.mpr z))] at h
      have e : (wr (wr σ 354 a (σ.1 354 a - (mnI W (x10 - x9)))) 357 j (σ.1 357 j + (mnI W (x10 - x9)))).1 356 j = σ.1 356 j := by rw [wr_cell (by omega), wr_cell (by omega)]
      rw [e]
      exact h
    · have h := h584
      rw [if_pos (hTe.mp q)] at h
      have e : (wr (wr σ 354 a (σ.1 354 a - (mnI W (x10 - x9)))) 357 j (σ.1 357 j + (mnI W (x10 - x9)))).1 356 j = σ.1 356 j := by rw [wr_cell (by omega), wr_cell (by omega)]
      rw [e]
      exact h
  have h489 : m_L_shift_489 0 x1 x2 354 355 356 357 x7 x8 x9 x10 x11 x12 x13 x14 x15 x16 x17 x18 x19 (nI j) x21 x22 x25 (nI a) W B225 B361 Q (mnI W (x10 - x9)) σ := by
    unfold m_L_shift_489
    refine ⟨vin (by omega), vin (by omega), fun s1 e1 y9 e9 y18 e18 => ⟨vin (by omega), vin (by omega), fun s4 e4 y29 e29 => ?_⟩⟩
    rw [ta] at e1
    subst e1
    rw [tj, wr_cell (show 357 ≠ 354 by omega)] at e4
    subst e4 e9 e18 e29
    refine ⟨fun q => ?_, fun q => ?_⟩
    · have h := h550
      have e : (mnI (1 + (mnI W (x10 - x9)) * x7 / 20) x8) = x8 := mnI_le q
      rw [e] at h
      exact h
    · have h := h550
      have e : (mnI (1 + (mnI W (x10 - x9)) * x7 / 20) x8) = 1 + (mnI W (x10 - x9)) * x7 / 20 := mnI_nle q
      rw [e] at h
      exact h
  unfold m_L_shift_467
  refine ⟨fun q => ?_, fun q => ?_⟩
  · have h := h489
    have e : (mnI W (x10 - x9)) = x10 - x9 := mnI_le q
    rw [e] at h
    exact h
  · have h := h489
    have e : (mnI W (x10 - x9)) = W := mnI_nle q
    rw [e] at h
    exact h
