theorem mxI_nat {a d : Nat} (ha : a < 1000001) (hd : d < 1000001) : mxI (nI a) (nI d) = nI (max a d) := by
  unfold mxI
  by_cases h : a < d
  · rw [if_pos ((lti ha hd).mpr h), Nat.max_eq_right (by omega)]
  · rw [if_neg (fun q => h ((lti ha hd).mp q)), Nat.max_eq_left (by omega)]
theorem gD_nat {f : Nat → Int32} (hf : ∀ k, k < 40 → ∃ v, f k = nI v ∧ v ≤ 99) : ∀ n, n ≤ 20 → ∃ g, gD f n = nI g ∧ g ≤ 99 := by
  intro n
  induction n with
  | zero => intro _; exact ⟨0, rfl, by omega⟩
  | succ n ih =>
    intro hn
    obtain ⟨g, h1, h2⟩ := ih (by omega)
    obtain ⟨a, h3, h4⟩ := hf n (by omega)
    obtain ⟨b, h5, h6⟩ := hf (20 + n) (by omega)
    refine ⟨max (max g a) b, ?_, by omega⟩
    unfold gD
    rw [h1, h3, h5, mxI_nat (by omega) (by omega), mxI_nat (by omega) (by omega)]
/-- how much falls in a night on a cell of street i -/
theorem okP.fall {c n l i : Nat} {P : Nat → Int32} (ok : okP c n l P) (hi : i < n) : ∃ f, P (3 + 83 * i) * P 504 / 100 = nI f ∧ f ≤ 36 := by
  obtain ⟨-, -, t, ht, ht9⟩ := ok.2.1 i hi
  obtain ⟨-, -, -, -, -, ⟨s, hs, hs4⟩, -⟩ := ok.2.2.2.2.1
  have hm : t * s ≤ 9 * 400 := Nat.mul_le_mul ht9 hs4
  refine ⟨t * s / 100, ?_, by omega⟩
  rw [ht, hs, pk_mul, show (100 : Int32) = nI 100 from rfl, pk_div (by omega) (by decide) (by decide)]
def nUN (w g f : Nat) : Nat := if g < w then (if 0 < f then (w - g + f - 1) / f else 101) else 0
theorem nUN_le {w g f : Nat} (hw : w ≤ 99) : nUN w g f ≤ 101 := by
  unfold nUN
  split
  · split
    · rename_i h1 h2
      have : (w - g + f - 1) / f ≤ w - g := by
        rw [Nat.div_le_iff_le_mul_add_pred h2]
        have : w - g ≤ (w - g) * f := Nat.le_mul_of_pos_right _ h2
        rw [Nat.mul_comm] at this
        omega
      omega
    · omega
  · omega
theorem nU_div {w g f : Nat} (hw : w ≤ 99) (hg : g < w) (hf : 0 < f) (hf2 : f ≤ 36) : (nI w - nI g + nI f - 1) / nI f = nI ((w - g + f - 1) / f) := by
  rw [pk_sub (by omega), nI_add, show (1 : Int32) = nI 1 from rfl, pk_sub (by omega), pk_div (by omega) hf (by omega)]
theorem s_9_nightsUntil {w g f : Nat} {Q : Int32 → St → Prop} {σ : St} (hw : w ≤ 99) (hg : g ≤ 99) (hf2 : f ≤ 36) (h : Q (nI (nUN w g f)) σ) : m_9_nightsUntil (nI w) (nI g) (nI f) Q σ := by
  unfold m_9_nightsUntil
  unfold nUN at h
  refine ⟨fun q => ⟨fun q2 => ?_, fun q2 => ?_⟩, fun q => ?_⟩
  · rw [lti (by omega) (by omega)] at q
    have q3 : 0 < f := by rw [show (0 : Int32) = nI 0 from rfl, lti (by omega) (by omega)] at q2; exact q2
    rw [if_pos q, if_pos q3] at h
    refine ⟨fun e => by rw [show (0 : Int32) = nI 0 from rfl, eqi (by omega) (by omega)] at e; omega, ?_⟩
    rw [nU_div hw q q3 hf2]
    exact h
  · rw [lti (by omega) (by omega)] at q
    have q3 : ¬ 0 < f := by rw [show (0 : Int32) = nI 0 from rfl, lti (by omega) (by omega)] at q2; exact q2
    rw [if_pos q, if_neg q3] at h
    exact h
  · rw [lti (by omega) (by omega)] at q
    rw [if_neg q] at h
    exact h
/-- the fewest nights over the first k streets, 101 for none -/
def fwN (P : Nat → Int32) (w : Nat) : Nat → Nat
  | 0 => 101
  | k + 1 => min (fwN P w k) (nUN w (gD (fun j => P (4 + 83 * k + j)) (cellsN P k)).toNatClampNeg (P (3 + 83 * k) * P 504 / 100).toNatClampNeg)
theorem fwN_le (P : Nat → Int32) (w : Nat) : ∀ k, fwN P w k ≤ 101 := by
  intro k
  induction k with
  | zero => exact Nat.le_refl _
  | succ k ih => unfold fwN; omega
noncomputable def vNT (P : Nat → Int32) (x : Int32) : Int32 := cif (∃ w, 1 ≤ w ∧ w ≤ 99 ∧ x = nI w) (if fwN P x.toNatClampNeg (P 0).toNatClampNeg ≤ 100 then nI (fwN P x.toNatClampNeg (P 0).toNatClampNeg) else -9) (-1)
theorem s_8_fallOn {B i : Nat} {Q : Int32 → St → Prop} {σ : St} (hi : i < 6) (h : Q (pgW σ B (3 + 83 * i) * pgW σ B 504 / 100) σ) : m_8_fallOn B (B + 1 + 5 + 3 * i) Q σ := by
  unfold m_8_fallOn
  rw [tn5, gset σ B (k := 5) (by omega), gst σ B (k := 2) hi (by omega), show 1 + 83 * i + 2 = 3 + 83 * i by omega]
  exact ⟨vi5, h⟩
theorem okP.dirts {c n l i : Nat} {P : Nat → Int32} (ok : okP c n l P) (hi : i < n) : ∀ k, k < 40 → ∃ v, (fun j => P (4 + 83 * i + j)) k = nI v ∧ v ≤ 99 := fun k hk => (ok.2.2.1 i k hi hk).1
theorem s_9_nightsTo {c n l : Nat} {x : Int32} {Q : Int32 → St → Prop} {σ : St} {r0 : Nat} (ok : okP c n l (pgW σ (r0 + 7))) (h : Q (vNT (pgW σ (r0 + 7)) x) σ) : m_9_nightsTo r0 x Q σ := by
  unfold m_9_nightsTo
  have h6 := ok.1.2.1
  unfold vNT at h
  rw [ok.1.1, tn n (by omega)] at h
  have one : (1 : Int32) = nI 1 := rfl
  rcases ix x 100 with g | ⟨k, rfl, hk, hk2⟩ | ⟨w, rfl, hw⟩
  · rw [cif_f (by rintro ⟨k, hk, hk2, e⟩; exact neg_ne g (by omega) e)] at h
    refine ⟨fun _ => h, fun q => absurd (Int32.lt_trans g (by decide)) q⟩
  · rw [cif_f (by rintro ⟨j, hj, hj2, e⟩; rw [eqI (by omega) (by omega)] at e; omega)] at h
    refine ⟨fun q => absurd ((ltI (b := 1) (by omega) (by omega)).mp q) (by omega), fun _ => ⟨fun q => absurd ((leI (b := 99) (by omega) (by omega)).mp q) (by omega), fun _ => h⟩⟩
  · by_cases hw1 : w < 1
    · rw [cif_f (by rintro ⟨j, hj, hj2, e⟩; rw [eqI (by omega) (by omega)] at e; omega)] at h
      refine ⟨fun _ => h, fun q => absurd ((ltI (b := 1) (by omega) (by omega)).mpr hw1) q⟩
    · rw [cif_t ⟨w, by omega, by omega, rfl⟩, tn w (by omega)] at h
      refine ⟨fun q => absurd ((ltI (b := 1) (by omega) (by omega)).mp q) (by omega), fun _ => ⟨fun _ => ?_, fun q => absurd ((leI (b := 99) (by omega) (by omega)).mpr (by omega)) q⟩⟩
      refine it_cnt (fun (k : Nat) (A : Int32 → Int32 → St → Prop) => A (nI (fwN (pgW σ (r0 + 7)) w k)) (nI k) σ) n (by omega) ?_ ?_
      · intro k hk A hA
        unfold m_9_nightsTo_18
        rw [g0, ok.1.1]
        refine ⟨fun q => absurd q (nle_of hk (by omega)), fun _ => ?_⟩
        rw [tn k (by omega)]
        refine ⟨vin (by omega), fun r4 e4 => ?_⟩
        rw [e4]
        obtain ⟨hv, hv1, hv2⟩ := ok.cells hk
        refine s_6_greatestDirt (pg_st (k := 0) (by omega) (by omega) hv) hv2 ?_
        rw [gD_eq (g := fun j => pgW σ (r0 + 7) (4 + 83 * k + j)) _ hv2 (fun j hj => gdi σ (r0 + 7) (by omega) hj)]
        refine s_8_fallOn (by omega) ?_
        obtain ⟨g, hg1, hg2⟩ := gD_nat (ok.dirts hk) _ hv2
        obtain ⟨f, hf1, hf2⟩ := ok.fall hk
        have hA : A (nI (min (fwN (pgW σ (r0 + 7)) w k) (nUN w (gD (fun j => pgW σ (r0 + 7) (4 + 83 * k + j)) (cellsN (pgW σ (r0 + 7)) k)).toNatClampNeg (pgW σ (r0 + 7) (3 + 83 * k) * pgW σ (r0 + 7) 504 / 100).toNatClampNeg))) (nI (k + 1)) σ := hA
        rw [hg1, hf1, tn g (by omega), tn f (by omega)] at hA
        rw [hg1, hf1]
        refine s_9_nightsUntil (by omega) hg2 hf2 ?_
        intro x2 e2 x3 e3
        have b1 := fwN_le (pgW σ (r0 + 7)) w k
        have b2 : nUN w g f ≤ 101 := nUN_le (by omega)
        have e2' : x2 = nI (min (fwN (pgW σ (r0 + 7)) w k) (nUN w g f)) := by
          rw [e2]
          by_cases z : nUN w g f < fwN (pgW σ (r0 + 7)) w k
          · rw [if_pos ((lti (by omega) (by omega)).mpr z), Nat.min_eq_right (by omega)]
          · rw [if_neg (fun q => z ((lti (by omega) (by omega)).mp q)), Nat.min_eq_left (by omega)]
        rw [e2', e3, iplus]
        exact hA
      · intro A
        unfold m_9_nightsTo_18
        rw [g0, ok.1.1]
        refine ⟨fun _ => ?_, fun q => absurd ((lei (by omega) (by omega)).mpr (Nat.le_refl n)) q⟩
        have b1 := fwN_le (pgW σ (r0 + 7)) w n
        refine ⟨fun q => ?_, fun q => ?_⟩
        · rw [show (100 : Int32) = nI 100 from rfl, lti (by omega) (by omega)] at q
          rw [if_neg (by omega)] at h
          exact h
        · rw [show (100 : Int32) = nI 100 from rfl, lti (by omega) (by omega)] at q
          rw [if_pos (by omega)] at h
          exact h
theorem ne9 {k : Nat} (h : k < 1000001) : ¬ nI k = -9 := fun e => by
  have := nn0 (j := k) (by omega)
  rw [e] at this
  exact this (by decide)
theorem s_10_nightsTo {c n l : Nat} {x : Int32} {Q : Int32 → St → Prop} {σ : St} {r0 : Nat} (ok : okP c n l (σ.1 (r0 + 1))) (h : Q (vNT (σ.1 (r0 + 1)) x) σ) : m_10_nightsTo r0 x Q σ := by
  unfold m_10_nightsTo
  have h6 := ok.1.2.1
  unfold vNT at h
  rw [ok.1.1, tn n (by omega)] at h
  refine s_10_inN (a := 1) (b := 99) (by omega) (by omega) (fun w hw1 hw e => ?_) (fun q => ?_)
  · subst e
    refine ⟨fun _ => ?_, fun q => absurd q (by decide)⟩
    rw [cif_t ⟨w, by omega, by omega, rfl⟩, tn w (by omega)] at h
    refine it_cnt (fun (k : Nat) (A : Int32 → Int32 → St → Prop) => A (if fwN (σ.1 (r0 + 1)) w k ≤ 100 then nI (fwN (σ.1 (r0 + 1)) w k) else -9) (nI k) σ) n (by omega) ?_ ?_
    · intro k hk A hA
      unfold m_10_nightsTo_17
      rw [tn0, ok.1.1]
      refine ⟨vq0, fun q => absurd q (nle_of hk (by omega)), fun _ => ?_⟩
      refine s_10_of (k := 2) (by omega) (by omega) ?_
      rw [show 1 + 83 * k + 2 = 3 + 83 * k by omega, t504]
      refine ⟨v504, fun x4 e4 => ?_⟩
      obtain ⟨hv, hv1, hv2⟩ := ok.cells hk
      refine s_10_greatest (by omega) hv hv2 ?_
      obtain ⟨g, hg1, hg2⟩ := gD_nat (ok.dirts hk) _ hv2
      obtain ⟨f, hf1, hf2⟩ := ok.fall hk
      have b1 := fwN_le (σ.1 (r0 + 1)) w k
      have b2 : nUN w g f ≤ 101 := nUN_le (by omega)
      have hA : A (if min (fwN (σ.1 (r0 + 1)) w k) (nUN w (gD (fun j => σ.1 (r0 + 1) (4 + 83 * k + j)) (cellsN (σ.1 (r0 + 1)) k)).toNatClampNeg (σ.1 (r0 + 1) (3 + 83 * k) * σ.1 (r0 + 1) 504 / 100).toNatClampNeg) ≤ 100 then nI (min (fwN (σ.1 (r0 + 1)) w k) (nUN w (gD (fun j => σ.1 (r0 + 1) (4 + 83 * k + j)) (cellsN (σ.1 (r0 + 1)) k)).toNatClampNeg (σ.1 (r0 + 1) (3 + 83 * k) * σ.1 (r0 + 1) 504 / 100).toNatClampNeg)) else -9) (nI (k + 1)) σ := hA
      rw [hg1, hf1, tn g (by omega), tn f (by omega)] at hA
      rw [hf1] at e4
      rw [hg1, e4]
      have fin : m_10_nightsTo_86 r0 (nI w) (if fwN (σ.1 (r0 + 1)) w k ≤ 100 then nI (fwN (σ.1 (r0 + 1)) w k) else -9) (nI k) A Q (nI (nUN w g f)) σ := by
        unfold m_10_nightsTo_86
        rw [show (100 : Int32) = nI 100 from rfl]
        refine ⟨fun q x3 e3 => ?_, fun q => ?_⟩
        · rw [lti (by omega) (by omega)] at q
          rw [e3, iplus]
          rw [Nat.min_eq_left (by omega)] at hA
          exact hA
        · rw [lti (by omega) (by omega)] at q
          by_cases z : fwN (σ.1 (r0 + 1)) w k ≤ 100
          · rw [if_pos z]
            refine ⟨fun q2 => absurd q2 (ne9 (by omega)), fun _ => ⟨fun q2 x3 e3 => ?_, fun q2 x3 e3 => ?_⟩⟩
            · rw [lei (by omega) (by omega)] at q2
              rw [Nat.min_eq_left q2, if_pos z] at hA
              rw [e3, iplus]
              exact hA
            · rw [lei (by omega) (by omega)] at q2
              rw [Nat.min_eq_right (by omega), if_pos (by omega)] at hA
              rw [e3, iplus]
              exact hA
          · rw [if_neg z]
            refine ⟨fun _ x3 e3 => ?_, fun q2 => absurd rfl q2⟩
            rw [Nat.min_eq_right (by omega), if_pos (by omega)] at hA
            rw [e3, iplus]
            exact hA
      refine ⟨fun q => ⟨fun q2 => ⟨q2, ?_⟩, fun q2 => ?_⟩, fun q => ?_⟩
      · rw [lti (by omega) (by omega)] at q
        have q3 : 0 < f := by
          rcases Nat.eq_zero_or_pos f with z | z
          · exact absurd (by rw [z]; rfl) q2
          · exact z
        rw [nU_div (by omega) q q3 hf2]
        unfold nUN at fin
        rw [if_pos q, if_pos q3] at fin
        exact fin
      · rw [lti (by omega) (by omega)] at q
        have q3 : ¬ 0 < f := by rw [show (0 : Int32) = nI 0 from rfl, eqi (by omega) (by omega)] at q2; omega
        unfold nUN at fin
        rw [if_pos q, if_neg q3] at fin
        exact fin
      · rw [lti (by omega) (by omega)] at q
        unfold nUN at fin
        rw [if_neg q] at fin
        exact fin
    · intro A
      unfold m_10_nightsTo_17
      rw [tn0, ok.1.1]
      exact ⟨vq0, fun _ => h, fun q => absurd ((lei (by omega) (by omega)).mpr (Nat.le_refl n)) q⟩
  · rw [cif_f (by rintro ⟨k, hk, hk2, e⟩; exact q k (by omega) (by omega) e)] at h
    exact ⟨fun q => absurd rfl q, fun _ => h⟩
theorem fwN_eq {c n l : Nat} {P p : Nat → Int32} {w : Nat} (ok : okP c n l P) (e : EQP n l P p) : ∀ k, k ≤ n → fwN P w k = fwN p w k := by
  have h6 := ok.1.2.1
  intro k
  induction k with
  | zero => intro _; rfl
  | succ k ih =>
    intro hk
    unfold fwN
    have e3 := e.st (i := k) (by omega) h6 (k := 2) (by omega)
    rw [show 1 + 83 * k + 2 = 3 + 83 * k by omega] at e3
    rw [ih (by omega), cellsN_eq e (by omega) h6, e3, e.set (x := 504) (by omega) (by omega), gD_eq (g := fun j => p (4 + 83 * k + j)) _ (by rw [← cellsN_eq e (by omega) h6]; exact (ok.cells (by omega)).2.2) (fun j hj => e.k (by omega) h6 (by omega))]
theorem vNT_eq {c n l : Nat} {P p : Nat → Int32} {x : Int32} (ok : okP c n l P) (e : EQP n l P p) : vNT P x = vNT p x := by
  unfold vNT
  have h6 := ok.1.2.1
  rw [← e.lo vis_0 (by omega), ok.1.1, tn n (by omega), fwN_eq ok e n (Nat.le_refl n)]
