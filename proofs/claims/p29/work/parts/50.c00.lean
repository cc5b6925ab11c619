-- numbers
theorem li (n : Nat) : (OfNat.ofNat n : Int32) = nI n := rfl
theorem tn (n : Nat) (h : n < 1000001) : (nI n).toNatClampNeg = n := nI_clamp (by omega)
theorem vin {n N : Nat} (h : n < N) (hN : N < 1000001 := by decide) : vp_in (nI n) N := vp_in_nI h (by omega)
theorem lei {a b : Nat} (ha : a < 1000001) (hb : b < 1000001) : nI a ≤ nI b ↔ a ≤ b := nI_leI (by omega) (by omega)
theorem lti {a b : Nat} (ha : a < 1000001) (hb : b < 1000001) : nI a < nI b ↔ a < b := nI_ltI (by omega) (by omega)
theorem eqi {a b : Nat} (ha : a < 1000001) (hb : b < 1000001) : nI a = nI b ↔ a = b := nI_eq (by omega) (by omega)
theorem i_m1 (n : Nat) : nI (n + 1) + (-1) = nI n := pk_m1 n
theorem tn0 : (0 : Int32).toNatClampNeg = 0 := by decide
theorem tn1 : (1 : Int32).toNatClampNeg = 1 := by decide
theorem tn2 : (2 : Int32).toNatClampNeg = 2 := by decide
theorem tn3 : (3 : Int32).toNatClampNeg = 3 := by decide
theorem tn4 : (4 : Int32).toNatClampNeg = 4 := by decide
theorem tn5 : (5 : Int32).toNatClampNeg = 5 := by decide
theorem tn6 : (6 : Int32).toNatClampNeg = 6 := by decide
theorem vi0 : vp_in 0 6 := by unfold vp_in; decide
theorem vi1 : vp_in 1 6 := by unfold vp_in; decide
theorem vi2 : vp_in 2 6 := by unfold vp_in; decide
theorem vi3 : vp_in 3 6 := by unfold vp_in; decide
theorem vi4 : vp_in 4 6 := by unfold vp_in; decide
theorem vi5 : vp_in 5 6 := by unfold vp_in; decide
-- loops
theorem it_up {β : Type} {F : β → β} {bot : β} {app : Nat → β → Prop} {n : Nat} (hs : ∀ k, k < n → ∀ B, app (k + 1) B → app k (F B)) (he : ∀ B, app n (F B)) : ∀ (d k fuel : Nat), k + d = n → d < fuel → app k (itN F bot fuel) := by
  intro d
  induction d with
  | zero =>
    intro k fuel hk hf
    obtain ⟨m, rfl⟩ : ∃ m, fuel = m + 1 := ⟨fuel - 1, by omega⟩
    have : k = n := by omega
    subst this
    exact he _
  | succ d ih =>
    intro k fuel hk hf
    obtain ⟨m, rfl⟩ : ∃ m, fuel = m + 1 := ⟨fuel - 1, by omega⟩
    exact hs k (by omega) _ (ih (k + 1) m (by omega) (by omega))
/-- a loop that counts from 0 to n -/
theorem it_cnt {β : Type} {F : β → β} {bot : β} (app : Nat → β → Prop) (n : Nat) (hn : n < 1000000) (hs : ∀ k, k < n → ∀ B, app (k + 1) B → app k (F B)) (he : ∀ B, app n (F B)) : app 0 (itN F bot FU) :=
  it_up hs he n 0 FU (by omega) hn
/-- a loop whose measure falls -/
theorem it_lt {β : Type} {F : β → β} {bot : β} (app : Nat → β → Prop) (hs : ∀ m B, (∀ m', m' < m → app m' B) → app m (F B)) (m : Nat) (hm : m < 1000000) : app m (itN F bot FU) := by
  have key : ∀ fuel m, m < fuel → app m (itN F bot fuel) := by
    intro fuel
    induction fuel with
    | zero => intro m h; omega
    | succ k ih =>
      intro m h
      exact hs m _ (fun m' h' => ih m' (by omega))
  exact key FU m hm
-- memory
theorem wr_same {σ : St} {k j : Nat} {v : Int32} : (wr σ k j v).1 k j = v := by simp [wr, wrA, upd]
theorem wr_else {σ : St} {k j a b : Nat} {v : Int32} (h : a ≠ k ∨ b ≠ j) : (wr σ k j v).1 a b = σ.1 a b := by
  unfold wr wrA upd
  by_cases ha : a = k
  · subst ha
    rcases h with h | h
    · exact absurd rfl h
    · simp [h]
  · simp [ha]
theorem wr_cell {σ : St} {k j a : Nat} {v : Int32} (h : a ≠ k) : (wr σ k j v).1 a = σ.1 a := wrA_ne h
theorem upd_s {f : Nat → Int32} {k : Nat} {v : Int32} : upd f k v k = v := by simp [upd]
theorem upd_n {f : Nat → Int32} {k j : Nat} {v : Int32} (h : j ≠ k) : upd f k v j = f j := by simp [upd, h]
theorem st_ext {σ τ : St} (h : ∀ a j, σ.1 a j = τ.1 a j) (h2 : σ.2 = τ.2) : σ = τ := by
  have h1 : σ.1 = τ.1 := by funext a j; exact h a j
  exact Prod.ext h1 h2
-- a world of the class as one page: place x of the page lies in cell B + oa x, there at oj x
def oa (x : Nat) : Nat :=
  if x = 0 then 0
  else if x < 499 then (if (x - 1) % 83 < 3 then 6 + 3 * ((x - 1) / 83) else if (x - 1) % 83 < 43 then 7 + 3 * ((x - 1) / 83) else 8 + 3 * ((x - 1) / 83))
  else if x < 505 then 3
  else if x < 508 then 0
  else if x < 548 then 24 + (x - 508) / 4
  else if x = 548 then 0
  else if x < 555 then 5
  else if x = 555 then 0
  else if x < 562 then 4
  else 0
def oj (x : Nat) : Nat :=
  if x = 0 then 1
  else if x < 499 then (if (x - 1) % 83 < 3 then (x - 1) % 83 else if (x - 1) % 83 < 43 then (x - 1) % 83 - 3 else (x - 1) % 83 - 43)
  else if x < 505 then x - 499
  else if x = 505 then 6
  else if x = 506 then 7
  else if x = 507 then 3
  else if x < 548 then (x - 508) % 4
  else if x = 548 then 4
  else if x < 555 then x - 549
  else if x = 555 then 50
  else if x < 562 then x - 556
  else if x = 562 then 10
  else 11
def oi (a j : Nat) : Nat :=
  if a = 0 then (if j = 1 then 0 else if j = 6 then 505 else if j = 7 then 506 else if j = 3 then 507 else if j = 4 then 548 else if j = 50 then 555 else if j = 10 then 562 else 563)
  else if a = 3 then 499 + j
  else if a = 4 then 556 + j
  else if a = 5 then 549 + j
  else if a < 24 then (if (a - 6) % 3 = 0 then 1 + 83 * ((a - 6) / 3) + j else if (a - 6) % 3 = 1 then 4 + 83 * ((a - 6) / 3) + j else 44 + 83 * ((a - 6) / 3) + j)
  else 508 + 4 * (a - 24) + j
theorem oi_o : ∀ x, x < 564 → oi (oa x) (oj x) = x := by decide +kernel
theorem oa_lt : ∀ x, x < 564 → oa x < 34 := by decide +kernel
def pgW (σ : St) (B x : Nat) : Int32 := if x < 564 then σ.1 (B + oa x) (oj x) else 0
theorem o_st : ∀ i, i < 6 → ∀ k, k < 3 → 1 + 83 * i + k < 564 ∧ oa (1 + 83 * i + k) = 6 + 3 * i ∧ oj (1 + 83 * i + k) = k := by decide +kernel
theorem o_di : ∀ i, i < 6 → ∀ k, k < 40 → 4 + 83 * i + k < 564 ∧ oa (4 + 83 * i + k) = 7 + 3 * i ∧ oj (4 + 83 * i + k) = k := by decide +kernel
theorem o_pa : ∀ i, i < 6 → ∀ k, k < 40 → 44 + 83 * i + k < 564 ∧ oa (44 + 83 * i + k) = 8 + 3 * i ∧ oj (44 + 83 * i + k) = k := by decide +kernel
theorem o_le : ∀ l, l < 10 → ∀ f, f < 4 → 508 + 4 * l + f < 564 ∧ oa (508 + 4 * l + f) = 24 + l ∧ oj (508 + 4 * l + f) = f := by decide +kernel
theorem o_se : ∀ k, k < 6 → oa (499 + k) = 3 ∧ oj (499 + k) = k ∧ oa (556 + k) = 4 ∧ oj (556 + k) = k ∧ oa (549 + k) = 5 ∧ oj (549 + k) = k := by decide +kernel
theorem g0 (σ : St) (B : Nat) : σ.1 B 1 = pgW σ B 0 := rfl
theorem g507 (σ : St) (B : Nat) : σ.1 B 3 = pgW σ B 507 := rfl
theorem g548 (σ : St) (B : Nat) : σ.1 B 4 = pgW σ B 548 := rfl
theorem g505 (σ : St) (B : Nat) : σ.1 B 6 = pgW σ B 505 := rfl
theorem g506 (σ : St) (B : Nat) : σ.1 B 7 = pgW σ B 506 := rfl
theorem g562 (σ : St) (B : Nat) : σ.1 B 10 = pgW σ B 562 := rfl
theorem g563 (σ : St) (B : Nat) : σ.1 B 11 = pgW σ B 563 := rfl
theorem gset (σ : St) (B : Nat) {k : Nat} (h : k < 6) : σ.1 (B + 3) k = pgW σ B (499 + k) := by
  obtain ⟨h1, h2, -⟩ := o_se k h
  unfold pgW
  rw [if_pos (by omega), h1, h2]
theorem gsum (σ : St) (B : Nat) {k : Nat} (h : k < 6) : σ.1 (B + 4) k = pgW σ B (556 + k) := by
  obtain ⟨-, -, h1, h2, -⟩ := o_se k h
  unfold pgW
  rw [if_pos (by omega), h1, h2]
theorem grep (σ : St) (B : Nat) {k : Nat} (h : k < 6) : σ.1 (B + 5) k = pgW σ B (549 + k) := by
  obtain ⟨-, -, -, -, h1, h2⟩ := o_se k h
  unfold pgW
  rw [if_pos (by omega), h1, h2]
theorem gst (σ : St) (B : Nat) {i k : Nat} (hi : i < 6) (h : k < 3) : σ.1 (B + 1 + 5 + 3 * i) k = pgW σ B (1 + 83 * i + k) := by
  obtain ⟨h0, h1, h2⟩ := o_st i hi k h
  unfold pgW
  rw [if_pos h0, h1, h2]
  rw [show B + 1 + 5 + 3 * i = B + (6 + 3 * i) by omega]
theorem gdi (σ : St) (B : Nat) {i k : Nat} (hi : i < 6) (h : k < 40) : σ.1 (B + 1 + 5 + 3 * i + 1) k = pgW σ B (4 + 83 * i + k) := by
  obtain ⟨h0, h1, h2⟩ := o_di i hi k h
  unfold pgW
  rw [if_pos h0, h1, h2]
  rw [show B + 1 + 5 + 3 * i + 1 = B + (7 + 3 * i) by omega]
theorem gpa (σ : St) (B : Nat) {i k : Nat} (hi : i < 6) (h : k < 40) : σ.1 (B + 1 + 5 + 3 * i + 2) k = pgW σ B (44 + 83 * i + k) := by
  obtain ⟨h0, h1, h2⟩ := o_pa i hi k h
  unfold pgW
  rw [if_pos h0, h1, h2]
  rw [show B + 1 + 5 + 3 * i + 2 = B + (8 + 3 * i) by omega]
theorem gle (σ : St) (B : Nat) {l f : Nat} (hl : l < 10) (h : f < 4) : σ.1 (B + 2 + 22 + l) f = pgW σ B (508 + 4 * l + f) := by
  obtain ⟨h0, h1, h2⟩ := o_le l hl f h
  unfold pgW
  rw [if_pos h0, h1, h2]
  rw [show B + 2 + 22 + l = B + (24 + l) by omega]
/-- from σ to τ only the world at B has changed: it's P now -/
def toW (σ τ : St) (B : Nat) (P : Nat → Int32) : Prop := pgW τ B = P ∧ (∀ a, a < B ∨ B + 34 ≤ a → τ.1 a = σ.1 a) ∧ τ.2 = σ.2
theorem toW.rf {σ : St} {B : Nat} : toW σ σ B (pgW σ B) := ⟨rfl, fun _ _ => rfl, rfl⟩
theorem toW.tr {σ τ υ : St} {B : Nat} {P P' : Nat → Int32} (h : toW σ τ B P) (h' : toW τ υ B P') : toW σ υ B P' := ⟨h'.1, fun a ha => (h'.2.1 a ha).trans (h.2.1 a ha), h'.2.2.trans h.2.2⟩
theorem pgW_wr {σ : St} {B x : Nat} {v : Int32} (hx : x < 564) : pgW (wr σ (B + oa x) (oj x) v) B = upd (pgW σ B) x v := by
  funext y
  unfold upd
  by_cases hy : y = x
  · subst hy
    rw [if_pos rfl]
    unfold pgW
    rw [if_pos hx, wr_same]
  · rw [if_neg hy]
    unfold pgW
    by_cases h : y < 564
    · rw [if_pos h, if_pos h]
      refine wr_else ?_
      by_cases h1 : B + oa y = B + oa x
      · right
        intro h2
        apply hy
        rw [← oi_o y h, ← oi_o x hx, h2, show oa y = oa x by omega]
      · exact Or.inl h1
    · rw [if_neg h, if_neg h]
theorem toW.wr {σ τ υ : St} {B a j x : Nat} {P : Nat → Int32} {v : Int32} (h : toW σ τ B P) (e : υ = wr τ a j v) (hx : x < 564) (ha : a = B + oa x) (hj : j = oj x) : toW σ υ B (upd P x v) := by
  subst e ha hj
  refine ⟨by rw [pgW_wr hx, h.1], fun c hc => ?_, h.2.2⟩
  have := oa_lt x hx
  rw [wr_cell (by omega)]
  exact h.2.1 c hc
theorem toW.g {σ τ : St} {B x : Nat} {P : Nat → Int32} (h : toW σ τ B P) : pgW τ B x = P x := by rw [h.1]
theorem oaSt {B i x k : Nat} (hi : i < 6) (hk : k < 3) (hx : x = 1 + 83 * i + k) : x < 564 ∧ B + 1 + 5 + 3 * i = B + oa x ∧ k = oj x := by
  subst hx
  obtain ⟨h0, h1, h2⟩ := o_st i hi k hk
  rw [h1, h2]
  exact ⟨h0, by omega, rfl⟩
theorem oaDi {B i x k : Nat} (hi : i < 6) (hk : k < 40) (hx : x = 4 + 83 * i + k) : x < 564 ∧ B + 1 + 5 + 3 * i + 1 = B + oa x ∧ k = oj x := by
  subst hx
  obtain ⟨h0, h1, h2⟩ := o_di i hi k hk
  rw [h1, h2]
  exact ⟨h0, by omega, rfl⟩
theorem oaPa {B i x k : Nat} (hi : i < 6) (hk : k < 40) (hx : x = 44 + 83 * i + k) : x < 564 ∧ B + 1 + 5 + 3 * i + 2 = B + oa x ∧ k = oj x := by
  subst hx
  obtain ⟨h0, h1, h2⟩ := o_pa i hi k hk
  rw [h1, h2]
  exact ⟨h0, by omega, rfl⟩
theorem oaLe {B l x f : Nat} (hl : l < 10) (hf : f < 4) (hx : x = 508 + 4 * l + f) : x < 564 ∧ B + 2 + 22 + l = B + oa x ∧ f = oj x := by
  subst hx
  obtain ⟨h0, h1, h2⟩ := o_le l hl f hf
  rw [h1, h2]
  exact ⟨h0, by omega, rfl⟩
theorem nar_b {v : Int32} (h : isB v) : vp_nar .boolean v = v := by rcases h with rfl | rfl <;> decide
theorem isB0 : isB 0 := Or.inl rfl
theorem isB1 : isB 1 := Or.inr rfl
/-- the three cells of a street are set -/
def wrS (σ : St) (S : Nat) (c d k : Nat → Int32) : St := (fun a j => if a = S then c j else if a = S + 1 then d j else if a = S + 2 then k j else σ.1 a j, σ.2)
theorem rd_wr (σ : St) (k j : Nat) (v : Int32) (a b : Nat) : (wr σ k j v).1 a b = if a = k then (if b = j then v else σ.1 a b) else σ.1 a b := by
  unfold wr wrA upd
  by_cases h : a = k
  · subst h
    simp
  · simp [h]
theorem rd_wrS (σ : St) (S : Nat) (c d k : Nat → Int32) (a j : Nat) : (wrS σ S c d k).1 a j = if a = S then c j else if a = S + 1 then d j else if a = S + 2 then k j else σ.1 a j := rfl
theorem s_6_clear {r0 : Nat} {Q : St → Prop} {σ : St} (h : Q (wrS σ r0 (fun j => if j < 3 then 0 else σ.1 r0 j) (fun j => if j < 40 then 0 else σ.1 (r0 + 1) j) (fun j => if j < 40 then 0 else σ.1 (r0 + 2) j))) : m_6_clear r0 Q σ := by
  unfold m_6_clear
  intro σ1 e1 σ2 e2 σ3 e3
  refine it_cnt (fun (k : Nat) (B : Int32 → St → Prop) => ∀ τ, τ = wrS σ r0 (fun j => if j < 3 then 0 else σ.1 r0 j) (fun j => if j < k then 0 else σ.1 (r0 + 1) j) (fun j => if j < k then 0 else σ.1 (r0 + 2) j) → B (nI k) τ) 40 (by decide) ?_ ?_ σ3 ?_
  rotate_left 2
  · rw [e3, e2, e1]
    refine st_ext (fun a j => ?_) rfl
    simp only [rd_wr, rd_wrS]
    repeat' split
    all_goals first | rfl | omega | (subst_vars; rfl) | (subst_vars; omega)
  · intro k hk B hB τ e
    unfold m_6_clear_17
    refine ⟨fun h => absurd ((lei (a := 40) (by decide) (by omega)).mp h) (by omega), fun _ => ⟨vin hk, fun σ4 e4 => ⟨vin hk, fun σ5 e5 x ex => ?_⟩⟩⟩
    rw [ex, li, nI_add]
    refine hB σ5 ?_
    rw [e5, e4, e, tn k (by omega), nar_b isB0]
    refine st_ext (fun a j => ?_) rfl
    simp only [rd_wr, rd_wrS]
    repeat' split
    all_goals first | rfl | omega | (subst_vars; rfl) | (subst_vars; omega)
  · intro B τ e
    unfold m_6_clear_17
    exact ⟨fun _ => by rw [e]; exact h, fun h => absurd ((lei (a := 40) (by decide) (by decide)).mpr (Nat.le_refl 40)) h⟩
theorem s_6_copyFrom {r0 r1 : Nat} {Q : St → Prop} {σ : St} (hd : r0 + 3 ≤ r1 ∨ r1 + 3 ≤ r0) (hp : ∀ j, j < 40 → isB (σ.1 (r1 + 2) j)) (h : Q (wrS σ r0 (fun j => if j < 3 then σ.1 r1 j else σ.1 r0 j) (fun j => if j < 40 then σ.1 (r1 + 1) j else σ.1 (r0 + 1) j) (fun j => if j < 40 then σ.1 (r1 + 2) j else σ.1 (r0 + 2) j))) : m_6_copyFrom r0 r1 Q σ := by
  unfold m_6_copyFrom
  intro σ1 e1 σ2 e2 σ3 e3
  refine it_cnt (fun (k : Nat) (B : Int32 → St → Prop) => ∀ τ, τ = wrS σ r0 (fun j => if j < 3 then σ.1 r1 j else σ.1 r0 j) (fun j => if j < k then σ.1 (r1 + 1) j else σ.1 (r0 + 1) j) (fun j => if j < k then σ.1 (r1 + 2) j else σ.1 (r0 + 2) j) → B (nI k) τ) 40 (by decide) ?_ ?_ σ3 ?_
  rotate_left 2
  · rw [e3, e2, e1]
    refine st_ext (fun a j => ?_) rfl
    simp only [rd_wr, rd_wrS]
    repeat' split
    all_goals first | rfl | omega | (subst_vars; rfl) | (subst_vars; omega)
  · intro k hk B hB τ e
    unfold m_6_copyFrom_26
    refine ⟨fun h => absurd ((lei (a := 40) (by decide) (by omega)).mp h) (by omega), fun _ => ⟨vin hk, vin hk, fun σ4 e4 => ⟨vin hk, vin hk, fun σ5 e5 x ex => ?_⟩⟩⟩
    rw [ex, li, nI_add]
    refine hB σ5 ?_
    have h1 : σ4.1 (r1 + 2) k = σ.1 (r1 + 2) k := by
      rw [e4, e]
      simp only [rd_wr, rd_wrS]
      repeat' split
      all_goals first | rfl | omega | (subst_vars; rfl) | (subst_vars; omega)
    have h2 : τ.1 (r1 + 1) k = σ.1 (r1 + 1) k := by
      rw [e]
      simp only [rd_wrS]
      repeat' split
      all_goals first | rfl | omega | (subst_vars; rfl) | (subst_vars; omega)
    rw [e5, tn k (by omega), h1, nar_b (hp k hk), e4, tn k (by omega), h2, e]
    refine st_ext (fun a j => ?_) rfl
    simp only [rd_wr, rd_wrS]
    repeat' split
    all_goals first | rfl | omega | (subst_vars; rfl) | (subst_vars; omega)
  · intro B τ e
    unfold m_6_copyFrom_26
    exact ⟨fun _ => by rw [e]; exact h, fun h => absurd ((lei (a := 40) (by decide) (by decide)).mpr (Nat.le_refl 40)) h⟩
theorem iplus (n : Nat) : nI n + (1 : Int32) = nI (n + 1) := nI_1 n
theorem pl (s c : Nat) : nI s * (20 : Int32) + nI c = nI (20 * s + c) := by
  rw [li, pk_mul, nI_add, Nat.mul_comm]
theorem nle_of {a b : Nat} (h : b < a) (ha : a < 1000001) : ¬ nI a ≤ nI b := fun q => by
  rw [lei ha (by omega)] at q
  omega
def sD (f : Nat → Int32) (o : Nat) : Nat → Int32
  | 0 => 0
  | k + 1 => sD f o k + f (o + k)
theorem sD_eq {f g : Nat → Int32} {o o' : Nat} : ∀ n, (∀ k, k < n → f (o + k) = g (o' + k)) → sD f o n = sD g o' n := by
  intro n
  induction n with
  | zero => intro _; rfl
  | succ n ih =>
    intro h
    show sD f o n + f (o + n) = sD g o' n + g (o' + n)
    rw [ih (fun k hk => h k (by omega)), h n (by omega)]
theorem s_6_dirtOfSide {r0 n s : Nat} {Q : Int32 → St → Prop} {σ : St} (hn : σ.1 r0 0 = nI n) (h20 : n ≤ 20) (hs : s < 2) (h : Q (sD (σ.1 (r0 + 1)) (20 * s) n) σ) : m_6_dirtOfSide r0 (nI s) Q σ := by
  unfold m_6_dirtOfSide
  refine it_cnt (fun (k : Nat) (B : Int32 → Int32 → St → Prop) => B (sD (σ.1 (r0 + 1)) (20 * s) k) (nI k) σ) n (by omega) ?_ ?_
  · intro k hk B hB
    unfold m_6_dirtOfSide_4
    refine ⟨fun q => absurd q (by rw [hn]; exact nle_of hk (by omega)), fun _ => ?_⟩
    unfold m_9_placeOf
    rw [pl]
    refine ⟨vin (by omega), fun x2 e2 x3 e3 => ?_⟩
    rw [tn _ (by omega)] at e2
    rw [e2, e3, iplus]
    exact hB
  · intro B
    unfold m_6_dirtOfSide_4
    exact ⟨fun _ => h, fun q => absurd (by rw [hn]; exact (lei (by omega) (by omega)).mpr (Nat.le_refl n)) q⟩
theorem s_6_allDirt {r0 n : Nat} {Q : Int32 → St → Prop} {σ : St} (hn : σ.1 r0 0 = nI n) (h20 : n ≤ 20) (h : Q (sD (σ.1 (r0 + 1)) 0 n + sD (σ.1 (r0 + 1)) 20 n) σ) : m_6_allDirt r0 Q σ := by
  unfold m_6_allDirt
  refine s_6_dirtOfSide (s := 0) hn h20 (by decide) ?_
  exact s_6_dirtOfSide (s := 1) hn h20 (by decide) h
/-- parked cells, one cell of each side after the other -/
def pP (f : Nat → Int32) : Nat → Int32
  | 0 => 0
  | k + 1 => (pP f k + (if f k = 0 then 0 else 1)) + (if f (20 + k) = 0 then 0 else 1)
