def FT0 : u_T := fun k => match k with
  | 0 => ("SweeperRounds$History", "worlds", "[LSweeperRounds$World;", true)
  | 1 => ("SweeperRounds$History", "next", "I", false)
  | _ => ("SweeperRounds$History", "size", "I", false)
def Ft0 : Nat → FieldType := fun k => match k with
  | 0 => .array (.object "SweeperRounds$World")
  | 1 => .int
  | _ => .int
theorem Fn0 : ∀ a, a < 3 → ∀ b, b < 3 → a ≠ b → (FT0 a).2.1 ≠ (FT0 b).2.1 := by decide +kernel
theorem Fy0 : ∀ k, k < 3 → parseFieldDescriptor (FT0 k).2.2.1 = some (Ft0 k) := by decide +kernel
theorem Fi0 : ∀ w ∈ u_ws "SweeperRounds$History" FT0 3, w ∈ wA := wA_all (by decide +kernel)
def FT1 : u_T := fun k => match k with
  | 0 => ("SweeperRounds$Leg", "street", "I", false)
  | 1 => ("SweeperRounds$Leg", "side", "I", false)
  | 2 => ("SweeperRounds$Leg", "sweptCells", "I", false)
  | _ => ("SweeperRounds$Leg", "taken", "I", false)
def Ft1 : Nat → FieldType := fun k => match k with
  | 0 => .int
  | 1 => .int
  | 2 => .int
  | _ => .int
theorem Fn1 : ∀ a, a < 4 → ∀ b, b < 4 → a ≠ b → (FT1 a).2.1 ≠ (FT1 b).2.1 := by decide +kernel
theorem Fy1 : ∀ k, k < 4 → parseFieldDescriptor (FT1 k).2.2.1 = some (Ft1 k) := by decide +kernel
theorem Fi1 : ∀ w ∈ u_ws "SweeperRounds$Leg" FT1 4, w ∈ wA := wA_all (by decide +kernel)
def FT2 : u_T := fun k => match k with
  | 0 => ("SweeperRounds$Orders", "best", "[I", true)
  | 1 => ("SweeperRounds$Orders", "bestTaken", "I", false)
  | 2 => ("SweeperRounds$Orders", "order", "[I", true)
  | _ => ("SweeperRounds$Orders", "length", "I", false)
def Ft2 : Nat → FieldType := fun k => match k with
  | 0 => .array (.int)
  | 1 => .int
  | 2 => .array (.int)
  | _ => .int
theorem Fn2 : ∀ a, a < 4 → ∀ b, b < 4 → a ≠ b → (FT2 a).2.1 ≠ (FT2 b).2.1 := by decide +kernel
theorem Fy2 : ∀ k, k < 4 → parseFieldDescriptor (FT2 k).2.2.1 = some (Ft2 k) := by decide +kernel
theorem Fi2 : ∀ w ∈ u_ws "SweeperRounds$Orders" FT2 4, w ∈ wA := wA_all (by decide +kernel)
def FT3 : u_T := fun k => match k with
  | 0 => ("SweeperRounds$Reader", "draft", "LSweeperRounds$Street;", true)
  | 1 => ("SweeperRounds$Reader", "faultIndex", "I", false)
  | 2 => ("SweeperRounds$Reader", "at", "I", false)
  | _ => ("SweeperRounds$Reader", "fault", "I", false)
def Ft3 : Nat → FieldType := fun k => match k with
  | 0 => .object "SweeperRounds$Street"
  | 1 => .int
  | 2 => .int
  | _ => .int
theorem Fn3 : ∀ a, a < 4 → ∀ b, b < 4 → a ≠ b → (FT3 a).2.1 ≠ (FT3 b).2.1 := by decide +kernel
theorem Fy3 : ∀ k, k < 4 → parseFieldDescriptor (FT3 k).2.2.1 = some (Ft3 k) := by decide +kernel
theorem Fi3 : ∀ w ∈ u_ws "SweeperRounds$Reader" FT3 4, w ∈ wA := wA_all (by decide +kernel)
def FT4 : u_T := fun k => match k with
  | 0 => ("SweeperRounds$Report", "reason", "I", false)
  | 1 => ("SweeperRounds$Report", "units", "I", false)
  | 2 => ("SweeperRounds$Report", "trips", "I", false)
  | 3 => ("SweeperRounds$Report", "taken", "I", false)
  | 4 => ("SweeperRounds$Report", "worn", "I", false)
  | _ => ("SweeperRounds$Report", "leg", "I", false)
def Ft4 : Nat → FieldType := fun k => match k with
  | 0 => .int
  | 1 => .int
  | 2 => .int
  | 3 => .int
  | 4 => .int
  | _ => .int
theorem Fn4 : ∀ a, a < 6 → ∀ b, b < 6 → a ≠ b → (FT4 a).2.1 ≠ (FT4 b).2.1 := by decide +kernel
theorem Fy4 : ∀ k, k < 6 → parseFieldDescriptor (FT4 k).2.2.1 = some (Ft4 k) := by decide +kernel
theorem Fi4 : ∀ w ∈ u_ws "SweeperRounds$Report" FT4 6, w ∈ wA := wA_all (by decide +kernel)
def FT5 : u_T := fun k => match k with
  | 0 => ("SweeperRounds$Round", "world", "LSweeperRounds$World;", true)
  | _ => ("SweeperRounds$Round", "standsIn", "I", false)
def Ft5 : Nat → FieldType := fun k => match k with
  | 0 => .object "SweeperRounds$World"
  | _ => .int
theorem Fn5 : ∀ a, a < 2 → ∀ b, b < 2 → a ≠ b → (FT5 a).2.1 ≠ (FT5 b).2.1 := by decide +kernel
theorem Fy5 : ∀ k, k < 2 → parseFieldDescriptor (FT5 k).2.2.1 = some (Ft5 k) := by decide +kernel
theorem Fi5 : ∀ w ∈ u_ws "SweeperRounds$Round" FT5 2, w ∈ wA := wA_all (by decide +kernel)
def FT6 : u_T := fun k => match k with
  | 0 => ("SweeperRounds$Street", "cells", "I", false)
  | 1 => ("SweeperRounds$Street", "distance", "I", false)
  | 2 => ("SweeperRounds$Street", "trees", "I", false)
  | 3 => ("SweeperRounds$Street", "dirt", "[I", true)
  | _ => ("SweeperRounds$Street", "parked", "[Z", true)
def Ft6 : Nat → FieldType := fun k => match k with
  | 0 => .int
  | 1 => .int
  | 2 => .int
  | 3 => .array (.int)
  | _ => .array (.boolean)
theorem Fn6 : ∀ a, a < 5 → ∀ b, b < 5 → a ≠ b → (FT6 a).2.1 ≠ (FT6 b).2.1 := by decide +kernel
theorem Fy6 : ∀ k, k < 5 → parseFieldDescriptor (FT6 k).2.2.1 = some (Ft6 k) := by decide +kernel
theorem Fi6 : ∀ w ∈ u_ws "SweeperRounds$Street" FT6 5, w ∈ wA := wA_all (by decide +kernel)
def FT7 : u_T := fun k => match k with
  | 0 => ("SweeperRounds$Text", "signs", "[C", true)
  | _ => ("SweeperRounds$Text", "length", "I", false)
def Ft7 : Nat → FieldType := fun k => match k with
  | 0 => .array (.char)
  | _ => .int
theorem Fn7 : ∀ a, a < 2 → ∀ b, b < 2 → a ≠ b → (FT7 a).2.1 ≠ (FT7 b).2.1 := by decide +kernel
theorem Fy7 : ∀ k, k < 2 → parseFieldDescriptor (FT7 k).2.2.1 = some (Ft7 k) := by decide +kernel
theorem Fi7 : ∀ w ∈ u_ws "SweeperRounds$Text" FT7 2, w ∈ wA := wA_all (by decide +kernel)
def FT8 : u_T := fun k => match k with
  | 0 => ("SweeperRounds$World", "streets", "[LSweeperRounds$Street;", true)
  | 1 => ("SweeperRounds$World", "streetCount", "I", false)
  | 2 => ("SweeperRounds$World", "legs", "[LSweeperRounds$Leg;", true)
  | 3 => ("SweeperRounds$World", "legCount", "I", false)
  | 4 => ("SweeperRounds$World", "legsTell", "Z", false)
  | 5 => ("SweeperRounds$World", "settings", "[I", true)
  | 6 => ("SweeperRounds$World", "brush", "I", false)
  | 7 => ("SweeperRounds$World", "hopper", "I", false)
  | 8 => ("SweeperRounds$World", "sums", "[I", true)
  | 9 => ("SweeperRounds$World", "report", "LSweeperRounds$Report;", true)
  | 10 => ("SweeperRounds$World", "shifts", "I", false)
  | _ => ("SweeperRounds$World", "nights", "I", false)
def Ft8 : Nat → FieldType := fun k => match k with
  | 0 => .array (.object "SweeperRounds$Street")
  | 1 => .int
  | 2 => .array (.object "SweeperRounds$Leg")
  | 3 => .int
  | 4 => .boolean
  | 5 => .array (.int)
  | 6 => .int
  | 7 => .int
  | 8 => .array (.int)
  | 9 => .object "SweeperRounds$Report"
  | 10 => .int
  | _ => .int
theorem Fn8 : ∀ a, a < 12 → ∀ b, b < 12 → a ≠ b → (FT8 a).2.1 ≠ (FT8 b).2.1 := by decide +kernel
theorem Fy8 : ∀ k, k < 12 → parseFieldDescriptor (FT8 k).2.2.1 = some (Ft8 k) := by decide +kernel
theorem Fi8 : ∀ w ∈ u_ws "SweeperRounds$World" FT8 12, w ∈ wA := wA_all (by decide +kernel)
def FT9 : u_T := fun k => match k with
  | 0 => ("SweeperRounds", "text", "LSweeperRounds$Text;", true)
  | 1 => ("SweeperRounds", "reader", "LSweeperRounds$Reader;", true)
  | 2 => ("SweeperRounds", "now", "LSweeperRounds$World;", true)
  | 3 => ("SweeperRounds", "round", "LSweeperRounds$Round;", true)
  | 4 => ("SweeperRounds", "history", "LSweeperRounds$History;", true)
  | 5 => ("SweeperRounds", "trial", "LSweeperRounds$World;", true)
  | 6 => ("SweeperRounds", "trialRound", "LSweeperRounds$Round;", true)
  | 7 => ("SweeperRounds", "orders", "LSweeperRounds$Orders;", true)
  | _ => ("SweeperRounds", "latestFault", "I", false)
def Ft9 : Nat → FieldType := fun k => match k with
  | 0 => .object "SweeperRounds$Text"
  | 1 => .object "SweeperRounds$Reader"
  | 2 => .object "SweeperRounds$World"
  | 3 => .object "SweeperRounds$Round"
  | 4 => .object "SweeperRounds$History"
  | 5 => .object "SweeperRounds$World"
  | 6 => .object "SweeperRounds$Round"
  | 7 => .object "SweeperRounds$Orders"
  | _ => .int
theorem Fn9 : ∀ a, a < 9 → ∀ b, b < 9 → a ≠ b → (FT9 a).2.1 ≠ (FT9 b).2.1 := by decide +kernel
theorem Fy9 : ∀ k, k < 9 → parseFieldDescriptor (FT9 k).2.2.1 = some (Ft9 k) := by decide +kernel
theorem Fi9 : ∀ w ∈ u_ws "SweeperRounds" FT9 9, w ∈ wA := wA_all (by decide +kernel)
abbrev classes : List vw_C := [("SweeperRounds$History", FT0, 3), ("SweeperRounds$Leg", FT1, 4), ("SweeperRounds$Orders", FT2, 4), ("SweeperRounds$Reader", FT3, 4), ("SweeperRounds$Report", FT4, 6), ("SweeperRounds$Round", FT5, 2), ("SweeperRounds$Street", FT6, 5), ("SweeperRounds$Text", FT7, 2), ("SweeperRounds$World", FT8, 12), ("SweeperRounds", FT9, 9)]
/-- the state: what each cell holds of whole numbers, by the cell's number and the place in it; the one long -/
abbrev St : Type := (Nat → Nat → Int32) × Int64
def kindW : List Nat := [8, 23, 24, 26, 27, 4, 6, 20, 22, 6, 20, 22, 6, 20, 22, 6, 20, 22, 6, 20, 22, 6, 20, 22, 1, 1, 1, 1, 1, 1, 1, 1, 1, 1]
def kinds : List Nat := [9, 7, 21, 3, 6, 20, 22] ++ (kindW ++ ([5, 0, 25] ++ (kindW ++ (kindW ++ (kindW ++ (kindW ++ (kindW ++ (kindW ++ (kindW ++ (kindW ++ (kindW ++ ([5, 2, 28, 29, 30, 31, 32, 33]))))))))))))
def kd (k : Nat) : Nat := kinds.getD k 99
def rfR (k : Nat) : Nat := if k = 41 then 7 else 316
def lnK (c : Nat) : Nat := match c with
  | 20 => 40
  | 21 => 80
  | 22 => 40
  | 23 => 6
  | 24 => 10
  | 25 => 8
  | 26 => 6
  | 27 => 6
  | 28 => 6
  | 29 => 6
  | 30 => 36
  | 31 => 36
  | 32 => 10
  | 33 => 10
  | _ => 0
def fsOf (ad : Nat → Nat) (σ : St) (k : Nat) (c : Nat) : List Value := match c with
  | 0 => [.ref (ad (k + 1)), .int (σ.1 k 1), .int (σ.1 k 2)]
  | 1 => [.int (σ.1 k 0), .int (σ.1 k 1), .int (σ.1 k 2), .int (σ.1 k 3)]
  | 2 => [.ref (ad (k + 1)), .int (σ.1 k 1), .ref (ad (k + 2)), .int (σ.1 k 3)]
  | 3 => [.ref (ad (k + 1)), .int (σ.1 k 1), .int (σ.1 k 2), .int (σ.1 k 3)]
  | 4 => [.int (σ.1 k 0), .int (σ.1 k 1), .int (σ.1 k 2), .int (σ.1 k 3), .int (σ.1 k 4), .int (σ.1 k 5)]
  | 5 => [.ref (ad (rfR k)), .int (σ.1 k 1)]
  | 6 => [.int (σ.1 k 0), .int (σ.1 k 1), .int (σ.1 k 2), .ref (ad (k + 1)), .ref (ad (k + 2))]
  | 7 => [.ref (ad (k + 1)), .int (σ.1 k 1)]
  | 8 => [.ref (ad (k + 1)), .int (σ.1 k 1), .ref (ad (k + 2)), .int (σ.1 k 3), .int (σ.1 k 4), .ref (ad (k + 3)), .int (σ.1 k 6), .int (σ.1 k 7), .ref (ad (k + 4)), .ref (ad (k + 5)), .int (σ.1 k 10), .int (σ.1 k 11)]
  | 9 => [.ref (ad (k + 1)), .ref (ad (k + 3)), .ref (ad (k + 7)), .ref (ad (k + 41)), .ref (ad (k + 42)), .ref (ad (k + 316)), .ref (ad (k + 350)), .ref (ad (k + 351)), .int (σ.1 k 8)]
  | _ => []
def imgE (ac : Nat → ClassId) (ad : Nat → Nat) (σ : St) (k : Nat) : va_E :=
  if kd k < 20 then .inr (kd k, fsOf ad σ k (kd k))
  else if kd k = 23 then .inl (ac 3, 6, .inr (.inr (.inr (.inr (fun j => some (ad (k + 5 + 3 * j)))))))
  else if kd k = 24 then .inl (ac 4, 10, .inr (.inr (.inr (.inr (fun j => some (ad (k + 22 + j)))))))
  else if kd k = 25 then .inl (ac 5, 8, .inr (.inr (.inr (.inr (fun j => some (ad (k + 1 + 34 * j)))))))
  else .inl (ac (if kd k = 21 then 1 else if kd k = 22 then 2 else 0), lnK (kd k), .inl (σ.1 k))
/-- the world: the class's 354 cells and, where ad 999 is 4, the law's own four rows -/
def wsL (ac : Nat → ClassId) (ad : Nat → Nat) (σ : St) : va_W := (List.range (354 + ad 999)).map (fun k => (ad k, imgE ac ad σ k))
abbrev tysL (ac : Nat → ClassId) : List (ClassId × FieldType) := [(ac 0, .int), (ac 1, .char), (ac 2, .boolean), (ac 3, .object "SweeperRounds$Street"), (ac 4, .object "SweeperRounds$Leg"), (ac 5, .object "SweeperRounds$World")]
def wrA (σ : St) (k : Nat) (f : Nat → Int32) : St := (fun a => if a = k then f else σ.1 a, σ.2)
def wr (σ : St) (k j : Nat) (v : Int32) : St := wrA σ k (upd (σ.1 k) j v)
theorem kd_lt {k c : Nat} (h : kd k = c) (hc : c < 99) : k < 358 := by
  rcases Nat.lt_or_ge k 358 with q | q
  · exact q
  · exfalso
    unfold kd at h
    rw [List.getD_eq_getElem?_getD, List.getElem?_eq_none (by rw [show kinds.length = 358 from by decide +kernel]; exact q)] at h
    simp at h
    omega
theorem kd_l4 : ∀ k, k < 358 → kd k < 30 → k < 354 := by decide +kernel
theorem kd_lo {k c : Nat} (h : kd k = c) (hc : c < 30) : k < 354 := kd_l4 k (kd_lt h (by omega)) (by omega)
theorem wsL_get {ac : Nat → ClassId} {ad : Nat → Nat} {σ : St} {k : Nat} (h : k < 354 + ad 999) : (wsL ac ad σ)[k]? = some (ad k, imgE ac ad σ k) := by
  simp [wsL, h]
theorem wsL_obj {ac : Nat → ClassId} {ad : Nat → Nat} {σ : St} {k c : Nat} (h : kd k = c) (hc : c < 20) : (wsL ac ad σ)[k]? = some (ad k, .inr (c, fsOf ad σ k c)) := by
  have := kd_lo h (by omega)
  rw [wsL_get (by omega)]
  simp only [imgE, h, if_pos hc]
def isPK (c : Nat) : Bool := (20 ≤ c && c ≤ 29) && !(c == 23 || c == 24 || c == 25)
def isLK (c : Nat) : Bool := 30 ≤ c && c ≤ 33
def acK (c : Nat) : Nat := if c = 21 then 1 else if c = 22 then 2 else 0
theorem imgE_pk {ac : Nat → ClassId} {ad : Nat → Nat} {σ : St} {k c : Nat} (h : kd k = c) (hc : isPK c = true ∨ isLK c = true) : imgE ac ad σ k = .inl (ac (acK c), lnK c, .inl (σ.1 k)) := by
  have h2 : 20 ≤ c ∧ c ≠ 23 ∧ c ≠ 24 ∧ c ≠ 25 := by
    rcases hc with hc | hc
    · simp [isPK] at hc
      omega
    · simp [isLK] at hc
      omega
  simp only [imgE, h, if_neg (show ¬ c < 20 by omega), if_neg h2.2.1, if_neg h2.2.2.1, if_neg h2.2.2.2, acK]
theorem wsL_arr {ac : Nat → ClassId} {ad : Nat → Nat} {σ : St} {k c : Nat} (h : kd k = c) (hc : isPK c = true) : (wsL ac ad σ)[k]? = some (ad k, .inl (ac (acK c), lnK c, .inl (σ.1 k))) := by
  have := kd_lo h (by simp [isPK] at hc; omega)
  rw [wsL_get (by omega), imgE_pk h (Or.inl hc)]
theorem wsL_la {ac : Nat → ClassId} {ad : Nat → Nat} {σ : St} {k c : Nat} (h4 : ad 999 = 4) (h : kd k = c) (hc : isLK c = true) : (wsL ac ad σ)[k]? = some (ad k, .inl (ac 0, lnK c, .inl (σ.1 k))) := by
  have h1 := kd_lt h (by simp [isLK] at hc; omega)
  rw [wsL_get (by omega), imgE_pk h (Or.inr hc)]
  have : acK c = 0 := by simp [isLK] at hc; unfold acK; rw [if_neg (by omega), if_neg (by omega)]
  rw [this]
theorem wsL_ar3 {ac : Nat → ClassId} {ad : Nat → Nat} {σ : St} {k : Nat} (h : kd k = 23) : (wsL ac ad σ)[k]? = some (ad k, .inl (ac 3, 6, .inr (.inr (.inr (.inr (fun j => some (ad (k + 5 + 3 * j)))))))) := by
  have := kd_lo h (by omega)
  rw [wsL_get (by omega)]
  simp [imgE, h]
theorem wsL_ar4 {ac : Nat → ClassId} {ad : Nat → Nat} {σ : St} {k : Nat} (h : kd k = 24) : (wsL ac ad σ)[k]? = some (ad k, .inl (ac 4, 10, .inr (.inr (.inr (.inr (fun j => some (ad (k + 22 + j)))))))) := by
  have := kd_lo h (by omega)
  rw [wsL_get (by omega)]
  simp [imgE, h]
theorem wsL_ar5 {ac : Nat → ClassId} {ad : Nat → Nat} {σ : St} {k : Nat} (h : kd k = 25) : (wsL ac ad σ)[k]? = some (ad k, .inl (ac 5, 8, .inr (.inr (.inr (.inr (fun j => some (ad (k + 1 + 34 * j)))))))) := by
  have := kd_lo h (by omega)
  rw [wsL_get (by omega)]
  simp [imgE, h]
theorem wsL_set {ac : Nat → ClassId} {ad : Nat → Nat} {σ σ' : St} {k : Nat} {x : va_E} (hx : imgE ac ad σ' k = x) (ho : ∀ a, a ≠ k → imgE ac ad σ' a = imgE ac ad σ a) : (wsL ac ad σ).set k (ad k, x) = wsL ac ad σ' := by
  apply List.ext_getElem?
  intro i
  rw [List.getElem?_set]
  by_cases hi : k = i
  · subst hi
    simp only [if_pos rfl, wsL, List.length_map, List.length_range]
    by_cases hk : k < 354 + ad 999
    · simp [hk, hx]
    · simp [hk]
  · rw [if_neg hi]
    simp only [wsL, List.getElem?_map]
    by_cases hk : i < 354 + ad 999
    · simp [hk, ho i (fun e => hi e.symm)]
    · simp [hk]
theorem fsOf_same {ad : Nat → Nat} {σ σ' : St} {a c : Nat} (h : σ'.1 a = σ.1 a) (h2 : σ'.2 = σ.2) : fsOf ad σ' a c = fsOf ad σ a c := by
  unfold fsOf
  rw [h]
theorem imgE_same {ac : Nat → ClassId} {ad : Nat → Nat} {σ σ' : St} {a : Nat} (h : σ'.1 a = σ.1 a) (h2 : σ'.2 = σ.2) : imgE ac ad σ' a = imgE ac ad σ a := by
  unfold imgE
  rw [h, fsOf_same h h2]
theorem wrA_ne {σ : St} {k a : Nat} {f : Nat → Int32} (h : a ≠ k) : (wrA σ k f).1 a = σ.1 a := by simp [wrA, h]
theorem wrA_eq {σ : St} {k : Nat} {f : Nat → Int32} : (wrA σ k f).1 k = f := by simp [wrA]
theorem wsL_wrA {ac : Nat → ClassId} {ad : Nat → Nat} {σ : St} {k c : Nat} {f : Nat → Int32} (h : kd k = c) (hc : isPK c = true) : (wsL ac ad σ).set k (ad k, .inl (ac (acK c), lnK c, .inl f)) = wsL ac ad (wrA σ k f) := by
  refine wsL_set ?_ (fun a ha => imgE_same (wrA_ne ha) rfl)
  rw [imgE_pk h (Or.inl hc), wrA_eq]
theorem wsL_lwA {ac : Nat → ClassId} {ad : Nat → Nat} {σ : St} {k c : Nat} {f : Nat → Int32} (h : kd k = c) (hc : isLK c = true) : (wsL ac ad σ).set k (ad k, .inl (ac 0, lnK c, .inl f)) = wsL ac ad (wrA σ k f) := by
  refine wsL_set ?_ (fun a ha => imgE_same (wrA_ne ha) rfl)
  have : acK c = 0 := by simp [isLK] at hc; unfold acK; rw [if_neg (by omega), if_neg (by omega)]
  rw [imgE_pk h (Or.inr hc), wrA_eq, this]
theorem wsL_wr {ac : Nat → ClassId} {ad : Nat → Nat} {σ : St} {k c j : Nat} {v : Int32} {fs : List Value} (h : kd k = c) (hc : c < 20) (hf : fsOf ad (wr σ k j v) k c = fs) : (wsL ac ad σ).set k (ad k, .inr (c, fs)) = wsL ac ad (wr σ k j v) := by
  refine wsL_set ?_ (fun a ha => imgE_same (wrA_ne ha) rfl)
  simp only [imgE, h, if_pos hc, hf]
/-- the statics: their three cells and the script's cell; the script's length, and what it holds -/
abbrev SS : Type := (Nat → Nat) × (Nat × (Nat → Int32))
theorem kr_0_0 {k : Nat} (h : kd k = 0) : kd (k + 1) = 25 := (by decide +kernel : ∀ k, k < 358 → kd k = 0 → kd (k + 1) = 25) k (kd_lt h (by decide)) h
theorem kr_2_0 {k : Nat} (h : kd k = 2) : kd (k + 1) = 28 := (by decide +kernel : ∀ k, k < 358 → kd k = 2 → kd (k + 1) = 28) k (kd_lt h (by decide)) h
theorem kr_2_2 {k : Nat} (h : kd k = 2) : kd (k + 2) = 29 := (by decide +kernel : ∀ k, k < 358 → kd k = 2 → kd (k + 2) = 29) k (kd_lt h (by decide)) h
theorem kr_3_0 {k : Nat} (h : kd k = 3) : kd (k + 1) = 6 := (by decide +kernel : ∀ k, k < 358 → kd k = 3 → kd (k + 1) = 6) k (kd_lt h (by decide)) h
theorem kr_6_3 {k : Nat} (h : kd k = 6) : kd (k + 1) = 20 := (by decide +kernel : ∀ k, k < 358 → kd k = 6 → kd (k + 1) = 20) k (kd_lt h (by decide)) h
theorem kr_6_4 {k : Nat} (h : kd k = 6) : kd (k + 2) = 22 := (by decide +kernel : ∀ k, k < 358 → kd k = 6 → kd (k + 2) = 22) k (kd_lt h (by decide)) h
theorem kr_7_0 {k : Nat} (h : kd k = 7) : kd (k + 1) = 21 := (by decide +kernel : ∀ k, k < 358 → kd k = 7 → kd (k + 1) = 21) k (kd_lt h (by decide)) h
theorem kr_8_0 {k : Nat} (h : kd k = 8) : kd (k + 1) = 23 := (by decide +kernel : ∀ k, k < 358 → kd k = 8 → kd (k + 1) = 23) k (kd_lt h (by decide)) h
theorem kr_8_2 {k : Nat} (h : kd k = 8) : kd (k + 2) = 24 := (by decide +kernel : ∀ k, k < 358 → kd k = 8 → kd (k + 2) = 24) k (kd_lt h (by decide)) h
theorem kr_8_5 {k : Nat} (h : kd k = 8) : kd (k + 3) = 26 := (by decide +kernel : ∀ k, k < 358 → kd k = 8 → kd (k + 3) = 26) k (kd_lt h (by decide)) h
theorem kr_8_8 {k : Nat} (h : kd k = 8) : kd (k + 4) = 27 := (by decide +kernel : ∀ k, k < 358 → kd k = 8 → kd (k + 4) = 27) k (kd_lt h (by decide)) h
theorem kr_8_9 {k : Nat} (h : kd k = 8) : kd (k + 5) = 4 := (by decide +kernel : ∀ k, k < 358 → kd k = 8 → kd (k + 5) = 4) k (kd_lt h (by decide)) h
theorem kr_9_0 {k : Nat} (h : kd k = 9) : kd (k + 1) = 7 := (by decide +kernel : ∀ k, k < 358 → kd k = 9 → kd (k + 1) = 7) k (kd_lt h (by decide)) h
theorem kr_9_1 {k : Nat} (h : kd k = 9) : kd (k + 3) = 3 := (by decide +kernel : ∀ k, k < 358 → kd k = 9 → kd (k + 3) = 3) k (kd_lt h (by decide)) h
theorem kr_9_2 {k : Nat} (h : kd k = 9) : kd (k + 7) = 8 := (by decide +kernel : ∀ k, k < 358 → kd k = 9 → kd (k + 7) = 8) k (kd_lt h (by decide)) h
theorem kr_9_3 {k : Nat} (h : kd k = 9) : kd (k + 41) = 5 := (by decide +kernel : ∀ k, k < 358 → kd k = 9 → kd (k + 41) = 5) k (kd_lt h (by decide)) h
theorem kr_9_4 {k : Nat} (h : kd k = 9) : kd (k + 42) = 0 := (by decide +kernel : ∀ k, k < 358 → kd k = 9 → kd (k + 42) = 0) k (kd_lt h (by decide)) h
theorem kr_9_5 {k : Nat} (h : kd k = 9) : kd (k + 316) = 8 := (by decide +kernel : ∀ k, k < 358 → kd k = 9 → kd (k + 316) = 8) k (kd_lt h (by decide)) h
theorem kr_9_6 {k : Nat} (h : kd k = 9) : kd (k + 350) = 5 := (by decide +kernel : ∀ k, k < 358 → kd k = 9 → kd (k + 350) = 5) k (kd_lt h (by decide)) h
theorem kr_9_7 {k : Nat} (h : kd k = 9) : kd (k + 351) = 2 := (by decide +kernel : ∀ k, k < 358 → kd k = 9 → kd (k + 351) = 2) k (kd_lt h (by decide)) h
theorem kr_5_0 {k : Nat} (_h : kd k = 5) : kd (rfR k) = 8 := by unfold rfR; split <;> decide +kernel
theorem ke_23 {k i : Nat} (h : kd k = 23) (hi : i < 6) : kd (k + 5 + 3 * i) = 6 := (by decide +kernel : ∀ k, k < 358 → kd k = 23 → ∀ i, i < 6 → kd (k + 5 + 3 * i) = 6) k (kd_lt h (by decide)) h i hi
theorem ke_24 {k i : Nat} (h : kd k = 24) (hi : i < 10) : kd (k + 22 + i) = 1 := (by decide +kernel : ∀ k, k < 358 → kd k = 24 → ∀ i, i < 10 → kd (k + 22 + i) = 1) k (kd_lt h (by decide)) h i hi
theorem ke_25 {k i : Nat} (h : kd k = 25) (hi : i < 8) : kd (k + 1 + 34 * i) = 8 := (by decide +kernel : ∀ k, k < 358 → kd k = 25 → ∀ i, i < 8 → kd (k + 1 + 34 * i) = 8) k (kd_lt h (by decide)) h i hi
