/-- while objects are made: the numbers, which references are laid, how many cells there are -/
abbrev Cc : Type := St × (Nat → Nat → Bool) × Nat
def rb (ad : Nat → Nat) (f : Bool) (r : Nat) : Value := if f = true then .ref (ad r) else .null
def fsC (ad : Nat → Nat) (c : Cc) (k : Nat) (ci : Nat) : List Value := match ci with
  | 0 => [rb ad (c.2.1 k 0) (k + 1), .int (c.1.1 k 1), .int (c.1.1 k 2)]
  | 1 => [.int (c.1.1 k 0), .int (c.1.1 k 1), .int (c.1.1 k 2), .int (c.1.1 k 3)]
  | 2 => [rb ad (c.2.1 k 0) (k + 1), .int (c.1.1 k 1), rb ad (c.2.1 k 2) (k + 2), .int (c.1.1 k 3)]
  | 3 => [rb ad (c.2.1 k 0) (k + 1), .int (c.1.1 k 1), .int (c.1.1 k 2), .int (c.1.1 k 3)]
  | 4 => [.int (c.1.1 k 0), .int (c.1.1 k 1), .int (c.1.1 k 2), .int (c.1.1 k 3), .int (c.1.1 k 4), .int (c.1.1 k 5)]
  | 5 => [rb ad (c.2.1 k 0) (rfR k), .int (c.1.1 k 1)]
  | 6 => [.int (c.1.1 k 0), .int (c.1.1 k 1), .int (c.1.1 k 2), rb ad (c.2.1 k 3) (k + 1), rb ad (c.2.1 k 4) (k + 2)]
  | 7 => [rb ad (c.2.1 k 0) (k + 1), .int (c.1.1 k 1)]
  | 8 => [rb ad (c.2.1 k 0) (k + 1), .int (c.1.1 k 1), rb ad (c.2.1 k 2) (k + 2), .int (c.1.1 k 3), .int (c.1.1 k 4), rb ad (c.2.1 k 5) (k + 3), .int (c.1.1 k 6), .int (c.1.1 k 7), rb ad (c.2.1 k 8) (k + 4), rb ad (c.2.1 k 9) (k + 5), .int (c.1.1 k 10), .int (c.1.1 k 11)]
  | 9 => [rb ad (c.2.1 k 0) (k + 1), rb ad (c.2.1 k 1) (k + 3), rb ad (c.2.1 k 2) (k + 7), rb ad (c.2.1 k 3) (k + 41), rb ad (c.2.1 k 4) (k + 42), rb ad (c.2.1 k 5) (k + 316), rb ad (c.2.1 k 6) (k + 350), rb ad (c.2.1 k 7) (k + 351), .int (c.1.1 k 8)]
  | _ => []
def imgC (ac : Nat → ClassId) (ad : Nat → Nat) (c : Cc) (k : Nat) : va_E :=
  if kd k < 20 then .inr (kd k, fsC ad c k (kd k))
  else if kd k = 23 then .inl (ac 3, 6, .inr (.inr (.inr (.inr (fun j => if c.2.1 k j = true then some (ad (k + 5 + 3 * j)) else none)))))
  else if kd k = 24 then .inl (ac 4, 10, .inr (.inr (.inr (.inr (fun j => if c.2.1 k j = true then some (ad (k + 22 + j)) else none)))))
  else if kd k = 25 then .inl (ac 5, 8, .inr (.inr (.inr (.inr (fun j => if c.2.1 k j = true then some (ad (k + 1 + 34 * j)) else none)))))
  else .inl (ac (if kd k = 21 then 1 else if kd k = 22 then 2 else 0), lnK (kd k), .inl (c.1.1 k))
def wsC (ac : Nat → ClassId) (ad : Nat → Nat) (c : Cc) : va_W := (List.range c.2.2).map (fun k => (ad k, imgC ac ad c k))
def adB (base : Nat) (k : Nat) : Nat := base + k
def szK (c : Nat) : Nat := match c with
  | 0 => 3
  | 1 => 4
  | 2 => 4
  | 3 => 4
  | 4 => 6
  | 5 => 2
  | 6 => 5
  | 7 => 2
  | 8 => 12
  | 9 => 9
  | c => lnK c
def SZ : Nat → Nat
  | 0 => 0
  | n + 1 => SZ n + szK (kd n)
theorem SZ_le {a b : Nat} (h : a ≤ b) : SZ a ≤ SZ b := by
  induction h with
  | refl => exact Nat.le_refl _
  | step _ ih => exact Nat.le_trans ih (Nat.le_add_right _ _)
theorem wsC_get {ac : Nat → ClassId} {ad : Nat → Nat} {c : Cc} {k : Nat} (h : k < c.2.2) : (wsC ac ad c)[k]? = some (ad k, imgC ac ad c k) := by
  simp [wsC, h]
theorem wsC_obj {ac : Nat → ClassId} {ad : Nat → Nat} {c : Cc} {k ci : Nat} (hk : k < c.2.2) (h : kd k = ci) (hc : ci < 20) : (wsC ac ad c)[k]? = some (ad k, .inr (ci, fsC ad c k ci)) := by
  rw [wsC_get hk]
  simp only [imgC, h, if_pos hc]
theorem imgC_arr {ac : Nat → ClassId} {ad : Nat → Nat} {c : Cc} {k ci : Nat} (h : kd k = ci) (hc : isPK ci = true) : imgC ac ad c k = .inl (ac (acK ci), lnK ci, .inl (c.1.1 k)) := by
  have h2 : 20 ≤ ci ∧ ci ≤ 34 ∧ ci ≠ 23 ∧ ci ≠ 24 ∧ ci ≠ 25 := by
    simp [isPK] at hc
    omega
  simp only [imgC, h, if_neg (show ¬ ci < 20 by omega), if_neg h2.2.2.1, if_neg h2.2.2.2.1, if_neg h2.2.2.2.2, acK]
theorem wsC_new {ac : Nat → ClassId} {ad : Nat → Nat} {c : Cc} : wsC ac ad (c.1, c.2.1, c.2.2 + 1) = wsC ac ad c ++ [(ad c.2.2, imgC ac ad c c.2.2)] := by
  simp only [wsC, List.range_succ, List.map_append, List.map_cons, List.map_nil]
  rfl
theorem wsC_set {ac : Nat → ClassId} {ad : Nat → Nat} {c c' : Cc} {k : Nat} {x : va_E} (hn : c'.2.2 = c.2.2) (hx : imgC ac ad c' k = x) (ho : ∀ a, a ≠ k → imgC ac ad c' a = imgC ac ad c a) : (wsC ac ad c).set k (ad k, x) = wsC ac ad c' := by
  apply List.ext_getElem?
  intro i
  rw [List.getElem?_set]
  by_cases hi : k = i
  · subst hi
    simp only [if_pos rfl, wsC, List.length_map, List.length_range, hn]
    by_cases hk : k < c.2.2
    · simp [hk, hx]
    · simp [hk]
  · rw [if_neg hi]
    simp only [wsC, List.getElem?_map, hn]
    by_cases hk : i < c.2.2
    · simp [hk, ho i (fun e => hi e.symm)]
    · simp [hk]
theorem fsC_same {ad : Nat → Nat} {c c' : Cc} {a ci : Nat} (h : c'.1.1 a = c.1.1 a) (h1 : c'.2.1 a = c.2.1 a) (h2 : c'.1.2 = c.1.2) : fsC ad c' a ci = fsC ad c a ci := by
  unfold fsC
  rw [h, h1]
theorem imgC_same {ac : Nat → ClassId} {ad : Nat → Nat} {c c' : Cc} {a : Nat} (h : c'.1.1 a = c.1.1 a) (h1 : c'.2.1 a = c.2.1 a) (h2 : c'.1.2 = c.1.2) : imgC ac ad c' a = imgC ac ad c a := by
  unfold imgC
  rw [h, h1, fsC_same h h1 h2]
/-- a reference is laid -/
def wrR (c : Cc) (k j : Nat) : Cc := (c.1, (fun a b => if a = k ∧ b = j then true else c.2.1 a b), c.2.2)
def wrI (c : Cc) (k j : Nat) (v : Int32) : Cc := (wr c.1 k j v, c.2.1, c.2.2)
def wrF (c : Cc) (k : Nat) (f : Nat → Int32) : Cc := (wrA c.1 k f, c.2.1, c.2.2)
def nxC (c : Cc) : Cc := (c.1, c.2.1, c.2.2 + 1)
def zer (c : Cc) : Prop := (∀ j, c.1.1 c.2.2 j = 0) ∧ (∀ j, c.2.1 c.2.2 j = false) ∧ c.1.2 = 0
theorem wrR_ne {c : Cc} {k j a : Nat} (h : a ≠ k) : (wrR c k j).2.1 a = c.2.1 a := by funext b; simp [wrR, h]
def KSc (A : Nat → Prop) (D : va_G) (ac : Nat → ClassId) (st : SS) (U : State) : Prop := KSt A D ac st U ∧ va_AO "SweeperRounds$Street" U ∧ va_AO "SweeperRounds$Leg" U ∧ va_AO "SweeperRounds$World" U
theorem KSc.on {A : Nat → Prop} {D : va_G} {ac : Nat → ClassId} {st : SS} {s U : State} {H : Heap} {locs : List Loc} (h : KSc A D ac st s) (hW : s.WarmedH U.vm) (hS : va_S A s.heap H locs) (hU : U.heap = H) : KSc A D ac st U :=
  ⟨h.1.on hW hS hU, h.2.1.moved hW.alike, h.2.2.1.moved hW.alike, h.2.2.2.moved hW.alike⟩
theorem KSc.calling {A : Nat → Prop} {D : va_G} {ac : Nat → ClassId} {st : SS} {U : State} {g : JFrame} {mk : MethodId} {a : Array Value} (h : KSc A D ac st U) : KSc A D ac st (U.calling g mk a) :=
  ⟨h.1.calling, h.2.1.moved (u := U) (U := U.calling g mk a) (Vm.Alike.refl U.vm), h.2.2.1.moved (u := U) (U := U.calling g mk a) (Vm.Alike.refl U.vm), h.2.2.2.moved (u := U) (U := U.calling g mk a) (Vm.Alike.refl U.vm)⟩
def GSc (A : Nat → Prop) (D : va_G) (ac : Nat → ClassId) (st : SS) (base : Nat) (c : Cc) (U : State) : Prop := va_P D classes (wsC ac (adB base) c) U.heap ∧ va_D A (wsC ac (adB base) c) ∧ KSc A D ac st U ∧ U.heap.size = base + c.2.2
theorem GSc.blind {A : Nat → Prop} {D : va_G} {ac : Nat → ClassId} {st : SS} {base : Nat} {c : Cc} {vals : List Value} : FrameBlind (va_Pc vals (GSc A D ac st base c)) := fun _ _ _ _ q => ⟨q.1, q.2.1, q.2.2.1, q.2.2.2.1.calling, q.2.2.2.2⟩
def DGc (A : Nat → Prop) (D : va_G) (ac : Nat → ClassId) (base : Nat) (s : State) (a0 b0 : Nat) (k : Cc) (H : Heap) (locs : List Loc) (cells slots : Nat) : Prop := va_P D classes (wsC ac (adB base) k) H ∧ va_D A (wsC ac (adB base) k) ∧ va_S A s.heap H locs ∧ cells + a0 = k.2.2 ∧ slots + b0 = SZ k.2.2
def SCc (A : Nat → Prop) (D : va_G) (ac : Nat → ClassId) (st : SS) (base : Nat) (p : Program) (m : MethodId) (c : Code) (cc : ByteArray) (nL : Nat) (s : State) (args : Array Value) (own : String) (R : Room) (a0 b0 Ne F Lc : Nat) : Prop :=
  CallFix p m c cc nL s args wA own ∧ KSc A D ac st s ∧ (Ne ≤ R.cells + a0 ∧ SZ Ne ≤ R.slots + b0) ∧ F ≤ R.frames ∧ Lc ≤ R.locals ∧ (∀ q, base ≤ q → A q) ∧ s.heap.size = base + a0
theorem szK_obj {ci : Nat} (h : ci < 10) : ∀ (C : String) (T : u_T) (N : Nat), classes[ci]? = some (C, T, N) → szK ci = N := by
  intro C T N hc
  match ci, h with
  | 0, _ => cases hc; rfl
  | 1, _ => cases hc; rfl
  | 2, _ => cases hc; rfl
  | 3, _ => cases hc; rfl
  | 4, _ => cases hc; rfl
  | 5, _ => cases hc; rfl
  | 6, _ => cases hc; rfl
  | 7, _ => cases hc; rfl
  | 8, _ => cases hc; rfl
  | 9, _ => cases hc; rfl
section RC
variable {p : Program} {l : Launch} {e : Env} {R : Room} {s : State} {m : MethodId} {args : Array Value} {below : List Frame} {meth : Method} {c : Code} {H : Heap} {locs : List Loc} {cells slots : Nat} {QW : State → Prop}
variable {cc : ByteArray} {pc nL F Lc a0 b0 Ne base : Nat} {ls : Array Slot} {rest : List Value} {D : va_G} {ac : Nat → ClassId} {st : SS} {A : Nat → Prop} {k : Cc} {own : String}
theorem nRoom (S : SCc A D ac st base p m c cc nL s args own R a0 b0 Ne F Lc) (hG : DGc A D ac base s a0 b0 k H locs cells slots) (hlt : k.2.2 < Ne) : cells + 1 ≤ R.cells ∧ slots + szK (kd k.2.2) ≤ R.slots := by
  have h1 := S.2.2.1.1
  have h2 := S.2.2.1.2
  have h3 := hG.2.2.2.1
  have h4 := hG.2.2.2.2
  have h5 : SZ (k.2.2 + 1) ≤ SZ Ne := SZ_le hlt
  have h6 : SZ (k.2.2 + 1) = SZ k.2.2 + szK (kd k.2.2) := rfl
  omega
theorem nSize {g : JFrame} (S : SCc A D ac st base p m c cc nL s args own R a0 b0 Ne F Lc) (hG : DGc A D ac base s a0 b0 k H locs cells slots) (kk : H.size = base + k.2.2 → W p l e R s m args below meth c H locs cells slots QW g) : W p l e R s m args below meth c H locs cells slots QW g := fun T hT X => by
  have h1 := X.heapSize
  rw [hT, S.2.2.2.2.2.2] at h1
  have h2 := hG.2.2.2.1
  have h3 := hG.2.2.1.1
  rw [S.2.2.2.2.2.2] at h3
  refine kk ?_ T hT X
  rcases Nat.eq_zero_or_pos k.2.2 with h | h
  · omega
  · have h4 := (hG.1 (k.2.2 - 1) _ (wsC_get (by omega))).lt
    have h5 : adB base (k.2.2 - 1) = base + (k.2.2 - 1) := rfl
    dsimp only at h4
    omega
/-- what a new cell brings -/
theorem nGrow {H1 : Heap} {n : Nat} (S : SCc A D ac st base p m c cc nL s args own R a0 b0 Ne F Lc) (hG : DGc A D ac base s a0 b0 k H locs cells slots) (hz : H.size = base + k.2.2) (hn : szK (kd k.2.2) = n) (z1 : H1.size = H.size + 1) (o1 : ∀ q, q < H.size → H1[q]? = H[q]?) (hat : va_at D classes (H.size, imgC ac (adB base) k k.2.2) H1) : DGc A D ac base s a0 b0 (nxC k) H1 locs (cells + 1) (slots + n) := by
  obtain ⟨hP, hD, hS, hc, hs⟩ := hG
  have hk : ∀ (i : Nat) (x : Nat × va_E), (wsC ac (adB base) k)[i]? = some x → H1[x.1]? = H[x.1]? := fun i x hx => o1 x.1 ((hP i x hx).lt)
  have ea : adB base k.2.2 = H.size := by rw [hz]; rfl
  have ew : wsC ac (adB base) (nxC k) = wsC ac (adB base) k ++ [(H.size, imgC ac (adB base) k k.2.2)] := by rw [← ea]; exact wsC_new
  refine ⟨?_, ?_, ⟨Nat.le_trans hS.1 (by omega), fun x h1 h2 => (o1 x (Nat.lt_of_lt_of_le h1 hS.1)).trans (hS.2.1 x h1 h2), hS.2.2⟩, ?_, ?_⟩
  · rw [ew]
    refine (hP.kept hk).app (fun i x hx => ?_)
    have hz : i < 1 := (List.getElem?_eq_some_iff.mp hx).1
    rw [show i = 0 by omega] at hx
    cases hx
    exact hat
  · rw [ew]
    exact hD.push hP rfl (S.2.2.2.2.2.1 _ (by omega))
  · show cells + 1 + a0 = k.2.2 + 1
    omega
  · show slots + n + b0 = SZ k.2.2 + szK (kd k.2.2)
    omega
theorem nObj (S : SCc A D ac st base p m c cc nL s args own R a0 b0 Ne F Lc) (hG : DGc A D ac base s a0 b0 k H locs cells slots) {ci index : Nat} {C : String} {T : u_T} {N : Nat} (hlt : k.2.2 < Ne) (hk : kd k.2.2 = ci) (hc : classes[ci]? = some (C, T, N)) (hci : ci < 10) (hin : ∀ w ∈ u_ws C T N, w ∈ wA) (ty : Nat → FieldType) (hty : ∀ k, k < N → parseFieldDescriptor (T k).2.2.1 = some (ty k)) (hcl : Cond.classLink own index C ∈ wA) (hinst : Cond.instantiable C N ∈ wA) (hini : Cond.initialized C ∈ wA) (hfs : ∀ j, j < N → defaultValue (ty j) = vp_V (fsC (adB base) k k.2.2 ci) j) (hdg : decode cc pc = .ok (.new index, 3))
    (kk : ∀ (n : Nat), n = k.2.2 → ∀ (k1 : Cc), k1 = nxC k → ∀ (H1 : Heap) (cells1 slots1 : Nat), DGc A D ac base s a0 b0 k1 H1 locs cells1 slots1 → W p l e R s m args below meth c H1 locs cells1 slots1 QW (F0 m (pc + 3) ls (.ref (adB base n) :: rest))) : W p l e R s m args below meth c H locs cells slots QW (F0 m pc ls rest) := by
  refine nSize S hG (fun hz => ?_)
  have hKn := S.2.1.1.1.1 ci _ hc
  have hts := S.1.2.2.2.2
  have hsz : szK (kd k.2.2) = N := by rw [hk]; exact szK_obj hci C T N hc
  obtain ⟨r1, r2⟩ := nRoom S hG hlt
  rw [hsz] at r2
  refine W.newcK S.1.1 S.1.2.1 S.1.2.2.2.1 (hts _ hcl) (hts _ hinst) (hts _ hini) rfl hdg r1 r2 hKn.2.1 rfl fun H1 kC hkC e1 z1 o1 => ?_
  have hb := (u_born ty hts hin hKn hkC e1 hty).to hfs
  have hat : va_at D classes (H.size, imgC ac (adB base) k k.2.2) H1 := by
    have ei : imgC ac (adB base) k k.2.2 = .inr (ci, fsC (adB base) k k.2.2 ci) := by
      unfold imgC
      rw [if_pos (by omega), hk]
    rw [ei]
    exact ⟨_, hc, hb⟩
  have hG1 := nGrow S hG hz hsz z1 o1 hat
  have := kk _ rfl _ rfl H1 _ _ hG1
  have ea : adB base k.2.2 = H.size := by rw [hz]; rfl
  rw [ea] at this
  exact this
theorem nPrm (S : SCc A D ac st base p m c cc nL s args own R a0 b0 Ne F Lc) (hG : DGc A D ac base s a0 b0 k H locs cells slots) {ci : Nat} {atype : ArrayType} {ty : FieldType} {n : Int32} (hlt : k.2.2 < Ne) (hk : kd k.2.2 = ci) (hp : isPK ci = true) (hsz : szK ci = lnK ci) (hty : newarray.typeOf atype = ty) (hdf : defaultValue ty = .int 0) (hac : (tysL ac)[acK ci]? = some (ac (acK ci), ty)) (hRA : ∀ U cA, va_RA U cA ty = (U.vm.findClass ("[" ++ ty.toString) = some cA)) (harr : Cond.arrayClass ty ∈ wA) (hzz : ∀ j, k.1.1 k.2.2 j = 0) (hn : ¬ n < 0) (hN : n.toNatClampNeg = lnK ci) (hbytes : lnK ci * componentBytes ty ≤ 536870912) (hdg : decode cc pc = .ok (.newarray atype, 2))
    (kk : ∀ (n : Nat), n = k.2.2 → ∀ (k1 : Cc), k1 = nxC k → ∀ (H1 : Heap) (cells1 slots1 : Nat), DGc A D ac base s a0 b0 k1 H1 locs cells1 slots1 → W p l e R s m args below meth c H1 locs cells1 slots1 QW (F0 m (pc + 2) ls (.ref (adB base n) :: rest))) : W p l e R s m args below meth c H locs cells slots QW (F0 m pc ls (.int n :: rest)) := by
  refine nSize S hG (fun hz => ?_)
  subst hty
  have hts := S.1.2.2.2.2
  have hsz2 : szK (kd k.2.2) = lnK ci := by rw [hk]; exact hsz
  obtain ⟨r1, r2⟩ := nRoom S hG hlt
  rw [hsz2] at r2
  refine va_newaK S.1.1 S.1.2.1 (hts _ harr) rfl hdg rfl hn hN hbytes r1 r2 rfl fun H1 cA e1 z1 o1 hAr hNm => ?_
  have hcA : cA = ac (acK ci) := by
    have h2 := (S.2.1.1.1.2 _ _ hac).2
    rw [hRA] at h2
    exact Option.some.inj (hNm.symm.trans h2)
  have hat : va_at D classes (H.size, imgC ac (adB base) k k.2.2) H1 := by
    rw [imgC_arr hk hp]
    show H1[H.size]? = some (vp_cell _ _)
    rw [e1, hcA, hdf]
    have hf : k.1.1 k.2.2 = fun _ => 0 := funext hzz
    rw [hf]
    rfl
  have hG1 := nGrow S hG hz hsz2 z1 o1 hat
  have := kk _ rfl _ rfl H1 _ _ hG1
  have ea : adB base k.2.2 = H.size := by rw [hz]; rfl
  rw [ea] at this
  exact this
theorem nRef (S : SCc A D ac st base p m c cc nL s args own R a0 b0 Ne F Lc) (hG : DGc A D ac base s a0 b0 k H locs cells slots) {ci index t n0 : Nat} {C : String} {f : Nat → Option Nat} {n : Int32} (hlt : k.2.2 < Ne) (hk : kd k.2.2 = ci) (hsz : szK ci = n0) (hcl : Cond.classLink own index C ∈ wA) (hao : va_AO C s) (hac : (tysL ac)[t]? = some (ac t, .object C)) (himg : imgC ac (adB base) k k.2.2 = .inl (ac t, n0, .inr (.inr (.inr (.inr f))))) (hzz : f = fun _ => none) (hn : ¬ n < 0) (hN : n.toNatClampNeg = n0) (hbytes : n0 * 4 ≤ 536870912) (hdg : decode cc pc = .ok (.anewarray index, 3))
    (kk : ∀ (n : Nat), n = k.2.2 → ∀ (k1 : Cc), k1 = nxC k → ∀ (H1 : Heap) (cells1 slots1 : Nat), DGc A D ac base s a0 b0 k1 H1 locs cells1 slots1 → W p l e R s m args below meth c H1 locs cells1 slots1 QW (F0 m (pc + 3) ls (.ref (adB base n) :: rest))) : W p l e R s m args below meth c H locs cells slots QW (F0 m pc ls (.int n :: rest)) := by
  refine nSize S hG (fun hz => ?_)
  subst hN
  have hts := S.1.2.2.2.2
  have hsz2 : szK (kd k.2.2) = n.toNatClampNeg := by rw [hk]; exact hsz
  obtain ⟨r1, r2⟩ := nRoom S hG hlt
  rw [hsz2] at r2
  refine W.anew S.1.1 S.1.2.1 S.1.2.2.2.1 (hts _ hcl) hao.use rfl hdg rfl hn hbytes r1 r2 fun cA kA comp f1 f2 f3 f4 => ?_
  generalize hH1 : H.push ({ cls := cA, slots := Array.replicate n.toNatClampNeg .null, vm := .none } : Cell) = H1
  have z1 : H1.size = H.size + 1 := by rw [← hH1, Array.size_push]
  have e1 : H1[H.size]? = some (arrV cA n.toNatClampNeg (fun _ => .null)) := by rw [← hH1, Array.getElem?_push_size, ← arrV_new]
  have o1 : ∀ q : Nat, q < H.size → H1[q]? = H[q]? := fun q hq => by rw [← hH1, Array.getElem?_push, if_neg (Nat.ne_of_lt hq)]
  have hcA : cA = ac t := by
    obtain ⟨_, _, _, _, _, h2⟩ := (S.2.1.1.1.2 _ _ hac).2
    exact Option.some.inj (f1.symm.trans h2)
  have hat : va_at D classes (H.size, imgC ac (adB base) k k.2.2) H1 := by
    rw [himg, hzz]
    show H1[H.size]? = some (vp_cell _ _)
    rw [e1, hcA]
    rfl
  have hG1 := nGrow S hG hz hsz2 z1 o1 hat
  have := kk _ rfl _ rfl H1 _ _ hG1
  have ea : adB base k.2.2 = H.size := by rw [hz]; rfl
  rw [ea] at this
  exact this
theorem nPutR (S : SCc A D ac st base p m c cc nL s args own R a0 b0 Ne F Lc) (hG : DGc A D ac base s a0 b0 k H locs cells slots) (hinit : meth.name = "<init>") {o ci j index r : Nat} {ref : String} {T : u_T} {N : Nat} (hc : classes[ci]? = some (own, T, N)) (hci : ci < 20) (hin : ∀ w ∈ u_ws own T N, w ∈ wA) (ty0 : Nat → FieldType) (hty : ∀ k, k < N → parseFieldDescriptor (T k).2.2.1 = some (ty0 k)) (hnm : ∀ a, a < N → ∀ b, b < N → a ≠ b → (T a).2.1 ≠ (T b).2.1) (hj : j < N) (hl : Cond.fieldLink own index ref (T j).2.1 (T j).2.2.1 ∈ wA) (href : (T j).1 = ref) (href2 : ref = own) (hfin : (T j).2.2.2 = true) (hk : kd o = ci) (ho : o < k.2.2) (hn : narrow (ty0 j) (.ref (adB base r)) = .ref (adB base r)) (hft : fits (ty0 j) (.ref (adB base r)) = true) (hlen : j < (fsC (adB base) k o ci).length) (hfs : (fsC (adB base) k o ci).set j (.ref (adB base r)) = fsC (adB base) (wrR k o j) o ci) (hdg : decode cc pc = .ok (.putfield index, 3))
    (kk : ∀ (k1 : Cc), k1 = wrR k o j → ∀ (H1 : Heap) (locs1 : List Loc), DGc A D ac base s a0 b0 k1 H1 locs1 cells slots → W p l e R s m args below meth c H1 locs1 cells slots QW (F0 m (pc + 3) ls rest)) : W p l e R s m args below meth c H locs cells slots QW (F0 m pc ls (.ref (adB base r) :: .ref (adB base o) :: rest)) := by
  subst href
  have hts := S.1.2.2.2.2
  have ew : (wsC ac (adB base) k).set o (adB base o, .inr (ci, (fsC (adB base) k o ci).set j (.ref (adB base r)))) = wsC ac (adB base) (wrR k o j) := by
    refine wsC_set rfl ?_ (fun a ha => imgC_same rfl (wrR_ne ha) rfl)
    rw [hfs]
    simp only [imgC, hk, if_pos hci]
  refine va_putF S.1.1 S.1.2.1 hts hin ty0 hty hnm S.1.2.2.2.1 S.2.1.1.1 hG.1 hG.2.1 hG.2.2.1 o (wsC_obj ho hk hci) hc j hj (hts _ hl) (fun _ h => h) hfin hinit href2 (hty j hj) hn hft hlen hdg (fun H1 locs1 h1 h2 h3 => ?_)
  rw [ew] at h1 h2
  exact kk _ rfl H1 locs1 ⟨h1, h2, h3, hG.2.2.2⟩
theorem nPutI (S : SCc A D ac st base p m c cc nL s args own R a0 b0 Ne F Lc) (hG : DGc A D ac base s a0 b0 k H locs cells slots) {o ci j index : Nat} {C ref : String} {T : u_T} {N : Nat} (hc : classes[ci]? = some (C, T, N)) (hci : ci < 20) (hin : ∀ w ∈ u_ws C T N, w ∈ wA) (ty0 : Nat → FieldType) (hty : ∀ k, k < N → parseFieldDescriptor (T k).2.2.1 = some (ty0 k)) (hnm : ∀ a, a < N → ∀ b, b < N → a ≠ b → (T a).2.1 ≠ (T b).2.1) (hj : j < N) (hl : Cond.fieldLink own index ref (T j).2.1 (T j).2.2.1 ∈ wA) (href : (T j).1 = ref) (hfin : (T j).2.2.2 = false) (hk : kd o = ci) (ho : o < k.2.2) {v : Int32} (hn : narrow (ty0 j) (.int v) = .int v) (hft : fits (ty0 j) (.int v) = true) (hlen : j < (fsC (adB base) k o ci).length) (hfs : (fsC (adB base) k o ci).set j (.int v) = fsC (adB base) (wrI k o j v) o ci) (hdg : decode cc pc = .ok (.putfield index, 3))
    (kk : ∀ (k1 : Cc), k1 = wrI k o j v → ∀ (H1 : Heap) (locs1 : List Loc), DGc A D ac base s a0 b0 k1 H1 locs1 cells slots → W p l e R s m args below meth c H1 locs1 cells slots QW (F0 m (pc + 3) ls rest)) : W p l e R s m args below meth c H locs cells slots QW (F0 m pc ls (.int v :: .ref (adB base o) :: rest)) := by
  subst href
  have hts := S.1.2.2.2.2
  have ew : (wsC ac (adB base) k).set o (adB base o, .inr (ci, (fsC (adB base) k o ci).set j (.int v))) = wsC ac (adB base) (wrI k o j v) := by
    refine wsC_set rfl ?_ (fun a ha => imgC_same (wrA_ne ha) rfl rfl)
    rw [hfs]
    simp only [imgC, hk, if_pos hci]
  refine va_put S.1.1 S.1.2.1 hts hin ty0 hty hnm S.1.2.2.2.1 S.2.1.1.1 hG.1 hG.2.1 hG.2.2.1 o (wsC_obj ho hk hci) hc j hj (hts _ hl) (fun _ h => h) hfin (hty j hj) hn hft hlen hdg (fun H1 locs1 h1 h2 h3 => ?_)
  rw [ew] at h1 h2
  exact kk _ rfl H1 locs1 ⟨h1, h2, h3, hG.2.2.2⟩
theorem nGetR (S : SCc A D ac st base p m c cc nL s args own R a0 b0 Ne F Lc) (hG : DGc A D ac base s a0 b0 k H locs cells slots) {o ci j index : Nat} {C ref : String} {T : u_T} {N : Nat} (hc : classes[ci]? = some (C, T, N)) (hci : ci < 20) (hin : ∀ w ∈ u_ws C T N, w ∈ wA) (hj : j < N) (hl : Cond.fieldLink own index ref (T j).2.1 (T j).2.2.1 ∈ wA) (href : (T j).1 = ref) (hk : kd o = ci) (ho : o < k.2.2) {v : Value} (hv : (fsC (adB base) k o ci)[j]? = some v) (hdg : decode cc pc = .ok (.getfield index, 3))
    (kk : W p l e R s m args below meth c H locs cells slots QW (F0 m (pc + 3) ls (v :: rest))) : W p l e R s m args below meth c H locs cells slots QW (F0 m pc ls (.ref (adB base o) :: rest)) := by
  subst href
  exact va_get S.1.1 S.1.2.1 S.1.2.2.2.2 hin S.1.2.2.2.1 S.2.1.1.1 hG.1 o (wsC_obj ho hk hci) hc j hj (S.1.2.2.2.2 _ hl) (fun _ h => h) hv hdg kk
theorem nIas (S : SCc A D ac st base p m c cc nL s args own R a0 b0 Ne F Lc) (hG : DGc A D ac base s a0 b0 k H locs cells slots) {o : Nat} (ci : Nat) (hp : isPK ci = true) (ha : acK ci = 0) (hk : kd o = ci) (ho : o < k.2.2) {i v : Int32} (hin : vp_in i (lnK ci)) (hdg : decode cc pc = .ok (.iastore, 1))
    (kk : ∀ (k1 : Cc), k1 = wrI k o i.toNatClampNeg v → ∀ (H1 : Heap) (locs1 : List Loc), DGc A D ac base s a0 b0 k1 H1 locs1 cells slots → W p l e R s m args below meth c H1 locs1 cells slots QW (F0 m (pc + 1) ls rest)) : W p l e R s m args below meth c H locs cells slots QW (F0 m pc ls (.int v :: .int i :: .ref (adB base o) :: rest)) := by
  have ew : (wsC ac (adB base) k).set o (adB base o, .inl (ac (acK ci), lnK ci, .inl (upd (k.1.1 o) i.toNatClampNeg v))) = wsC ac (adB base) (wrI k o i.toNatClampNeg v) := by
    refine wsC_set rfl ?_ (fun a ha => imgC_same (wrA_ne ha) rfl rfl)
    rw [imgC_arr hk hp]
    simp [wrI, wr, wrA]
  refine va_iast S.1.1 S.1.2.1 S.2.1.1.1 hG.1 hG.2.1 hG.2.2.1 o 0 (by rw [wsC_get ho, imgC_arr hk hp]) (by rw [ha]; rfl) hin hdg (fun H1 locs1 h1 h2 h3 => ?_)
  rw [ew] at h1 h2
  exact kk _ rfl H1 locs1 ⟨h1, h2, h3, hG.2.2.2⟩
/-- a reference goes into an array of references -/
theorem nAst (S : SCc A D ac st base p m c cc nL s args own R a0 b0 Ne F Lc) (hG : DGc A D ac base s a0 b0 k H locs cells slots) {o ci t n0 ce r : Nat} {q : vw_C} {f : Nat → Option Nat} {i : Int32} (hk : kd o = ci) (ho : o < k.2.2) (hr : r < k.2.2) (hkr : kd r = ce) (hce : ce < 20) (hc : classes[ce]? = some q) (hac : (tysL ac)[t]? = some (ac t, .object q.1)) (himg : imgC ac (adB base) k o = .inl (ac t, n0, .inr (.inr (.inr (.inr f))))) (himg2 : imgC ac (adB base) (wrR k o i.toNatClampNeg) o = .inl (ac t, n0, .inr (.inr (.inr (.inr (va_up f i.toNatClampNeg (some (adB base r)))))))) (hin : vp_in i n0) (hdg : decode cc pc = .ok (.aastore, 1))
    (kk : ∀ (k1 : Cc), k1 = wrR k o i.toNatClampNeg → ∀ (H1 : Heap) (locs1 : List Loc), DGc A D ac base s a0 b0 k1 H1 locs1 cells slots → W p l e R s m args below meth c H1 locs1 cells slots QW (F0 m (pc + 1) ls rest)) : W p l e R s m args below meth c H locs cells slots QW (F0 m pc ls (.ref (adB base r) :: .int i :: .ref (adB base o) :: rest)) := by
  have ew : (wsC ac (adB base) k).set o (adB base o, .inl (ac t, n0, .inr (.inr (.inr (.inr (va_up f i.toNatClampNeg (some (adB base r)))))))) = wsC ac (adB base) (wrR k o i.toNatClampNeg) :=
    wsC_set rfl himg2 (fun a ha => imgC_same rfl (wrR_ne ha) rfl)
  refine va_astq S.1.1 S.1.2.1 S.2.1.1.1 hG.1 hG.2.1 hG.2.2.1 o t r ce (by rw [wsC_get ho, himg]) hac (wsC_obj hr hkr hce) hc hin hdg (fun H1 locs1 h1 h2 h3 => ?_)
  rw [ew] at h1 h2
  exact kk _ rfl H1 locs1 ⟨h1, h2, h3, hG.2.2.2⟩
theorem im3 {k1 : Cc} {ad : Nat → Nat} {o : Nat} (h : kd o = 23) : imgC ac ad k1 o = .inl (ac 3, 6, .inr (.inr (.inr (.inr (fun j => if k1.2.1 o j = true then some (ad (o + 5 + 3 * j)) else none))))) := by simp [imgC, h]
theorem im4 {k1 : Cc} {ad : Nat → Nat} {o : Nat} (h : kd o = 24) : imgC ac ad k1 o = .inl (ac 4, 10, .inr (.inr (.inr (.inr (fun j => if k1.2.1 o j = true then some (ad (o + 22 + j)) else none))))) := by simp [imgC, h]
theorem im5 {k1 : Cc} {ad : Nat → Nat} {o : Nat} (h : kd o = 25) : imgC ac ad k1 o = .inl (ac 5, 8, .inr (.inr (.inr (.inr (fun j => if k1.2.1 o j = true then some (ad (o + 1 + 34 * j)) else none))))) := by simp [imgC, h]
theorem im_up {f : Nat → Nat → Bool} {o i r : Nat} {g : Nat → Nat} (hr : g i = r) : (fun j => if (decide (j = i) || f o j) = true then some (g j) else none) = va_up (fun j => if f o j = true then some (g j) else none) i (some r) := by
  funext j
  unfold va_up
  by_cases h : j = i
  · subst h
    simp [hr]
  · simp [h]
theorem wrR_at {k1 : Cc} {o i j : Nat} : (wrR k1 o i).2.1 o j = (decide (j = i) || k1.2.1 o j) := by
  by_cases h : j = i <;> simp [wrR, h]
/-- a call of a constructor -/
theorem nCall {y : MethodName} {bytes : ByteArray} {maxL F' L' N1 : Nat} (As : List Value) {o : Nat} {Q : Cc → Prop} (S : SCc A D ac st base p m c cc nL s args own R a0 b0 Ne F Lc) (hsz : ls.size = nL) (hG : DGc A D ac base s a0 b0 k H locs cells slots) (h0 : k.2.2 ≤ N1) (h1 : N1 ≤ Ne)
    (hM : Met l y (Cond.code y bytes maxL none :: wA) { frames := F', cells := N1 - k.2.2, slots := SZ N1 - SZ k.2.2, locals := L' } (va_Pc (.ref (adB base o) :: As) (GSc A D ac st base k)) (va_Qv (fun u => u.2.2 = N1 ∧ Q u) (GSc A D ac st base) A) (N1 - k.2.2) (SZ N1 - SZ k.2.2) A)
    (hrun : ∀ {Pc : Array Value → State → Prop} {Qc : Array Value → State → Outcome → State → Prop}, Met l y (Cond.code y bytes maxL none :: wA) { frames := F', cells := N1 - k.2.2, slots := SZ N1 - SZ k.2.2, locals := L' } Pc Qc (N1 - k.2.2) (SZ N1 - SZ k.2.2) A → PreS s H Pc (.ref (adB base o) :: As) → va_Run p l e R s m args below meth c H locs cells slots (N1 - k.2.2) (SZ N1 - SZ k.2.2) (F0 m pc ls (As.reverse ++ .ref (adB base o) :: rest)) rest (Qc (Value.ref (adB base o) :: As).toArray) A)
    (kk : ∀ (k1 : Cc), k1.2.2 = N1 → Q k1 → ∀ (H1 : Heap) (locs1 : List Loc) (cells1 slots1 : Nat), DGc A D ac base s a0 b0 k1 H1 locs1 cells1 slots1 → W p l e R s m args below meth c H1 locs1 cells1 slots1 QW (F0 m (pc + 3) ls rest)) : W p l e R s m args below meth c H locs cells slots QW (F0 m pc ls (As.reverse ++ .ref (adB base o) :: rest)) := by
  refine nSize S hG (fun hz => ?_)
  refine va_callv (hrun hM ⟨GSc.blind, fun U hU hW => ⟨rfl, by rw [hU]; exact hG.1, hG.2.1, S.2.1.on hW hG.2.2.1 hU, by rw [hU]; exact hz⟩⟩) hG.2.2.1 (fun q _ h => h) (fun q h => h) (fun u t H1 locs1 ht hvm hq hB hz1 hk1 hS => ?_)
  subst ht
  have e1 := hG.2.2.2.1
  have e2 := hG.2.2.2.2
  have e3 : SZ k.2.2 ≤ SZ N1 := SZ_le h0
  refine kk u hq.1 hq.2 t.heap locs1 _ _ ⟨hB.1, hB.2.1, hS, ?_, ?_⟩
  · rw [hq.1]
    omega
  · rw [hq.1]
    omega
theorem nRoomC {N1 : Nat} (S : SCc A D ac st base p m c cc nL s args own R a0 b0 Ne F Lc) (hG : DGc A D ac base s a0 b0 k H locs cells slots) (h0 : k.2.2 ≤ N1) (h1 : N1 ≤ Ne) : cells + (N1 - k.2.2) ≤ R.cells ∧ slots + (SZ N1 - SZ k.2.2) ≤ R.slots := by
  have e1 := hG.2.2.2.1
  have e2 := hG.2.2.2.2
  have e3 : SZ k.2.2 ≤ SZ N1 := SZ_le h0
  have e4 : SZ N1 ≤ SZ Ne := SZ_le h1
  have e5 := S.2.2.1.1
  have e6 := S.2.2.1.2
  omega
theorem nCwI {y : MethodName} {bytes : ByteArray} {maxL n index F' L' mc ms : Nat} (S : SCc A D ac st base p m c cc nL s args own R a0 b0 Ne F Lc) (h1 : Cond.methodLink own index y ∈ wA) (h2 : Cond.instanceMethod y ∈ wA) (h4 : Cond.initialized y.cls ∈ wA) (h5 : Cond.code y bytes maxL none ∈ wA) (hy : y.name = "<init>") (hd : y.cls ≠ "java/lang/invoke/MethodHandle" ∧ y.cls ≠ "java/lang/invoke/VarHandle" ∧ (parseMethodDescriptor y.desc).map (fun d => d.parameters.length) = some n) (hR : F' + 1 ≤ F ∧ 8 + (maxL + 11) + L' ≤ Lc) :
    CallB R s args own index y bytes maxL none (Cond.code y bytes maxL none :: wA) { frames := F', cells := mc, slots := ms, locals := L' } mc ms n ∧ y.name = "<init>" ∧ (Cond.instanceMethod y).before args s = true :=
  cwI n S.1.2.2.2.2 (wA_in (wA_cons h5)) rfl rfl rfl (S.1.2.2.2.2 _ h4) (S.1.2.2.2.2 _ h1) (S.1.2.2.2.2 _ h2) hy hd ⟨Nat.le_trans hR.1 S.2.2.2.1, Nat.le_trans hR.2 S.2.2.2.2.1⟩
theorem nCwN {y : MethodName} {bytes : ByteArray} {maxL n index F' L' mc ms : Nat} {host : String} (S : SCc A D ac st base p m c cc nL s args own R a0 b0 Ne F Lc) (h1 : (own, index, y, host) ∈ nestM) (h2 : Cond.instanceMethod y ∈ wA) (h4 : Cond.initialized y.cls ∈ wA) (h5 : Cond.code y bytes maxL none ∈ wA) (hy : y.name = "<init>") (hd : y.cls ≠ "java/lang/invoke/MethodHandle" ∧ y.cls ≠ "java/lang/invoke/VarHandle" ∧ (parseMethodDescriptor y.desc).map (fun d => d.parameters.length) = some n) (hR : F' + 1 ≤ F ∧ 8 + (maxL + 11) + L' ≤ Lc) :
    va_CN R s args own index y host bytes maxL none (Cond.code y bytes maxL none :: wA) { frames := F', cells := mc, slots := ms, locals := L' } mc ms n ∧ y.name = "<init>" ∧ (Cond.instanceMethod y).before args s = true :=
  ⟨va_cnB n S.1.2.2.2.2 (wA_in (wA_cons h5)) rfl rfl rfl (S.2.1.1.2.1 _ h1) (S.1.2.2.2.2 _ h4) hd ⟨Nat.le_trans hR.1 S.2.2.2.1, Nat.le_trans hR.2 S.2.2.2.2.1⟩, hy, S.1.2.2.2.2 _ h2⟩
end RC
def RtC (A : Nat → Prop) (D : va_G) (ac : Nat → ClassId) (base : Nat) (p : Program) (l : Launch) (e : Env) (R : Room) (s : State) (m : MethodId) (args : Array Value) (below : List Frame) (meth : Method) (c : Code) (cc : ByteArray) (a0 b0 Ne : Nat) (QW : State → Prop) (Q : Cc → Prop) : Prop :=
  ∀ (u : Cc) (H : Heap) (locs : List Loc) (cells slots pc : Nat) (ls : Array Slot), DGc A D ac base s a0 b0 u H locs cells slots → u.2.2 = Ne → Q u → decode cc pc = .ok (.return_, 1) → W p l e R s m args below meth c H locs cells slots QW (F0 m pc ls [])
theorem mkC (l : Launch) {y : MethodName} {own : String} {bytes : ByteArray} {nL F Lc base Ne : Nat} {D : va_G} {ac : Nat → ClassId} {st : SS} {A : Nat → Prop} {k : Cc} {Q : Cc → Prop} (hA : ∀ q, base ≤ q → A q) (hN : k.2.2 ≤ Ne) (hy : plainName y.cls = true) (hown : y.cls = own) (hyi : y.name = "<init>") (vals : List Value) (hlen : (lg_sl vals).length ≤ nL)
    (body : ∀ (p : Program) (e : Env) (s : State) (m : MethodId) (args : Array Value) (below : List Frame) (meth : Method) (c : Code) (ls : Array Slot) (QW : State → Prop) (R : Room), SCc A D ac st base p m c bytes nL s args own R k.2.2 (SZ k.2.2) Ne F Lc → RtC A D ac base p l e R s m args below meth c bytes k.2.2 (SZ k.2.2) Ne QW Q → meth.name = "<init>" → DGc A D ac base s k.2.2 (SZ k.2.2) k s.heap [] 0 0 → lv_has ls nL (lv_args 0 vals) →
      W p l e R s m args below meth c s.heap [] 0 0 QW (F0 m 0 ls [])) :
    Met l y (Cond.code y bytes nL none :: wA) { frames := F, cells := Ne - k.2.2, slots := SZ Ne - SZ k.2.2, locals := Lc } (va_Pc vals (GSc A D ac st base k)) (va_Qv (fun u => u.2.2 = Ne ∧ Q u) (GSc A D ac st base) A) (Ne - k.2.2) (SZ Ne - SZ k.2.2) A := by
  subst hown
  refine Met.ofW (cc := bytes) (maxL := nL) (ret := none) hy rfl ?_
  intro p e s m args below meth c s₁ B hml hv
  obtain ⟨rfl, hP, hD, hK, hz⟩ := hv
  have hx := B.exec
  have hb := B.bytes
  have hr := B.returns
  have hts : ∀ w ∈ wA, w.before vals.toArray s = true := fun w hw => atoms_spec (ws := Cond.code y bytes nL none :: wA) B.pre w (List.mem_cons_of_mem _ hw)
  have hown : s.vm.findClass y.cls = some m.cls := findClass_of_methodNamed B.named
  have hlocks := B.notSynchronized
  have hin : meth.name = "<init>" := ((name_of_methodNamed B.named B.method).1).trans hyi
  have hl := lv_entry vals (n := nL) hlen
  have e3 : SZ k.2.2 ≤ SZ Ne := SZ_le hN
  rw [lg_entry_eq]
  generalize (lg_sl vals ++ List.replicate (nL - (lg_sl vals).length) Slot.unset).toArray = ls at hl ⊢
  have S : SCc A D ac st base p m c bytes nL s vals.toArray y.cls { frames := F, cells := Ne - k.2.2, slots := SZ Ne - SZ k.2.2, locals := Lc } k.2.2 (SZ k.2.2) Ne F Lc :=
    ⟨⟨hx, hb, hml, hown, hts⟩, hK, ⟨Nat.le_of_eq (Nat.sub_add_cancel hN).symm, Nat.le_of_eq (Nat.sub_add_cancel e3).symm⟩, Nat.le_refl _, Nat.le_refl _, hA, hz⟩
  refine body p e s m vals.toArray below meth c ls _ _ S ?_ hin ⟨hP, hD, va_S.rf, Nat.zero_add _, Nat.zero_add _⟩ hl
  intro u H locs cells slots pc ls hG hu hq hdg
  refine nSize S hG (fun hz => ?_)
  have e1 : cells = Ne - k.2.2 := by have := hG.2.2.2.1; omega
  have e2 : slots = SZ Ne - SZ k.2.2 := by have := hG.2.2.2.2; rw [hu] at this; omega
  subst e1
  subst e2
  exact W.vret hx hb hr (fun t ht hW => ⟨⟨u, rfl, ⟨hu, hq⟩, by rw [ht]; exact hG.1, hG.2.1, hK.on hW hG.2.2.1 ht, by rw [ht]; exact hz⟩, hG.2.2.1.F ht⟩) hG.2.2.1.2.2 hdg
