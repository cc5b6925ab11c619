def nestM : List (String × Nat × MethodName × String) := [("SweeperRounds", 9, ⟨"SweeperRounds$Text", "<init>", "()V"⟩, "SweeperRounds"), ("SweeperRounds", 18, ⟨"SweeperRounds$Reader", "<init>", "()V"⟩, "SweeperRounds"), ("SweeperRounds$Reader", 11, ⟨"SweeperRounds$Street", "<init>", "()V"⟩, "SweeperRounds"), ("SweeperRounds$World", 32, ⟨"SweeperRounds$Report", "<init>", "()V"⟩, "SweeperRounds"), ("SweeperRounds$World", 37, ⟨"SweeperRounds$Street", "<init>", "()V"⟩, "SweeperRounds"), ("SweeperRounds$World", 38, ⟨"SweeperRounds$Leg", "<init>", "()V"⟩, "SweeperRounds"), ("SweeperRounds", 54, ⟨"SweeperRounds$Orders", "<init>", "()V"⟩, "SweeperRounds"), ("SweeperRounds$Street", 29, ⟨"SweeperRounds", "placeOf", "(II)I"⟩, "SweeperRounds"), ("SweeperRounds$World", 127, ⟨"SweeperRounds", "placeOf", "(II)I"⟩, "SweeperRounds"), ("SweeperRounds$Round", 67, ⟨"SweeperRounds", "placeOf", "(II)I"⟩, "SweeperRounds")]
def nestF : List (String × Nat × String × String × String × String) := [("SweeperRounds$World", 39, "SweeperRounds", "FIRST_SETTINGS", "[I", "SweeperRounds"), ("SweeperRounds$World", 120, "SweeperRounds", "LEAST_SETTINGS", "[I", "SweeperRounds")]
def stN (j : Nat) : String := match j with
  | 0 => "FIRST_SETTINGS"
  | 1 => "LEAST_SETTINGS"
  | _ => "MOST_SETTINGS"
def stV (j : Nat) (i : Nat) : Int32 := match j with
  | 0 => ([2, 300, 1, 2400, 200, 100] : List Int32).getD i 0
  | 1 => ([1, 20, 0, 100, 0, 0] : List Int32).getD i 0
  | _ => ([4, 2000, 9, 6000, 1000, 400] : List Int32).getD i 0
/-- what stays over the whole run: the tables of the machine, the links of nest mates, the three static arrays -/
def KSt (A : Nat → Prop) (D : va_G) (ac : Nat → ClassId) (st : SS) (U : State) : Prop :=
  va_K D classes (tysL ac) U ∧ (∀ q ∈ nestM, va_Nw (.methodLinkNest q.1 q.2.1 q.2.2.1 q.2.2.2) U) ∧ (∀ q ∈ nestF, va_Nw (.fieldLinkNest q.1 q.2.1 q.2.2.1 q.2.2.2.1 q.2.2.2.2.1 q.2.2.2.2.2) U) ∧
  (∀ j, j < 3 → va_Z "SweeperRounds" (stN j) "[I" (.ref (st.1 j)) A U U.heap ∧ va_T .int (st.1 j) 6 (fun i => .int (stV j i)) A U U.heap) ∧
  va_X (st.1 3) st.2.1 st.2.2 U U.heap ∧ st.1 3 < U.heap.size ∧ ¬ A (st.1 3)
theorem KSt.on {A : Nat → Prop} {D : va_G} {ac : Nat → ClassId} {st : SS} {s U : State} {H : Heap} {locs : List Loc} (h : KSt A D ac st s) (hW : s.WarmedH U.vm) (hS : va_S A s.heap H locs) (hU : U.heap = H) : KSt A D ac st U := by
  obtain ⟨h1, h2, h3, h4, h7, h8, h9⟩ := h
  subst hU
  refine ⟨va_K.moved hW.alike h1, fun q hq => (h2 q hq).warmM hW, fun q hq => (h3 q hq).warmF hW, fun j hj => ?_, (h7.moved hW.alike).kept (hS.2.1 _ h8 h9), Nat.lt_of_lt_of_le h8 hS.1, h9⟩
  obtain ⟨h5, h6⟩ := h4 j hj
  exact ⟨(h5.moved hW.alike).kept hS.2.1, (h6.moved hW.alike).kept hS.2.1⟩
theorem KSt.calling {A : Nat → Prop} {D : va_G} {ac : Nat → ClassId} {st : SS} {U : State} {g : JFrame} {mk : MethodId} {a : Array Value} (h : KSt A D ac st U) : KSt A D ac st (U.calling g mk a) := by
  obtain ⟨h1, h2, h3, h4, h7, h8, h9⟩ := h
  refine ⟨va_K.moved (u := U) (U := U.calling g mk a) (Vm.Alike.refl U.vm) h1, fun q hq => va_Nw.same (u := U) (U := U.calling g mk a) rfl rfl (h2 q hq), fun q hq => va_Nw.same (u := U) (U := U.calling g mk a) rfl rfl (h3 q hq), fun j hj => ?_, h7.moved (u := U) (U := U.calling g mk a) (Vm.Alike.refl U.vm), h8, h9⟩
  obtain ⟨h5, h6⟩ := h4 j hj
  exact ⟨h5.moved (u := U) (U := U.calling g mk a) (Vm.Alike.refl U.vm), h6.moved (u := U) (U := U.calling g mk a) (Vm.Alike.refl U.vm)⟩
def GSt (A : Nat → Prop) (D : va_G) (ac : Nat → ClassId) (ad : Nat → Nat) (st : SS) (σ : St) (U : State) : Prop := va_P D classes (wsL ac ad σ) U.heap ∧ va_D A (wsL ac ad σ) ∧ KSt A D ac st U
theorem GSt.blind {A : Nat → Prop} {D : va_G} {ac : Nat → ClassId} {ad : Nat → Nat} {st : SS} {σ : St} {vals : List Value} : FrameBlind (va_Pc vals (GSt A D ac ad st σ)) := fun _ _ _ _ q => ⟨q.1, q.2.1, q.2.2.1, q.2.2.2.calling⟩
def DG (A : Nat → Prop) (D : va_G) (ac : Nat → ClassId) (ad : Nat → Nat) (s : State) (σ : St) (H : Heap) (locs : List Loc) : Prop := va_P D classes (wsL ac ad σ) H ∧ va_D A (wsL ac ad σ) ∧ va_S A s.heap H locs
def SC (A : Nat → Prop) (D : va_G) (ac : Nat → ClassId) (st : SS) (p : Program) (m : MethodId) (c : Code) (cc : ByteArray) (nL : Nat) (s : State) (args : Array Value) (own : String) (R : Room) (cells slots F Lc : Nat) : Prop :=
  CallFix p m c cc nL s args wA own ∧ KSt A D ac st s ∧ (cells ≤ R.cells ∧ slots ≤ R.slots) ∧ F ≤ R.frames ∧ Lc ≤ R.locals
def itN {β : Type} (F : β → β) (bot : β) : Nat → β
  | 0 => bot
  | n + 1 => F (itN F bot n)
def FU : Nat := 1000000
def isB (v : Int32) : Prop := v = 0 ∨ v = 1
theorem isB_nar {v : Int32} (h : isB v) : narrow .boolean (.int v) = .int v := by rcases h with rfl | rfl <;> decide
theorem isB_fit {v : Int32} (h : isB v) : fits .boolean (.int v) = true := by rcases h with rfl | rfl <;> decide
section RW
variable {p : Program} {l : Launch} {e : Env} {R : Room} {s : State} {m : MethodId} {args : Array Value} {below : List Frame} {meth : Method} {c : Code} {H : Heap} {locs : List Loc} {cells slots : Nat} {QW : State → Prop}
variable {cc : ByteArray} {pc nL F Lc : Nat} {ls : Array Slot} {rest : List Value} {D : va_G} {ac : Nat → ClassId} {ad : Nat → Nat} {st : SS} {A : Nat → Prop} {σ : St} {own : String}
theorem mg (S : SC A D ac st p m c cc nL s args own R cells slots F Lc) (hG : DG A D ac ad s σ H locs) {k ci j index : Nat} {C ref : String} {T : u_T} {N : Nat} (hc : classes[ci]? = some (C, T, N)) (hin : ∀ w ∈ u_ws C T N, w ∈ wA) (hj : j < N) (hl : Cond.fieldLink own index ref (T j).2.1 (T j).2.2.1 ∈ wA) (href : (T j).1 = ref) (hci : ci < 20) (hk : kd k = ci) {v : Value} (hv : (fsOf ad σ k ci)[j]? = some v) (hdg : decode cc pc = .ok (.getfield index, 3))
    (kk : W p l e R s m args below meth c H locs cells slots QW (F0 m (pc + 3) ls (v :: rest))) : W p l e R s m args below meth c H locs cells slots QW (F0 m pc ls (.ref (ad k) :: rest)) := by
  subst href
  exact va_get S.1.1 S.1.2.1 S.1.2.2.2.2 hin S.1.2.2.2.1 S.2.1.1 hG.1 k (wsL_obj hk hci) hc j hj (S.1.2.2.2.2 _ hl) (fun _ h => h) hv hdg kk
theorem mp (S : SC A D ac st p m c cc nL s args own R cells slots F Lc) (hG : DG A D ac ad s σ H locs) {k ci j index : Nat} {C ref : String} {T : u_T} {N : Nat} (hc : classes[ci]? = some (C, T, N)) (hin : ∀ w ∈ u_ws C T N, w ∈ wA) (ty0 : Nat → FieldType) (hty : ∀ k, k < N → parseFieldDescriptor (T k).2.2.1 = some (ty0 k)) (hnm : ∀ a, a < N → ∀ b, b < N → a ≠ b → (T a).2.1 ≠ (T b).2.1) (hj : j < N) (hl : Cond.fieldLink own index ref (T j).2.1 (T j).2.2.1 ∈ wA) (href : (T j).1 = ref) (hfin : (T j).2.2.2 = false) (hci : ci < 20) (hk : kd k = ci) {v : Int32} (hn : narrow (ty0 j) (.int v) = .int v) (hft : fits (ty0 j) (.int v) = true) (hlen : j < (fsOf ad σ k ci).length) (hfs : (fsOf ad σ k ci).set j (.int v) = fsOf ad (wr σ k j v) k ci) (hdg : decode cc pc = .ok (.putfield index, 3))
    (kk : ∀ (σ1 : St), σ1 = wr σ k j v → ∀ (H1 : Heap) (locs1 : List Loc), DG A D ac ad s σ1 H1 locs1 → W p l e R s m args below meth c H1 locs1 cells slots QW (F0 m (pc + 3) ls rest)) : W p l e R s m args below meth c H locs cells slots QW (F0 m pc ls (.int v :: .ref (ad k) :: rest)) := by
  subst href
  have ew := wsL_wr (ac := ac) (ad := ad) (σ := σ) (j := j) (v := v) hk hci hfs.symm
  refine va_put S.1.1 S.1.2.1 S.1.2.2.2.2 hin ty0 hty hnm S.1.2.2.2.1 S.2.1.1 hG.1 hG.2.1 hG.2.2 k (wsL_obj hk hci) hc j hj (S.1.2.2.2.2 _ hl) (fun _ h => h) hfin (hty j hj) hn hft hlen hdg (fun H1 locs1 h1 h2 h3 => ?_)
  rw [ew] at h1 h2
  exact kk _ rfl H1 locs1 ⟨h1, h2, h3⟩
theorem mia (S : SC A D ac st p m c cc nL s args own R cells slots F Lc) (hG : DG A D ac ad s σ H locs) {k : Nat} (kk0 : Nat) (hp : isPK kk0 = true) (ha : acK kk0 = 0) (hk : kd k = kk0) {i : Int32} (hin : vp_in i (lnK kk0)) (hdg : decode cc pc = .ok (.iaload, 1))
    (kk : W p l e R s m args below meth c H locs cells slots QW (F0 m (pc + 1) ls (.int (σ.1 k i.toNatClampNeg) :: rest))) : W p l e R s m args below meth c H locs cells slots QW (F0 m pc ls (.int i :: .ref (ad k) :: rest)) :=
  va_iald S.1.1 S.1.2.1 S.2.1.1 hG.1 k 0 (wsL_arr hk hp) (by rw [ha]; rfl) hin hdg kk
theorem mla (S : SC A D ac st p m c cc nL s args own R cells slots F Lc) (hG : DG A D ac ad s σ H locs) (h4 : ad 999 = 4) {k : Nat} (kk0 : Nat) (hp : isLK kk0 = true) (hk : kd k = kk0) {i : Int32} (hin : vp_in i (lnK kk0)) (hdg : decode cc pc = .ok (.iaload, 1))
    (kk : W p l e R s m args below meth c H locs cells slots QW (F0 m (pc + 1) ls (.int (σ.1 k i.toNatClampNeg) :: rest))) : W p l e R s m args below meth c H locs cells slots QW (F0 m pc ls (.int i :: .ref (ad k) :: rest)) :=
  va_iald S.1.1 S.1.2.1 S.2.1.1 hG.1 k 0 (wsL_la h4 hk hp) rfl hin hdg kk
theorem mls (S : SC A D ac st p m c cc nL s args own R cells slots F Lc) (hG : DG A D ac ad s σ H locs) (h4 : ad 999 = 4) {k : Nat} (kk0 : Nat) (hp : isLK kk0 = true) (hk : kd k = kk0) {i v : Int32} (hin : vp_in i (lnK kk0)) (hdg : decode cc pc = .ok (.iastore, 1))
    (kk : ∀ (σ1 : St), σ1 = wr σ k i.toNatClampNeg v → ∀ (H1 : Heap) (locs1 : List Loc), DG A D ac ad s σ1 H1 locs1 → W p l e R s m args below meth c H1 locs1 cells slots QW (F0 m (pc + 1) ls rest)) : W p l e R s m args below meth c H locs cells slots QW (F0 m pc ls (.int v :: .int i :: .ref (ad k) :: rest)) := by
  refine va_iast S.1.1 S.1.2.1 S.2.1.1 hG.1 hG.2.1 hG.2.2 k 0 (wsL_la h4 hk hp) rfl hin hdg (fun H1 locs1 h1 h2 h3 => ?_)
  rw [wsL_lwA hk hp] at h1 h2
  exact kk _ rfl H1 locs1 ⟨h1, h2, h3⟩
theorem mss (S : SC A D ac st p m c cc nL s args own R cells slots F Lc) (hG : DG A D ac ad s σ H locs) {i : Int32} (hin : vp_in i st.2.1) (hdg : decode cc pc = .ok (.iaload, 1))
    (kk : W p l e R s m args below meth c H locs cells slots QW (F0 m (pc + 1) ls (.int (st.2.2 i.toNatClampNeg) :: rest))) : W p l e R s m args below meth c H locs cells slots QW (F0 m pc ls (.int i :: .ref (st.1 3) :: rest)) :=
  va_sld S.1.1 S.1.2.1 S.2.1.2.2.2.2.1 S.2.1.2.2.2.2.2.1 S.2.1.2.2.2.2.2.2 hG.2.2 hin hdg kk
theorem msl (S : SC A D ac st p m c cc nL s args own R cells slots F Lc) (hG : DG A D ac ad s σ H locs) (hdg : decode cc pc = .ok (.arraylength, 1))
    (kk : W p l e R s m args below meth c H locs cells slots QW (F0 m (pc + 1) ls (.int (Int32.ofNat st.2.1) :: rest))) : W p l e R s m args below meth c H locs cells slots QW (F0 m pc ls (.ref (st.1 3) :: rest)) :=
  va_slen S.1.1 S.1.2.1 S.2.1.2.2.2.2.1 S.2.1.2.2.2.2.2.1 S.2.1.2.2.2.2.2.2 hG.2.2 hdg kk
theorem mca (S : SC A D ac st p m c cc nL s args own R cells slots F Lc) (hG : DG A D ac ad s σ H locs) {k : Nat} (hk : kd k = 21) {i : Int32} (hin : vp_in i 80) (hdg : decode cc pc = .ok (.caload, 1))
    (kk : W p l e R s m args below meth c H locs cells slots QW (F0 m (pc + 1) ls (.int (σ.1 k i.toNatClampNeg) :: rest))) : W p l e R s m args below meth c H locs cells slots QW (F0 m pc ls (.int i :: .ref (ad k) :: rest)) :=
  va_cald S.1.1 S.1.2.1 S.2.1.1 hG.1 k 1 (wsL_arr hk rfl) rfl hin hdg kk
theorem mza (S : SC A D ac st p m c cc nL s args own R cells slots F Lc) (hG : DG A D ac ad s σ H locs) {k : Nat} (hk : kd k = 22) {i : Int32} (hin : vp_in i 40) (hdg : decode cc pc = .ok (.baload, 1))
    (kk : W p l e R s m args below meth c H locs cells slots QW (F0 m (pc + 1) ls (.int (σ.1 k i.toNatClampNeg) :: rest))) : W p l e R s m args below meth c H locs cells slots QW (F0 m pc ls (.int i :: .ref (ad k) :: rest)) :=
  va_zald S.1.1 S.1.2.1 S.2.1.1 hG.1 k 2 (wsL_arr hk rfl) rfl hin hdg kk
theorem mq3 (S : SC A D ac st p m c cc nL s args own R cells slots F Lc) (hG : DG A D ac ad s σ H locs) {k : Nat} (hk : kd k = 23) {i : Int32} (hin : vp_in i 6) (hdg : decode cc pc = .ok (.aaload, 1))
    (kk : W p l e R s m args below meth c H locs cells slots QW (F0 m (pc + 1) ls (.ref (ad (k + 5 + 3 * i.toNatClampNeg)) :: rest))) : W p l e R s m args below meth c H locs cells slots QW (F0 m pc ls (.int i :: .ref (ad k) :: rest)) :=
  va_aldq S.1.1 S.1.2.1 S.2.1.1 hG.1 k 3 (wsL_ar3 hk) rfl hin hdg kk
theorem mq4 (S : SC A D ac st p m c cc nL s args own R cells slots F Lc) (hG : DG A D ac ad s σ H locs) {k : Nat} (hk : kd k = 24) {i : Int32} (hin : vp_in i 10) (hdg : decode cc pc = .ok (.aaload, 1))
    (kk : W p l e R s m args below meth c H locs cells slots QW (F0 m (pc + 1) ls (.ref (ad (k + 22 + i.toNatClampNeg)) :: rest))) : W p l e R s m args below meth c H locs cells slots QW (F0 m pc ls (.int i :: .ref (ad k) :: rest)) :=
  va_aldq S.1.1 S.1.2.1 S.2.1.1 hG.1 k 4 (wsL_ar4 hk) rfl hin hdg kk
theorem mq5 (S : SC A D ac st p m c cc nL s args own R cells slots F Lc) (hG : DG A D ac ad s σ H locs) {k : Nat} (hk : kd k = 25) {i : Int32} (hin : vp_in i 8) (hdg : decode cc pc = .ok (.aaload, 1))
    (kk : W p l e R s m args below meth c H locs cells slots QW (F0 m (pc + 1) ls (.ref (ad (k + 1 + 34 * i.toNatClampNeg)) :: rest))) : W p l e R s m args below meth c H locs cells slots QW (F0 m pc ls (.int i :: .ref (ad k) :: rest)) :=
  va_aldq S.1.1 S.1.2.1 S.2.1.1 hG.1 k 5 (wsL_ar5 hk) rfl hin hdg kk
theorem vin_lt {i : Int32} {n : Nat} (h : vp_in i n) : i.toNatClampNeg < n := Nat.not_le.mp fun q => h (Or.inr q)
theorem mis (S : SC A D ac st p m c cc nL s args own R cells slots F Lc) (hG : DG A D ac ad s σ H locs) {k : Nat} (kk0 : Nat) (hp : isPK kk0 = true) (ha : acK kk0 = 0) (hk : kd k = kk0) {i v : Int32} (hin : vp_in i (lnK kk0)) (hdg : decode cc pc = .ok (.iastore, 1))
    (kk : ∀ (σ1 : St), σ1 = wr σ k i.toNatClampNeg v → ∀ (H1 : Heap) (locs1 : List Loc), DG A D ac ad s σ1 H1 locs1 → W p l e R s m args below meth c H1 locs1 cells slots QW (F0 m (pc + 1) ls rest)) : W p l e R s m args below meth c H locs cells slots QW (F0 m pc ls (.int v :: .int i :: .ref (ad k) :: rest)) := by
  refine va_iast S.1.1 S.1.2.1 S.2.1.1 hG.1 hG.2.1 hG.2.2 k 0 (wsL_arr hk hp) (by rw [ha]; rfl) hin hdg (fun H1 locs1 h1 h2 h3 => ?_)
  rw [wsL_wrA hk hp] at h1 h2
  exact kk _ rfl H1 locs1 ⟨h1, h2, h3⟩
theorem mcs (S : SC A D ac st p m c cc nL s args own R cells slots F Lc) (hG : DG A D ac ad s σ H locs) {k : Nat} (hk : kd k = 21) {i v : Int32} (hin : vp_in i 80) (hdg : decode cc pc = .ok (.castore, 1))
    (kk : ∀ (σ1 : St), σ1 = wr σ k i.toNatClampNeg (vp_nar .char v) → ∀ (H1 : Heap) (locs1 : List Loc), DG A D ac ad s σ1 H1 locs1 → W p l e R s m args below meth c H1 locs1 cells slots QW (F0 m (pc + 1) ls rest)) : W p l e R s m args below meth c H locs cells slots QW (F0 m pc ls (.int v :: .int i :: .ref (ad k) :: rest)) := by
  refine va_cast S.1.1 S.1.2.1 S.2.1.1 hG.1 hG.2.1 hG.2.2 k 1 (wsL_arr hk rfl) rfl hin hdg (fun H1 locs1 h1 h2 h3 => ?_)
  rw [wsL_wrA hk rfl] at h1 h2
  exact kk _ rfl H1 locs1 ⟨h1, h2, h3⟩
theorem mzs (S : SC A D ac st p m c cc nL s args own R cells slots F Lc) (hG : DG A D ac ad s σ H locs) {k : Nat} (hk : kd k = 22) {i v : Int32} (hin : vp_in i 40) (hdg : decode cc pc = .ok (.bastore, 1))
    (kk : ∀ (σ1 : St), σ1 = wr σ k i.toNatClampNeg (vp_nar .boolean v) → ∀ (H1 : Heap) (locs1 : List Loc), DG A D ac ad s σ1 H1 locs1 → W p l e R s m args below meth c H1 locs1 cells slots QW (F0 m (pc + 1) ls rest)) : W p l e R s m args below meth c H locs cells slots QW (F0 m pc ls (.int v :: .int i :: .ref (ad k) :: rest)) := by
  refine va_zast S.1.1 S.1.2.1 S.2.1.1 hG.1 hG.2.1 hG.2.2 k 2 (wsL_arr hk rfl) rfl hin hdg (fun H1 locs1 h1 h2 h3 => ?_)
  rw [wsL_wrA hk rfl] at h1 h2
  exact kk _ rfl H1 locs1 ⟨h1, h2, h3⟩
theorem mcp (S : SC A D ac st p m c cc nL s args own R cells slots F Lc) (hsz : ls.size = nL) (hG : DG A D ac ad s σ H locs) {index : Nat} (hl : Cond.methodLink own index arraycopyName ∈ wA) (hnat : Cond.native arraycopyName ∈ wA) (hstat : Cond.static arraycopyName ∈ wA) (hini : Cond.initialized "java/lang/System" ∈ wA) {k0 k1 : Nat} (c0 c1 : Nat) (hp0 : isPK c0 = true) (hp1 : isPK c1 = true) (ha0 : acK c0 = 0) (ha1 : acK c1 = 0) (hk0 : kd k0 = c0) (hk1 : kd k1 = c1) {n : Int32} (h3 : ¬ n < 0) (h4 : n.toNatClampNeg ≤ lnK c0) (h5 : n.toNatClampNeg ≤ lnK c1) (hF : 1 ≤ F) (hLc : (rest.map fun v => v.category).sum + 18 ≤ Lc) (hdg : decode cc pc = .ok (.invokestatic index, 3))
    (kk : ∀ (σ1 : St), σ1 = wrA σ k1 (va_cpy (σ.1 k0) (σ.1 k1) 0 0 n.toNatClampNeg) → ∀ (H1 : Heap) (locs1 : List Loc), DG A D ac ad s σ1 H1 locs1 → W p l e R s m args below meth c H1 locs1 cells slots QW (F0 m (pc + 3) ls rest)) : W p l e R s m args below meth c H locs cells slots QW (F0 m pc ls (.int n :: .int 0 :: .ref (ad k1) :: .int 0 :: .ref (ad k0) :: rest)) := by
  have hnf : nativeFrameWords "java/lang/System" "arraycopy" 5 + 11 = 18 := by decide
  have z0 : (0 : Int32).toNatClampNeg = 0 := by decide
  refine va_copyi S.1.1 S.1.2.1 (S.1.2.2.1.trans hsz.symm) S.1.2.2.2.1 (S.1.2.2.2.2 _ hl) (S.1.2.2.2.2 _ hnat) (S.1.2.2.2.2 _ hstat) (S.1.2.2.2.2 _ hini) S.2.1.1 hG.1 hG.2.1 hG.2.2 k0 k1 0 0 (ty := .int) (wsL_arr hk0 hp0) (wsL_arr hk1 hp1) (by rw [ha0]; rfl) (by rw [ha1]; rfl) rfl (by decide) (by decide) h3 (by rw [z0]; omega) (by rw [z0]; omega) (fun _ _ => rfl) (Nat.le_trans hF S.2.2.2.1) (by rw [hnf]; exact Nat.le_trans hLc S.2.2.2.2) hdg (fun H1 locs1 h1 h2 h3 => ?_)
  rw [wsL_wrA hk1 hp1, z0] at h1 h2
  exact kk _ rfl H1 locs1 ⟨h1, h2, h3⟩
theorem mgs (S : SC A D ac st p m c cc nL s args own R cells slots F Lc) (hG : DG A D ac ad s σ H locs) (j : Nat) (hj : j < 3) {index : Nat} (hl : Cond.fieldLink own index "SweeperRounds" (stN j) "[I" ∈ wA) (hdg : decode cc pc = .ok (.getstatic index, 3))
    (kk : W p l e R s m args below meth c H locs cells slots QW (F0 m (pc + 3) ls (.ref (st.1 j) :: rest))) : W p l e R s m args below meth c H locs cells slots QW (F0 m pc ls rest) :=
  va_gets S.1.1 S.1.2.1 (S.2.1.2.2.2.1 j hj).1 hG.2.2 S.1.2.2.2.1 (S.1.2.2.2.2 _ hl) (fun _ h => h) hdg kk
theorem mgsN (S : SC A D ac st p m c cc nL s args own R cells slots F Lc) (hG : DG A D ac ad s σ H locs) (j : Nat) (hj : j < 3) {index : Nat} {host : String} (hl : (own, index, "SweeperRounds", stN j, "[I", host) ∈ nestF) (hdg : decode cc pc = .ok (.getstatic index, 3))
    (kk : W p l e R s m args below meth c H locs cells slots QW (F0 m (pc + 3) ls (.ref (st.1 j) :: rest))) : W p l e R s m args below meth c H locs cells slots QW (F0 m pc ls rest) :=
  va_getsN S.1.1 S.1.2.1 (S.2.1.2.2.2.1 j hj).1 hG.2.2 S.1.2.2.2.1 (va_Nw.use rfl (S.2.1.2.2.1 _ hl)) (fun _ h => h) hdg kk
theorem mts (S : SC A D ac st p m c cc nL s args own R cells slots F Lc) (hG : DG A D ac ad s σ H locs) (j : Nat) (hj : j < 3) {i : Int32} (hin : vp_in i 6) (hdg : decode cc pc = .ok (.iaload, 1))
    (kk : W p l e R s m args below meth c H locs cells slots QW (F0 m (pc + 1) ls (.int (stV j i.toNatClampNeg) :: rest))) : W p l e R s m args below meth c H locs cells slots QW (F0 m pc ls (.int i :: .ref (st.1 j) :: rest)) :=
  va_ti S.1.1 S.1.2.1 (S.2.1.2.2.2.1 j hj).2 hG.2.2 hin rfl hdg kk
/-- the words of a call -/
theorem mcw {C : String} {y : MethodName} {bytes : ByteArray} {maxL n index F' L' : Nat} {ret : Option FieldType} (S : SC A D ac st p m c cc nL s args own R cells slots F Lc) (h1 : Cond.methodLink own index y ∈ wA) (h2 : Cond.instanceMethod y ∈ wA) (h3 : Cond.selects C y y ∈ wA) (h4 : Cond.initialized C ∈ wA) (h5 : Cond.code y bytes maxL ret ∈ wA) (hd : y.cls = C ∧ y.cls ≠ "java/lang/invoke/MethodHandle" ∧ y.cls ≠ "java/lang/invoke/VarHandle" ∧ (parseMethodDescriptor y.desc).map (fun d => d.parameters.length) = some n) (hR : F' + 1 ≤ F ∧ 8 + (maxL + 11) + L' ≤ Lc) :
    CallW R s args own C index y bytes maxL ret (Cond.code y bytes maxL ret :: wA) { frames := F', cells := 0, slots := 0, locals := L' } 0 0 n :=
  cwV n S.1.2.2.2.2 (wA_in (fun w hw => (List.mem_append.mp hw).elim (fun q => by simp at q; rcases q with rfl | rfl | rfl | rfl <;> assumption) (wA_cons h5 w))) rfl rfl rfl hd ⟨Nat.le_trans hR.1 S.2.2.2.1, Nat.le_trans hR.2 S.2.2.2.2⟩
theorem mcws {y : MethodName} {bytes : ByteArray} {maxL n index F' L' : Nat} {ret : Option FieldType} (S : SC A D ac st p m c cc nL s args own R cells slots F Lc) (h1 : Cond.methodLink own index y ∈ wA) (h2 : Cond.static y ∈ wA) (h4 : Cond.initialized own ∈ wA) (h5 : Cond.code y bytes maxL ret ∈ wA) (hd : y.cls = own ∧ y.cls ≠ "java/lang/invoke/MethodHandle" ∧ y.cls ≠ "java/lang/invoke/VarHandle" ∧ (parseMethodDescriptor y.desc).map (fun d => d.parameters.length) = some n) (hR : F' + 1 ≤ F ∧ 8 + (maxL + 11) + L' ≤ Lc) :
    CallB R s args own index y bytes maxL ret (Cond.code y bytes maxL ret :: wA) { frames := F', cells := 0, slots := 0, locals := L' } 0 0 n ∧ (Cond.static y).before args s = true :=
  cwS n S.1.2.2.2.2 (wA_in (fun w hw => (List.mem_append.mp hw).elim (fun q => by simp at q; rcases q with rfl | rfl | rfl <;> assumption) (wA_cons h5 w))) rfl rfl rfl hd ⟨Nat.le_trans hR.1 S.2.2.2.1, Nat.le_trans hR.2 S.2.2.2.2⟩
theorem mcwn {y : MethodName} {bytes : ByteArray} {maxL n index F' L' : Nat} {ret : Option FieldType} {host : String} (S : SC A D ac st p m c cc nL s args own R cells slots F Lc) (h1 : (own, index, y, host) ∈ nestM) (h2 : Cond.static y ∈ wA) (h4 : Cond.initialized y.cls ∈ wA) (h5 : Cond.code y bytes maxL ret ∈ wA) (hd : y.cls ≠ "java/lang/invoke/MethodHandle" ∧ y.cls ≠ "java/lang/invoke/VarHandle" ∧ (parseMethodDescriptor y.desc).map (fun d => d.parameters.length) = some n) (hR : F' + 1 ≤ F ∧ 8 + (maxL + 11) + L' ≤ Lc) :
    va_CN R s args own index y host bytes maxL ret (Cond.code y bytes maxL ret :: wA) { frames := F', cells := 0, slots := 0, locals := L' } 0 0 n ∧ (Cond.static y).before args s = true ∧ True :=
  ⟨va_cnB n S.1.2.2.2.2 (wA_in (wA_cons h5)) rfl rfl rfl (S.2.1.2.1 _ h1) (S.1.2.2.2.2 _ h4) hd ⟨Nat.le_trans hR.1 S.2.2.2.1, Nat.le_trans hR.2 S.2.2.2.2⟩, S.1.2.2.2.2 _ h2, trivial⟩

theorem mcVi {y : MethodName} {bytes : ByteArray} {maxL n index F' L' ci kb : Nat} {C : String} {T : u_T} {N : Nat} {rt : Option FieldType} (As : List Value) {Q : Int32 → St → Prop} (S : SC A D ac st p m c cc nL s args own R cells slots F Lc) (hsz : ls.size = nL) (hG : DG A D ac ad s σ H locs) (hM : Met l y (Cond.code y bytes maxL rt :: wA) { frames := F', cells := 0, slots := 0, locals := L' } (va_Pc (.ref (ad kb) :: As) (GSt A D ac ad st σ)) (va_Qi Q (GSt A D ac ad st) A) 0 0 A) (cw : CallW R s args own C index y bytes maxL rt (Cond.code y bytes maxL rt :: wA) { frames := F', cells := 0, slots := 0, locals := L' } 0 0 n) (hc : classes[ci]? = some (C, T, N)) (hci : ci < 20) (hkb : kd kb = ci) (hn : As.length = n) (hcat : (rest.map fun v => v.category).sum ≤ 8) (hdg : decode cc pc = .ok (.invokevirtual index, 3))
    (kk : ∀ (r : Int32) (u : St), Q r u → ∀ (H1 : Heap) (locs1 : List Loc), DG A D ac ad s u H1 locs1 → W p l e R s m args below meth c H1 locs1 cells slots QW (F0 m (pc + 3) ls (.int r :: rest))) : W p l e R s m args below meth c H locs cells slots QW (F0 m pc ls (As.reverse ++ .ref (ad kb) :: rest)) := by
  refine va_calli (va_runV (As := As) (rest := rest) S.1 hM cw ⟨GSt.blind, va_recv S.2.1.1 hG.1 hc (wsL_obj hkb hci), fun U hU hW => ⟨rfl, by rw [hU]; exact hG.1, hG.2.1, S.2.1.on hW hG.2.2 hU⟩⟩ rfl hn hsz rfl (lv_room hcat) hdg ⟨S.2.2.1.1, S.2.2.1.2⟩) hG.2.2 (fun q _ h => h) (fun q h => h) (fun r u t H1 locs1 ht hvm hq hB hz1 hk1 hS => ?_)
  subst ht
  exact kk r u hq t.heap locs1 ⟨hB.1, hB.2.1, hS⟩
theorem mcVv {y : MethodName} {bytes : ByteArray} {maxL n index F' L' ci kb : Nat} {C : String} {T : u_T} {N : Nat} {rt : Option FieldType} (As : List Value) {Q : St → Prop} (S : SC A D ac st p m c cc nL s args own R cells slots F Lc) (hsz : ls.size = nL) (hG : DG A D ac ad s σ H locs) (hM : Met l y (Cond.code y bytes maxL rt :: wA) { frames := F', cells := 0, slots := 0, locals := L' } (va_Pc (.ref (ad kb) :: As) (GSt A D ac ad st σ)) (va_Qv Q (GSt A D ac ad st) A) 0 0 A) (cw : CallW R s args own C index y bytes maxL rt (Cond.code y bytes maxL rt :: wA) { frames := F', cells := 0, slots := 0, locals := L' } 0 0 n) (hc : classes[ci]? = some (C, T, N)) (hci : ci < 20) (hkb : kd kb = ci) (hn : As.length = n) (hcat : (rest.map fun v => v.category).sum ≤ 8) (hdg : decode cc pc = .ok (.invokevirtual index, 3))
    (kk : ∀ (u : St), Q u → ∀ (H1 : Heap) (locs1 : List Loc), DG A D ac ad s u H1 locs1 → W p l e R s m args below meth c H1 locs1 cells slots QW (F0 m (pc + 3) ls (rest))) : W p l e R s m args below meth c H locs cells slots QW (F0 m pc ls (As.reverse ++ .ref (ad kb) :: rest)) := by
  refine va_callv (va_runV (As := As) (rest := rest) S.1 hM cw ⟨GSt.blind, va_recv S.2.1.1 hG.1 hc (wsL_obj hkb hci), fun U hU hW => ⟨rfl, by rw [hU]; exact hG.1, hG.2.1, S.2.1.on hW hG.2.2 hU⟩⟩ rfl hn hsz rfl (lv_room hcat) hdg ⟨S.2.2.1.1, S.2.2.1.2⟩) hG.2.2 (fun q _ h => h) (fun q h => h) (fun u t H1 locs1 ht hvm hq hB hz1 hk1 hS => ?_)
  subst ht
  exact kk u hq t.heap locs1 ⟨hB.1, hB.2.1, hS⟩
theorem mcSi {y : MethodName} {bytes : ByteArray} {maxL n index F' L' : Nat} {rt : Option FieldType} (As : List Value) {Q : Int32 → St → Prop} (S : SC A D ac st p m c cc nL s args own R cells slots F Lc) (hsz : ls.size = nL) (hG : DG A D ac ad s σ H locs) (hM : Met l y (Cond.code y bytes maxL rt :: wA) { frames := F', cells := 0, slots := 0, locals := L' } (va_Pc (As) (GSt A D ac ad st σ)) (va_Qi Q (GSt A D ac ad st) A) 0 0 A) (cw : CallB R s args own index y bytes maxL rt (Cond.code y bytes maxL rt :: wA) { frames := F', cells := 0, slots := 0, locals := L' } 0 0 n ∧ (Cond.static y).before args s = true) (hn : As.length = n) (hcat : (rest.map fun v => v.category).sum ≤ 8) (hdg : decode cc pc = .ok (.invokestatic index, 3))
    (kk : ∀ (r : Int32) (u : St), Q r u → ∀ (H1 : Heap) (locs1 : List Loc), DG A D ac ad s u H1 locs1 → W p l e R s m args below meth c H1 locs1 cells slots QW (F0 m (pc + 3) ls (.int r :: rest))) : W p l e R s m args below meth c H locs cells slots QW (F0 m pc ls (As.reverse ++ rest)) := by
  refine va_calli (va_runS (As := As) (rest := rest) S.1 hM cw ⟨GSt.blind, fun U hU hW => ⟨rfl, by rw [hU]; exact hG.1, hG.2.1, S.2.1.on hW hG.2.2 hU⟩⟩ rfl hn hsz rfl (lv_room hcat) hdg ⟨S.2.2.1.1, S.2.2.1.2⟩) hG.2.2 (fun q _ h => h) (fun q h => h) (fun r u t H1 locs1 ht hvm hq hB hz1 hk1 hS => ?_)
  subst ht
  exact kk r u hq t.heap locs1 ⟨hB.1, hB.2.1, hS⟩
theorem mcSv {y : MethodName} {bytes : ByteArray} {maxL n index F' L' : Nat} {rt : Option FieldType} (As : List Value) {Q : St → Prop} (S : SC A D ac st p m c cc nL s args own R cells slots F Lc) (hsz : ls.size = nL) (hG : DG A D ac ad s σ H locs) (hM : Met l y (Cond.code y bytes maxL rt :: wA) { frames := F', cells := 0, slots := 0, locals := L' } (va_Pc (As) (GSt A D ac ad st σ)) (va_Qv Q (GSt A D ac ad st) A) 0 0 A) (cw : CallB R s args own index y bytes maxL rt (Cond.code y bytes maxL rt :: wA) { frames := F', cells := 0, slots := 0, locals := L' } 0 0 n ∧ (Cond.static y).before args s = true) (hn : As.length = n) (hcat : (rest.map fun v => v.category).sum ≤ 8) (hdg : decode cc pc = .ok (.invokestatic index, 3))
    (kk : ∀ (u : St), Q u → ∀ (H1 : Heap) (locs1 : List Loc), DG A D ac ad s u H1 locs1 → W p l e R s m args below meth c H1 locs1 cells slots QW (F0 m (pc + 3) ls (rest))) : W p l e R s m args below meth c H locs cells slots QW (F0 m pc ls (As.reverse ++ rest)) := by
  refine va_callv (va_runS (As := As) (rest := rest) S.1 hM cw ⟨GSt.blind, fun U hU hW => ⟨rfl, by rw [hU]; exact hG.1, hG.2.1, S.2.1.on hW hG.2.2 hU⟩⟩ rfl hn hsz rfl (lv_room hcat) hdg ⟨S.2.2.1.1, S.2.2.1.2⟩) hG.2.2 (fun q _ h => h) (fun q h => h) (fun u t H1 locs1 ht hvm hq hB hz1 hk1 hS => ?_)
  subst ht
  exact kk u hq t.heap locs1 ⟨hB.1, hB.2.1, hS⟩
theorem mcNi {y : MethodName} {bytes : ByteArray} {maxL n index F' L' : Nat} {rt : Option FieldType} {host : String} (As : List Value) {Q : Int32 → St → Prop} (S : SC A D ac st p m c cc nL s args own R cells slots F Lc) (hsz : ls.size = nL) (hG : DG A D ac ad s σ H locs) (hM : Met l y (Cond.code y bytes maxL rt :: wA) { frames := F', cells := 0, slots := 0, locals := L' } (va_Pc (As) (GSt A D ac ad st σ)) (va_Qi Q (GSt A D ac ad st) A) 0 0 A) (cw : va_CN R s args own index y host bytes maxL rt (Cond.code y bytes maxL rt :: wA) { frames := F', cells := 0, slots := 0, locals := L' } 0 0 n ∧ (Cond.static y).before args s = true ∧ True) (hn : As.length = n) (hcat : (rest.map fun v => v.category).sum ≤ 8) (hdg : decode cc pc = .ok (.invokestatic index, 3))
    (kk : ∀ (r : Int32) (u : St), Q r u → ∀ (H1 : Heap) (locs1 : List Loc), DG A D ac ad s u H1 locs1 → W p l e R s m args below meth c H1 locs1 cells slots QW (F0 m (pc + 3) ls (.int r :: rest))) : W p l e R s m args below meth c H locs cells slots QW (F0 m pc ls (As.reverse ++ rest)) := by
  refine va_calli (va_runSN (As := As) (rest := rest) S.1 hM cw ⟨GSt.blind, fun U hU hW => ⟨rfl, by rw [hU]; exact hG.1, hG.2.1, S.2.1.on hW hG.2.2 hU⟩⟩ rfl hn hsz rfl (lv_room hcat) hdg ⟨S.2.2.1.1, S.2.2.1.2⟩) hG.2.2 (fun q _ h => h) (fun q h => h) (fun r u t H1 locs1 ht hvm hq hB hz1 hk1 hS => ?_)
  subst ht
  exact kk r u hq t.heap locs1 ⟨hB.1, hB.2.1, hS⟩
theorem mmn (S : SC A D ac st p m c cc nL s args own R cells slots F Lc) (hsz : ls.size = nL) {index : Nat} (hl : Cond.methodLink own index Lib.Math.min.name ∈ wA) (h2 : Cond.static Lib.Math.min.name ∈ wA) (h3 : Cond.initialized "java/lang/Math" ∈ wA) (h4 : Cond.code Lib.Math.min.name Lib.Math.min.code 2 (some .int) ∈ wA) (hF : 1 ≤ F) (hLc : (rest.map fun v => v.category).sum + 13 ≤ Lc) {x y : Int32} (hdg : decode cc pc = .ok (.invokestatic index, 3))
    (kk : W p l e R s m args below meth c H locs cells slots QW (F0 m (pc + 3) ls (.int (if y < x then y else x) :: rest))) : W p l e R s m args below meth c H locs cells slots QW (F0 m pc ls (.int y :: .int x :: rest)) :=
  va_mmin S.1.1 S.1.2.1 (S.1.2.2.1.trans hsz.symm) S.1.2.2.2.1 (S.1.2.2.2.2 _ hl) (S.1.2.2.2.2 _ h2) (S.1.2.2.2.2 _ h3) (S.1.2.2.2.2 _ h4) (Nat.le_trans hF S.2.2.2.1) (Nat.le_trans hLc S.2.2.2.2) S.2.2.1.1 S.2.2.1.2 hdg kk
theorem mmx (S : SC A D ac st p m c cc nL s args own R cells slots F Lc) (hsz : ls.size = nL) {index : Nat} (hl : Cond.methodLink own index Lib.Math.max.name ∈ wA) (h2 : Cond.static Lib.Math.max.name ∈ wA) (h3 : Cond.initialized "java/lang/Math" ∈ wA) (h4 : Cond.code Lib.Math.max.name Lib.Math.max.code 2 (some .int) ∈ wA) (hF : 1 ≤ F) (hLc : (rest.map fun v => v.category).sum + 13 ≤ Lc) {x y : Int32} (hdg : decode cc pc = .ok (.invokestatic index, 3))
    (kk : W p l e R s m args below meth c H locs cells slots QW (F0 m (pc + 3) ls (.int (if x < y then y else x) :: rest))) : W p l e R s m args below meth c H locs cells slots QW (F0 m pc ls (.int y :: .int x :: rest)) :=
  va_mmax S.1.1 S.1.2.1 (S.1.2.2.1.trans hsz.symm) S.1.2.2.2.1 (S.1.2.2.2.2 _ hl) (S.1.2.2.2.2 _ h2) (S.1.2.2.2.2 _ h3) (S.1.2.2.2.2 _ h4) (Nat.le_trans hF S.2.2.2.1) (Nat.le_trans hLc S.2.2.2.2) S.2.2.1.1 S.2.2.1.2 hdg kk
theorem mab (S : SC A D ac st p m c cc nL s args own R cells slots F Lc) (hsz : ls.size = nL) {index : Nat} (hl : Cond.methodLink own index Lib.Math.abs.name ∈ wA) (h2 : Cond.static Lib.Math.abs.name ∈ wA) (h3 : Cond.initialized "java/lang/Math" ∈ wA) (h4 : Cond.code Lib.Math.abs.name Lib.Math.abs.code 1 (some .int) ∈ wA) (hF : 1 ≤ F) (hLc : (rest.map fun v => v.category).sum + 13 ≤ Lc) {x : Int32} (hdg : decode cc pc = .ok (.invokestatic index, 3))
    (kk : W p l e R s m args below meth c H locs cells slots QW (F0 m (pc + 3) ls (.int (if 0 ≤ x then x else 0 - x) :: rest))) : W p l e R s m args below meth c H locs cells slots QW (F0 m pc ls (.int x :: rest)) :=
  va_mabs S.1.1 S.1.2.1 (S.1.2.2.1.trans hsz.symm) S.1.2.2.2.1 (S.1.2.2.2.2 _ hl) (S.1.2.2.2.2 _ h2) (S.1.2.2.2.2 _ h3) (S.1.2.2.2.2 _ h4) (Nat.le_trans hF S.2.2.2.1) (Nat.le_trans hLc S.2.2.2.2) S.2.2.1.1 S.2.2.1.2 hdg kk
end RW
/-- what a method's body may use at its returns -/
def RtI (A : Nat → Prop) (D : va_G) (ac : Nat → ClassId) (ad : Nat → Nat) (p : Program) (l : Launch) (e : Env) (R : Room) (s : State) (m : MethodId) (args : Array Value) (below : List Frame) (meth : Method) (c : Code) (cc : ByteArray) (cells slots : Nat) (QW : State → Prop) (Q : Int32 → St → Prop) : Prop :=
  ∀ (v : Int32) (u : St) (H : Heap) (locs : List Loc) (pc : Nat) (ls : Array Slot), DG A D ac ad s u H locs → Q v u → decode cc pc = .ok (.ireturn, 1) → W p l e R s m args below meth c H locs cells slots QW (F0 m pc ls [.int v])
def RtZ (A : Nat → Prop) (D : va_G) (ac : Nat → ClassId) (ad : Nat → Nat) (p : Program) (l : Launch) (e : Env) (R : Room) (s : State) (m : MethodId) (args : Array Value) (below : List Frame) (meth : Method) (c : Code) (cc : ByteArray) (cells slots : Nat) (QW : State → Prop) (Q : Int32 → St → Prop) : Prop :=
  ∀ (v : Int32) (u : St) (H : Heap) (locs : List Loc) (pc : Nat) (ls : Array Slot), DG A D ac ad s u H locs → isB v → Q v u → decode cc pc = .ok (.ireturn, 1) → W p l e R s m args below meth c H locs cells slots QW (F0 m pc ls [.int v])
def RtV (A : Nat → Prop) (D : va_G) (ac : Nat → ClassId) (ad : Nat → Nat) (p : Program) (l : Launch) (e : Env) (R : Room) (s : State) (m : MethodId) (args : Array Value) (below : List Frame) (meth : Method) (c : Code) (cc : ByteArray) (cells slots : Nat) (QW : State → Prop) (Q : St → Prop) : Prop :=
  ∀ (u : St) (H : Heap) (locs : List Loc) (pc : Nat) (ls : Array Slot), DG A D ac ad s u H locs → Q u → decode cc pc = .ok (.return_, 1) → W p l e R s m args below meth c H locs cells slots QW (F0 m pc ls [])
theorem mkI (l : Launch) {y : MethodName} {own : String} {bytes : ByteArray} {nL F Lc : Nat} {D : va_G} {ac : Nat → ClassId} {ad : Nat → Nat} {st : SS} {A : Nat → Prop} {σ : St} {Q : Int32 → St → Prop} (hy : plainName y.cls = true) (hown : y.cls = own) (vals : List Value) (hlen : (lg_sl vals).length ≤ nL)
    (body : ∀ (p : Program) (e : Env) (s : State) (m : MethodId) (args : Array Value) (below : List Frame) (meth : Method) (c : Code) (ls : Array Slot) (QW : State → Prop), SC A D ac st p m c bytes nL s args own { frames := F, cells := 0, slots := 0, locals := Lc } 0 0 F Lc → RtI A D ac ad p l e { frames := F, cells := 0, slots := 0, locals := Lc } s m args below meth c bytes 0 0 QW Q → DG A D ac ad s σ s.heap [] → lv_has ls nL (lv_args 0 vals) →
      W p l e { frames := F, cells := 0, slots := 0, locals := Lc } s m args below meth c s.heap [] 0 0 QW (F0 m 0 ls [])) :
    Met l y (Cond.code y bytes nL (some .int) :: wA) { frames := F, cells := 0, slots := 0, locals := Lc } (va_Pc vals (GSt A D ac ad st σ)) (va_Qi Q (GSt A D ac ad st) A) 0 0 A := by
  subst hown
  refine Met.ofW (cc := bytes) (maxL := nL) (ret := (some .int)) hy rfl ?_
  intro p e s m args below meth c s₁ B hml hv
  obtain ⟨rfl, hP, hD, hK⟩ := hv
  have hx := B.exec
  have hb := B.bytes
  have hr := B.returns
  have hts : ∀ w ∈ wA, w.before vals.toArray s = true := fun w hw => atoms_spec (ws := Cond.code y bytes nL (some .int) :: wA) B.pre w (List.mem_cons_of_mem _ hw)
  have hown : s.vm.findClass y.cls = some m.cls := findClass_of_methodNamed B.named
  have hlocks := B.notSynchronized
  have hl := lv_entry vals (n := nL) hlen
  rw [lg_entry_eq]
  generalize (lg_sl vals ++ List.replicate (nL - (lg_sl vals).length) Slot.unset).toArray = ls at hl ⊢
  refine body p e s m vals.toArray below meth c ls _ ⟨⟨hx, hb, hml, hown, hts⟩, hK, ⟨Nat.le_refl _, Nat.le_refl _⟩, Nat.le_refl _, Nat.le_refl _⟩ ?_ ⟨hP, hD, va_S.rf⟩ hl
  intro v u H locs pc ls hG hq hdg
  exact W.iret hx hb hr  (fun t ht hW => ⟨⟨v, u, rfl, hq, by rw [ht]; exact hG.1, hG.2.1, hK.on hW hG.2.2 ht⟩, hG.2.2.F ht⟩) hG.2.2.2.2 hdg
theorem mkZ (l : Launch) {y : MethodName} {own : String} {bytes : ByteArray} {nL F Lc : Nat} {D : va_G} {ac : Nat → ClassId} {ad : Nat → Nat} {st : SS} {A : Nat → Prop} {σ : St} {Q : Int32 → St → Prop} (hy : plainName y.cls = true) (hown : y.cls = own) (vals : List Value) (hlen : (lg_sl vals).length ≤ nL)
    (body : ∀ (p : Program) (e : Env) (s : State) (m : MethodId) (args : Array Value) (below : List Frame) (meth : Method) (c : Code) (ls : Array Slot) (QW : State → Prop), SC A D ac st p m c bytes nL s args own { frames := F, cells := 0, slots := 0, locals := Lc } 0 0 F Lc → RtZ A D ac ad p l e { frames := F, cells := 0, slots := 0, locals := Lc } s m args below meth c bytes 0 0 QW Q → DG A D ac ad s σ s.heap [] → lv_has ls nL (lv_args 0 vals) →
      W p l e { frames := F, cells := 0, slots := 0, locals := Lc } s m args below meth c s.heap [] 0 0 QW (F0 m 0 ls [])) :
    Met l y (Cond.code y bytes nL (some .boolean) :: wA) { frames := F, cells := 0, slots := 0, locals := Lc } (va_Pc vals (GSt A D ac ad st σ)) (va_Qi Q (GSt A D ac ad st) A) 0 0 A := by
  subst hown
  refine Met.ofW (cc := bytes) (maxL := nL) (ret := (some .boolean)) hy rfl ?_
  intro p e s m args below meth c s₁ B hml hv
  obtain ⟨rfl, hP, hD, hK⟩ := hv
  have hx := B.exec
  have hb := B.bytes
  have hr := B.returns
  have hts : ∀ w ∈ wA, w.before vals.toArray s = true := fun w hw => atoms_spec (ws := Cond.code y bytes nL (some .boolean) :: wA) B.pre w (List.mem_cons_of_mem _ hw)
  have hown : s.vm.findClass y.cls = some m.cls := findClass_of_methodNamed B.named
  have hlocks := B.notSynchronized
  have hl := lv_entry vals (n := nL) hlen
  rw [lg_entry_eq]
  generalize (lg_sl vals ++ List.replicate (nL - (lg_sl vals).length) Slot.unset).toArray = ls at hl ⊢
  refine body p e s m vals.toArray below meth c ls _ ⟨⟨hx, hb, hml, hown, hts⟩, hK, ⟨Nat.le_refl _, Nat.le_refl _⟩, Nat.le_refl _, Nat.le_refl _⟩ ?_ ⟨hP, hD, va_S.rf⟩ hl
  intro v u H locs pc ls hG hv hq hdg
  exact W.zret hx hb hr (isB_nar hv) (fun t ht hW => ⟨⟨v, u, rfl, hq, by rw [ht]; exact hG.1, hG.2.1, hK.on hW hG.2.2 ht⟩, hG.2.2.F ht⟩) hG.2.2.2.2 hdg
theorem mkV (l : Launch) {y : MethodName} {own : String} {bytes : ByteArray} {nL F Lc : Nat} {D : va_G} {ac : Nat → ClassId} {ad : Nat → Nat} {st : SS} {A : Nat → Prop} {σ : St} {Q : St → Prop} (hy : plainName y.cls = true) (hown : y.cls = own) (vals : List Value) (hlen : (lg_sl vals).length ≤ nL)
    (body : ∀ (p : Program) (e : Env) (s : State) (m : MethodId) (args : Array Value) (below : List Frame) (meth : Method) (c : Code) (ls : Array Slot) (QW : State → Prop), SC A D ac st p m c bytes nL s args own { frames := F, cells := 0, slots := 0, locals := Lc } 0 0 F Lc → RtV A D ac ad p l e { frames := F, cells := 0, slots := 0, locals := Lc } s m args below meth c bytes 0 0 QW Q → DG A D ac ad s σ s.heap [] → lv_has ls nL (lv_args 0 vals) →
      W p l e { frames := F, cells := 0, slots := 0, locals := Lc } s m args below meth c s.heap [] 0 0 QW (F0 m 0 ls [])) :
    Met l y (Cond.code y bytes nL none :: wA) { frames := F, cells := 0, slots := 0, locals := Lc } (va_Pc vals (GSt A D ac ad st σ)) (va_Qv Q (GSt A D ac ad st) A) 0 0 A := by
  subst hown
  refine Met.ofW (cc := bytes) (maxL := nL) (ret := none) hy rfl ?_
  intro p e s m args below meth c s₁ B hml hv
  obtain ⟨rfl, hP, hD, hK⟩ := hv
  have hx := B.exec
  have hb := B.bytes
  have hr := B.returns
  have hts : ∀ w ∈ wA, w.before vals.toArray s = true := fun w hw => atoms_spec (ws := Cond.code y bytes nL none :: wA) B.pre w (List.mem_cons_of_mem _ hw)
  have hown : s.vm.findClass y.cls = some m.cls := findClass_of_methodNamed B.named
  have hlocks := B.notSynchronized
  have hl := lv_entry vals (n := nL) hlen
  rw [lg_entry_eq]
  generalize (lg_sl vals ++ List.replicate (nL - (lg_sl vals).length) Slot.unset).toArray = ls at hl ⊢
  refine body p e s m vals.toArray below meth c ls _ ⟨⟨hx, hb, hml, hown, hts⟩, hK, ⟨Nat.le_refl _, Nat.le_refl _⟩, Nat.le_refl _, Nat.le_refl _⟩ ?_ ⟨hP, hD, va_S.rf⟩ hl
  intro u H locs pc ls hG hq hdg
  exact W.vret hx hb hr  (fun t ht hW => ⟨⟨u, rfl, hq, by rw [ht]; exact hG.1, hG.2.1, hK.on hW hG.2.2 ht⟩, hG.2.2.F ht⟩) hG.2.2.2.2 hdg
theorem sw_0_2 (x : Int32) : (x.toInt < 0 ∨ 2 < x.toInt) ∨ x = 0 ∨ x = 1 ∨ x = 2 := by
  by_cases h : x.toInt < 0 ∨ 2 < x.toInt
  · exact Or.inl h
  · refine Or.inr ?_
    have e : ∀ (y : Int32), x.toInt = y.toInt → x = y := fun y h => Int32.toInt_inj.mp h
    have h2 : x.toInt = 0 ∨ x.toInt = 1 ∨ x.toInt = 2 := by omega
    rcases h2 with h | h | h <;> first | exact Or.inl (e 0 (by rw [h]; decide)) | exact Or.inr (Or.inl (e 1 (by rw [h]; decide))) | exact Or.inr (Or.inr (e 2 (by rw [h]; decide)))
theorem sw_0_4 (x : Int32) : (x.toInt < 0 ∨ 4 < x.toInt) ∨ x = 0 ∨ x = 1 ∨ x = 2 ∨ x = 3 ∨ x = 4 := by
  by_cases h : x.toInt < 0 ∨ 4 < x.toInt
  · exact Or.inl h
  · refine Or.inr ?_
    have e : ∀ (y : Int32), x.toInt = y.toInt → x = y := fun y h => Int32.toInt_inj.mp h
    have h2 : x.toInt = 0 ∨ x.toInt = 1 ∨ x.toInt = 2 ∨ x.toInt = 3 ∨ x.toInt = 4 := by omega
    rcases h2 with h | h | h | h | h <;> first | exact Or.inl (e 0 (by rw [h]; decide)) | exact Or.inr (Or.inl (e 1 (by rw [h]; decide))) | exact Or.inr (Or.inr (Or.inl (e 2 (by rw [h]; decide)))) | exact Or.inr (Or.inr (Or.inr (Or.inl (e 3 (by rw [h]; decide))))) | exact Or.inr (Or.inr (Or.inr (Or.inr (e 4 (by rw [h]; decide)))))
theorem sw_0_7 (x : Int32) : (x.toInt < 0 ∨ 7 < x.toInt) ∨ x = 0 ∨ x = 1 ∨ x = 2 ∨ x = 3 ∨ x = 4 ∨ x = 5 ∨ x = 6 ∨ x = 7 := by
  by_cases h : x.toInt < 0 ∨ 7 < x.toInt
  · exact Or.inl h
  · refine Or.inr ?_
    have e : ∀ (y : Int32), x.toInt = y.toInt → x = y := fun y h => Int32.toInt_inj.mp h
    have h2 : x.toInt = 0 ∨ x.toInt = 1 ∨ x.toInt = 2 ∨ x.toInt = 3 ∨ x.toInt = 4 ∨ x.toInt = 5 ∨ x.toInt = 6 ∨ x.toInt = 7 := by omega
    rcases h2 with h | h | h | h | h | h | h | h <;> first | exact Or.inl (e 0 (by rw [h]; decide)) | exact Or.inr (Or.inl (e 1 (by rw [h]; decide))) | exact Or.inr (Or.inr (Or.inl (e 2 (by rw [h]; decide)))) | exact Or.inr (Or.inr (Or.inr (Or.inl (e 3 (by rw [h]; decide))))) | exact Or.inr (Or.inr (Or.inr (Or.inr (Or.inl (e 4 (by rw [h]; decide)))))) | exact Or.inr (Or.inr (Or.inr (Or.inr (Or.inr (Or.inl (e 5 (by rw [h]; decide))))))) | exact Or.inr (Or.inr (Or.inr (Or.inr (Or.inr (Or.inr (Or.inl (e 6 (by rw [h]; decide)))))))) | exact Or.inr (Or.inr (Or.inr (Or.inr (Or.inr (Or.inr (Or.inr (e 7 (by rw [h]; decide))))))))
theorem sw_0_14 (x : Int32) : (x.toInt < 0 ∨ 14 < x.toInt) ∨ x = 0 ∨ x = 1 ∨ x = 2 ∨ x = 3 ∨ x = 4 ∨ x = 5 ∨ x = 6 ∨ x = 7 ∨ x = 8 ∨ x = 9 ∨ x = 10 ∨ x = 11 ∨ x = 12 ∨ x = 13 ∨ x = 14 := by
  by_cases h : x.toInt < 0 ∨ 14 < x.toInt
  · exact Or.inl h
  · refine Or.inr ?_
    have e : ∀ (y : Int32), x.toInt = y.toInt → x = y := fun y h => Int32.toInt_inj.mp h
    have h2 : x.toInt = 0 ∨ x.toInt = 1 ∨ x.toInt = 2 ∨ x.toInt = 3 ∨ x.toInt = 4 ∨ x.toInt = 5 ∨ x.toInt = 6 ∨ x.toInt = 7 ∨ x.toInt = 8 ∨ x.toInt = 9 ∨ x.toInt = 10 ∨ x.toInt = 11 ∨ x.toInt = 12 ∨ x.toInt = 13 ∨ x.toInt = 14 := by omega
    rcases h2 with h | h | h | h | h | h | h | h | h | h | h | h | h | h | h <;> first | exact Or.inl (e 0 (by rw [h]; decide)) | exact Or.inr (Or.inl (e 1 (by rw [h]; decide))) | exact Or.inr (Or.inr (Or.inl (e 2 (by rw [h]; decide)))) | exact Or.inr (Or.inr (Or.inr (Or.inl (e 3 (by rw [h]; decide))))) | exact Or.inr (Or.inr (Or.inr (Or.inr (Or.inl (e 4 (by rw [h]; decide)))))) | exact Or.inr (Or.inr (Or.inr (Or.inr (Or.inr (Or.inl (e 5 (by rw [h]; decide))))))) | exact Or.inr (Or.inr (Or.inr (Or.inr (Or.inr (Or.inr (Or.inl (e 6 (by rw [h]; decide)))))))) | exact Or.inr (Or.inr (Or.inr (Or.inr (Or.inr (Or.inr (Or.inr (Or.inl (e 7 (by rw [h]; decide))))))))) | exact Or.inr (Or.inr (Or.inr (Or.inr (Or.inr (Or.inr (Or.inr (Or.inr (Or.inl (e 8 (by rw [h]; decide)))))))))) | exact Or.inr (Or.inr (Or.inr (Or.inr (Or.inr (Or.inr (Or.inr (Or.inr (Or.inr (Or.inl (e 9 (by rw [h]; decide))))))))))) | exact Or.inr (Or.inr (Or.inr (Or.inr (Or.inr (Or.inr (Or.inr (Or.inr (Or.inr (Or.inr (Or.inl (e 10 (by rw [h]; decide)))))))))))) | exact Or.inr (Or.inr (Or.inr (Or.inr (Or.inr (Or.inr (Or.inr (Or.inr (Or.inr (Or.inr (Or.inr (Or.inl (e 11 (by rw [h]; decide))))))))))))) | exact Or.inr (Or.inr (Or.inr (Or.inr (Or.inr (Or.inr (Or.inr (Or.inr (Or.inr (Or.inr (Or.inr (Or.inr (Or.inl (e 12 (by rw [h]; decide)))))))))))))) | exact Or.inr (Or.inr (Or.inr (Or.inr (Or.inr (Or.inr (Or.inr (Or.inr (Or.inr (Or.inr (Or.inr (Or.inr (Or.inr (Or.inl (e 13 (by rw [h]; decide))))))))))))))) | exact Or.inr (Or.inr (Or.inr (Or.inr (Or.inr (Or.inr (Or.inr (Or.inr (Or.inr (Or.inr (Or.inr (Or.inr (Or.inr (Or.inr (e 14 (by rw [h]; decide)))))))))))))))
