section CPS
variable {p : Program} {l : Launch} {e : Env} {R : Room} {s : State} {m : MethodId} {args : Array Value} {below : List Frame} {meth : Method} {c : Code} {H : Heap} {locs : List Loc} {cells slots : Nat} {QW : State → Prop}
variable {cc : ByteArray} {pc nL F Lc a0 b0 Ne base : Nat} {ls : Array Slot} {rest : List Value} {D : va_G} {ac : Nat → ClassId} {st : SS} {A : Nat → Prop} {k : Cc} {own : String}
/-- six numbers of a static array are copied to the front of an array of the world -/
theorem nCps (S : SCc A D ac st base p m c cc nL s args own R a0 b0 Ne F Lc) (hsz : ls.size = nL) (hG : DGc A D ac base s a0 b0 k H locs cells slots) (j : Nat) (hj : j < 3) {index : Nat} (hl : Cond.methodLink own index arraycopyName ∈ wA) (hnat : Cond.native arraycopyName ∈ wA) (hstat : Cond.static arraycopyName ∈ wA) (hini : Cond.initialized "java/lang/System" ∈ wA) {o : Nat} (ci : Nat) (hp : isPK ci = true) (ha : acK ci = 0) (h6 : lnK ci = 6) (hk : kd o = ci) (ho : o < k.2.2) (hF : 1 ≤ F) (hLc : (rest.map fun v => v.category).sum + 18 ≤ Lc) (hdg : decode cc pc = .ok (.invokestatic index, 3))
    (kk : ∀ (k1 : Cc), k1 = wrF k o (va_cpy (stV j) (k.1.1 o) 0 0 6) → ∀ (H1 : Heap) (locs1 : List Loc), DGc A D ac base s a0 b0 k1 H1 locs1 cells slots → W p l e R s m args below meth c H1 locs1 cells slots QW (F0 m (pc + 3) ls rest)) : W p l e R s m args below meth c H locs cells slots QW (F0 m pc ls (.int 6 :: .int 0 :: .ref (adB base o) :: .int 0 :: .ref (st.1 j) :: rest)) := by
  have hts := S.1.2.2.2.2
  have hnf : nativeFrameWords "java/lang/System" "arraycopy" 5 + 11 = 18 := by decide
  have ha1 : (wsC ac (adB base) k)[o]? = some (adB base o, .inl (ac (acK ci), lnK ci, .inl (k.1.1 o))) := by rw [wsC_get ho, imgC_arr hk hp]
  have ew : (wsC ac (adB base) k).set o (adB base o, .inl (ac (acK ci), lnK ci, .inl (va_cpy (stV j) (k.1.1 o) 0 0 6))) = wsC ac (adB base) (wrF k o (va_cpy (stV j) (k.1.1 o) 0 0 6)) := by
    refine wsC_set rfl ?_ (fun a ha => imgC_same (wrA_ne ha) rfl rfl)
    rw [imgC_arr hk hp]
    simp [wrF, wrA]
  have ht1 : (tysL ac)[0]? = some (ac (acK ci), .int) := by rw [ha]; rfl
  have hP := hG.1
  have hD := hG.2.1
  have hS := hG.2.2.1
  intro T hT X
  obtain ⟨scr, hs1, hs2, hs3, hs4, -, hs5, hs7⟩ := (S.2.1.1.2.2.2.1 j hj).2
  have hc0 : H[st.1 j]? = some scr := by rw [hS.2.1 (st.1 j) (Array.getElem?_eq_some_iff.mp hs1).1 hs7]; exact hs1
  have hc1 : H[adB base o]? = some (vp_cell (ac (acK ci)) (lnK ci, .inl (k.1.1 o))) := hP o _ ha1
  obtain ⟨hs6, k0, hk0, cm0, hkk0⟩ := hs2
  obtain ⟨-, k1, hk1, cm1, hkk1⟩ := (S.2.1.1.1.2 0 _ ht1).1 (lnK ci) (fun j => .int (k.1.1 o j))
  obtain ⟨vm', X', step⟩ := X.arraycopy S.1.1 S.1.2.2.2.1 (hts _ hl) (hts _ hnat) (hts _ hstat) (hts _ hini) (src := st.1 j) (dst := adB base o) (cs := scr) (cd := vp_cell (ac (acK ci)) (lnK ci, .inl (k.1.1 o))) (srcPos := 0) (destPos := 0) (n := 6) (by rw [hT]; exact hc0) (by rw [hT]; exact hc1)
    hs6 (fun _ h => by cases h) hs3 (fun h => by cases h) hk0 hk1 hkk0 hkk1 (by simp [refKind]) (by decide) (by decide) (by decide)
    (by rw [show (0 : Int32).toInt = 0 from rfl, show (6 : Int32).toInt = 6 from rfl]; omega)
    (by rw [show (0 : Int32).toInt = 0 from rfl, show (6 : Int32).toInt = 6 from rfl]; show ¬ _ > ((arrV (ac (acK ci)) (lnK ci) (fun j => .int (k.1.1 o j))).slots.size : Int); rw [arrV_size, h6]; omega)
    (fun vm₁ _ i hi => by
      have hi : i < 6 := hi
      have e : scr.slots.getD ((0 : Int32).toNatClampNeg + i) .null = .int (stV j i) := by
        rw [show (0 : Int32).toNatClampNeg + i = i from Nat.zero_add i, Array.getD_eq_getD_getElem?, hs5 i hi]
        rfl
      rw [e]
      exact ⟨rfl, trivial⟩)
    (g := F0 m pc ls (.int 6 :: .int 0 :: .ref (adB base o) :: .int 0 :: .ref (st.1 j) :: rest)) rfl (by rw [S.1.2.2.1]; exact hsz) (rest := rest) rfl (by rw [S.1.2.1]; exact hdg) (Nat.le_trans hF S.2.2.2.1) (by have := Nat.le_trans hLc S.2.2.2.2.1; show 2 * 0 + _ + _ ≤ _; omega)
  have e1 : copied scr (vp_cell (ac (acK ci)) (lnK ci, .inl (k.1.1 o))) 0 0 6 = vp_cell (ac (acK ci)) (lnK ci, .inl (va_cpy (stV j) (k.1.1 o) 0 0 6)) := va_copiedX (n0 := 6) (n1 := lnK ci) (sp := 0) (dp := 0) (n := 6) (fun z => .int z) scr (ac (acK ci)) (stV j) (k.1.1 o) hs5 (by decide)
  rw [e1] at X' step
  have hl : adB base o < H.size := (Array.getElem?_eq_some_iff.mp hc1).1
  generalize hcell : vp_cell (ac (acK ci)) (lnK ci, .inl (va_cpy (stV j) (k.1.1 o) 0 0 6)) = cell at X' step
  have hheap : ((T.setVm vm').setCell (adB base o) cell).heap = H.setIfInBounds (adB base o) cell := by rw [← hT]; rfl
  have oq : ∀ q : Nat, q ≠ adB base o → (H.setIfInBounds (adB base o) cell)[q]? = H[q]? := fun q hq => by rw [Array.getElem?_setIfInBounds, if_neg (fun e => hq e.symm)]
  have h1 := hP.set hD ha1 (e := .inl (ac (acK ci), lnK ci, .inl (va_cpy (stV j) (k.1.1 o) 0 0 6))) (H1 := H.setIfInBounds (adB base o) cell) (show (H.setIfInBounds (adB base o) cell)[adB base o]? = some (vp_cell _ _) by rw [hcell]; simp [Array.getElem?_setIfInBounds, hl]) oq
  have h2 := hD.set ha1 (e := .inl (ac (acK ci), lnK ci, .inl (va_cpy (stV j) (k.1.1 o) 0 0 6)))
  rw [ew] at h1 h2
  obtain ⟨t, a1, b1⟩ := kk _ rfl _ _ ⟨h1, h2, ⟨by simp; exact hS.1, fun q g1 g2 => by
      rw [oq q (fun e => g2 (by rw [e]; exact hD.2 o _ ha1))]
      exact hS.2.1 q g1 g2, fun q hq => by
      rcases List.mem_append.mp hq with h | h
      · exact hS.2.2 q h
      · obtain ⟨z, -, hz⟩ := List.mem_map.mp h
        rw [← hz]
        exact hD.2 o _ ha1⟩, hG.2.2.2⟩ _ hheap X'
  exact ⟨t, step t a1, b1⟩
end CPS
theorem zf_0 {ad : Nat → Nat} {k : Cc} (h : zer k) : ∀ j, j < 3 → defaultValue (Ft0 j) = vp_V (fsC ad k k.2.2 0) j := by
  obtain ⟨h1, h2, h3⟩ := h
  intro j hj
  match j, hj with
  | 0, _ => simp [fsC, vp_V, rb, h1, h2, h3, Ft0, defaultValue]
  | 1, _ => simp [fsC, vp_V, rb, h1, h2, h3, Ft0, defaultValue]
  | 2, _ => simp [fsC, vp_V, rb, h1, h2, h3, Ft0, defaultValue]
theorem sr_0_0 {ad : Nat → Nat} {k : Cc} {o : Nat} : (fsC ad k o 0).set 0 (.ref (ad (o + 1))) = fsC ad (wrR k o 0) o 0 := by simp [fsC, wrR, rb]
theorem gr_0_0 {ad : Nat → Nat} {k : Cc} {o : Nat} (h : k.2.1 o 0 = true) : (fsC ad k o 0)[0]? = some (.ref (ad (o + 1))) := by simp [fsC, rb, h]
theorem zf_1 {ad : Nat → Nat} {k : Cc} (h : zer k) : ∀ j, j < 4 → defaultValue (Ft1 j) = vp_V (fsC ad k k.2.2 1) j := by
  obtain ⟨h1, h2, h3⟩ := h
  intro j hj
  match j, hj with
  | 0, _ => simp [fsC, vp_V, rb, h1, h2, h3, Ft1, defaultValue]
  | 1, _ => simp [fsC, vp_V, rb, h1, h2, h3, Ft1, defaultValue]
  | 2, _ => simp [fsC, vp_V, rb, h1, h2, h3, Ft1, defaultValue]
  | 3, _ => simp [fsC, vp_V, rb, h1, h2, h3, Ft1, defaultValue]
theorem zf_2 {ad : Nat → Nat} {k : Cc} (h : zer k) : ∀ j, j < 4 → defaultValue (Ft2 j) = vp_V (fsC ad k k.2.2 2) j := by
  obtain ⟨h1, h2, h3⟩ := h
  intro j hj
  match j, hj with
  | 0, _ => simp [fsC, vp_V, rb, h1, h2, h3, Ft2, defaultValue]
  | 1, _ => simp [fsC, vp_V, rb, h1, h2, h3, Ft2, defaultValue]
  | 2, _ => simp [fsC, vp_V, rb, h1, h2, h3, Ft2, defaultValue]
  | 3, _ => simp [fsC, vp_V, rb, h1, h2, h3, Ft2, defaultValue]
theorem sr_2_0 {ad : Nat → Nat} {k : Cc} {o : Nat} : (fsC ad k o 2).set 0 (.ref (ad (o + 1))) = fsC ad (wrR k o 0) o 2 := by simp [fsC, wrR, rb]
theorem gr_2_0 {ad : Nat → Nat} {k : Cc} {o : Nat} (h : k.2.1 o 0 = true) : (fsC ad k o 2)[0]? = some (.ref (ad (o + 1))) := by simp [fsC, rb, h]
theorem sr_2_2 {ad : Nat → Nat} {k : Cc} {o : Nat} : (fsC ad k o 2).set 2 (.ref (ad (o + 2))) = fsC ad (wrR k o 2) o 2 := by simp [fsC, wrR, rb]
theorem gr_2_2 {ad : Nat → Nat} {k : Cc} {o : Nat} (h : k.2.1 o 2 = true) : (fsC ad k o 2)[2]? = some (.ref (ad (o + 2))) := by simp [fsC, rb, h]
theorem zf_3 {ad : Nat → Nat} {k : Cc} (h : zer k) : ∀ j, j < 4 → defaultValue (Ft3 j) = vp_V (fsC ad k k.2.2 3) j := by
  obtain ⟨h1, h2, h3⟩ := h
  intro j hj
  match j, hj with
  | 0, _ => simp [fsC, vp_V, rb, h1, h2, h3, Ft3, defaultValue]
  | 1, _ => simp [fsC, vp_V, rb, h1, h2, h3, Ft3, defaultValue]
  | 2, _ => simp [fsC, vp_V, rb, h1, h2, h3, Ft3, defaultValue]
  | 3, _ => simp [fsC, vp_V, rb, h1, h2, h3, Ft3, defaultValue]
theorem sr_3_0 {ad : Nat → Nat} {k : Cc} {o : Nat} : (fsC ad k o 3).set 0 (.ref (ad (o + 1))) = fsC ad (wrR k o 0) o 3 := by simp [fsC, wrR, rb]
theorem gr_3_0 {ad : Nat → Nat} {k : Cc} {o : Nat} (h : k.2.1 o 0 = true) : (fsC ad k o 3)[0]? = some (.ref (ad (o + 1))) := by simp [fsC, rb, h]
theorem zf_4 {ad : Nat → Nat} {k : Cc} (h : zer k) : ∀ j, j < 6 → defaultValue (Ft4 j) = vp_V (fsC ad k k.2.2 4) j := by
  obtain ⟨h1, h2, h3⟩ := h
  intro j hj
  match j, hj with
  | 0, _ => simp [fsC, vp_V, rb, h1, h2, h3, Ft4, defaultValue]
  | 1, _ => simp [fsC, vp_V, rb, h1, h2, h3, Ft4, defaultValue]
  | 2, _ => simp [fsC, vp_V, rb, h1, h2, h3, Ft4, defaultValue]
  | 3, _ => simp [fsC, vp_V, rb, h1, h2, h3, Ft4, defaultValue]
  | 4, _ => simp [fsC, vp_V, rb, h1, h2, h3, Ft4, defaultValue]
  | 5, _ => simp [fsC, vp_V, rb, h1, h2, h3, Ft4, defaultValue]
theorem zf_5 {ad : Nat → Nat} {k : Cc} (h : zer k) : ∀ j, j < 2 → defaultValue (Ft5 j) = vp_V (fsC ad k k.2.2 5) j := by
  obtain ⟨h1, h2, h3⟩ := h
  intro j hj
  match j, hj with
  | 0, _ => simp [fsC, vp_V, rb, h1, h2, h3, Ft5, defaultValue]
  | 1, _ => simp [fsC, vp_V, rb, h1, h2, h3, Ft5, defaultValue]
theorem sr_5_0 {ad : Nat → Nat} {k : Cc} {o : Nat} : (fsC ad k o 5).set 0 (.ref (ad (rfR o))) = fsC ad (wrR k o 0) o 5 := by simp [fsC, wrR, rb]
theorem gr_5_0 {ad : Nat → Nat} {k : Cc} {o : Nat} (h : k.2.1 o 0 = true) : (fsC ad k o 5)[0]? = some (.ref (ad (rfR o))) := by simp [fsC, rb, h]
theorem zf_6 {ad : Nat → Nat} {k : Cc} (h : zer k) : ∀ j, j < 5 → defaultValue (Ft6 j) = vp_V (fsC ad k k.2.2 6) j := by
  obtain ⟨h1, h2, h3⟩ := h
  intro j hj
  match j, hj with
  | 0, _ => simp [fsC, vp_V, rb, h1, h2, h3, Ft6, defaultValue]
  | 1, _ => simp [fsC, vp_V, rb, h1, h2, h3, Ft6, defaultValue]
  | 2, _ => simp [fsC, vp_V, rb, h1, h2, h3, Ft6, defaultValue]
  | 3, _ => simp [fsC, vp_V, rb, h1, h2, h3, Ft6, defaultValue]
  | 4, _ => simp [fsC, vp_V, rb, h1, h2, h3, Ft6, defaultValue]
theorem sr_6_3 {ad : Nat → Nat} {k : Cc} {o : Nat} : (fsC ad k o 6).set 3 (.ref (ad (o + 1))) = fsC ad (wrR k o 3) o 6 := by simp [fsC, wrR, rb]
theorem gr_6_3 {ad : Nat → Nat} {k : Cc} {o : Nat} (h : k.2.1 o 3 = true) : (fsC ad k o 6)[3]? = some (.ref (ad (o + 1))) := by simp [fsC, rb, h]
theorem sr_6_4 {ad : Nat → Nat} {k : Cc} {o : Nat} : (fsC ad k o 6).set 4 (.ref (ad (o + 2))) = fsC ad (wrR k o 4) o 6 := by simp [fsC, wrR, rb]
theorem gr_6_4 {ad : Nat → Nat} {k : Cc} {o : Nat} (h : k.2.1 o 4 = true) : (fsC ad k o 6)[4]? = some (.ref (ad (o + 2))) := by simp [fsC, rb, h]
theorem zf_7 {ad : Nat → Nat} {k : Cc} (h : zer k) : ∀ j, j < 2 → defaultValue (Ft7 j) = vp_V (fsC ad k k.2.2 7) j := by
  obtain ⟨h1, h2, h3⟩ := h
  intro j hj
  match j, hj with
  | 0, _ => simp [fsC, vp_V, rb, h1, h2, h3, Ft7, defaultValue]
  | 1, _ => simp [fsC, vp_V, rb, h1, h2, h3, Ft7, defaultValue]
theorem sr_7_0 {ad : Nat → Nat} {k : Cc} {o : Nat} : (fsC ad k o 7).set 0 (.ref (ad (o + 1))) = fsC ad (wrR k o 0) o 7 := by simp [fsC, wrR, rb]
theorem gr_7_0 {ad : Nat → Nat} {k : Cc} {o : Nat} (h : k.2.1 o 0 = true) : (fsC ad k o 7)[0]? = some (.ref (ad (o + 1))) := by simp [fsC, rb, h]
theorem zf_8 {ad : Nat → Nat} {k : Cc} (h : zer k) : ∀ j, j < 12 → defaultValue (Ft8 j) = vp_V (fsC ad k k.2.2 8) j := by
  obtain ⟨h1, h2, h3⟩ := h
  intro j hj
  match j, hj with
  | 0, _ => simp [fsC, vp_V, rb, h1, h2, h3, Ft8, defaultValue]
  | 1, _ => simp [fsC, vp_V, rb, h1, h2, h3, Ft8, defaultValue]
  | 2, _ => simp [fsC, vp_V, rb, h1, h2, h3, Ft8, defaultValue]
  | 3, _ => simp [fsC, vp_V, rb, h1, h2, h3, Ft8, defaultValue]
  | 4, _ => simp [fsC, vp_V, rb, h1, h2, h3, Ft8, defaultValue]
  | 5, _ => simp [fsC, vp_V, rb, h1, h2, h3, Ft8, defaultValue]
  | 6, _ => simp [fsC, vp_V, rb, h1, h2, h3, Ft8, defaultValue]
  | 7, _ => simp [fsC, vp_V, rb, h1, h2, h3, Ft8, defaultValue]
  | 8, _ => simp [fsC, vp_V, rb, h1, h2, h3, Ft8, defaultValue]
  | 9, _ => simp [fsC, vp_V, rb, h1, h2, h3, Ft8, defaultValue]
  | 10, _ => simp [fsC, vp_V, rb, h1, h2, h3, Ft8, defaultValue]
  | 11, _ => simp [fsC, vp_V, rb, h1, h2, h3, Ft8, defaultValue]
theorem sr_8_0 {ad : Nat → Nat} {k : Cc} {o : Nat} : (fsC ad k o 8).set 0 (.ref (ad (o + 1))) = fsC ad (wrR k o 0) o 8 := by simp [fsC, wrR, rb]
theorem gr_8_0 {ad : Nat → Nat} {k : Cc} {o : Nat} (h : k.2.1 o 0 = true) : (fsC ad k o 8)[0]? = some (.ref (ad (o + 1))) := by simp [fsC, rb, h]
theorem sr_8_2 {ad : Nat → Nat} {k : Cc} {o : Nat} : (fsC ad k o 8).set 2 (.ref (ad (o + 2))) = fsC ad (wrR k o 2) o 8 := by simp [fsC, wrR, rb]
theorem gr_8_2 {ad : Nat → Nat} {k : Cc} {o : Nat} (h : k.2.1 o 2 = true) : (fsC ad k o 8)[2]? = some (.ref (ad (o + 2))) := by simp [fsC, rb, h]
theorem sr_8_5 {ad : Nat → Nat} {k : Cc} {o : Nat} : (fsC ad k o 8).set 5 (.ref (ad (o + 3))) = fsC ad (wrR k o 5) o 8 := by simp [fsC, wrR, rb]
theorem gr_8_5 {ad : Nat → Nat} {k : Cc} {o : Nat} (h : k.2.1 o 5 = true) : (fsC ad k o 8)[5]? = some (.ref (ad (o + 3))) := by simp [fsC, rb, h]
theorem sr_8_8 {ad : Nat → Nat} {k : Cc} {o : Nat} : (fsC ad k o 8).set 8 (.ref (ad (o + 4))) = fsC ad (wrR k o 8) o 8 := by simp [fsC, wrR, rb]
theorem gr_8_8 {ad : Nat → Nat} {k : Cc} {o : Nat} (h : k.2.1 o 8 = true) : (fsC ad k o 8)[8]? = some (.ref (ad (o + 4))) := by simp [fsC, rb, h]
theorem sr_8_9 {ad : Nat → Nat} {k : Cc} {o : Nat} : (fsC ad k o 8).set 9 (.ref (ad (o + 5))) = fsC ad (wrR k o 9) o 8 := by simp [fsC, wrR, rb]
theorem gr_8_9 {ad : Nat → Nat} {k : Cc} {o : Nat} (h : k.2.1 o 9 = true) : (fsC ad k o 8)[9]? = some (.ref (ad (o + 5))) := by simp [fsC, rb, h]
theorem zf_9 {ad : Nat → Nat} {k : Cc} (h : zer k) : ∀ j, j < 9 → defaultValue (Ft9 j) = vp_V (fsC ad k k.2.2 9) j := by
  obtain ⟨h1, h2, h3⟩ := h
  intro j hj
  match j, hj with
  | 0, _ => simp [fsC, vp_V, rb, h1, h2, h3, Ft9, defaultValue]
  | 1, _ => simp [fsC, vp_V, rb, h1, h2, h3, Ft9, defaultValue]
  | 2, _ => simp [fsC, vp_V, rb, h1, h2, h3, Ft9, defaultValue]
  | 3, _ => simp [fsC, vp_V, rb, h1, h2, h3, Ft9, defaultValue]
  | 4, _ => simp [fsC, vp_V, rb, h1, h2, h3, Ft9, defaultValue]
  | 5, _ => simp [fsC, vp_V, rb, h1, h2, h3, Ft9, defaultValue]
  | 6, _ => simp [fsC, vp_V, rb, h1, h2, h3, Ft9, defaultValue]
  | 7, _ => simp [fsC, vp_V, rb, h1, h2, h3, Ft9, defaultValue]
  | 8, _ => simp [fsC, vp_V, rb, h1, h2, h3, Ft9, defaultValue]
theorem sr_9_0 {ad : Nat → Nat} {k : Cc} {o : Nat} : (fsC ad k o 9).set 0 (.ref (ad (o + 1))) = fsC ad (wrR k o 0) o 9 := by simp [fsC, wrR, rb]
theorem gr_9_0 {ad : Nat → Nat} {k : Cc} {o : Nat} (h : k.2.1 o 0 = true) : (fsC ad k o 9)[0]? = some (.ref (ad (o + 1))) := by simp [fsC, rb, h]
theorem sr_9_1 {ad : Nat → Nat} {k : Cc} {o : Nat} : (fsC ad k o 9).set 1 (.ref (ad (o + 3))) = fsC ad (wrR k o 1) o 9 := by simp [fsC, wrR, rb]
theorem gr_9_1 {ad : Nat → Nat} {k : Cc} {o : Nat} (h : k.2.1 o 1 = true) : (fsC ad k o 9)[1]? = some (.ref (ad (o + 3))) := by simp [fsC, rb, h]
theorem sr_9_2 {ad : Nat → Nat} {k : Cc} {o : Nat} : (fsC ad k o 9).set 2 (.ref (ad (o + 7))) = fsC ad (wrR k o 2) o 9 := by simp [fsC, wrR, rb]
theorem gr_9_2 {ad : Nat → Nat} {k : Cc} {o : Nat} (h : k.2.1 o 2 = true) : (fsC ad k o 9)[2]? = some (.ref (ad (o + 7))) := by simp [fsC, rb, h]
theorem sr_9_3 {ad : Nat → Nat} {k : Cc} {o : Nat} : (fsC ad k o 9).set 3 (.ref (ad (o + 41))) = fsC ad (wrR k o 3) o 9 := by simp [fsC, wrR, rb]
theorem gr_9_3 {ad : Nat → Nat} {k : Cc} {o : Nat} (h : k.2.1 o 3 = true) : (fsC ad k o 9)[3]? = some (.ref (ad (o + 41))) := by simp [fsC, rb, h]
theorem sr_9_4 {ad : Nat → Nat} {k : Cc} {o : Nat} : (fsC ad k o 9).set 4 (.ref (ad (o + 42))) = fsC ad (wrR k o 4) o 9 := by simp [fsC, wrR, rb]
theorem gr_9_4 {ad : Nat → Nat} {k : Cc} {o : Nat} (h : k.2.1 o 4 = true) : (fsC ad k o 9)[4]? = some (.ref (ad (o + 42))) := by simp [fsC, rb, h]
theorem sr_9_5 {ad : Nat → Nat} {k : Cc} {o : Nat} : (fsC ad k o 9).set 5 (.ref (ad (o + 316))) = fsC ad (wrR k o 5) o 9 := by simp [fsC, wrR, rb]
theorem gr_9_5 {ad : Nat → Nat} {k : Cc} {o : Nat} (h : k.2.1 o 5 = true) : (fsC ad k o 9)[5]? = some (.ref (ad (o + 316))) := by simp [fsC, rb, h]
theorem sr_9_6 {ad : Nat → Nat} {k : Cc} {o : Nat} : (fsC ad k o 9).set 6 (.ref (ad (o + 350))) = fsC ad (wrR k o 6) o 9 := by simp [fsC, wrR, rb]
theorem gr_9_6 {ad : Nat → Nat} {k : Cc} {o : Nat} (h : k.2.1 o 6 = true) : (fsC ad k o 9)[6]? = some (.ref (ad (o + 350))) := by simp [fsC, rb, h]
theorem sr_9_7 {ad : Nat → Nat} {k : Cc} {o : Nat} : (fsC ad k o 9).set 7 (.ref (ad (o + 351))) = fsC ad (wrR k o 7) o 9 := by simp [fsC, wrR, rb]
theorem gr_9_7 {ad : Nat → Nat} {k : Cc} {o : Nat} (h : k.2.1 o 7 = true) : (fsC ad k o 9)[7]? = some (.ref (ad (o + 351))) := by simp [fsC, rb, h]
abbrev y_9_init : MethodName := ⟨"SweeperRounds", "<init>", "()V"⟩
abbrev y_0_init : MethodName := ⟨"SweeperRounds$History", "<init>", "()V"⟩
abbrev y_1_init : MethodName := ⟨"SweeperRounds$Leg", "<init>", "()V"⟩
abbrev y_2_init : MethodName := ⟨"SweeperRounds$Orders", "<init>", "()V"⟩
abbrev y_3_init : MethodName := ⟨"SweeperRounds$Reader", "<init>", "()V"⟩
abbrev y_4_init : MethodName := ⟨"SweeperRounds$Report", "<init>", "()V"⟩
abbrev y_5_init : MethodName := ⟨"SweeperRounds$Round", "<init>", "(LSweeperRounds$World;)V"⟩
abbrev y_6_init : MethodName := ⟨"SweeperRounds$Street", "<init>", "()V"⟩
abbrev y_7_init : MethodName := ⟨"SweeperRounds$Text", "<init>", "()V"⟩
abbrev y_8_init : MethodName := ⟨"SweeperRounds$World", "<init>", "()V"⟩
theorem d_1_init_0 : decode prog_3_method_1_code 0 = .ok (.aload_n 0, 1) := by decide +kernel
theorem d_1_init_1 : decode prog_3_method_1_code 1 = .ok (.invokespecial 1, 3) := by decide +kernel
theorem d_1_init_4 : decode prog_3_method_1_code 4 = .ok (.return_, 1) := by decide +kernel
def m_1_init (r0 : Nat) (Ne : Nat) (Q : Cc → Prop) (k : Cc) : Prop :=
  (k.2.2 = Ne ∧ Q k)
theorem d_4_init_0 : decode prog_6_method_1_code 0 = .ok (.aload_n 0, 1) := by decide +kernel
theorem d_4_init_1 : decode prog_6_method_1_code 1 = .ok (.invokespecial 3, 3) := by decide +kernel
theorem d_4_init_4 : decode prog_6_method_1_code 4 = .ok (.return_, 1) := by decide +kernel
def m_4_init (r0 : Nat) (Ne : Nat) (Q : Cc → Prop) (k : Cc) : Prop :=
  (k.2.2 = Ne ∧ Q k)
theorem d_7_init_0 : decode prog_9_method_1_code 0 = .ok (.aload_n 0, 1) := by decide +kernel
theorem d_7_init_1 : decode prog_9_method_1_code 1 = .ok (.invokespecial 3, 3) := by decide +kernel
theorem d_7_init_4 : decode prog_9_method_1_code 4 = .ok (.aload_n 0, 1) := by decide +kernel
theorem d_7_init_5 : decode prog_9_method_1_code 5 = .ok (.bipush 80, 2) := by decide +kernel
theorem d_7_init_7 : decode prog_9_method_1_code 7 = .ok (.newarray .char, 2) := by decide +kernel
theorem d_7_init_9 : decode prog_9_method_1_code 9 = .ok (.putfield 9, 3) := by decide +kernel
theorem d_7_init_12 : decode prog_9_method_1_code 12 = .ok (.return_, 1) := by decide +kernel
def m_7_init (r0 : Nat) (Ne : Nat) (Q : Cc → Prop) (k : Cc) : Prop :=
  k.2.2 < Ne ∧ kd k.2.2 = 21 ∧ zer k ∧ ∀ n_1 : Nat, n_1 = k.2.2 → ∀ k_2 : Cc, k_2 = nxC k → r0 < k_2.2.2 ∧ n_1 = r0 + 1 ∧ ∀ k_3 : Cc, k_3 = wrR k_2 r0 0 → (k_3.2.2 = Ne ∧ Q k_3)
theorem d_6_init_0 : decode prog_8_method_1_code 0 = .ok (.aload_n 0, 1) := by decide +kernel
theorem d_6_init_1 : decode prog_8_method_1_code 1 = .ok (.invokespecial 3, 3) := by decide +kernel
theorem d_6_init_4 : decode prog_8_method_1_code 4 = .ok (.aload_n 0, 1) := by decide +kernel
theorem d_6_init_5 : decode prog_8_method_1_code 5 = .ok (.bipush 40, 2) := by decide +kernel
theorem d_6_init_7 : decode prog_8_method_1_code 7 = .ok (.newarray .int, 2) := by decide +kernel
theorem d_6_init_9 : decode prog_8_method_1_code 9 = .ok (.putfield 9, 3) := by decide +kernel
theorem d_6_init_12 : decode prog_8_method_1_code 12 = .ok (.aload_n 0, 1) := by decide +kernel
theorem d_6_init_13 : decode prog_8_method_1_code 13 = .ok (.bipush 40, 2) := by decide +kernel
theorem d_6_init_15 : decode prog_8_method_1_code 15 = .ok (.newarray .boolean, 2) := by decide +kernel
theorem d_6_init_17 : decode prog_8_method_1_code 17 = .ok (.putfield 15, 3) := by decide +kernel
theorem d_6_init_20 : decode prog_8_method_1_code 20 = .ok (.return_, 1) := by decide +kernel
def m_6_init (r0 : Nat) (Ne : Nat) (Q : Cc → Prop) (k : Cc) : Prop :=
  k.2.2 < Ne ∧ kd k.2.2 = 20 ∧ zer k ∧ ∀ n_1 : Nat, n_1 = k.2.2 → ∀ k_2 : Cc, k_2 = nxC k → r0 < k_2.2.2 ∧ n_1 = r0 + 1 ∧ ∀ k_3 : Cc, k_3 = wrR k_2 r0 3 → k_3.2.2 < Ne ∧ kd k_3.2.2 = 22 ∧ zer k_3 ∧ ∀ n_4 : Nat, n_4 = k_3.2.2 → ∀ k_5 : Cc, k_5 = nxC k_3 → r0 < k_5.2.2 ∧ n_4 = r0 + 2 ∧ ∀ k_6 : Cc, k_6 = wrR k_5 r0 4 → (k_6.2.2 = Ne ∧ Q k_6)
theorem d_3_init_0 : decode prog_5_method_1_code 0 = .ok (.aload_n 0, 1) := by decide +kernel
theorem d_3_init_1 : decode prog_5_method_1_code 1 = .ok (.invokespecial 3, 3) := by decide +kernel
theorem d_3_init_4 : decode prog_5_method_1_code 4 = .ok (.aload_n 0, 1) := by decide +kernel
theorem d_3_init_5 : decode prog_5_method_1_code 5 = .ok (.new 9, 3) := by decide +kernel
theorem d_3_init_8 : decode prog_5_method_1_code 8 = .ok (.dup, 1) := by decide +kernel
theorem d_3_init_9 : decode prog_5_method_1_code 9 = .ok (.invokespecial 11, 3) := by decide +kernel
theorem d_3_init_12 : decode prog_5_method_1_code 12 = .ok (.putfield 12, 3) := by decide +kernel
theorem d_3_init_15 : decode prog_5_method_1_code 15 = .ok (.return_, 1) := by decide +kernel
def m_3_init (r0 : Nat) (Ne : Nat) (Q : Cc → Prop) (k : Cc) : Prop :=
  k.2.2 < Ne ∧ kd k.2.2 = 6 ∧ zer k ∧ ∀ n_1 : Nat, n_1 = k.2.2 → ∀ k_2 : Cc, k_2 = nxC k → k_2.2.2 + 2 ≤ Ne ∧ m_6_init n_1 (k_2.2.2 + 2) (fun (k_3 : Cc) => r0 < k_3.2.2 ∧ n_1 = r0 + 1 ∧ ∀ k_4 : Cc, k_4 = wrR k_3 r0 0 → (k_4.2.2 = Ne ∧ Q k_4)) k_2
theorem d_8_init_0 : decode prog_10_method_1_code 0 = .ok (.aload_n 0, 1) := by decide +kernel
theorem d_8_init_1 : decode prog_10_method_1_code 1 = .ok (.invokespecial 3, 3) := by decide +kernel
theorem d_8_init_4 : decode prog_10_method_1_code 4 = .ok (.aload_n 0, 1) := by decide +kernel
theorem d_8_init_5 : decode prog_10_method_1_code 5 = .ok (.bipush 6, 2) := by decide +kernel
theorem d_8_init_7 : decode prog_10_method_1_code 7 = .ok (.anewarray 9, 3) := by decide +kernel
theorem d_8_init_10 : decode prog_10_method_1_code 10 = .ok (.putfield 11, 3) := by decide +kernel
theorem d_8_init_13 : decode prog_10_method_1_code 13 = .ok (.aload_n 0, 1) := by decide +kernel
theorem d_8_init_14 : decode prog_10_method_1_code 14 = .ok (.bipush 10, 2) := by decide +kernel
theorem d_8_init_16 : decode prog_10_method_1_code 16 = .ok (.anewarray 17, 3) := by decide +kernel
theorem d_8_init_19 : decode prog_10_method_1_code 19 = .ok (.putfield 19, 3) := by decide +kernel
theorem d_8_init_22 : decode prog_10_method_1_code 22 = .ok (.aload_n 0, 1) := by decide +kernel
theorem d_8_init_23 : decode prog_10_method_1_code 23 = .ok (.bipush 6, 2) := by decide +kernel
theorem d_8_init_25 : decode prog_10_method_1_code 25 = .ok (.newarray .int, 2) := by decide +kernel
theorem d_8_init_27 : decode prog_10_method_1_code 27 = .ok (.putfield 23, 3) := by decide +kernel
theorem d_8_init_30 : decode prog_10_method_1_code 30 = .ok (.aload_n 0, 1) := by decide +kernel
theorem d_8_init_31 : decode prog_10_method_1_code 31 = .ok (.bipush 6, 2) := by decide +kernel
theorem d_8_init_33 : decode prog_10_method_1_code 33 = .ok (.newarray .int, 2) := by decide +kernel
theorem d_8_init_35 : decode prog_10_method_1_code 35 = .ok (.putfield 27, 3) := by decide +kernel
theorem d_8_init_38 : decode prog_10_method_1_code 38 = .ok (.aload_n 0, 1) := by decide +kernel
theorem d_8_init_39 : decode prog_10_method_1_code 39 = .ok (.new 30, 3) := by decide +kernel
theorem d_8_init_42 : decode prog_10_method_1_code 42 = .ok (.dup, 1) := by decide +kernel
theorem d_8_init_43 : decode prog_10_method_1_code 43 = .ok (.invokespecial 32, 3) := by decide +kernel
theorem d_8_init_46 : decode prog_10_method_1_code 46 = .ok (.putfield 33, 3) := by decide +kernel
theorem d_8_init_49 : decode prog_10_method_1_code 49 = .ok (.iconst 0, 1) := by decide +kernel
theorem d_8_init_50 : decode prog_10_method_1_code 50 = .ok (.istore_n 1, 1) := by decide +kernel
theorem d_8_init_51 : decode prog_10_method_1_code 51 = .ok (.iload_n 1, 1) := by decide +kernel
theorem d_8_init_52 : decode prog_10_method_1_code 52 = .ok (.bipush 6, 2) := by decide +kernel
theorem d_8_init_54 : decode prog_10_method_1_code 54 = .ok (.if_icmp .ge 22, 3) := by decide +kernel
theorem d_8_init_57 : decode prog_10_method_1_code 57 = .ok (.aload_n 0, 1) := by decide +kernel
theorem d_8_init_58 : decode prog_10_method_1_code 58 = .ok (.getfield 11, 3) := by decide +kernel
theorem d_8_init_61 : decode prog_10_method_1_code 61 = .ok (.iload_n 1, 1) := by decide +kernel
theorem d_8_init_62 : decode prog_10_method_1_code 62 = .ok (.new 9, 3) := by decide +kernel
theorem d_8_init_65 : decode prog_10_method_1_code 65 = .ok (.dup, 1) := by decide +kernel
theorem d_8_init_66 : decode prog_10_method_1_code 66 = .ok (.invokespecial 37, 3) := by decide +kernel
theorem d_8_init_69 : decode prog_10_method_1_code 69 = .ok (.aastore, 1) := by decide +kernel
theorem d_8_init_70 : decode prog_10_method_1_code 70 = .ok (.iinc 1 1, 3) := by decide +kernel
theorem d_8_init_73 : decode prog_10_method_1_code 73 = .ok (.goto (-22), 3) := by decide +kernel
theorem d_8_init_76 : decode prog_10_method_1_code 76 = .ok (.iconst 0, 1) := by decide +kernel
theorem d_8_init_77 : decode prog_10_method_1_code 77 = .ok (.istore_n 1, 1) := by decide +kernel
theorem d_8_init_78 : decode prog_10_method_1_code 78 = .ok (.iload_n 1, 1) := by decide +kernel
theorem d_8_init_79 : decode prog_10_method_1_code 79 = .ok (.bipush 10, 2) := by decide +kernel
theorem d_8_init_81 : decode prog_10_method_1_code 81 = .ok (.if_icmp .ge 22, 3) := by decide +kernel
theorem d_8_init_84 : decode prog_10_method_1_code 84 = .ok (.aload_n 0, 1) := by decide +kernel
theorem d_8_init_85 : decode prog_10_method_1_code 85 = .ok (.getfield 19, 3) := by decide +kernel
theorem d_8_init_88 : decode prog_10_method_1_code 88 = .ok (.iload_n 1, 1) := by decide +kernel
theorem d_8_init_89 : decode prog_10_method_1_code 89 = .ok (.new 17, 3) := by decide +kernel
theorem d_8_init_92 : decode prog_10_method_1_code 92 = .ok (.dup, 1) := by decide +kernel
theorem d_8_init_93 : decode prog_10_method_1_code 93 = .ok (.invokespecial 38, 3) := by decide +kernel
theorem d_8_init_96 : decode prog_10_method_1_code 96 = .ok (.aastore, 1) := by decide +kernel
theorem d_8_init_97 : decode prog_10_method_1_code 97 = .ok (.iinc 1 1, 3) := by decide +kernel
theorem d_8_init_100 : decode prog_10_method_1_code 100 = .ok (.goto (-22), 3) := by decide +kernel
theorem d_8_init_103 : decode prog_10_method_1_code 103 = .ok (.getstatic 39, 3) := by decide +kernel
theorem d_8_init_106 : decode prog_10_method_1_code 106 = .ok (.iconst 0, 1) := by decide +kernel
theorem d_8_init_107 : decode prog_10_method_1_code 107 = .ok (.aload_n 0, 1) := by decide +kernel
theorem d_8_init_108 : decode prog_10_method_1_code 108 = .ok (.getfield 23, 3) := by decide +kernel
theorem d_8_init_111 : decode prog_10_method_1_code 111 = .ok (.iconst 0, 1) := by decide +kernel
theorem d_8_init_112 : decode prog_10_method_1_code 112 = .ok (.bipush 6, 2) := by decide +kernel
theorem d_8_init_114 : decode prog_10_method_1_code 114 = .ok (.invokestatic 42, 3) := by decide +kernel
theorem d_8_init_117 : decode prog_10_method_1_code 117 = .ok (.aload_n 0, 1) := by decide +kernel
theorem d_8_init_118 : decode prog_10_method_1_code 118 = .ok (.sipush 1000, 3) := by decide +kernel
theorem d_8_init_121 : decode prog_10_method_1_code 121 = .ok (.putfield 48, 3) := by decide +kernel
theorem d_8_init_124 : decode prog_10_method_1_code 124 = .ok (.return_, 1) := by decide +kernel
def m_8_init_78 (r0 : Nat) (Ne : Nat) (Q : Cc → Prop) (B78 : Int32 → Cc → Prop) (x1 : Int32) (k : Cc) : Prop :=
  (((10 : Int32) ≤ x1 → r0 < k.2.2 ∧ k.2.1 r0 5 = true ∧ (r0 + 3) < k.2.2 ∧ ∀ k_1 : Cc, k_1 = wrF k (r0 + 3) (va_cpy (stV 0) (k.1.1 (r0 + 3)) 0 0 6) → r0 < k_1.2.2 ∧ ∀ k_2 : Cc, k_2 = wrI k_1 r0 6 (1000 : Int32) → (k_2.2.2 = Ne ∧ Q k_2)) ∧ (¬ (10 : Int32) ≤ x1 → r0 < k.2.2 ∧ k.2.1 r0 2 = true ∧ k.2.2 < Ne ∧ kd k.2.2 = 1 ∧ zer k ∧ ∀ n_3 : Nat, n_3 = k.2.2 → ∀ k_4 : Cc, k_4 = nxC k → k_4.2.2 + 0 ≤ Ne ∧ m_1_init n_3 (k_4.2.2 + 0) (fun (k_5 : Cc) => vp_in x1 10 ∧ (r0 + 2) < k_5.2.2 ∧ n_3 < k_5.2.2 ∧ n_3 = (r0 + 2) + 22 + (x1).toNatClampNeg ∧ ∀ k_6 : Cc, k_6 = wrR k_5 (r0 + 2) (x1).toNatClampNeg → ∀ x1_7 : Int32, x1_7 = x1 + 1 → B78 x1_7 k_6) k_4))
def m_8_init_51 (r0 : Nat) (Ne : Nat) (Q : Cc → Prop) (B51 : Int32 → Cc → Prop) (x1 : Int32) (k : Cc) : Prop :=
  (((6 : Int32) ≤ x1 → itN (m_8_init_78 r0 Ne Q) (fun _ _ => False) FU (0 : Int32) k) ∧ (¬ (6 : Int32) ≤ x1 → r0 < k.2.2 ∧ k.2.1 r0 0 = true ∧ k.2.2 < Ne ∧ kd k.2.2 = 6 ∧ zer k ∧ ∀ n_1 : Nat, n_1 = k.2.2 → ∀ k_2 : Cc, k_2 = nxC k → k_2.2.2 + 2 ≤ Ne ∧ m_6_init n_1 (k_2.2.2 + 2) (fun (k_3 : Cc) => vp_in x1 6 ∧ (r0 + 1) < k_3.2.2 ∧ n_1 < k_3.2.2 ∧ n_1 = (r0 + 1) + 5 + 3 * (x1).toNatClampNeg ∧ ∀ k_4 : Cc, k_4 = wrR k_3 (r0 + 1) (x1).toNatClampNeg → ∀ x1_5 : Int32, x1_5 = x1 + 1 → B51 x1_5 k_4) k_2))
def m_8_init (r0 : Nat) (Ne : Nat) (Q : Cc → Prop) (k : Cc) : Prop :=
  k.2.2 < Ne ∧ kd k.2.2 = 23 ∧ zer k ∧ ∀ n_1 : Nat, n_1 = k.2.2 → ∀ k_2 : Cc, k_2 = nxC k → r0 < k_2.2.2 ∧ n_1 = r0 + 1 ∧ ∀ k_3 : Cc, k_3 = wrR k_2 r0 0 → k_3.2.2 < Ne ∧ kd k_3.2.2 = 24 ∧ zer k_3 ∧ ∀ n_4 : Nat, n_4 = k_3.2.2 → ∀ k_5 : Cc, k_5 = nxC k_3 → r0 < k_5.2.2 ∧ n_4 = r0 + 2 ∧ ∀ k_6 : Cc, k_6 = wrR k_5 r0 2 → k_6.2.2 < Ne ∧ kd k_6.2.2 = 26 ∧ zer k_6 ∧ ∀ n_7 : Nat, n_7 = k_6.2.2 → ∀ k_8 : Cc, k_8 = nxC k_6 → r0 < k_8.2.2 ∧ n_7 = r0 + 3 ∧ ∀ k_9 : Cc, k_9 = wrR k_8 r0 5 → k_9.2.2 < Ne ∧ kd k_9.2.2 = 27 ∧ zer k_9 ∧ ∀ n_10 : Nat, n_10 = k_9.2.2 → ∀ k_11 : Cc, k_11 = nxC k_9 → r0 < k_11.2.2 ∧ n_10 = r0 + 4 ∧ ∀ k_12 : Cc, k_12 = wrR k_11 r0 8 → k_12.2.2 < Ne ∧ kd k_12.2.2 = 4 ∧ zer k_12 ∧ ∀ n_13 : Nat, n_13 = k_12.2.2 → ∀ k_14 : Cc, k_14 = nxC k_12 → k_14.2.2 + 0 ≤ Ne ∧ m_4_init n_13 (k_14.2.2 + 0) (fun (k_15 : Cc) => r0 < k_15.2.2 ∧ n_13 = r0 + 5 ∧ ∀ k_16 : Cc, k_16 = wrR k_15 r0 9 → itN (m_8_init_51 r0 Ne Q) (fun _ _ => False) FU (0 : Int32) k_16) k_14
theorem d_5_init_0 : decode prog_7_method_1_code 0 = .ok (.aload_n 0, 1) := by decide +kernel
theorem d_5_init_1 : decode prog_7_method_1_code 1 = .ok (.invokespecial 3, 3) := by decide +kernel
theorem d_5_init_4 : decode prog_7_method_1_code 4 = .ok (.aload_n 0, 1) := by decide +kernel
theorem d_5_init_5 : decode prog_7_method_1_code 5 = .ok (.aload_n 1, 1) := by decide +kernel
theorem d_5_init_6 : decode prog_7_method_1_code 6 = .ok (.putfield 9, 3) := by decide +kernel
theorem d_5_init_9 : decode prog_7_method_1_code 9 = .ok (.return_, 1) := by decide +kernel
def m_5_init (r0 : Nat) (r1 : Nat) (Ne : Nat) (Q : Cc → Prop) (k : Cc) : Prop :=
  r0 < k.2.2 ∧ r1 = rfR r0 ∧ ∀ k_1 : Cc, k_1 = wrR k r0 0 → (k_1.2.2 = Ne ∧ Q k_1)
theorem d_0_init_0 : decode prog_2_method_1_code 0 = .ok (.aload_n 0, 1) := by decide +kernel
theorem d_0_init_1 : decode prog_2_method_1_code 1 = .ok (.invokespecial 3, 3) := by decide +kernel
theorem d_0_init_4 : decode prog_2_method_1_code 4 = .ok (.aload_n 0, 1) := by decide +kernel
theorem d_0_init_5 : decode prog_2_method_1_code 5 = .ok (.bipush 8, 2) := by decide +kernel
theorem d_0_init_7 : decode prog_2_method_1_code 7 = .ok (.anewarray 9, 3) := by decide +kernel
theorem d_0_init_10 : decode prog_2_method_1_code 10 = .ok (.putfield 11, 3) := by decide +kernel
theorem d_0_init_13 : decode prog_2_method_1_code 13 = .ok (.iconst 0, 1) := by decide +kernel
theorem d_0_init_14 : decode prog_2_method_1_code 14 = .ok (.istore_n 1, 1) := by decide +kernel
theorem d_0_init_15 : decode prog_2_method_1_code 15 = .ok (.iload_n 1, 1) := by decide +kernel
theorem d_0_init_16 : decode prog_2_method_1_code 16 = .ok (.bipush 8, 2) := by decide +kernel
theorem d_0_init_18 : decode prog_2_method_1_code 18 = .ok (.if_icmp .ge 22, 3) := by decide +kernel
theorem d_0_init_21 : decode prog_2_method_1_code 21 = .ok (.aload_n 0, 1) := by decide +kernel
theorem d_0_init_22 : decode prog_2_method_1_code 22 = .ok (.getfield 11, 3) := by decide +kernel
theorem d_0_init_25 : decode prog_2_method_1_code 25 = .ok (.iload_n 1, 1) := by decide +kernel
theorem d_0_init_26 : decode prog_2_method_1_code 26 = .ok (.new 9, 3) := by decide +kernel
theorem d_0_init_29 : decode prog_2_method_1_code 29 = .ok (.dup, 1) := by decide +kernel
theorem d_0_init_30 : decode prog_2_method_1_code 30 = .ok (.invokespecial 17, 3) := by decide +kernel
theorem d_0_init_33 : decode prog_2_method_1_code 33 = .ok (.aastore, 1) := by decide +kernel
theorem d_0_init_34 : decode prog_2_method_1_code 34 = .ok (.iinc 1 1, 3) := by decide +kernel
theorem d_0_init_37 : decode prog_2_method_1_code 37 = .ok (.goto (-22), 3) := by decide +kernel
theorem d_0_init_40 : decode prog_2_method_1_code 40 = .ok (.return_, 1) := by decide +kernel
def m_0_init_15 (r0 : Nat) (Ne : Nat) (Q : Cc → Prop) (B15 : Int32 → Cc → Prop) (x1 : Int32) (k : Cc) : Prop :=
  (((8 : Int32) ≤ x1 → (k.2.2 = Ne ∧ Q k)) ∧ (¬ (8 : Int32) ≤ x1 → r0 < k.2.2 ∧ k.2.1 r0 0 = true ∧ k.2.2 < Ne ∧ kd k.2.2 = 8 ∧ zer k ∧ ∀ n_1 : Nat, n_1 = k.2.2 → ∀ k_2 : Cc, k_2 = nxC k → k_2.2.2 + 33 ≤ Ne ∧ m_8_init n_1 (k_2.2.2 + 33) (fun (k_3 : Cc) => vp_in x1 8 ∧ (r0 + 1) < k_3.2.2 ∧ n_1 < k_3.2.2 ∧ n_1 = (r0 + 1) + 1 + 34 * (x1).toNatClampNeg ∧ ∀ k_4 : Cc, k_4 = wrR k_3 (r0 + 1) (x1).toNatClampNeg → ∀ x1_5 : Int32, x1_5 = x1 + 1 → B15 x1_5 k_4) k_2))
def m_0_init (r0 : Nat) (Ne : Nat) (Q : Cc → Prop) (k : Cc) : Prop :=
  k.2.2 < Ne ∧ kd k.2.2 = 25 ∧ zer k ∧ ∀ n_1 : Nat, n_1 = k.2.2 → ∀ k_2 : Cc, k_2 = nxC k → r0 < k_2.2.2 ∧ n_1 = r0 + 1 ∧ ∀ k_3 : Cc, k_3 = wrR k_2 r0 0 → itN (m_0_init_15 r0 Ne Q) (fun _ _ => False) FU (0 : Int32) k_3
theorem d_2_init_0 : decode prog_4_method_1_code 0 = .ok (.aload_n 0, 1) := by decide +kernel
theorem d_2_init_1 : decode prog_4_method_1_code 1 = .ok (.invokespecial 3, 3) := by decide +kernel
theorem d_2_init_4 : decode prog_4_method_1_code 4 = .ok (.aload_n 0, 1) := by decide +kernel
theorem d_2_init_5 : decode prog_4_method_1_code 5 = .ok (.bipush 6, 2) := by decide +kernel
theorem d_2_init_7 : decode prog_4_method_1_code 7 = .ok (.newarray .int, 2) := by decide +kernel
theorem d_2_init_9 : decode prog_4_method_1_code 9 = .ok (.putfield 9, 3) := by decide +kernel
theorem d_2_init_12 : decode prog_4_method_1_code 12 = .ok (.aload_n 0, 1) := by decide +kernel
theorem d_2_init_13 : decode prog_4_method_1_code 13 = .ok (.bipush 6, 2) := by decide +kernel
theorem d_2_init_15 : decode prog_4_method_1_code 15 = .ok (.newarray .int, 2) := by decide +kernel
theorem d_2_init_17 : decode prog_4_method_1_code 17 = .ok (.putfield 15, 3) := by decide +kernel
theorem d_2_init_20 : decode prog_4_method_1_code 20 = .ok (.return_, 1) := by decide +kernel
def m_2_init (r0 : Nat) (Ne : Nat) (Q : Cc → Prop) (k : Cc) : Prop :=
  k.2.2 < Ne ∧ kd k.2.2 = 28 ∧ zer k ∧ ∀ n_1 : Nat, n_1 = k.2.2 → ∀ k_2 : Cc, k_2 = nxC k → r0 < k_2.2.2 ∧ n_1 = r0 + 1 ∧ ∀ k_3 : Cc, k_3 = wrR k_2 r0 0 → k_3.2.2 < Ne ∧ kd k_3.2.2 = 29 ∧ zer k_3 ∧ ∀ n_4 : Nat, n_4 = k_3.2.2 → ∀ k_5 : Cc, k_5 = nxC k_3 → r0 < k_5.2.2 ∧ n_4 = r0 + 2 ∧ ∀ k_6 : Cc, k_6 = wrR k_5 r0 2 → (k_6.2.2 = Ne ∧ Q k_6)
theorem d_9_init_0 : decode prog_1_method_1_code 0 = .ok (.aload_n 0, 1) := by decide +kernel
theorem d_9_init_1 : decode prog_1_method_1_code 1 = .ok (.invokespecial 1, 3) := by decide +kernel
theorem d_9_init_4 : decode prog_1_method_1_code 4 = .ok (.aload_n 0, 1) := by decide +kernel
theorem d_9_init_5 : decode prog_1_method_1_code 5 = .ok (.new 7, 3) := by decide +kernel
theorem d_9_init_8 : decode prog_1_method_1_code 8 = .ok (.dup, 1) := by decide +kernel
theorem d_9_init_9 : decode prog_1_method_1_code 9 = .ok (.invokespecial 9, 3) := by decide +kernel
theorem d_9_init_12 : decode prog_1_method_1_code 12 = .ok (.putfield 10, 3) := by decide +kernel
theorem d_9_init_15 : decode prog_1_method_1_code 15 = .ok (.aload_n 0, 1) := by decide +kernel
theorem d_9_init_16 : decode prog_1_method_1_code 16 = .ok (.new 16, 3) := by decide +kernel
theorem d_9_init_19 : decode prog_1_method_1_code 19 = .ok (.dup, 1) := by decide +kernel
theorem d_9_init_20 : decode prog_1_method_1_code 20 = .ok (.invokespecial 18, 3) := by decide +kernel
theorem d_9_init_23 : decode prog_1_method_1_code 23 = .ok (.putfield 19, 3) := by decide +kernel
theorem d_9_init_26 : decode prog_1_method_1_code 26 = .ok (.aload_n 0, 1) := by decide +kernel
theorem d_9_init_27 : decode prog_1_method_1_code 27 = .ok (.new 23, 3) := by decide +kernel
theorem d_9_init_30 : decode prog_1_method_1_code 30 = .ok (.dup, 1) := by decide +kernel
theorem d_9_init_31 : decode prog_1_method_1_code 31 = .ok (.invokespecial 25, 3) := by decide +kernel
theorem d_9_init_34 : decode prog_1_method_1_code 34 = .ok (.putfield 26, 3) := by decide +kernel
theorem d_9_init_37 : decode prog_1_method_1_code 37 = .ok (.aload_n 0, 1) := by decide +kernel
theorem d_9_init_38 : decode prog_1_method_1_code 38 = .ok (.new 30, 3) := by decide +kernel
theorem d_9_init_41 : decode prog_1_method_1_code 41 = .ok (.dup, 1) := by decide +kernel
theorem d_9_init_42 : decode prog_1_method_1_code 42 = .ok (.aload_n 0, 1) := by decide +kernel
theorem d_9_init_43 : decode prog_1_method_1_code 43 = .ok (.getfield 26, 3) := by decide +kernel
theorem d_9_init_46 : decode prog_1_method_1_code 46 = .ok (.invokespecial 32, 3) := by decide +kernel
theorem d_9_init_49 : decode prog_1_method_1_code 49 = .ok (.putfield 35, 3) := by decide +kernel
theorem d_9_init_52 : decode prog_1_method_1_code 52 = .ok (.aload_n 0, 1) := by decide +kernel
theorem d_9_init_53 : decode prog_1_method_1_code 53 = .ok (.new 39, 3) := by decide +kernel
theorem d_9_init_56 : decode prog_1_method_1_code 56 = .ok (.dup, 1) := by decide +kernel
theorem d_9_init_57 : decode prog_1_method_1_code 57 = .ok (.invokespecial 41, 3) := by decide +kernel
theorem d_9_init_60 : decode prog_1_method_1_code 60 = .ok (.putfield 42, 3) := by decide +kernel
theorem d_9_init_63 : decode prog_1_method_1_code 63 = .ok (.aload_n 0, 1) := by decide +kernel
theorem d_9_init_64 : decode prog_1_method_1_code 64 = .ok (.new 23, 3) := by decide +kernel
theorem d_9_init_67 : decode prog_1_method_1_code 67 = .ok (.dup, 1) := by decide +kernel
theorem d_9_init_68 : decode prog_1_method_1_code 68 = .ok (.invokespecial 25, 3) := by decide +kernel
theorem d_9_init_71 : decode prog_1_method_1_code 71 = .ok (.putfield 46, 3) := by decide +kernel
theorem d_9_init_74 : decode prog_1_method_1_code 74 = .ok (.aload_n 0, 1) := by decide +kernel
theorem d_9_init_75 : decode prog_1_method_1_code 75 = .ok (.new 30, 3) := by decide +kernel
theorem d_9_init_78 : decode prog_1_method_1_code 78 = .ok (.dup, 1) := by decide +kernel
theorem d_9_init_79 : decode prog_1_method_1_code 79 = .ok (.aload_n 0, 1) := by decide +kernel
theorem d_9_init_80 : decode prog_1_method_1_code 80 = .ok (.getfield 46, 3) := by decide +kernel
theorem d_9_init_83 : decode prog_1_method_1_code 83 = .ok (.invokespecial 32, 3) := by decide +kernel
theorem d_9_init_86 : decode prog_1_method_1_code 86 = .ok (.putfield 49, 3) := by decide +kernel
theorem d_9_init_89 : decode prog_1_method_1_code 89 = .ok (.aload_n 0, 1) := by decide +kernel
theorem d_9_init_90 : decode prog_1_method_1_code 90 = .ok (.new 52, 3) := by decide +kernel
theorem d_9_init_93 : decode prog_1_method_1_code 93 = .ok (.dup, 1) := by decide +kernel
theorem d_9_init_94 : decode prog_1_method_1_code 94 = .ok (.invokespecial 54, 3) := by decide +kernel
theorem d_9_init_97 : decode prog_1_method_1_code 97 = .ok (.putfield 55, 3) := by decide +kernel
theorem d_9_init_100 : decode prog_1_method_1_code 100 = .ok (.aload_n 0, 1) := by decide +kernel
theorem d_9_init_101 : decode prog_1_method_1_code 101 = .ok (.iconst 0, 1) := by decide +kernel
theorem d_9_init_102 : decode prog_1_method_1_code 102 = .ok (.putfield 59, 3) := by decide +kernel
theorem d_9_init_105 : decode prog_1_method_1_code 105 = .ok (.return_, 1) := by decide +kernel
def m_9_init (r0 : Nat) (Ne : Nat) (Q : Cc → Prop) (k : Cc) : Prop :=
  k.2.2 < Ne ∧ kd k.2.2 = 7 ∧ zer k ∧ ∀ n_1 : Nat, n_1 = k.2.2 → ∀ k_2 : Cc, k_2 = nxC k → k_2.2.2 + 1 ≤ Ne ∧ m_7_init n_1 (k_2.2.2 + 1) (fun (k_3 : Cc) => r0 < k_3.2.2 ∧ n_1 = r0 + 1 ∧ ∀ k_4 : Cc, k_4 = wrR k_3 r0 0 → k_4.2.2 < Ne ∧ kd k_4.2.2 = 3 ∧ zer k_4 ∧ ∀ n_5 : Nat, n_5 = k_4.2.2 → ∀ k_6 : Cc, k_6 = nxC k_4 → k_6.2.2 + 3 ≤ Ne ∧ m_3_init n_5 (k_6.2.2 + 3) (fun (k_7 : Cc) => r0 < k_7.2.2 ∧ n_5 = r0 + 3 ∧ ∀ k_8 : Cc, k_8 = wrR k_7 r0 1 → k_8.2.2 < Ne ∧ kd k_8.2.2 = 8 ∧ zer k_8 ∧ ∀ n_9 : Nat, n_9 = k_8.2.2 → ∀ k_10 : Cc, k_10 = nxC k_8 → k_10.2.2 + 33 ≤ Ne ∧ m_8_init n_9 (k_10.2.2 + 33) (fun (k_11 : Cc) => r0 < k_11.2.2 ∧ n_9 = r0 + 7 ∧ ∀ k_12 : Cc, k_12 = wrR k_11 r0 2 → k_12.2.2 < Ne ∧ kd k_12.2.2 = 5 ∧ zer k_12 ∧ ∀ n_13 : Nat, n_13 = k_12.2.2 → ∀ k_14 : Cc, k_14 = nxC k_12 → r0 < k_14.2.2 ∧ k_14.2.1 r0 2 = true ∧ k_14.2.2 + 0 ≤ Ne ∧ m_5_init n_13 (r0 + 7) (k_14.2.2 + 0) (fun (k_15 : Cc) => r0 < k_15.2.2 ∧ n_13 = r0 + 41 ∧ ∀ k_16 : Cc, k_16 = wrR k_15 r0 3 → k_16.2.2 < Ne ∧ kd k_16.2.2 = 0 ∧ zer k_16 ∧ ∀ n_17 : Nat, n_17 = k_16.2.2 → ∀ k_18 : Cc, k_18 = nxC k_16 → k_18.2.2 + 273 ≤ Ne ∧ m_0_init n_17 (k_18.2.2 + 273) (fun (k_19 : Cc) => r0 < k_19.2.2 ∧ n_17 = r0 + 42 ∧ ∀ k_20 : Cc, k_20 = wrR k_19 r0 4 → k_20.2.2 < Ne ∧ kd k_20.2.2 = 8 ∧ zer k_20 ∧ ∀ n_21 : Nat, n_21 = k_20.2.2 → ∀ k_22 : Cc, k_22 = nxC k_20 → k_22.2.2 + 33 ≤ Ne ∧ m_8_init n_21 (k_22.2.2 + 33) (fun (k_23 : Cc) => r0 < k_23.2.2 ∧ n_21 = r0 + 316 ∧ ∀ k_24 : Cc, k_24 = wrR k_23 r0 5 → k_24.2.2 < Ne ∧ kd k_24.2.2 = 5 ∧ zer k_24 ∧ ∀ n_25 : Nat, n_25 = k_24.2.2 → ∀ k_26 : Cc, k_26 = nxC k_24 → r0 < k_26.2.2 ∧ k_26.2.1 r0 5 = true ∧ k_26.2.2 + 0 ≤ Ne ∧ m_5_init n_25 (r0 + 316) (k_26.2.2 + 0) (fun (k_27 : Cc) => r0 < k_27.2.2 ∧ n_25 = r0 + 350 ∧ ∀ k_28 : Cc, k_28 = wrR k_27 r0 6 → k_28.2.2 < Ne ∧ kd k_28.2.2 = 2 ∧ zer k_28 ∧ ∀ n_29 : Nat, n_29 = k_28.2.2 → ∀ k_30 : Cc, k_30 = nxC k_28 → k_30.2.2 + 2 ≤ Ne ∧ m_2_init n_29 (k_30.2.2 + 2) (fun (k_31 : Cc) => r0 < k_31.2.2 ∧ n_29 = r0 + 351 ∧ ∀ k_32 : Cc, k_32 = wrR k_31 r0 7 → r0 < k_32.2.2 ∧ ∀ k_33 : Cc, k_33 = wrI k_32 r0 8 (0 : Int32) → (k_33.2.2 = Ne ∧ Q k_33)) k_30) k_26) k_22) k_18) k_14) k_10) k_6) k_2
section CB
variable {p : Program} {l : Launch} {e : Env} {R : Room} {s : State} {m : MethodId} {args : Array Value} {below : List Frame} {meth : Method} {c : Code} {QW : State → Prop}
variable {D : va_G} {ac : Nat → ClassId} {st : SS} {A : Nat → Prop} {a0 b0 Ne base : Nat}
set_option maxHeartbeats 4000000 in
set_option maxRecDepth 100000 in
theorem w_1_init_0 {r0 : Nat} {Q : Cc → Prop} {k : Cc} {H : Heap} {locs : List Loc} {cells slots : Nat} {ls : Array Slot} (S : SCc A D ac st base p m c prog_3_method_1_code 1 s args "SweeperRounds$Leg" R a0 b0 Ne 1 12) (hR : RtC A D ac base p l e R s m args below meth c prog_3_method_1_code a0 b0 Ne QW Q) (hin : meth.name = "<init>") (hk_r0 : kd r0 = 1) (hG : DGc A D ac base s a0 b0 k H locs cells slots) (hl : lv_has ls 1 [(0, .ref (adB base r0))]) (hf : m_1_init r0 Ne Q k) : W p l e R s m args below meth c H locs cells slots QW (F0 m 0 ls []) := by
  have hx := S.1.1
  have hb := S.1.2.1
  unfold m_1_init at hf
  refine lv_aload_n hx hb d_1_init_0 rfl (lv_at hl 0 rfl) ?_
  refine W.objInit hx hb S.1.2.2.2.1 (S.1.2.2.2.2 _ wm_147) (S.1.2.2.2.2 _ wm_27) (S.1.2.2.2.2 _ wm_28) rfl (by rw [S.1.2.2.1]; exact hl.1) rfl d_1_init_1 (Nat.le_trans (Nat.le_of_ble_eq_true rfl) S.2.2.2.1) (Nat.le_trans (Nat.le_of_ble_eq_true rfl) S.2.2.2.2.1) ?_
  refine W.eq (g2 := F0 m 4 ls []) rfl ?_
  exact hR _ _ _ _ _ _ _ hG hf.1 hf.2 d_1_init_4
theorem c_1_init (l : Launch) {D : va_G} {ac : Nat → ClassId} {st : SS} {A : Nat → Prop} {base Ne : Nat} {k : Cc} {r0 : Nat} {Q : Cc → Prop} (hA : ∀ q, base ≤ q → A q) (hN : k.2.2 ≤ Ne) (hk_r0 : kd r0 = 1) (hf : m_1_init r0 Ne Q k) : Met l y_1_init (Cond.code y_1_init prog_3_method_1_code 1 none :: wA) { frames := 1, cells := Ne - k.2.2, slots := SZ Ne - SZ k.2.2, locals := 12 } (va_Pc [.ref (adB base r0)] (GSc A D ac st base k)) (va_Qv (fun u => u.2.2 = Ne ∧ Q u) (GSc A D ac st base) A) (Ne - k.2.2) (SZ Ne - SZ k.2.2) A :=
  mkC l hA hN (by decide +kernel) rfl rfl [.ref (adB base r0)] (Nat.le_of_ble_eq_true rfl) (fun p e s m args below meth c ls QW R S hR hin hG hl => w_1_init_0 S hR hin hk_r0 hG hl hf)
set_option maxHeartbeats 4000000 in
set_option maxRecDepth 100000 in
theorem w_4_init_0 {r0 : Nat} {Q : Cc → Prop} {k : Cc} {H : Heap} {locs : List Loc} {cells slots : Nat} {ls : Array Slot} (S : SCc A D ac st base p m c prog_6_method_1_code 1 s args "SweeperRounds$Report" R a0 b0 Ne 1 12) (hR : RtC A D ac base p l e R s m args below meth c prog_6_method_1_code a0 b0 Ne QW Q) (hin : meth.name = "<init>") (hk_r0 : kd r0 = 4) (hG : DGc A D ac base s a0 b0 k H locs cells slots) (hl : lv_has ls 1 [(0, .ref (adB base r0))]) (hf : m_4_init r0 Ne Q k) : W p l e R s m args below meth c H locs cells slots QW (F0 m 0 ls []) := by
  have hx := S.1.1
  have hb := S.1.2.1
  unfold m_4_init at hf
  refine lv_aload_n hx hb d_4_init_0 rfl (lv_at hl 0 rfl) ?_
  refine W.objInit hx hb S.1.2.2.2.1 (S.1.2.2.2.2 _ wm_110) (S.1.2.2.2.2 _ wm_27) (S.1.2.2.2.2 _ wm_28) rfl (by rw [S.1.2.2.1]; exact hl.1) rfl d_4_init_1 (Nat.le_trans (Nat.le_of_ble_eq_true rfl) S.2.2.2.1) (Nat.le_trans (Nat.le_of_ble_eq_true rfl) S.2.2.2.2.1) ?_
  refine W.eq (g2 := F0 m 4 ls []) rfl ?_
  exact hR _ _ _ _ _ _ _ hG hf.1 hf.2 d_4_init_4
theorem c_4_init (l : Launch) {D : va_G} {ac : Nat → ClassId} {st : SS} {A : Nat → Prop} {base Ne : Nat} {k : Cc} {r0 : Nat} {Q : Cc → Prop} (hA : ∀ q, base ≤ q → A q) (hN : k.2.2 ≤ Ne) (hk_r0 : kd r0 = 4) (hf : m_4_init r0 Ne Q k) : Met l y_4_init (Cond.code y_4_init prog_6_method_1_code 1 none :: wA) { frames := 1, cells := Ne - k.2.2, slots := SZ Ne - SZ k.2.2, locals := 12 } (va_Pc [.ref (adB base r0)] (GSc A D ac st base k)) (va_Qv (fun u => u.2.2 = Ne ∧ Q u) (GSc A D ac st base) A) (Ne - k.2.2) (SZ Ne - SZ k.2.2) A :=
  mkC l hA hN (by decide +kernel) rfl rfl [.ref (adB base r0)] (Nat.le_of_ble_eq_true rfl) (fun p e s m args below meth c ls QW R S hR hin hG hl => w_4_init_0 S hR hin hk_r0 hG hl hf)
set_option maxHeartbeats 4000000 in
set_option maxRecDepth 100000 in
theorem w_7_init_0 {r0 : Nat} {Q : Cc → Prop} {k : Cc} {H : Heap} {locs : List Loc} {cells slots : Nat} {ls : Array Slot} (S : SCc A D ac st base p m c prog_9_method_1_code 1 s args "SweeperRounds$Text" R a0 b0 Ne 1 12) (hR : RtC A D ac base p l e R s m args below meth c prog_9_method_1_code a0 b0 Ne QW Q) (hin : meth.name = "<init>") (hk_r0 : kd r0 = 7) (hG : DGc A D ac base s a0 b0 k H locs cells slots) (hl : lv_has ls 1 [(0, .ref (adB base r0))]) (hf : m_7_init r0 Ne Q k) : W p l e R s m args below meth c H locs cells slots QW (F0 m 0 ls []) := by
  have hx := S.1.1
  have hb := S.1.2.1
  unfold m_7_init at hf
  refine lv_aload_n hx hb d_7_init_0 rfl (lv_at hl 0 rfl) ?_
  refine W.objInit hx hb S.1.2.2.2.1 (S.1.2.2.2.2 _ wm_34) (S.1.2.2.2.2 _ wm_27) (S.1.2.2.2.2 _ wm_28) rfl (by rw [S.1.2.2.1]; exact hl.1) rfl d_7_init_1 (Nat.le_trans (Nat.le_of_ble_eq_true rfl) S.2.2.2.1) (Nat.le_trans (Nat.le_of_ble_eq_true rfl) S.2.2.2.2.1) ?_
  refine W.eq (g2 := F0 m 4 ls []) rfl ?_
  refine lv_aload_n hx hb d_7_init_4 rfl (lv_at hl 0 rfl) ?_
  refine lv_bipush (v := (80 : Int32)) hx hb d_7_init_5 (by decide) ?_
  refine nPrm (ty := .char) S hG hf.1 hf.2.1 rfl rfl rfl rfl rfl (fun _ _ => rfl) wm_42 hf.2.2.1.1 (by decide) (by decide) (by decide) d_7_init_7 (fun n_1 en_1 k_2 ek_2 H cells slots hG => ?_)
  have hk_n_1 : kd n_1 = 21 := en_1 ▸ hf.2.1
  have hf := hf.2.2.2 n_1 en_1 k_2 ek_2
  refine nPutR (j := 0) S hG hin rfl (by decide) Fi7 Ft7 Fy7 Fn7 (by decide) wm_35 rfl rfl rfl hk_r0 hf.1 rfl rfl (Nat.le_of_ble_eq_true rfl) (by rw [hf.2.1]; exact sr_7_0) d_7_init_9 (fun k_3 ek_3 H locs hG => ?_)
  have hf := hf.2.2 k_3 ek_3
  exact hR _ _ _ _ _ _ _ hG hf.1 hf.2 d_7_init_12
theorem c_7_init (l : Launch) {D : va_G} {ac : Nat → ClassId} {st : SS} {A : Nat → Prop} {base Ne : Nat} {k : Cc} {r0 : Nat} {Q : Cc → Prop} (hA : ∀ q, base ≤ q → A q) (hN : k.2.2 ≤ Ne) (hk_r0 : kd r0 = 7) (hf : m_7_init r0 Ne Q k) : Met l y_7_init (Cond.code y_7_init prog_9_method_1_code 1 none :: wA) { frames := 1, cells := Ne - k.2.2, slots := SZ Ne - SZ k.2.2, locals := 12 } (va_Pc [.ref (adB base r0)] (GSc A D ac st base k)) (va_Qv (fun u => u.2.2 = Ne ∧ Q u) (GSc A D ac st base) A) (Ne - k.2.2) (SZ Ne - SZ k.2.2) A :=
  mkC l hA hN (by decide +kernel) rfl rfl [.ref (adB base r0)] (Nat.le_of_ble_eq_true rfl) (fun p e s m args below meth c ls QW R S hR hin hG hl => w_7_init_0 S hR hin hk_r0 hG hl hf)
set_option maxHeartbeats 4000000 in
set_option maxRecDepth 100000 in
theorem w_6_init_0 {r0 : Nat} {Q : Cc → Prop} {k : Cc} {H : Heap} {locs : List Loc} {cells slots : Nat} {ls : Array Slot} (S : SCc A D ac st base p m c prog_8_method_1_code 1 s args "SweeperRounds$Street" R a0 b0 Ne 1 12) (hR : RtC A D ac base p l e R s m args below meth c prog_8_method_1_code a0 b0 Ne QW Q) (hin : meth.name = "<init>") (hk_r0 : kd r0 = 6) (hG : DGc A D ac base s a0 b0 k H locs cells slots) (hl : lv_has ls 1 [(0, .ref (adB base r0))]) (hf : m_6_init r0 Ne Q k) : W p l e R s m args below meth c H locs cells slots QW (F0 m 0 ls []) := by
  have hx := S.1.1
  have hb := S.1.2.1
  unfold m_6_init at hf
  refine lv_aload_n hx hb d_6_init_0 rfl (lv_at hl 0 rfl) ?_
  refine W.objInit hx hb S.1.2.2.2.1 (S.1.2.2.2.2 _ wm_54) (S.1.2.2.2.2 _ wm_27) (S.1.2.2.2.2 _ wm_28) rfl (by rw [S.1.2.2.1]; exact hl.1) rfl d_6_init_1 (Nat.le_trans (Nat.le_of_ble_eq_true rfl) S.2.2.2.1) (Nat.le_trans (Nat.le_of_ble_eq_true rfl) S.2.2.2.2.1) ?_
  refine W.eq (g2 := F0 m 4 ls []) rfl ?_
  refine lv_aload_n hx hb d_6_init_4 rfl (lv_at hl 0 rfl) ?_
  refine lv_bipush (v := (40 : Int32)) hx hb d_6_init_5 (by decide) ?_
  refine nPrm (ty := .int) S hG hf.1 hf.2.1 rfl rfl rfl rfl rfl (fun _ _ => rfl) wm_83 hf.2.2.1.1 (by decide) (by decide) (by decide) d_6_init_7 (fun n_1 en_1 k_2 ek_2 H cells slots hG => ?_)
  have hk_n_1 : kd n_1 = 20 := en_1 ▸ hf.2.1
  have hf := hf.2.2.2 n_1 en_1 k_2 ek_2
  refine nPutR (j := 3) S hG hin rfl (by decide) Fi6 Ft6 Fy6 Fn6 (by decide) wm_66 rfl rfl rfl hk_r0 hf.1 rfl rfl (Nat.le_of_ble_eq_true rfl) (by rw [hf.2.1]; exact sr_6_3) d_6_init_9 (fun k_3 ek_3 H locs hG => ?_)
  have hf := hf.2.2 k_3 ek_3
  refine lv_aload_n hx hb d_6_init_12 rfl (lv_at hl 0 rfl) ?_
  refine lv_bipush (v := (40 : Int32)) hx hb d_6_init_13 (by decide) ?_
  refine nPrm (ty := .boolean) S hG hf.1 hf.2.1 rfl rfl rfl rfl rfl (fun _ _ => rfl) wm_84 hf.2.2.1.1 (by decide) (by decide) (by decide) d_6_init_15 (fun n_4 en_4 k_5 ek_5 H cells slots hG => ?_)
  have hk_n_4 : kd n_4 = 22 := en_4 ▸ hf.2.1
  have hf := hf.2.2.2 n_4 en_4 k_5 ek_5
  refine nPutR (j := 4) S hG hin rfl (by decide) Fi6 Ft6 Fy6 Fn6 (by decide) wm_70 rfl rfl rfl hk_r0 hf.1 rfl rfl (Nat.le_of_ble_eq_true rfl) (by rw [hf.2.1]; exact sr_6_4) d_6_init_17 (fun k_6 ek_6 H locs hG => ?_)
  have hf := hf.2.2 k_6 ek_6
  exact hR _ _ _ _ _ _ _ hG hf.1 hf.2 d_6_init_20
theorem c_6_init (l : Launch) {D : va_G} {ac : Nat → ClassId} {st : SS} {A : Nat → Prop} {base Ne : Nat} {k : Cc} {r0 : Nat} {Q : Cc → Prop} (hA : ∀ q, base ≤ q → A q) (hN : k.2.2 ≤ Ne) (hk_r0 : kd r0 = 6) (hf : m_6_init r0 Ne Q k) : Met l y_6_init (Cond.code y_6_init prog_8_method_1_code 1 none :: wA) { frames := 1, cells := Ne - k.2.2, slots := SZ Ne - SZ k.2.2, locals := 12 } (va_Pc [.ref (adB base r0)] (GSc A D ac st base k)) (va_Qv (fun u => u.2.2 = Ne ∧ Q u) (GSc A D ac st base) A) (Ne - k.2.2) (SZ Ne - SZ k.2.2) A :=
  mkC l hA hN (by decide +kernel) rfl rfl [.ref (adB base r0)] (Nat.le_of_ble_eq_true rfl) (fun p e s m args below meth c ls QW R S hR hin hG hl => w_6_init_0 S hR hin hk_r0 hG hl hf)
set_option maxHeartbeats 4000000 in
set_option maxRecDepth 100000 in
theorem w_3_init_0 {r0 : Nat} {Q : Cc → Prop} {k : Cc} {H : Heap} {locs : List Loc} {cells slots : Nat} {ls : Array Slot} (S : SCc A D ac st base p m c prog_5_method_1_code 1 s args "SweeperRounds$Reader" R a0 b0 Ne 2 32) (hR : RtC A D ac base p l e R s m args below meth c prog_5_method_1_code a0 b0 Ne QW Q) (hin : meth.name = "<init>") (hk_r0 : kd r0 = 3) (hG : DGc A D ac base s a0 b0 k H locs cells slots) (hl : lv_has ls 1 [(0, .ref (adB base r0))]) (hf : m_3_init r0 Ne Q k) : W p l e R s m args below meth c H locs cells slots QW (F0 m 0 ls []) := by
  have hx := S.1.1
  have hb := S.1.2.1
  unfold m_3_init at hf
  refine lv_aload_n hx hb d_3_init_0 rfl (lv_at hl 0 rfl) ?_
  refine W.objInit hx hb S.1.2.2.2.1 (S.1.2.2.2.2 _ wm_48) (S.1.2.2.2.2 _ wm_27) (S.1.2.2.2.2 _ wm_28) rfl (by rw [S.1.2.2.1]; exact hl.1) rfl d_3_init_1 (Nat.le_trans (Nat.le_of_ble_eq_true rfl) S.2.2.2.1) (Nat.le_trans (Nat.le_of_ble_eq_true rfl) S.2.2.2.2.1) ?_
  refine W.eq (g2 := F0 m 4 ls []) rfl ?_
  refine lv_aload_n hx hb d_3_init_4 rfl (lv_at hl 0 rfl) ?_
  refine nObj S hG hf.1 hf.2.1 rfl (by decide) Fi6 Ft6 Fy6 wm_49 wm_50 wm_12 (zf_6 hf.2.2.1) d_3_init_5 (fun n_1 en_1 k_2 ek_2 H cells slots hG => ?_)
  have hk_n_1 : kd n_1 = 6 := en_1 ▸ hf.2.1
  have hf := hf.2.2.2 n_1 en_1 k_2 ek_2
  refine lv_dup hx hb d_3_init_8 rfl ?_
  refine nCall [] S hl.1 hG (Nat.le_add_right _ _) hf.1 (c_6_init l S.2.2.2.2.2.1 (Nat.le_add_right _ _) hk_n_1 hf.2) (fun hM hp => va_runIN (As := []) S.1 hM (nCwN (n := 0) (host := "SweeperRounds") S (by decide +kernel) wm_52 wm_12 wm_53 rfl (by decide) ⟨Nat.le_of_ble_eq_true rfl, Nat.le_of_ble_eq_true rfl⟩) hp rfl rfl hl.1 rfl (lv_room (Nat.le_of_ble_eq_true rfl)) d_3_init_9 (nRoomC S hG (Nat.le_add_right _ _) hf.1)) (fun k_3 hnk_3 hf H locs cells slots hG => ?_)
  refine nPutR (j := 0) S hG hin rfl (by decide) Fi3 Ft3 Fy3 Fn3 (by decide) wm_85 rfl rfl rfl hk_r0 hf.1 rfl rfl (Nat.le_of_ble_eq_true rfl) (by rw [hf.2.1]; exact sr_3_0) d_3_init_12 (fun k_4 ek_4 H locs hG => ?_)
  have hf := hf.2.2 k_4 ek_4
  exact hR _ _ _ _ _ _ _ hG hf.1 hf.2 d_3_init_15
theorem c_3_init (l : Launch) {D : va_G} {ac : Nat → ClassId} {st : SS} {A : Nat → Prop} {base Ne : Nat} {k : Cc} {r0 : Nat} {Q : Cc → Prop} (hA : ∀ q, base ≤ q → A q) (hN : k.2.2 ≤ Ne) (hk_r0 : kd r0 = 3) (hf : m_3_init r0 Ne Q k) : Met l y_3_init (Cond.code y_3_init prog_5_method_1_code 1 none :: wA) { frames := 2, cells := Ne - k.2.2, slots := SZ Ne - SZ k.2.2, locals := 32 } (va_Pc [.ref (adB base r0)] (GSc A D ac st base k)) (va_Qv (fun u => u.2.2 = Ne ∧ Q u) (GSc A D ac st base) A) (Ne - k.2.2) (SZ Ne - SZ k.2.2) A :=
  mkC l hA hN (by decide +kernel) rfl rfl [.ref (adB base r0)] (Nat.le_of_ble_eq_true rfl) (fun p e s m args below meth c ls QW R S hR hin hG hl => w_3_init_0 S hR hin hk_r0 hG hl hf)
set_option maxHeartbeats 4000000 in
set_option maxRecDepth 100000 in
theorem w_8_init_78 {r0 : Nat} {Q : Cc → Prop} {B78 : Int32 → Cc → Prop} {x1 : Int32} {k : Cc} {H : Heap} {locs : List Loc} {cells slots : Nat} {ls : Array Slot} (S : SCc A D ac st base p m c prog_10_method_1_code 2 s args "SweeperRounds$World" R a0 b0 Ne 2 32) (hR : RtC A D ac base p l e R s m args below meth c prog_10_method_1_code a0 b0 Ne QW Q) (hin : meth.name = "<init>") (hk_r0 : kd r0 = 8) (hB78 : ∀ (x1 : Int32) (k : Cc) (H : Heap) (locs : List Loc) (cells slots : Nat) (ls : Array Slot), DGc A D ac base s a0 b0 k H locs cells slots → lv_has ls 2 [(0, .ref (adB base r0)), (1, .int x1)] → B78 x1 k → W p l e R s m args below meth c H locs cells slots QW (F0 m 78 ls [])) (hG : DGc A D ac base s a0 b0 k H locs cells slots) (hl : lv_has ls 2 [(0, .ref (adB base r0)), (1, .int x1)]) (hf : m_8_init_78 r0 Ne Q B78 x1 k) : W p l e R s m args below meth c H locs cells slots QW (F0 m 78 ls []) := by
  have hx := S.1.1
  have hb := S.1.2.1
  unfold m_8_init_78 at hf
  refine lv_iload_n hx hb d_8_init_78 rfl (lv_at hl 1 rfl) ?_
  refine lv_bipush (v := (10 : Int32)) hx hb d_8_init_79 (by decide) ?_
  refine lv_icmp_ge (tgt := 103) hx hb d_8_init_81 (by decide) (fun hc => ?_) (fun hc => ?_)
  · have hf := hf.1 hc
    refine va_getsN hx hb (S.2.1.1.2.2.2.1 0 (by decide)).1 hG.2.2.1 S.1.2.2.2.1 (va_Nw.use rfl (S.2.1.1.2.2.1 ("SweeperRounds$World", 39, "SweeperRounds", "FIRST_SETTINGS", "[I", "SweeperRounds") (by decide +kernel))) (fun _ h => h) d_8_init_103 ?_
    refine lv_iconst (v := (0 : Int32)) hx hb d_8_init_106 (by decide) ?_
    refine lv_aload_n hx hb d_8_init_107 rfl (lv_at hl 0 rfl) ?_
    refine nGetR (j := 5) S hG rfl (by decide) Fi8 (by decide) wm_190 rfl hk_r0 hf.1 (gr_8_5 hf.2.1) d_8_init_108 ?_
    have hf := hf.2.2
    refine lv_iconst (v := (0 : Int32)) hx hb d_8_init_111 (by decide) ?_
    refine lv_bipush (v := (6 : Int32)) hx hb d_8_init_112 (by decide) ?_
    refine nCps S hl.1 hG 0 (by decide) wm_173 wm_175 wm_174 wm_16 26 rfl rfl rfl (kr_8_5 hk_r0) hf.1 (by decide) (Nat.le_of_ble_eq_true rfl) d_8_init_114 (fun k_1 ek_1 H locs hG => ?_)
    have hf := hf.2 k_1 ek_1
    refine lv_aload_n hx hb d_8_init_117 rfl (lv_at hl 0 rfl) ?_
    refine lv_sipush (v := (1000 : Int32)) hx hb d_8_init_118 (by decide) ?_
    refine nPutI (j := 6) S hG rfl (by decide) Fi8 Ft8 Fy8 Fn8 (by decide) wm_193 rfl rfl hk_r0 hf.1 rfl rfl (Nat.le_of_ble_eq_true rfl) (by simp [fsC, wrI, wr, wrA, upd]) d_8_init_121 (fun k_2 ek_2 H locs hG => ?_)
    have hf := hf.2 k_2 ek_2
    exact hR _ _ _ _ _ _ _ hG hf.1 hf.2 d_8_init_124
  · have hf := hf.2 hc
    refine lv_aload_n hx hb d_8_init_84 rfl (lv_at hl 0 rfl) ?_
    refine nGetR (j := 2) S hG rfl (by decide) Fi8 (by decide) wm_181 rfl hk_r0 hf.1 (gr_8_2 hf.2.1) d_8_init_85 ?_
    have hf := hf.2.2
    refine lv_iload_n hx hb d_8_init_88 rfl (lv_at hl 1 rfl) ?_
    refine nObj S hG hf.1 hf.2.1 rfl (by decide) Fi1 Ft1 Fy1 wm_103 wm_143 wm_15 (zf_1 hf.2.2.1) d_8_init_89 (fun n_3 en_3 k_4 ek_4 H cells slots hG => ?_)
    have hk_n_3 : kd n_3 = 1 := en_3 ▸ hf.2.1
    have hf := hf.2.2.2 n_3 en_3 k_4 ek_4
    refine lv_dup hx hb d_8_init_92 rfl ?_
    refine nCall [] S hl.1 hG (Nat.le_add_right _ _) hf.1 (c_1_init l S.2.2.2.2.2.1 (Nat.le_add_right _ _) hk_n_3 hf.2) (fun hM hp => va_runIN (As := []) S.1 hM (nCwN (n := 0) (host := "SweeperRounds") S (by decide +kernel) wm_145 wm_15 wm_146 rfl (by decide) ⟨Nat.le_of_ble_eq_true rfl, Nat.le_of_ble_eq_true rfl⟩) hp rfl rfl hl.1 rfl (lv_room (Nat.le_of_ble_eq_true rfl)) d_8_init_93 (nRoomC S hG (Nat.le_add_right _ _) hf.1)) (fun k_5 hnk_5 hf H locs cells slots hG => ?_)
    refine nAst (t := 4) (ce := 1) S hG (kr_8_2 hk_r0) hf.2.1 hf.2.2.1 hk_n_3 (by decide) rfl rfl (im4 (kr_8_2 hk_r0)) (by rw [im4 (kr_8_2 hk_r0)]; simp only [wrR_at]; rw [im_up (g := fun j => adB base ((r0 + 2) + 22 + j)) (r := adB base n_3) (by rw [hf.2.2.2.1])]) hf.1 d_8_init_96 (fun k_6 ek_6 H locs hG => ?_)
    have hf := hf.2.2.2.2 k_6 ek_6
    obtain ⟨x1_7, ex1_7⟩ : ∃ y : Int32, y = x1 + 1 := ⟨_, rfl⟩
    have hf := hf x1_7 ex1_7
    refine lv_iinc (v := x1_7) (lv' := [(1, .int x1_7), (0, .ref (adB base r0))]) hx hb d_8_init_97 hl (k := 1) rfl (by rw [ex1_7]; rfl) (by decide) rfl (fun ls hl => ?_)
    refine lv_goto (tgt := 78) hx hb d_8_init_100 (by decide) ?_
    exact hB78 _ _ _ _ _ _ _ hG (lv_sub hl [1, 0] rfl) hf
set_option maxHeartbeats 4000000 in
set_option maxRecDepth 100000 in
theorem lp_8_init_78 {r0 : Nat} {Q : Cc → Prop} (S : SCc A D ac st base p m c prog_10_method_1_code 2 s args "SweeperRounds$World" R a0 b0 Ne 2 32) (hR : RtC A D ac base p l e R s m args below meth c prog_10_method_1_code a0 b0 Ne QW Q) (hin : meth.name = "<init>") (hk_r0 : kd r0 = 8) : ∀ (n : Nat) (x1 : Int32) (k : Cc) (H : Heap) (locs : List Loc) (cells slots : Nat) (ls : Array Slot), DGc A D ac base s a0 b0 k H locs cells slots → lv_has ls 2 [(0, .ref (adB base r0)), (1, .int x1)] → itN (m_8_init_78 r0 Ne Q) (fun _ _ => False) n x1 k → W p l e R s m args below meth c H locs cells slots QW (F0 m 78 ls []) := by
  intro n
  induction n with
  | zero =>
    intro x1 k H locs cells slots ls hG hl hf
    exact hf.elim
  | succ n ih =>
    intro x1 k H locs cells slots ls hG hl hf
    exact w_8_init_78 S hR hin hk_r0 ih hG hl hf
set_option maxHeartbeats 4000000 in
set_option maxRecDepth 100000 in
theorem w_8_init_51 {r0 : Nat} {Q : Cc → Prop} {B51 : Int32 → Cc → Prop} {x1 : Int32} {k : Cc} {H : Heap} {locs : List Loc} {cells slots : Nat} {ls : Array Slot} (S : SCc A D ac st base p m c prog_10_method_1_code 2 s args "SweeperRounds$World" R a0 b0 Ne 2 32) (hR : RtC A D ac base p l e R s m args below meth c prog_10_method_1_code a0 b0 Ne QW Q) (hin : meth.name = "<init>") (hk_r0 : kd r0 = 8) (hB51 : ∀ (x1 : Int32) (k : Cc) (H : Heap) (locs : List Loc) (cells slots : Nat) (ls : Array Slot), DGc A D ac base s a0 b0 k H locs cells slots → lv_has ls 2 [(0, .ref (adB base r0)), (1, .int x1)] → B51 x1 k → W p l e R s m args below meth c H locs cells slots QW (F0 m 51 ls [])) (hG : DGc A D ac base s a0 b0 k H locs cells slots) (hl : lv_has ls 2 [(0, .ref (adB base r0)), (1, .int x1)]) (hf : m_8_init_51 r0 Ne Q B51 x1 k) : W p l e R s m args below meth c H locs cells slots QW (F0 m 51 ls []) := by
  have hx := S.1.1
  have hb := S.1.2.1
  unfold m_8_init_51 at hf
  refine lv_iload_n hx hb d_8_init_51 rfl (lv_at hl 1 rfl) ?_
  refine lv_bipush (v := (6 : Int32)) hx hb d_8_init_52 (by decide) ?_
  refine lv_icmp_ge (tgt := 76) hx hb d_8_init_54 (by decide) (fun hc => ?_) (fun hc => ?_)
  · have hf := hf.1 hc
    refine lv_iconst (v := (0 : Int32)) hx hb d_8_init_76 (by decide) ?_
    refine lv_istore_n (lv' := [(1, .int (0 : Int32)), (0, .ref (adB base r0))]) hx hb d_8_init_77 rfl hl (by decide) rfl (fun ls hl => ?_)
    exact lp_8_init_78 S hR hin hk_r0 FU _ _ _ _ _ _ _ hG (lv_sub hl [1, 0] rfl) hf
  · have hf := hf.2 hc
    refine lv_aload_n hx hb d_8_init_57 rfl (lv_at hl 0 rfl) ?_
    refine nGetR (j := 0) S hG rfl (by decide) Fi8 (by decide) wm_176 rfl hk_r0 hf.1 (gr_8_0 hf.2.1) d_8_init_58 ?_
    have hf := hf.2.2
    refine lv_iload_n hx hb d_8_init_61 rfl (lv_at hl 1 rfl) ?_
    refine nObj S hG hf.1 hf.2.1 rfl (by decide) Fi6 Ft6 Fy6 wm_101 wm_50 wm_12 (zf_6 hf.2.2.1) d_8_init_62 (fun n_1 en_1 k_2 ek_2 H cells slots hG => ?_)
    have hk_n_1 : kd n_1 = 6 := en_1 ▸ hf.2.1
    have hf := hf.2.2.2 n_1 en_1 k_2 ek_2
    refine lv_dup hx hb d_8_init_65 rfl ?_
    refine nCall [] S hl.1 hG (Nat.le_add_right _ _) hf.1 (c_6_init l S.2.2.2.2.2.1 (Nat.le_add_right _ _) hk_n_1 hf.2) (fun hM hp => va_runIN (As := []) S.1 hM (nCwN (n := 0) (host := "SweeperRounds") S (by decide +kernel) wm_52 wm_12 wm_53 rfl (by decide) ⟨Nat.le_of_ble_eq_true rfl, Nat.le_of_ble_eq_true rfl⟩) hp rfl rfl hl.1 rfl (lv_room (Nat.le_of_ble_eq_true rfl)) d_8_init_66 (nRoomC S hG (Nat.le_add_right _ _) hf.1)) (fun k_3 hnk_3 hf H locs cells slots hG => ?_)
    refine nAst (t := 3) (ce := 6) S hG (kr_8_0 hk_r0) hf.2.1 hf.2.2.1 hk_n_1 (by decide) rfl rfl (im3 (kr_8_0 hk_r0)) (by rw [im3 (kr_8_0 hk_r0)]; simp only [wrR_at]; rw [im_up (g := fun j => adB base ((r0 + 1) + 5 + 3 * j)) (r := adB base n_1) (by rw [hf.2.2.2.1])]) hf.1 d_8_init_69 (fun k_4 ek_4 H locs hG => ?_)
    have hf := hf.2.2.2.2 k_4 ek_4
    obtain ⟨x1_5, ex1_5⟩ : ∃ y : Int32, y = x1 + 1 := ⟨_, rfl⟩
    have hf := hf x1_5 ex1_5
    refine lv_iinc (v := x1_5) (lv' := [(1, .int x1_5), (0, .ref (adB base r0))]) hx hb d_8_init_70 hl (k := 1) rfl (by rw [ex1_5]; rfl) (by decide) rfl (fun ls hl => ?_)
    refine lv_goto (tgt := 51) hx hb d_8_init_73 (by decide) ?_
    exact hB51 _ _ _ _ _ _ _ hG (lv_sub hl [1, 0] rfl) hf
set_option maxHeartbeats 4000000 in
set_option maxRecDepth 100000 in
theorem lp_8_init_51 {r0 : Nat} {Q : Cc → Prop} (S : SCc A D ac st base p m c prog_10_method_1_code 2 s args "SweeperRounds$World" R a0 b0 Ne 2 32) (hR : RtC A D ac base p l e R s m args below meth c prog_10_method_1_code a0 b0 Ne QW Q) (hin : meth.name = "<init>") (hk_r0 : kd r0 = 8) : ∀ (n : Nat) (x1 : Int32) (k : Cc) (H : Heap) (locs : List Loc) (cells slots : Nat) (ls : Array Slot), DGc A D ac base s a0 b0 k H locs cells slots → lv_has ls 2 [(0, .ref (adB base r0)), (1, .int x1)] → itN (m_8_init_51 r0 Ne Q) (fun _ _ => False) n x1 k → W p l e R s m args below meth c H locs cells slots QW (F0 m 51 ls []) := by
  intro n
  induction n with
  | zero =>
    intro x1 k H locs cells slots ls hG hl hf
    exact hf.elim
  | succ n ih =>
    intro x1 k H locs cells slots ls hG hl hf
    exact w_8_init_51 S hR hin hk_r0 ih hG hl hf
set_option maxHeartbeats 4000000 in
set_option maxRecDepth 100000 in
theorem w_8_init_0 {r0 : Nat} {Q : Cc → Prop} {k : Cc} {H : Heap} {locs : List Loc} {cells slots : Nat} {ls : Array Slot} (S : SCc A D ac st base p m c prog_10_method_1_code 2 s args "SweeperRounds$World" R a0 b0 Ne 2 32) (hR : RtC A D ac base p l e R s m args below meth c prog_10_method_1_code a0 b0 Ne QW Q) (hin : meth.name = "<init>") (hk_r0 : kd r0 = 8) (hG : DGc A D ac base s a0 b0 k H locs cells slots) (hl : lv_has ls 2 [(0, .ref (adB base r0))]) (hf : m_8_init r0 Ne Q k) : W p l e R s m args below meth c H locs cells slots QW (F0 m 0 ls []) := by
  have hx := S.1.1
  have hb := S.1.2.1
  unfold m_8_init at hf
  refine lv_aload_n hx hb d_8_init_0 rfl (lv_at hl 0 rfl) ?_
  refine W.objInit hx hb S.1.2.2.2.1 (S.1.2.2.2.2 _ wm_100) (S.1.2.2.2.2 _ wm_27) (S.1.2.2.2.2 _ wm_28) rfl (by rw [S.1.2.2.1]; exact hl.1) rfl d_8_init_1 (Nat.le_trans (Nat.le_of_ble_eq_true rfl) S.2.2.2.1) (Nat.le_trans (Nat.le_of_ble_eq_true rfl) S.2.2.2.2.1) ?_
  refine W.eq (g2 := F0 m 4 ls []) rfl ?_
  refine lv_aload_n hx hb d_8_init_4 rfl (lv_at hl 0 rfl) ?_
  refine lv_bipush (v := (6 : Int32)) hx hb d_8_init_5 (by decide) ?_
  refine nRef (t := 3) S hG hf.1 hf.2.1 rfl wm_101 S.2.1.2.1 rfl (im3 hf.2.1) (by funext j; rw [hf.2.2.1.2.1 j]; rfl) (by decide) (by decide) (by decide) d_8_init_7 (fun n_1 en_1 k_2 ek_2 H cells slots hG => ?_)
  have hk_n_1 : kd n_1 = 23 := en_1 ▸ hf.2.1
  have hf := hf.2.2.2 n_1 en_1 k_2 ek_2
  refine nPutR (j := 0) S hG hin rfl (by decide) Fi8 Ft8 Fy8 Fn8 (by decide) wm_176 rfl rfl rfl hk_r0 hf.1 rfl rfl (Nat.le_of_ble_eq_true rfl) (by rw [hf.2.1]; exact sr_8_0) d_8_init_10 (fun k_3 ek_3 H locs hG => ?_)
  have hf := hf.2.2 k_3 ek_3
  refine lv_aload_n hx hb d_8_init_13 rfl (lv_at hl 0 rfl) ?_
  refine lv_bipush (v := (10 : Int32)) hx hb d_8_init_14 (by decide) ?_
  refine nRef (t := 4) S hG hf.1 hf.2.1 rfl wm_103 S.2.1.2.2.1 rfl (im4 hf.2.1) (by funext j; rw [hf.2.2.1.2.1 j]; rfl) (by decide) (by decide) (by decide) d_8_init_16 (fun n_4 en_4 k_5 ek_5 H cells slots hG => ?_)
  have hk_n_4 : kd n_4 = 24 := en_4 ▸ hf.2.1
  have hf := hf.2.2.2 n_4 en_4 k_5 ek_5
  refine nPutR (j := 2) S hG hin rfl (by decide) Fi8 Ft8 Fy8 Fn8 (by decide) wm_181 rfl rfl rfl hk_r0 hf.1 rfl rfl (Nat.le_of_ble_eq_true rfl) (by rw [hf.2.1]; exact sr_8_2) d_8_init_19 (fun k_6 ek_6 H locs hG => ?_)
  have hf := hf.2.2 k_6 ek_6
  refine lv_aload_n hx hb d_8_init_22 rfl (lv_at hl 0 rfl) ?_
  refine lv_bipush (v := (6 : Int32)) hx hb d_8_init_23 (by decide) ?_
  refine nPrm (ty := .int) S hG hf.1 hf.2.1 rfl rfl rfl rfl rfl (fun _ _ => rfl) wm_83 hf.2.2.1.1 (by decide) (by decide) (by decide) d_8_init_25 (fun n_7 en_7 k_8 ek_8 H cells slots hG => ?_)
  have hk_n_7 : kd n_7 = 26 := en_7 ▸ hf.2.1
  have hf := hf.2.2.2 n_7 en_7 k_8 ek_8
  refine nPutR (j := 5) S hG hin rfl (by decide) Fi8 Ft8 Fy8 Fn8 (by decide) wm_190 rfl rfl rfl hk_r0 hf.1 rfl rfl (Nat.le_of_ble_eq_true rfl) (by rw [hf.2.1]; exact sr_8_5) d_8_init_27 (fun k_9 ek_9 H locs hG => ?_)
  have hf := hf.2.2 k_9 ek_9
  refine lv_aload_n hx hb d_8_init_30 rfl (lv_at hl 0 rfl) ?_
  refine lv_bipush (v := (6 : Int32)) hx hb d_8_init_31 (by decide) ?_
  refine nPrm (ty := .int) S hG hf.1 hf.2.1 rfl rfl rfl rfl rfl (fun _ _ => rfl) wm_83 hf.2.2.1.1 (by decide) (by decide) (by decide) d_8_init_33 (fun n_10 en_10 k_11 ek_11 H cells slots hG => ?_)
  have hk_n_10 : kd n_10 = 27 := en_10 ▸ hf.2.1
  have hf := hf.2.2.2 n_10 en_10 k_11 ek_11
  refine nPutR (j := 8) S hG hin rfl (by decide) Fi8 Ft8 Fy8 Fn8 (by decide) wm_199 rfl rfl rfl hk_r0 hf.1 rfl rfl (Nat.le_of_ble_eq_true rfl) (by rw [hf.2.1]; exact sr_8_8) d_8_init_35 (fun k_12 ek_12 H locs hG => ?_)
  have hf := hf.2.2 k_12 ek_12
  refine lv_aload_n hx hb d_8_init_38 rfl (lv_at hl 0 rfl) ?_
  refine nObj S hG hf.1 hf.2.1 rfl (by decide) Fi4 Ft4 Fy4 wm_105 wm_106 wm_14 (zf_4 hf.2.2.1) d_8_init_39 (fun n_13 en_13 k_14 ek_14 H cells slots hG => ?_)
  have hk_n_13 : kd n_13 = 4 := en_13 ▸ hf.2.1
  have hf := hf.2.2.2 n_13 en_13 k_14 ek_14
  refine lv_dup hx hb d_8_init_42 rfl ?_
  refine nCall [] S hl.1 hG (Nat.le_add_right _ _) hf.1 (c_4_init l S.2.2.2.2.2.1 (Nat.le_add_right _ _) hk_n_13 hf.2) (fun hM hp => va_runIN (As := []) S.1 hM (nCwN (n := 0) (host := "SweeperRounds") S (by decide +kernel) wm_108 wm_14 wm_109 rfl (by decide) ⟨Nat.le_of_ble_eq_true rfl, Nat.le_of_ble_eq_true rfl⟩) hp rfl rfl hl.1 rfl (lv_room (Nat.le_of_ble_eq_true rfl)) d_8_init_43 (nRoomC S hG (Nat.le_add_right _ _) hf.1)) (fun k_15 hnk_15 hf H locs cells slots hG => ?_)
  refine nPutR (j := 9) S hG hin rfl (by decide) Fi8 Ft8 Fy8 Fn8 (by decide) wm_201 rfl rfl rfl hk_r0 hf.1 rfl rfl (Nat.le_of_ble_eq_true rfl) (by rw [hf.2.1]; exact sr_8_9) d_8_init_46 (fun k_16 ek_16 H locs hG => ?_)
  have hf := hf.2.2 k_16 ek_16
  refine lv_iconst (v := (0 : Int32)) hx hb d_8_init_49 (by decide) ?_
  refine lv_istore_n (lv' := [(1, .int (0 : Int32)), (0, .ref (adB base r0))]) hx hb d_8_init_50 rfl hl (by decide) rfl (fun ls hl => ?_)
  exact lp_8_init_51 S hR hin hk_r0 FU _ _ _ _ _ _ _ hG (lv_sub hl [1, 0] rfl) hf
theorem c_8_init (l : Launch) {D : va_G} {ac : Nat → ClassId} {st : SS} {A : Nat → Prop} {base Ne : Nat} {k : Cc} {r0 : Nat} {Q : Cc → Prop} (hA : ∀ q, base ≤ q → A q) (hN : k.2.2 ≤ Ne) (hk_r0 : kd r0 = 8) (hf : m_8_init r0 Ne Q k) : Met l y_8_init (Cond.code y_8_init prog_10_method_1_code 2 none :: wA) { frames := 2, cells := Ne - k.2.2, slots := SZ Ne - SZ k.2.2, locals := 32 } (va_Pc [.ref (adB base r0)] (GSc A D ac st base k)) (va_Qv (fun u => u.2.2 = Ne ∧ Q u) (GSc A D ac st base) A) (Ne - k.2.2) (SZ Ne - SZ k.2.2) A :=
  mkC l hA hN (by decide +kernel) rfl rfl [.ref (adB base r0)] (Nat.le_of_ble_eq_true rfl) (fun p e s m args below meth c ls QW R S hR hin hG hl => w_8_init_0 S hR hin hk_r0 hG hl hf)
set_option maxHeartbeats 4000000 in
set_option maxRecDepth 100000 in
theorem w_5_init_0 {r0 : Nat} {r1 : Nat} {Q : Cc → Prop} {k : Cc} {H : Heap} {locs : List Loc} {cells slots : Nat} {ls : Array Slot} (S : SCc A D ac st base p m c prog_7_method_1_code 2 s args "SweeperRounds$Round" R a0 b0 Ne 1 12) (hR : RtC A D ac base p l e R s m args below meth c prog_7_method_1_code a0 b0 Ne QW Q) (hin : meth.name = "<init>") (hk_r0 : kd r0 = 5) (hk_r1 : kd r1 = 8) (hG : DGc A D ac base s a0 b0 k H locs cells slots) (hl : lv_has ls 2 [(0, .ref (adB base r0)), (1, .ref (adB base r1))]) (hf : m_5_init r0 r1 Ne Q k) : W p l e R s m args below meth c H locs cells slots QW (F0 m 0 ls []) := by
  have hx := S.1.1
  have hb := S.1.2.1
  unfold m_5_init at hf
  refine lv_aload_n hx hb d_5_init_0 rfl (lv_at hl 0 rfl) ?_
  refine W.objInit hx hb S.1.2.2.2.1 (S.1.2.2.2.2 _ wm_239) (S.1.2.2.2.2 _ wm_27) (S.1.2.2.2.2 _ wm_28) rfl (by rw [S.1.2.2.1]; exact hl.1) rfl d_5_init_1 (Nat.le_trans (Nat.le_of_ble_eq_true rfl) S.2.2.2.1) (Nat.le_trans (Nat.le_of_ble_eq_true rfl) S.2.2.2.2.1) ?_
  refine W.eq (g2 := F0 m 4 ls []) rfl ?_
  refine lv_aload_n hx hb d_5_init_4 rfl (lv_at hl 0 rfl) ?_
  refine lv_aload_n hx hb d_5_init_5 rfl (lv_at hl 1 rfl) ?_
  refine nPutR (j := 0) S hG hin rfl (by decide) Fi5 Ft5 Fy5 Fn5 (by decide) wm_240 rfl rfl rfl hk_r0 hf.1 rfl rfl (Nat.le_of_ble_eq_true rfl) (by rw [hf.2.1]; exact sr_5_0) d_5_init_6 (fun k_1 ek_1 H locs hG => ?_)
  have hf := hf.2.2 k_1 ek_1
  exact hR _ _ _ _ _ _ _ hG hf.1 hf.2 d_5_init_9
theorem c_5_init (l : Launch) {D : va_G} {ac : Nat → ClassId} {st : SS} {A : Nat → Prop} {base Ne : Nat} {k : Cc} {r0 : Nat} {r1 : Nat} {Q : Cc → Prop} (hA : ∀ q, base ≤ q → A q) (hN : k.2.2 ≤ Ne) (hk_r0 : kd r0 = 5) (hk_r1 : kd r1 = 8) (hf : m_5_init r0 r1 Ne Q k) : Met l y_5_init (Cond.code y_5_init prog_7_method_1_code 2 none :: wA) { frames := 1, cells := Ne - k.2.2, slots := SZ Ne - SZ k.2.2, locals := 12 } (va_Pc [.ref (adB base r0), .ref (adB base r1)] (GSc A D ac st base k)) (va_Qv (fun u => u.2.2 = Ne ∧ Q u) (GSc A D ac st base) A) (Ne - k.2.2) (SZ Ne - SZ k.2.2) A :=
  mkC l hA hN (by decide +kernel) rfl rfl [.ref (adB base r0), .ref (adB base r1)] (Nat.le_of_ble_eq_true rfl) (fun p e s m args below meth c ls QW R S hR hin hG hl => w_5_init_0 S hR hin hk_r0 hk_r1 hG hl hf)
set_option maxHeartbeats 4000000 in
set_option maxRecDepth 100000 in
theorem w_0_init_15 {r0 : Nat} {Q : Cc → Prop} {B15 : Int32 → Cc → Prop} {x1 : Int32} {k : Cc} {H : Heap} {locs : List Loc} {cells slots : Nat} {ls : Array Slot} (S : SCc A D ac st base p m c prog_2_method_1_code 2 s args "SweeperRounds$History" R a0 b0 Ne 3 53) (hR : RtC A D ac base p l e R s m args below meth c prog_2_method_1_code a0 b0 Ne QW Q) (hin : meth.name = "<init>") (hk_r0 : kd r0 = 0) (hB15 : ∀ (x1 : Int32) (k : Cc) (H : Heap) (locs : List Loc) (cells slots : Nat) (ls : Array Slot), DGc A D ac base s a0 b0 k H locs cells slots → lv_has ls 2 [(0, .ref (adB base r0)), (1, .int x1)] → B15 x1 k → W p l e R s m args below meth c H locs cells slots QW (F0 m 15 ls [])) (hG : DGc A D ac base s a0 b0 k H locs cells slots) (hl : lv_has ls 2 [(0, .ref (adB base r0)), (1, .int x1)]) (hf : m_0_init_15 r0 Ne Q B15 x1 k) : W p l e R s m args below meth c H locs cells slots QW (F0 m 15 ls []) := by
  have hx := S.1.1
  have hb := S.1.2.1
  unfold m_0_init_15 at hf
  refine lv_iload_n hx hb d_0_init_15 rfl (lv_at hl 1 rfl) ?_
  refine lv_bipush (v := (8 : Int32)) hx hb d_0_init_16 (by decide) ?_
  refine lv_icmp_ge (tgt := 40) hx hb d_0_init_18 (by decide) (fun hc => ?_) (fun hc => ?_)
  · have hf := hf.1 hc
    exact hR _ _ _ _ _ _ _ hG hf.1 hf.2 d_0_init_40
  · have hf := hf.2 hc
    refine lv_aload_n hx hb d_0_init_21 rfl (lv_at hl 0 rfl) ?_
    refine nGetR (j := 0) S hG rfl (by decide) Fi0 (by decide) wm_256 rfl hk_r0 hf.1 (gr_0_0 hf.2.1) d_0_init_22 ?_
    have hf := hf.2.2
    refine lv_iload_n hx hb d_0_init_25 rfl (lv_at hl 1 rfl) ?_
    refine nObj S hG hf.1 hf.2.1 rfl (by decide) Fi8 Ft8 Fy8 wm_253 wm_96 wm_13 (zf_8 hf.2.2.1) d_0_init_26 (fun n_1 en_1 k_2 ek_2 H cells slots hG => ?_)
    have hk_n_1 : kd n_1 = 8 := en_1 ▸ hf.2.1
    have hf := hf.2.2.2 n_1 en_1 k_2 ek_2
    refine lv_dup hx hb d_0_init_29 rfl ?_
    refine nCall [] S hl.1 hG (Nat.le_add_right _ _) hf.1 (c_8_init l S.2.2.2.2.2.1 (Nat.le_add_right _ _) hk_n_1 hf.2) (fun hM hp => va_runI (As := []) S.1 hM (nCwI (n := 0) S wm_255 wm_98 wm_13 wm_99 rfl (by decide) ⟨Nat.le_of_ble_eq_true rfl, Nat.le_of_ble_eq_true rfl⟩) hp rfl rfl hl.1 rfl (lv_room (Nat.le_of_ble_eq_true rfl)) d_0_init_30 (nRoomC S hG (Nat.le_add_right _ _) hf.1)) (fun k_3 hnk_3 hf H locs cells slots hG => ?_)
    refine nAst (t := 5) (ce := 8) S hG (kr_0_0 hk_r0) hf.2.1 hf.2.2.1 hk_n_1 (by decide) rfl rfl (im5 (kr_0_0 hk_r0)) (by rw [im5 (kr_0_0 hk_r0)]; simp only [wrR_at]; rw [im_up (g := fun j => adB base ((r0 + 1) + 1 + 34 * j)) (r := adB base n_1) (by rw [hf.2.2.2.1])]) hf.1 d_0_init_33 (fun k_4 ek_4 H locs hG => ?_)
    have hf := hf.2.2.2.2 k_4 ek_4
    obtain ⟨x1_5, ex1_5⟩ : ∃ y : Int32, y = x1 + 1 := ⟨_, rfl⟩
    have hf := hf x1_5 ex1_5
    refine lv_iinc (v := x1_5) (lv' := [(1, .int x1_5), (0, .ref (adB base r0))]) hx hb d_0_init_34 hl (k := 1) rfl (by rw [ex1_5]; rfl) (by decide) rfl (fun ls hl => ?_)
    refine lv_goto (tgt := 15) hx hb d_0_init_37 (by decide) ?_
    exact hB15 _ _ _ _ _ _ _ hG (lv_sub hl [1, 0] rfl) hf
set_option maxHeartbeats 4000000 in
set_option maxRecDepth 100000 in
theorem lp_0_init_15 {r0 : Nat} {Q : Cc → Prop} (S : SCc A D ac st base p m c prog_2_method_1_code 2 s args "SweeperRounds$History" R a0 b0 Ne 3 53) (hR : RtC A D ac base p l e R s m args below meth c prog_2_method_1_code a0 b0 Ne QW Q) (hin : meth.name = "<init>") (hk_r0 : kd r0 = 0) : ∀ (n : Nat) (x1 : Int32) (k : Cc) (H : Heap) (locs : List Loc) (cells slots : Nat) (ls : Array Slot), DGc A D ac base s a0 b0 k H locs cells slots → lv_has ls 2 [(0, .ref (adB base r0)), (1, .int x1)] → itN (m_0_init_15 r0 Ne Q) (fun _ _ => False) n x1 k → W p l e R s m args below meth c H locs cells slots QW (F0 m 15 ls []) := by
  intro n
  induction n with
  | zero =>
    intro x1 k H locs cells slots ls hG hl hf
    exact hf.elim
  | succ n ih =>
    intro x1 k H locs cells slots ls hG hl hf
    exact w_0_init_15 S hR hin hk_r0 ih hG hl hf
set_option maxHeartbeats 4000000 in
set_option maxRecDepth 100000 in
theorem w_0_init_0 {r0 : Nat} {Q : Cc → Prop} {k : Cc} {H : Heap} {locs : List Loc} {cells slots : Nat} {ls : Array Slot} (S : SCc A D ac st base p m c prog_2_method_1_code 2 s args "SweeperRounds$History" R a0 b0 Ne 3 53) (hR : RtC A D ac base p l e R s m args below meth c prog_2_method_1_code a0 b0 Ne QW Q) (hin : meth.name = "<init>") (hk_r0 : kd r0 = 0) (hG : DGc A D ac base s a0 b0 k H locs cells slots) (hl : lv_has ls 2 [(0, .ref (adB base r0))]) (hf : m_0_init r0 Ne Q k) : W p l e R s m args below meth c H locs cells slots QW (F0 m 0 ls []) := by
  have hx := S.1.1
  have hb := S.1.2.1
  unfold m_0_init at hf
  refine lv_aload_n hx hb d_0_init_0 rfl (lv_at hl 0 rfl) ?_
  refine W.objInit hx hb S.1.2.2.2.1 (S.1.2.2.2.2 _ wm_252) (S.1.2.2.2.2 _ wm_27) (S.1.2.2.2.2 _ wm_28) rfl (by rw [S.1.2.2.1]; exact hl.1) rfl d_0_init_1 (Nat.le_trans (Nat.le_of_ble_eq_true rfl) S.2.2.2.1) (Nat.le_trans (Nat.le_of_ble_eq_true rfl) S.2.2.2.2.1) ?_
  refine W.eq (g2 := F0 m 4 ls []) rfl ?_
  refine lv_aload_n hx hb d_0_init_4 rfl (lv_at hl 0 rfl) ?_
  refine lv_bipush (v := (8 : Int32)) hx hb d_0_init_5 (by decide) ?_
  refine nRef (t := 5) S hG hf.1 hf.2.1 rfl wm_253 S.2.1.2.2.2 rfl (im5 hf.2.1) (by funext j; rw [hf.2.2.1.2.1 j]; rfl) (by decide) (by decide) (by decide) d_0_init_7 (fun n_1 en_1 k_2 ek_2 H cells slots hG => ?_)
  have hk_n_1 : kd n_1 = 25 := en_1 ▸ hf.2.1
  have hf := hf.2.2.2 n_1 en_1 k_2 ek_2
  refine nPutR (j := 0) S hG hin rfl (by decide) Fi0 Ft0 Fy0 Fn0 (by decide) wm_256 rfl rfl rfl hk_r0 hf.1 rfl rfl (Nat.le_of_ble_eq_true rfl) (by rw [hf.2.1]; exact sr_0_0) d_0_init_10 (fun k_3 ek_3 H locs hG => ?_)
  have hf := hf.2.2 k_3 ek_3
  refine lv_iconst (v := (0 : Int32)) hx hb d_0_init_13 (by decide) ?_
  refine lv_istore_n (lv' := [(1, .int (0 : Int32)), (0, .ref (adB base r0))]) hx hb d_0_init_14 rfl hl (by decide) rfl (fun ls hl => ?_)
  exact lp_0_init_15 S hR hin hk_r0 FU _ _ _ _ _ _ _ hG (lv_sub hl [1, 0] rfl) hf
theorem c_0_init (l : Launch) {D : va_G} {ac : Nat → ClassId} {st : SS} {A : Nat → Prop} {base Ne : Nat} {k : Cc} {r0 : Nat} {Q : Cc → Prop} (hA : ∀ q, base ≤ q → A q) (hN : k.2.2 ≤ Ne) (hk_r0 : kd r0 = 0) (hf : m_0_init r0 Ne Q k) : Met l y_0_init (Cond.code y_0_init prog_2_method_1_code 2 none :: wA) { frames := 3, cells := Ne - k.2.2, slots := SZ Ne - SZ k.2.2, locals := 53 } (va_Pc [.ref (adB base r0)] (GSc A D ac st base k)) (va_Qv (fun u => u.2.2 = Ne ∧ Q u) (GSc A D ac st base) A) (Ne - k.2.2) (SZ Ne - SZ k.2.2) A :=
  mkC l hA hN (by decide +kernel) rfl rfl [.ref (adB base r0)] (Nat.le_of_ble_eq_true rfl) (fun p e s m args below meth c ls QW R S hR hin hG hl => w_0_init_0 S hR hin hk_r0 hG hl hf)
set_option maxHeartbeats 4000000 in
set_option maxRecDepth 100000 in
theorem w_2_init_0 {r0 : Nat} {Q : Cc → Prop} {k : Cc} {H : Heap} {locs : List Loc} {cells slots : Nat} {ls : Array Slot} (S : SCc A D ac st base p m c prog_4_method_1_code 1 s args "SweeperRounds$Orders" R a0 b0 Ne 1 12) (hR : RtC A D ac base p l e R s m args below meth c prog_4_method_1_code a0 b0 Ne QW Q) (hin : meth.name = "<init>") (hk_r0 : kd r0 = 2) (hG : DGc A D ac base s a0 b0 k H locs cells slots) (hl : lv_has ls 1 [(0, .ref (adB base r0))]) (hf : m_2_init r0 Ne Q k) : W p l e R s m args below meth c H locs cells slots QW (F0 m 0 ls []) := by
  have hx := S.1.1
  have hb := S.1.2.1
  unfold m_2_init at hf
  refine lv_aload_n hx hb d_2_init_0 rfl (lv_at hl 0 rfl) ?_
  refine W.objInit hx hb S.1.2.2.2.1 (S.1.2.2.2.2 _ wm_272) (S.1.2.2.2.2 _ wm_27) (S.1.2.2.2.2 _ wm_28) rfl (by rw [S.1.2.2.1]; exact hl.1) rfl d_2_init_1 (Nat.le_trans (Nat.le_of_ble_eq_true rfl) S.2.2.2.1) (Nat.le_trans (Nat.le_of_ble_eq_true rfl) S.2.2.2.2.1) ?_
  refine W.eq (g2 := F0 m 4 ls []) rfl ?_
  refine lv_aload_n hx hb d_2_init_4 rfl (lv_at hl 0 rfl) ?_
  refine lv_bipush (v := (6 : Int32)) hx hb d_2_init_5 (by decide) ?_
  refine nPrm (ty := .int) S hG hf.1 hf.2.1 rfl rfl rfl rfl rfl (fun _ _ => rfl) wm_83 hf.2.2.1.1 (by decide) (by decide) (by decide) d_2_init_7 (fun n_1 en_1 k_2 ek_2 H cells slots hG => ?_)
  have hk_n_1 : kd n_1 = 28 := en_1 ▸ hf.2.1
  have hf := hf.2.2.2 n_1 en_1 k_2 ek_2
  refine nPutR (j := 0) S hG hin rfl (by decide) Fi2 Ft2 Fy2 Fn2 (by decide) wm_273 rfl rfl rfl hk_r0 hf.1 rfl rfl (Nat.le_of_ble_eq_true rfl) (by rw [hf.2.1]; exact sr_2_0) d_2_init_9 (fun k_3 ek_3 H locs hG => ?_)
  have hf := hf.2.2 k_3 ek_3
  refine lv_aload_n hx hb d_2_init_12 rfl (lv_at hl 0 rfl) ?_
  refine lv_bipush (v := (6 : Int32)) hx hb d_2_init_13 (by decide) ?_
  refine nPrm (ty := .int) S hG hf.1 hf.2.1 rfl rfl rfl rfl rfl (fun _ _ => rfl) wm_83 hf.2.2.1.1 (by decide) (by decide) (by decide) d_2_init_15 (fun n_4 en_4 k_5 ek_5 H cells slots hG => ?_)
  have hk_n_4 : kd n_4 = 29 := en_4 ▸ hf.2.1
  have hf := hf.2.2.2 n_4 en_4 k_5 ek_5
  refine nPutR (j := 2) S hG hin rfl (by decide) Fi2 Ft2 Fy2 Fn2 (by decide) wm_274 rfl rfl rfl hk_r0 hf.1 rfl rfl (Nat.le_of_ble_eq_true rfl) (by rw [hf.2.1]; exact sr_2_2) d_2_init_17 (fun k_6 ek_6 H locs hG => ?_)
  have hf := hf.2.2 k_6 ek_6
  exact hR _ _ _ _ _ _ _ hG hf.1 hf.2 d_2_init_20
theorem c_2_init (l : Launch) {D : va_G} {ac : Nat → ClassId} {st : SS} {A : Nat → Prop} {base Ne : Nat} {k : Cc} {r0 : Nat} {Q : Cc → Prop} (hA : ∀ q, base ≤ q → A q) (hN : k.2.2 ≤ Ne) (hk_r0 : kd r0 = 2) (hf : m_2_init r0 Ne Q k) : Met l y_2_init (Cond.code y_2_init prog_4_method_1_code 1 none :: wA) { frames := 1, cells := Ne - k.2.2, slots := SZ Ne - SZ k.2.2, locals := 12 } (va_Pc [.ref (adB base r0)] (GSc A D ac st base k)) (va_Qv (fun u => u.2.2 = Ne ∧ Q u) (GSc A D ac st base) A) (Ne - k.2.2) (SZ Ne - SZ k.2.2) A :=
  mkC l hA hN (by decide +kernel) rfl rfl [.ref (adB base r0)] (Nat.le_of_ble_eq_true rfl) (fun p e s m args below meth c ls QW R S hR hin hG hl => w_2_init_0 S hR hin hk_r0 hG hl hf)
set_option maxHeartbeats 4000000 in
set_option maxRecDepth 100000 in
theorem w_9_init_0 {r0 : Nat} {Q : Cc → Prop} {k : Cc} {H : Heap} {locs : List Loc} {cells slots : Nat} {ls : Array Slot} (S : SCc A D ac st base p m c prog_1_method_1_code 1 s args "SweeperRounds" R a0 b0 Ne 4 74) (hR : RtC A D ac base p l e R s m args below meth c prog_1_method_1_code a0 b0 Ne QW Q) (hin : meth.name = "<init>") (hk_r0 : kd r0 = 9) (hG : DGc A D ac base s a0 b0 k H locs cells slots) (hl : lv_has ls 1 [(0, .ref (adB base r0))]) (hf : m_9_init r0 Ne Q k) : W p l e R s m args below meth c H locs cells slots QW (F0 m 0 ls []) := by
  have hx := S.1.1
  have hb := S.1.2.1
  unfold m_9_init at hf
  refine lv_aload_n hx hb d_9_init_0 rfl (lv_at hl 0 rfl) ?_
  refine W.objInit hx hb S.1.2.2.2.1 (S.1.2.2.2.2 _ wm_26) (S.1.2.2.2.2 _ wm_27) (S.1.2.2.2.2 _ wm_28) rfl (by rw [S.1.2.2.1]; exact hl.1) rfl d_9_init_1 (Nat.le_trans (Nat.le_of_ble_eq_true rfl) S.2.2.2.1) (Nat.le_trans (Nat.le_of_ble_eq_true rfl) S.2.2.2.2.1) ?_
  refine W.eq (g2 := F0 m 4 ls []) rfl ?_
  refine lv_aload_n hx hb d_9_init_4 rfl (lv_at hl 0 rfl) ?_
  refine nObj S hG hf.1 hf.2.1 rfl (by decide) Fi7 Ft7 Fy7 wm_29 wm_30 wm_10 (zf_7 hf.2.2.1) d_9_init_5 (fun n_1 en_1 k_2 ek_2 H cells slots hG => ?_)
  have hk_n_1 : kd n_1 = 7 := en_1 ▸ hf.2.1
  have hf := hf.2.2.2 n_1 en_1 k_2 ek_2
  refine lv_dup hx hb d_9_init_8 rfl ?_
  refine nCall [] S hl.1 hG (Nat.le_add_right _ _) hf.1 (c_7_init l S.2.2.2.2.2.1 (Nat.le_add_right _ _) hk_n_1 hf.2) (fun hM hp => va_runIN (As := []) S.1 hM (nCwN (n := 0) (host := "SweeperRounds") S (by decide +kernel) wm_32 wm_10 wm_33 rfl (by decide) ⟨Nat.le_of_ble_eq_true rfl, Nat.le_of_ble_eq_true rfl⟩) hp rfl rfl hl.1 rfl (lv_room (Nat.le_of_ble_eq_true rfl)) d_9_init_9 (nRoomC S hG (Nat.le_add_right _ _) hf.1)) (fun k_3 hnk_3 hf H locs cells slots hG => ?_)
  refine nPutR (j := 0) S hG hin rfl (by decide) Fi9 Ft9 Fy9 Fn9 (by decide) wm_284 rfl rfl rfl hk_r0 hf.1 rfl rfl (Nat.le_of_ble_eq_true rfl) (by rw [hf.2.1]; exact sr_9_0) d_9_init_12 (fun k_4 ek_4 H locs hG => ?_)
  have hf := hf.2.2 k_4 ek_4
  refine lv_aload_n hx hb d_9_init_15 rfl (lv_at hl 0 rfl) ?_
  refine nObj S hG hf.1 hf.2.1 rfl (by decide) Fi3 Ft3 Fy3 wm_43 wm_44 wm_11 (zf_3 hf.2.2.1) d_9_init_16 (fun n_5 en_5 k_6 ek_6 H cells slots hG => ?_)
  have hk_n_5 : kd n_5 = 3 := en_5 ▸ hf.2.1
  have hf := hf.2.2.2 n_5 en_5 k_6 ek_6
  refine lv_dup hx hb d_9_init_19 rfl ?_
  refine nCall [] S hl.1 hG (Nat.le_add_right _ _) hf.1 (c_3_init l S.2.2.2.2.2.1 (Nat.le_add_right _ _) hk_n_5 hf.2) (fun hM hp => va_runIN (As := []) S.1 hM (nCwN (n := 0) (host := "SweeperRounds") S (by decide +kernel) wm_46 wm_11 wm_47 rfl (by decide) ⟨Nat.le_of_ble_eq_true rfl, Nat.le_of_ble_eq_true rfl⟩) hp rfl rfl hl.1 rfl (lv_room (Nat.le_of_ble_eq_true rfl)) d_9_init_20 (nRoomC S hG (Nat.le_add_right _ _) hf.1)) (fun k_7 hnk_7 hf H locs cells slots hG => ?_)
  refine nPutR (j := 1) S hG hin rfl (by decide) Fi9 Ft9 Fy9 Fn9 (by decide) wm_285 rfl rfl rfl hk_r0 hf.1 rfl rfl (Nat.le_of_ble_eq_true rfl) (by rw [hf.2.1]; exact sr_9_1) d_9_init_23 (fun k_8 ek_8 H locs hG => ?_)
  have hf := hf.2.2 k_8 ek_8
  refine lv_aload_n hx hb d_9_init_26 rfl (lv_at hl 0 rfl) ?_
  refine nObj S hG hf.1 hf.2.1 rfl (by decide) Fi8 Ft8 Fy8 wm_95 wm_96 wm_13 (zf_8 hf.2.2.1) d_9_init_27 (fun n_9 en_9 k_10 ek_10 H cells slots hG => ?_)
  have hk_n_9 : kd n_9 = 8 := en_9 ▸ hf.2.1
  have hf := hf.2.2.2 n_9 en_9 k_10 ek_10
  refine lv_dup hx hb d_9_init_30 rfl ?_
  refine nCall [] S hl.1 hG (Nat.le_add_right _ _) hf.1 (c_8_init l S.2.2.2.2.2.1 (Nat.le_add_right _ _) hk_n_9 hf.2) (fun hM hp => va_runI (As := []) S.1 hM (nCwI (n := 0) S wm_97 wm_98 wm_13 wm_99 rfl (by decide) ⟨Nat.le_of_ble_eq_true rfl, Nat.le_of_ble_eq_true rfl⟩) hp rfl rfl hl.1 rfl (lv_room (Nat.le_of_ble_eq_true rfl)) d_9_init_31 (nRoomC S hG (Nat.le_add_right _ _) hf.1)) (fun k_11 hnk_11 hf H locs cells slots hG => ?_)
  refine nPutR (j := 2) S hG hin rfl (by decide) Fi9 Ft9 Fy9 Fn9 (by decide) wm_286 rfl rfl rfl hk_r0 hf.1 rfl rfl (Nat.le_of_ble_eq_true rfl) (by rw [hf.2.1]; exact sr_9_2) d_9_init_34 (fun k_12 ek_12 H locs hG => ?_)
  have hf := hf.2.2 k_12 ek_12
  refine lv_aload_n hx hb d_9_init_37 rfl (lv_at hl 0 rfl) ?_
  refine nObj S hG hf.1 hf.2.1 rfl (by decide) Fi5 Ft5 Fy5 wm_234 wm_235 wm_17 (zf_5 hf.2.2.1) d_9_init_38 (fun n_13 en_13 k_14 ek_14 H cells slots hG => ?_)
  have hk_n_13 : kd n_13 = 5 := en_13 ▸ hf.2.1
  have hf := hf.2.2.2 n_13 en_13 k_14 ek_14
  refine lv_dup hx hb d_9_init_41 rfl ?_
  refine lv_aload_n hx hb d_9_init_42 rfl (lv_at hl 0 rfl) ?_
  refine nGetR (j := 2) S hG rfl (by decide) Fi9 (by decide) wm_286 rfl hk_r0 hf.1 (gr_9_2 hf.2.1) d_9_init_43 ?_
  have hf := hf.2.2
  refine nCall [.ref (adB base (r0 + 7))] S hl.1 hG (Nat.le_add_right _ _) hf.1 (c_5_init l S.2.2.2.2.2.1 (Nat.le_add_right _ _) hk_n_13 (kr_9_2 hk_r0) hf.2) (fun hM hp => va_runI (As := [.ref (adB base (r0 + 7))]) S.1 hM (nCwI (n := 1) S wm_236 wm_237 wm_17 wm_238 rfl (by decide) ⟨Nat.le_of_ble_eq_true rfl, Nat.le_of_ble_eq_true rfl⟩) hp rfl rfl hl.1 rfl (lv_room (Nat.le_of_ble_eq_true rfl)) d_9_init_46 (nRoomC S hG (Nat.le_add_right _ _) hf.1)) (fun k_15 hnk_15 hf H locs cells slots hG => ?_)
  refine nPutR (j := 3) S hG hin rfl (by decide) Fi9 Ft9 Fy9 Fn9 (by decide) wm_287 rfl rfl rfl hk_r0 hf.1 rfl rfl (Nat.le_of_ble_eq_true rfl) (by rw [hf.2.1]; exact sr_9_3) d_9_init_49 (fun k_16 ek_16 H locs hG => ?_)
  have hf := hf.2.2 k_16 ek_16
  refine lv_aload_n hx hb d_9_init_52 rfl (lv_at hl 0 rfl) ?_
  refine nObj S hG hf.1 hf.2.1 rfl (by decide) Fi0 Ft0 Fy0 wm_247 wm_248 wm_18 (zf_0 hf.2.2.1) d_9_init_53 (fun n_17 en_17 k_18 ek_18 H cells slots hG => ?_)
  have hk_n_17 : kd n_17 = 0 := en_17 ▸ hf.2.1
  have hf := hf.2.2.2 n_17 en_17 k_18 ek_18
  refine lv_dup hx hb d_9_init_56 rfl ?_
  refine nCall [] S hl.1 hG (Nat.le_add_right _ _) hf.1 (c_0_init l S.2.2.2.2.2.1 (Nat.le_add_right _ _) hk_n_17 hf.2) (fun hM hp => va_runI (As := []) S.1 hM (nCwI (n := 0) S wm_249 wm_250 wm_18 wm_251 rfl (by decide) ⟨Nat.le_of_ble_eq_true rfl, Nat.le_of_ble_eq_true rfl⟩) hp rfl rfl hl.1 rfl (lv_room (Nat.le_of_ble_eq_true rfl)) d_9_init_57 (nRoomC S hG (Nat.le_add_right _ _) hf.1)) (fun k_19 hnk_19 hf H locs cells slots hG => ?_)
  refine nPutR (j := 4) S hG hin rfl (by decide) Fi9 Ft9 Fy9 Fn9 (by decide) wm_288 rfl rfl rfl hk_r0 hf.1 rfl rfl (Nat.le_of_ble_eq_true rfl) (by rw [hf.2.1]; exact sr_9_4) d_9_init_60 (fun k_20 ek_20 H locs hG => ?_)
  have hf := hf.2.2 k_20 ek_20
  refine lv_aload_n hx hb d_9_init_63 rfl (lv_at hl 0 rfl) ?_
  refine nObj S hG hf.1 hf.2.1 rfl (by decide) Fi8 Ft8 Fy8 wm_95 wm_96 wm_13 (zf_8 hf.2.2.1) d_9_init_64 (fun n_21 en_21 k_22 ek_22 H cells slots hG => ?_)
  have hk_n_21 : kd n_21 = 8 := en_21 ▸ hf.2.1
  have hf := hf.2.2.2 n_21 en_21 k_22 ek_22
  refine lv_dup hx hb d_9_init_67 rfl ?_
  refine nCall [] S hl.1 hG (Nat.le_add_right _ _) hf.1 (c_8_init l S.2.2.2.2.2.1 (Nat.le_add_right _ _) hk_n_21 hf.2) (fun hM hp => va_runI (As := []) S.1 hM (nCwI (n := 0) S wm_97 wm_98 wm_13 wm_99 rfl (by decide) ⟨Nat.le_of_ble_eq_true rfl, Nat.le_of_ble_eq_true rfl⟩) hp rfl rfl hl.1 rfl (lv_room (Nat.le_of_ble_eq_true rfl)) d_9_init_68 (nRoomC S hG (Nat.le_add_right _ _) hf.1)) (fun k_23 hnk_23 hf H locs cells slots hG => ?_)
  refine nPutR (j := 5) S hG hin rfl (by decide) Fi9 Ft9 Fy9 Fn9 (by decide) wm_289 rfl rfl rfl hk_r0 hf.1 rfl rfl (Nat.le_of_ble_eq_true rfl) (by rw [hf.2.1]; exact sr_9_5) d_9_init_71 (fun k_24 ek_24 H locs hG => ?_)
  have hf := hf.2.2 k_24 ek_24
  refine lv_aload_n hx hb d_9_init_74 rfl (lv_at hl 0 rfl) ?_
  refine nObj S hG hf.1 hf.2.1 rfl (by decide) Fi5 Ft5 Fy5 wm_234 wm_235 wm_17 (zf_5 hf.2.2.1) d_9_init_75 (fun n_25 en_25 k_26 ek_26 H cells slots hG => ?_)
  have hk_n_25 : kd n_25 = 5 := en_25 ▸ hf.2.1
  have hf := hf.2.2.2 n_25 en_25 k_26 ek_26
  refine lv_dup hx hb d_9_init_78 rfl ?_
  refine lv_aload_n hx hb d_9_init_79 rfl (lv_at hl 0 rfl) ?_
  refine nGetR (j := 5) S hG rfl (by decide) Fi9 (by decide) wm_289 rfl hk_r0 hf.1 (gr_9_5 hf.2.1) d_9_init_80 ?_
  have hf := hf.2.2
  refine nCall [.ref (adB base (r0 + 316))] S hl.1 hG (Nat.le_add_right _ _) hf.1 (c_5_init l S.2.2.2.2.2.1 (Nat.le_add_right _ _) hk_n_25 (kr_9_5 hk_r0) hf.2) (fun hM hp => va_runI (As := [.ref (adB base (r0 + 316))]) S.1 hM (nCwI (n := 1) S wm_236 wm_237 wm_17 wm_238 rfl (by decide) ⟨Nat.le_of_ble_eq_true rfl, Nat.le_of_ble_eq_true rfl⟩) hp rfl rfl hl.1 rfl (lv_room (Nat.le_of_ble_eq_true rfl)) d_9_init_83 (nRoomC S hG (Nat.le_add_right _ _) hf.1)) (fun k_27 hnk_27 hf H locs cells slots hG => ?_)
  refine nPutR (j := 6) S hG hin rfl (by decide) Fi9 Ft9 Fy9 Fn9 (by decide) wm_290 rfl rfl rfl hk_r0 hf.1 rfl rfl (Nat.le_of_ble_eq_true rfl) (by rw [hf.2.1]; exact sr_9_6) d_9_init_86 (fun k_28 ek_28 H locs hG => ?_)
  have hf := hf.2.2 k_28 ek_28
  refine lv_aload_n hx hb d_9_init_89 rfl (lv_at hl 0 rfl) ?_
  refine nObj S hG hf.1 hf.2.1 rfl (by decide) Fi2 Ft2 Fy2 wm_267 wm_268 wm_19 (zf_2 hf.2.2.1) d_9_init_90 (fun n_29 en_29 k_30 ek_30 H cells slots hG => ?_)
  have hk_n_29 : kd n_29 = 2 := en_29 ▸ hf.2.1
  have hf := hf.2.2.2 n_29 en_29 k_30 ek_30
  refine lv_dup hx hb d_9_init_93 rfl ?_
  refine nCall [] S hl.1 hG (Nat.le_add_right _ _) hf.1 (c_2_init l S.2.2.2.2.2.1 (Nat.le_add_right _ _) hk_n_29 hf.2) (fun hM hp => va_runIN (As := []) S.1 hM (nCwN (n := 0) (host := "SweeperRounds") S (by decide +kernel) wm_270 wm_19 wm_271 rfl (by decide) ⟨Nat.le_of_ble_eq_true rfl, Nat.le_of_ble_eq_true rfl⟩) hp rfl rfl hl.1 rfl (lv_room (Nat.le_of_ble_eq_true rfl)) d_9_init_94 (nRoomC S hG (Nat.le_add_right _ _) hf.1)) (fun k_31 hnk_31 hf H locs cells slots hG => ?_)
  refine nPutR (j := 7) S hG hin rfl (by decide) Fi9 Ft9 Fy9 Fn9 (by decide) wm_291 rfl rfl rfl hk_r0 hf.1 rfl rfl (Nat.le_of_ble_eq_true rfl) (by rw [hf.2.1]; exact sr_9_7) d_9_init_97 (fun k_32 ek_32 H locs hG => ?_)
  have hf := hf.2.2 k_32 ek_32
  refine lv_aload_n hx hb d_9_init_100 rfl (lv_at hl 0 rfl) ?_
  refine lv_iconst (v := (0 : Int32)) hx hb d_9_init_101 (by decide) ?_
  refine nPutI (j := 8) S hG rfl (by decide) Fi9 Ft9 Fy9 Fn9 (by decide) wm_292 rfl rfl hk_r0 hf.1 rfl rfl (Nat.le_of_ble_eq_true rfl) (by simp [fsC, wrI, wr, wrA, upd]) d_9_init_102 (fun k_33 ek_33 H locs hG => ?_)
  have hf := hf.2 k_33 ek_33
  exact hR _ _ _ _ _ _ _ hG hf.1 hf.2 d_9_init_105
theorem c_9_init (l : Launch) {D : va_G} {ac : Nat → ClassId} {st : SS} {A : Nat → Prop} {base Ne : Nat} {k : Cc} {r0 : Nat} {Q : Cc → Prop} (hA : ∀ q, base ≤ q → A q) (hN : k.2.2 ≤ Ne) (hk_r0 : kd r0 = 9) (hf : m_9_init r0 Ne Q k) : Met l y_9_init (Cond.code y_9_init prog_1_method_1_code 1 none :: wA) { frames := 4, cells := Ne - k.2.2, slots := SZ Ne - SZ k.2.2, locals := 74 } (va_Pc [.ref (adB base r0)] (GSc A D ac st base k)) (va_Qv (fun u => u.2.2 = Ne ∧ Q u) (GSc A D ac st base) A) (Ne - k.2.2) (SZ Ne - SZ k.2.2) A :=
  mkC l hA hN (by decide +kernel) rfl rfl [.ref (adB base r0)] (Nat.le_of_ble_eq_true rfl) (fun p e s m args below meth c ls QW R S hR hin hG hl => w_9_init_0 S hR hin hk_r0 hG hl hf)
end CB
