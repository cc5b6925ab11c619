section IVS
variable {p : Program} {l : Launch} {e : Env} {R : Room} {s : State} {m : MethodId} {args : Array Value} {below : List Frame} {meth : Method} {c : Code} {cells slots : Nat} {QW : State → Prop}
variable {D : va_G} {ac : Nat → ClassId} {ad : Nat → Nat} {st : SS} {A : Nat → Prop}
theorem mcwk {cc : ByteArray} {nL F Lc : Nat} {own : String} {y : MethodName} {bytes : ByteArray} {maxL n index F' L' mc ms : Nat} {ret : Option FieldType} (S : SC A D ac st p m c cc nL s args own R cells slots F Lc) (h1 : Cond.methodLink own index y ∈ wA) (h2 : Cond.static y ∈ wA) (h4 : Cond.initialized own ∈ wA) (h5 : Cond.code y bytes maxL ret ∈ wA) (hd : y.cls = own ∧ y.cls ≠ "java/lang/invoke/MethodHandle" ∧ y.cls ≠ "java/lang/invoke/VarHandle" ∧ (parseMethodDescriptor y.desc).map (fun d => d.parameters.length) = some n) (hR : F' + 1 ≤ F ∧ 8 + (maxL + 11) + L' ≤ Lc) :
    CallB R s args own index y bytes maxL ret (Cond.code y bytes maxL ret :: wA) { frames := F', cells := mc, slots := ms, locals := L' } mc ms n ∧ (Cond.static y).before args s = true :=
  cwS n S.1.2.2.2.2 (wA_in (fun w hw => (List.mem_append.mp hw).elim (fun q => by simp at q; rcases q with rfl | rfl | rfl <;> assumption) (wA_cons h5 w))) rfl rfl rfl hd ⟨Nat.le_trans hR.1 S.2.2.2.1, Nat.le_trans hR.2 S.2.2.2.2⟩
theorem ivS {cc : ByteArray} {pc nL F Lc k : Nat} {ls : Array Slot} {rest : List Value} {σ : St} {H : Heap} {locs : List Loc} {Q : Int32 → St → Prop} (S : SC A D ac st p m c cc nL s args "SweeperRoundsLaw" R cells slots F Lc) (hsz : ls.size = nL) (hG : DG A D ac ad s σ H locs) (hAA : ∀ q, s.heap.size ≤ q → A q) (hC : cells + 4 ≤ R.cells ∧ slots + 92 ≤ R.slots) (_hk : kd k = 9) (hM : Met l y_L_shift (Cond.code y_L_shift method_6_code 30 (some .boolean) :: wA) { frames := 6, cells := 4, slots := 92, locals := 142 } (va_Pc [.ref (ad k)] (GSs A D ac ad st σ)) (va_Qi Q (GSt A D ac ad st) A) 4 92 A) (hR : 6 + 1 ≤ F ∧ 8 + (30 + 11) + 142 ≤ Lc) (hcat : (rest.map fun v => v.category).sum ≤ 8) (hdg : decode cc pc = .ok (.invokestatic 74, 3))
    (kk : ∀ (r : Int32) (u : St), Q r u → ∀ (H1 : Heap) (locs1 : List Loc), SC A D ac st p m c cc nL s args "SweeperRoundsLaw" R (cells + 4) (slots + 92) F Lc → DG A D ac ad s u H1 locs1 → W p l e R s m args below meth c H1 locs1 (cells + 4) (slots + 92) QW (F0 m (pc + 3) ls (.int r :: rest))) : W p l e R s m args below meth c H locs cells slots QW (F0 m pc ls (.ref (ad k) :: rest)) := by
  refine va_calli (va_runS (As := [.ref (ad k)]) (rest := rest) S.1 hM (mcwk (n := 1) S wm_508 wm_509 wm_8 wm_510 (by decide) hR) ⟨GSs.blind, fun U hU hW => ⟨rfl, ⟨by rw [hU]; exact hG.1, hG.2.1, S.2.1.on hW hG.2.2 hU⟩, by rw [hU]; exact fun q hq => hAA q (Nat.le_trans hG.2.2.1 hq)⟩⟩ rfl rfl hsz rfl (lv_room hcat) hdg hC) hG.2.2 (fun q _ h => h) (fun q h => h) (fun r u t H1 locs1 ht hvm hq hB hz1 hk1 hS => ?_)
  subst ht
  exact kk r u hq t.heap locs1 ⟨S.1, S.2.1, hC, S.2.2.2⟩ ⟨hB.1, hB.2.1, hS⟩
end IVS
theorem d_L_law_8 : decode code 8 = .ok (.iconst 1, 1) := by decide +kernel
theorem d_L_law_9 : decode code 9 = .ok (.aload_n 0, 1) := by decide +kernel
theorem d_L_law_10 : decode code 10 = .ok (.iconst 0, 1) := by decide +kernel
theorem d_L_law_11 : decode code 11 = .ok (.invokestatic 10, 3) := by decide +kernel
theorem d_L_law_14 : decode code 14 = .ok (.iconst 3, 1) := by decide +kernel
theorem d_L_law_15 : decode code 15 = .ok (.invokestatic 16, 3) := by decide +kernel
theorem d_L_law_18 : decode code 18 = .ok (.iadd, 1) := by decide +kernel
theorem d_L_law_19 : decode code 19 = .ok (.istore_n 2, 1) := by decide +kernel
theorem d_L_law_20 : decode code 20 = .ok (.aload_n 0, 1) := by decide +kernel
theorem d_L_law_21 : decode code 21 = .ok (.iconst 0, 1) := by decide +kernel
theorem d_L_law_22 : decode code 22 = .ok (.invokestatic 10, 3) := by decide +kernel
theorem d_L_law_25 : decode code 25 = .ok (.iconst 3, 1) := by decide +kernel
theorem d_L_law_26 : decode code 26 = .ok (.ishr, 1) := by decide +kernel
theorem d_L_law_27 : decode code 27 = .ok (.bipush 6, 2) := by decide +kernel
theorem d_L_law_29 : decode code 29 = .ok (.invokestatic 16, 3) := by decide +kernel
theorem d_L_law_32 : decode code 32 = .ok (.istore_n 3, 1) := by decide +kernel
theorem d_L_law_33 : decode code 33 = .ok (.aload_n 1, 1) := by decide +kernel
theorem d_L_law_34 : decode code 34 = .ok (.aload_n 0, 1) := by decide +kernel
theorem d_L_law_35 : decode code 35 = .ok (.iconst 1, 1) := by decide +kernel
theorem d_L_law_36 : decode code 36 = .ok (.iload_n 2, 1) := by decide +kernel
theorem d_L_law_37 : decode code 37 = .ok (.iload_n 3, 1) := by decide +kernel
theorem d_L_law_38 : decode code 38 = .ok (.invokestatic 70, 3) := by decide +kernel
theorem d_L_law_41 : decode code 41 = .ok (.ifCond .eq 35, 3) := by decide +kernel
theorem d_L_law_44 : decode code 44 = .ok (.aload_n 1, 1) := by decide +kernel
theorem d_L_law_45 : decode code 45 = .ok (.invokestatic 65, 3) := by decide +kernel
theorem d_L_law_48 : decode code 48 = .ok (.ifCond .eq 28, 3) := by decide +kernel
theorem d_L_law_51 : decode code 51 = .ok (.iload_n 3, 1) := by decide +kernel
theorem d_L_law_52 : decode code 52 = .ok (.ifCond .le 14, 3) := by decide +kernel
theorem d_L_law_55 : decode code 55 = .ok (.aload_n 1, 1) := by decide +kernel
theorem d_L_law_56 : decode code 56 = .ok (.iconst 0, 1) := by decide +kernel
theorem d_L_law_57 : decode code 57 = .ok (.iconst 2, 1) := by decide +kernel
theorem d_L_law_58 : decode code 58 = .ok (.invokevirtual 52, 3) := by decide +kernel
theorem d_L_law_61 : decode code 61 = .ok (.bipush (-2), 2) := by decide +kernel
theorem d_L_law_63 : decode code 63 = .ok (.if_icmp .ne 13, 3) := by decide +kernel
theorem d_L_law_66 : decode code 66 = .ok (.aload_n 1, 1) := by decide +kernel
theorem d_L_law_67 : decode code 67 = .ok (.iconst 0, 1) := by decide +kernel
theorem d_L_law_68 : decode code 68 = .ok (.invokevirtual 62, 3) := by decide +kernel
theorem d_L_law_71 : decode code 71 = .ok (.bipush (-9), 2) := by decide +kernel
theorem d_L_law_73 : decode code 73 = .ok (.if_icmp .eq 5, 3) := by decide +kernel
theorem d_L_law_76 : decode code 76 = .ok (.iconst 0, 1) := by decide +kernel
theorem d_L_law_77 : decode code 77 = .ok (.ireturn, 1) := by decide +kernel
theorem d_L_law_78 : decode code 78 = .ok (.iconst 0, 1) := by decide +kernel
theorem d_L_law_79 : decode code 79 = .ok (.istore 4, 2) := by decide +kernel
theorem d_L_law_81 : decode code 81 = .ok (.iload 4, 2) := by decide +kernel
theorem d_L_law_83 : decode code 83 = .ok (.bipush 6, 2) := by decide +kernel
theorem d_L_law_85 : decode code 85 = .ok (.if_icmp .ge 226, 3) := by decide +kernel
theorem d_L_law_88 : decode code 88 = .ok (.aload_n 0, 1) := by decide +kernel
theorem d_L_law_89 : decode code 89 = .ok (.bipush 13, 2) := by decide +kernel
theorem d_L_law_91 : decode code 91 = .ok (.iload 4, 2) := by decide +kernel
theorem d_L_law_93 : decode code 93 = .ok (.iadd, 1) := by decide +kernel
theorem d_L_law_94 : decode code 94 = .ok (.invokestatic 10, 3) := by decide +kernel
theorem d_L_law_97 : decode code 97 = .ok (.istore 5, 2) := by decide +kernel
theorem d_L_law_99 : decode code 99 = .ok (.aload_n 1, 1) := by decide +kernel
theorem d_L_law_100 : decode code 100 = .ok (.invokestatic 74, 3) := by decide +kernel
theorem d_L_law_103 : decode code 103 = .ok (.ifCond .eq 16, 3) := by decide +kernel
theorem d_L_law_106 : decode code 106 = .ok (.aload_n 1, 1) := by decide +kernel
theorem d_L_law_107 : decode code 107 = .ok (.bipush 11, 2) := by decide +kernel
theorem d_L_law_109 : decode code 109 = .ok (.invokevirtual 44, 3) := by decide +kernel
theorem d_L_law_112 : decode code 112 = .ok (.iload 4, 2) := by decide +kernel
theorem d_L_law_114 : decode code 114 = .ok (.iconst 1, 1) := by decide +kernel
theorem d_L_law_115 : decode code 115 = .ok (.iadd, 1) := by decide +kernel
theorem d_L_law_116 : decode code 116 = .ok (.if_icmp .eq 5, 3) := by decide +kernel
theorem d_L_law_119 : decode code 119 = .ok (.iconst 0, 1) := by decide +kernel
theorem d_L_law_120 : decode code 120 = .ok (.ireturn, 1) := by decide +kernel
theorem d_L_law_121 : decode code 121 = .ok (.iload 5, 2) := by decide +kernel
theorem d_L_law_123 : decode code 123 = .ok (.iconst 5, 1) := by decide +kernel
theorem d_L_law_124 : decode code 124 = .ok (.invokestatic 16, 3) := by decide +kernel
theorem d_L_law_127 : decode code 127 = .ok (.istore 6, 2) := by decide +kernel
theorem d_L_law_129 : decode code 129 = .ok (.iload 6, 2) := by decide +kernel
theorem d_L_law_131 : decode code 131 = .ok (.ifCond .ne 21, 3) := by decide +kernel
theorem d_L_law_134 : decode code 134 = .ok (.aload_n 1, 1) := by decide +kernel
theorem d_L_law_135 : decode code 135 = .ok (.iconst 1, 1) := by decide +kernel
theorem d_L_law_136 : decode code 136 = .ok (.iload 5, 2) := by decide +kernel
theorem d_L_law_138 : decode code 138 = .ok (.iconst 3, 1) := by decide +kernel
theorem d_L_law_139 : decode code 139 = .ok (.ishr, 1) := by decide +kernel
theorem d_L_law_140 : decode code 140 = .ok (.bipush 9, 2) := by decide +kernel
theorem d_L_law_142 : decode code 142 = .ok (.invokestatic 16, 3) := by decide +kernel
theorem d_L_law_145 : decode code 145 = .ok (.iadd, 1) := by decide +kernel
theorem d_L_law_146 : decode code 146 = .ok (.invokevirtual 76, 3) := by decide +kernel
theorem d_L_law_149 : decode code 149 = .ok (.ifCond .lt 27, 3) := by decide +kernel
theorem d_L_law_152 : decode code 152 = .ok (.iload 6, 2) := by decide +kernel
theorem d_L_law_154 : decode code 154 = .ok (.iconst 1, 1) := by decide +kernel
theorem d_L_law_155 : decode code 155 = .ok (.if_icmp .ne 23, 3) := by decide +kernel
theorem d_L_law_158 : decode code 158 = .ok (.aload_n 1, 1) := by decide +kernel
theorem d_L_law_159 : decode code 159 = .ok (.iconst 1, 1) := by decide +kernel
theorem d_L_law_160 : decode code 160 = .ok (.iload 5, 2) := by decide +kernel
theorem d_L_law_162 : decode code 162 = .ok (.iconst 3, 1) := by decide +kernel
theorem d_L_law_163 : decode code 163 = .ok (.ishr, 1) := by decide +kernel
theorem d_L_law_164 : decode code 164 = .ok (.bipush 100, 2) := by decide +kernel
theorem d_L_law_166 : decode code 166 = .ok (.invokestatic 16, 3) := by decide +kernel
theorem d_L_law_169 : decode code 169 = .ok (.iadd, 1) := by decide +kernel
theorem d_L_law_170 : decode code 170 = .ok (.invokevirtual 79, 3) := by decide +kernel
theorem d_L_law_173 : decode code 173 = .ok (.ifCond .ge 5, 3) := by decide +kernel
theorem d_L_law_176 : decode code 176 = .ok (.iconst 0, 1) := by decide +kernel
theorem d_L_law_177 : decode code 177 = .ok (.ireturn, 1) := by decide +kernel
theorem d_L_law_178 : decode code 178 = .ok (.iload 6, 2) := by decide +kernel
theorem d_L_law_180 : decode code 180 = .ok (.iconst 2, 1) := by decide +kernel
theorem d_L_law_181 : decode code 181 = .ok (.if_icmp .ne 32, 3) := by decide +kernel
theorem d_L_law_184 : decode code 184 = .ok (.aload_n 1, 1) := by decide +kernel
theorem d_L_law_185 : decode code 185 = .ok (.iconst 2, 1) := by decide +kernel
theorem d_L_law_186 : decode code 186 = .ok (.invokevirtual 44, 3) := by decide +kernel
theorem d_L_law_189 : decode code 189 = .ok (.istore 7, 2) := by decide +kernel
theorem d_L_law_191 : decode code 191 = .ok (.aload_n 1, 1) := by decide +kernel
theorem d_L_law_192 : decode code 192 = .ok (.iconst 0, 1) := by decide +kernel
theorem d_L_law_193 : decode code 193 = .ok (.iconst 1, 1) := by decide +kernel
theorem d_L_law_194 : decode code 194 = .ok (.iload 5, 2) := by decide +kernel
theorem d_L_law_196 : decode code 196 = .ok (.iconst 3, 1) := by decide +kernel
theorem d_L_law_197 : decode code 197 = .ok (.ishr, 1) := by decide +kernel
theorem d_L_law_198 : decode code 198 = .ok (.iconst 4, 1) := by decide +kernel
theorem d_L_law_199 : decode code 199 = .ok (.invokestatic 16, 3) := by decide +kernel
theorem d_L_law_202 : decode code 202 = .ok (.iadd, 1) := by decide +kernel
theorem d_L_law_203 : decode code 203 = .ok (.invokevirtual 37, 3) := by decide +kernel
theorem d_L_law_206 : decode code 206 = .ok (.iload 7, 2) := by decide +kernel
theorem d_L_law_208 : decode code 208 = .ok (.if_icmp .eq 5, 3) := by decide +kernel
theorem d_L_law_211 : decode code 211 = .ok (.iconst 0, 1) := by decide +kernel
theorem d_L_law_212 : decode code 212 = .ok (.ireturn, 1) := by decide +kernel
theorem d_L_law_213 : decode code 213 = .ok (.iload 6, 2) := by decide +kernel
theorem d_L_law_215 : decode code 215 = .ok (.iconst 3, 1) := by decide +kernel
theorem d_L_law_216 : decode code 216 = .ok (.if_icmp .ne 80, 3) := by decide +kernel
theorem d_L_law_219 : decode code 219 = .ok (.iload 5, 2) := by decide +kernel
theorem d_L_law_221 : decode code 221 = .ok (.iconst 4, 1) := by decide +kernel
theorem d_L_law_222 : decode code 222 = .ok (.ishr, 1) := by decide +kernel
theorem d_L_law_223 : decode code 223 = .ok (.iconst 2, 1) := by decide +kernel
theorem d_L_law_224 : decode code 224 = .ok (.invokestatic 16, 3) := by decide +kernel
theorem d_L_law_227 : decode code 227 = .ok (.istore 7, 2) := by decide +kernel
theorem d_L_law_229 : decode code 229 = .ok (.iload 5, 2) := by decide +kernel
theorem d_L_law_231 : decode code 231 = .ok (.iconst 5, 1) := by decide +kernel
theorem d_L_law_232 : decode code 232 = .ok (.ishr, 1) := by decide +kernel
theorem d_L_law_233 : decode code 233 = .ok (.aload_n 1, 1) := by decide +kernel
theorem d_L_law_234 : decode code 234 = .ok (.iconst 0, 1) := by decide +kernel
theorem d_L_law_235 : decode code 235 = .ok (.iconst 0, 1) := by decide +kernel
theorem d_L_law_236 : decode code 236 = .ok (.invokevirtual 47, 3) := by decide +kernel
theorem d_L_law_239 : decode code 239 = .ok (.invokestatic 16, 3) := by decide +kernel
theorem d_L_law_242 : decode code 242 = .ok (.istore 8, 2) := by decide +kernel
theorem d_L_law_244 : decode code 244 = .ok (.aload_n 1, 1) := by decide +kernel
theorem d_L_law_245 : decode code 245 = .ok (.iconst 0, 1) := by decide +kernel
theorem d_L_law_246 : decode code 246 = .ok (.iload 7, 2) := by decide +kernel
theorem d_L_law_248 : decode code 248 = .ok (.iload 8, 2) := by decide +kernel
theorem d_L_law_250 : decode code 250 = .ok (.iconst 1, 1) := by decide +kernel
theorem d_L_law_251 : decode code 251 = .ok (.invokevirtual 50, 3) := by decide +kernel
theorem d_L_law_254 : decode code 254 = .ok (.istore 9, 2) := by decide +kernel
theorem d_L_law_256 : decode code 256 = .ok (.aload_n 1, 1) := by decide +kernel
theorem d_L_law_257 : decode code 257 = .ok (.iconst 0, 1) := by decide +kernel
theorem d_L_law_258 : decode code 258 = .ok (.iload 7, 2) := by decide +kernel
theorem d_L_law_260 : decode code 260 = .ok (.iload 8, 2) := by decide +kernel
theorem d_L_law_262 : decode code 262 = .ok (.iload 9, 2) := by decide +kernel
theorem d_L_law_264 : decode code 264 = .ok (.ifCond .ne 7, 3) := by decide +kernel
theorem d_L_law_267 : decode code 267 = .ok (.iconst 1, 1) := by decide +kernel
theorem d_L_law_268 : decode code 268 = .ok (.goto 4, 3) := by decide +kernel
theorem d_L_law_271 : decode code 271 = .ok (.iconst 0, 1) := by decide +kernel
theorem d_L_law_272 : decode code 272 = .ok (.invokevirtual 30, 3) := by decide +kernel
theorem d_L_law_275 : decode code 275 = .ok (.iload 9, 2) := by decide +kernel
theorem d_L_law_277 : decode code 277 = .ok (.if_icmp .ne 17, 3) := by decide +kernel
theorem d_L_law_280 : decode code 280 = .ok (.aload_n 1, 1) := by decide +kernel
theorem d_L_law_281 : decode code 281 = .ok (.iconst 0, 1) := by decide +kernel
theorem d_L_law_282 : decode code 282 = .ok (.iload 7, 2) := by decide +kernel
theorem d_L_law_284 : decode code 284 = .ok (.iload 8, 2) := by decide +kernel
theorem d_L_law_286 : decode code 286 = .ok (.bipush 99, 2) := by decide +kernel
theorem d_L_law_288 : decode code 288 = .ok (.invokevirtual 26, 3) := by decide +kernel
theorem d_L_law_291 : decode code 291 = .ok (.ifCond .ge 5, 3) := by decide +kernel
theorem d_L_law_294 : decode code 294 = .ok (.iconst 0, 1) := by decide +kernel
theorem d_L_law_295 : decode code 295 = .ok (.ireturn, 1) := by decide +kernel
theorem d_L_law_296 : decode code 296 = .ok (.aload_n 1, 1) := by decide +kernel
theorem d_L_law_297 : decode code 297 = .ok (.invokestatic 65, 3) := by decide +kernel
theorem d_L_law_300 : decode code 300 = .ok (.ifCond .ne 5, 3) := by decide +kernel
theorem d_L_law_303 : decode code 303 = .ok (.iconst 0, 1) := by decide +kernel
theorem d_L_law_304 : decode code 304 = .ok (.ireturn, 1) := by decide +kernel
theorem d_L_law_305 : decode code 305 = .ok (.iinc 4 1, 3) := by decide +kernel
theorem d_L_law_308 : decode code 308 = .ok (.goto (-227), 3) := by decide +kernel
theorem d_L_law_311 : decode code 311 = .ok (.iconst 1, 1) := by decide +kernel
theorem d_L_law_312 : decode code 312 = .ok (.ireturn, 1) := by decide +kernel
def m_L_law_296 (r1 : Nat) (x4 : Int32) (B81 : Int32 → St → Prop) (L : Nat) (xs : Nat → Int32) (Q : Int32 → St → Prop) (σ : St) : Prop :=
  m_L_balanced r1 (fun (v_2 : Int32) (σ_1 : St) => ((¬ v_2 = 0 → ∀ x4_3 : Int32, x4_3 = x4 + 1 → B81 x4_3 σ_1) ∧ (v_2 = 0 → Q (0 : Int32) σ_1))) σ
def m_L_law_272 (r1 : Nat) (x4 : Int32) (x7 : Int32) (x8 : Int32) (x9 : Int32) (B81 : Int32 → St → Prop) (L : Nat) (xs : Nat → Int32) (Q : Int32 → St → Prop) (t0 : Int32) (t1 : Int32) (t2 : Int32) (t3 : Int32) (t4 : Nat) (σ : St) : Prop :=
  m_9_park t4 t3 t2 t1 t0 (fun (v_2 : Int32) (σ_1 : St) => ((¬ v_2 = x9 → Q (0 : Int32) σ_1) ∧ (v_2 = x9 → m_9_lay r1 (0 : Int32) x7 x8 (99 : Int32) (fun (v_4 : Int32) (σ_3 : St) => ((0 ≤ v_4 → m_L_law_296 r1 x4 B81 L xs Q   σ_3) ∧ (¬ 0 ≤ v_4 → Q (0 : Int32) σ_3))) σ_1))) σ
def m_L_law_213 (r1 : Nat) (x4 : Int32) (x5 : Int32) (x6 : Int32) (B81 : Int32 → St → Prop) (L : Nat) (xs : Nat → Int32) (Q : Int32 → St → Prop) (σ : St) : Prop :=
  ((¬ x6 = (3 : Int32) → m_L_law_296 r1 x4 B81 L xs Q   σ) ∧ (x6 = (3 : Int32) → m_L_low (x5 >>> ((4 : Int32) &&& 31)) (2 : Int32) (fun (v_2 : Int32) (σ_1 : St) => m_9_street r1 (0 : Int32) (0 : Int32) (fun (v_4 : Int32) (σ_3 : St) => m_L_low (x5 >>> ((5 : Int32) &&& 31)) v_4 (fun (v_6 : Int32) (σ_5 : St) => m_9_cell r1 (0 : Int32) v_2 v_6 (1 : Int32) (fun (v_8 : Int32) (σ_7 : St) => ((¬ v_8 = 0 → m_L_law_272 r1 x4 v_2 v_6 v_8 B81 L xs Q  (0 : Int32) v_6 v_2 (0 : Int32) r1 σ_7) ∧ (v_8 = 0 → m_L_law_272 r1 x4 v_2 v_6 v_8 B81 L xs Q  (1 : Int32) v_6 v_2 (0 : Int32) r1 σ_7))) σ_5) σ_3) σ_1) σ))
def m_L_law_178 (r1 : Nat) (x4 : Int32) (x5 : Int32) (x6 : Int32) (B81 : Int32 → St → Prop) (L : Nat) (xs : Nat → Int32) (Q : Int32 → St → Prop) (σ : St) : Prop :=
  ((¬ x6 = (2 : Int32) → m_L_law_213 r1 x4 x5 x6 B81 L xs Q   σ) ∧ (x6 = (2 : Int32) → m_9_count r1 (2 : Int32) (fun (v_2 : Int32) (σ_1 : St) => m_L_low (x5 >>> ((3 : Int32) &&& 31)) (4 : Int32) (fun (v_4 : Int32) (σ_3 : St) => m_9_set r1 (0 : Int32) ((1 : Int32) + v_4) (fun (v_6 : Int32) (σ_5 : St) => ((v_6 = v_2 → m_L_law_213 r1 x4 x5 x6 B81 L xs Q   σ_5) ∧ (¬ v_6 = v_2 → Q (0 : Int32) σ_5))) σ_3) σ_1) σ))
def m_L_law_152 (r1 : Nat) (x4 : Int32) (x5 : Int32) (x6 : Int32) (B81 : Int32 → St → Prop) (L : Nat) (xs : Nat → Int32) (Q : Int32 → St → Prop) (σ : St) : Prop :=
  ((¬ x6 = (1 : Int32) → m_L_law_178 r1 x4 x5 x6 B81 L xs Q   σ) ∧ (x6 = (1 : Int32) → m_L_low (x5 >>> ((3 : Int32) &&& 31)) (100 : Int32) (fun (v_2 : Int32) (σ_1 : St) => m_9_rain r1 ((1 : Int32) + v_2) (fun (v_4 : Int32) (σ_3 : St) => ((0 ≤ v_4 → m_L_law_178 r1 x4 x5 x6 B81 L xs Q   σ_3) ∧ (¬ 0 ≤ v_4 → Q (0 : Int32) σ_3))) σ_1) σ))
def m_L_law_81 (r1 : Nat) (L : Nat) (xs : Nat → Int32) (Q : Int32 → St → Prop) (B81 : Int32 → St → Prop) (x4 : Int32) (σ : St) : Prop :=
  (((6 : Int32) ≤ x4 → Q (1 : Int32) σ) ∧ (¬ (6 : Int32) ≤ x4 → m_L_cell ((13 : Int32) + x4) L xs (fun (v_2 : Int32) (σ_1 : St) => m_L_shift r1 (fun (v_4 : Int32) (σ_3 : St) => ((v_4 = 0 → Q (0 : Int32) σ_3) ∧ (¬ v_4 = 0 → m_9_count r1 (11 : Int32) (fun (v_6 : Int32) (σ_5 : St) => ((v_6 = (x4 + (1 : Int32)) → m_L_low v_2 (5 : Int32) (fun (v_8 : Int32) (σ_7 : St) => ((¬ v_8 = 0 → m_L_law_152 r1 x4 v_2 v_8 B81 L xs Q   σ_7) ∧ (v_8 = 0 → m_L_low (v_2 >>> ((3 : Int32) &&& 31)) (9 : Int32) (fun (v_10 : Int32) (σ_9 : St) => m_9_night r1 ((1 : Int32) + v_10) (fun (v_12 : Int32) (σ_11 : St) => ((v_12 < 0 → Q (0 : Int32) σ_11) ∧ (¬ v_12 < 0 → m_L_law_152 r1 x4 v_2 v_8 B81 L xs Q   σ_11))) σ_9) σ_7))) σ_5) ∧ (¬ v_6 = (x4 + (1 : Int32)) → Q (0 : Int32) σ_5))) σ_3))) σ_1) σ))
def m_L_law_66 (r1 : Nat) (L : Nat) (xs : Nat → Int32) (Q : Int32 → St → Prop) (σ : St) : Prop :=
  m_9_latest r1 (0 : Int32) (fun (v_2 : Int32) (σ_1 : St) => ((v_2 = (-9 : Int32) → itN (m_L_law_81 r1 L xs Q) (fun _ _ => False) 7 (0 : Int32) σ_1) ∧ (¬ v_2 = (-9 : Int32) → Q (0 : Int32) σ_1))) σ
def m_L_law (r1 : Nat) (L : Nat) (xs : Nat → Int32) (Q : Int32 → St → Prop) (σ : St) : Prop :=
  m_L_cell (0 : Int32) L xs (fun (v_2 : Int32) (σ_1 : St) => m_L_low v_2 (3 : Int32) (fun (v_4 : Int32) (σ_3 : St) => ∀ x2_5 : Int32, x2_5 = ((1 : Int32) + v_4) → m_L_cell (0 : Int32) L xs (fun (v_7 : Int32) (σ_6 : St) => m_L_low (v_7 >>> ((3 : Int32) &&& 31)) (6 : Int32) (fun (v_9 : Int32) (σ_8 : St) => m_L_town r1 (1 : Int32) x2_5 v_9 L xs (fun (v_11 : Int32) (σ_10 : St) => ((v_11 = 0 → Q (0 : Int32) σ_10) ∧ (¬ v_11 = 0 → m_L_balanced r1 (fun (v_13 : Int32) (σ_12 : St) => ((v_13 = 0 → Q (0 : Int32) σ_12) ∧ (¬ v_13 = 0 → ((v_9 ≤ 0 → m_L_law_66 r1 L xs Q   σ_12) ∧ (¬ v_9 ≤ 0 → m_9_leg r1 (0 : Int32) (2 : Int32) (fun (v_15 : Int32) (σ_14 : St) => ((¬ v_15 = (-2 : Int32) → Q (0 : Int32) σ_14) ∧ (v_15 = (-2 : Int32) → m_L_law_66 r1 L xs Q   σ_14))) σ_12))))) σ_10))) σ_8) σ_6) σ_3) σ_1) σ
section LB
variable {p : Program} {l : Launch} {e : Env} {R : Room} {s : State} {m : MethodId} {args : Array Value} {below : List Frame} {meth : Method} {c : Code} {cells slots : Nat} {QW : State → Prop}
variable {D : va_G} {ac : Nat → ClassId} {ad : Nat → Nat} {st : SS} {A : Nat → Prop}
set_option maxHeartbeats 4000000 in
set_option maxRecDepth 100000 in
theorem w_L_law_296 {r1 : Nat} {x4 : Int32} {B81 : Int32 → St → Prop} {Q : Int32 → St → Prop} {σ : St} {H : Heap} {locs : List Loc} {ls : Array Slot} {N : Nat} (S : SC A D ac st p m c code 10 s args "SweeperRoundsLaw" R cells slots 7 191) (hC : cells + 4 * N ≤ R.cells ∧ slots + 92 * N ≤ R.slots) (hAA : ad 999 = 0 ∧ ∀ q, s.heap.size ≤ q → A q) (hR : ∀ (cells slots : Nat), SC A D ac st p m c code 10 s args "SweeperRoundsLaw" R cells slots 7 191 → RtI A D ac ad p l e R s m args below meth c code cells slots QW Q) (hk_r1 : kd r1 = 9) (hB81 : ∀ (x4 : Int32) (σ : St) (H : Heap) (locs : List Loc) (ls : Array Slot) (cells slots : Nat), SC A D ac st p m c code 10 s args "SweeperRoundsLaw" R cells slots 7 191 → (cells + 4 * N ≤ R.cells ∧ slots + 92 * N ≤ R.slots) → DG A D ac ad s σ H locs → lv_has ls 10 [(0, .ref (st.1 3)), (1, .ref (ad r1)), (4, .int x4)] → B81 x4 σ → W p l e R s m args below meth c H locs cells slots QW (F0 m 81 ls [])) (hG : DG A D ac ad s σ H locs) (hl : lv_has ls 10 [(0, .ref (st.1 3)), (1, .ref (ad r1)), (4, .int x4)]) (hf : m_L_law_296 r1 x4 B81 st.2.1 st.2.2 Q σ) : W p l e R s m args below meth c H locs cells slots QW (F0 m 296 ls []) := by
  have hx := S.1.1
  have hb := S.1.2.1
  unfold m_L_law_296 at hf
  refine lv_aload_n hx hb d_L_law_296 rfl (lv_at hl 1 rfl) ?_
  refine iv_L_65 S hl.1 hG  (c_L_balanced l hk_r1 hf) ⟨Nat.le_of_ble_eq_true rfl, Nat.le_of_ble_eq_true rfl⟩ (Nat.le_of_ble_eq_true rfl) d_L_law_297 (fun v_2 σ_1 hf H locs hG => ?_)
  refine lv_if_ne (tgt := 305) hx hb d_L_law_300 (by decide) (fun hc => ?_) (fun hc => ?_)
  · have hf := hf.1 hc
    obtain ⟨x4_3, ex4_3⟩ : ∃ y : Int32, y = x4 + 1 := ⟨_, rfl⟩
    have hf := hf x4_3 ex4_3
    refine lv_iinc (v := x4_3) (lv' := [(4, .int x4_3), (0, .ref (st.1 3)), (1, .ref (ad r1))]) hx hb d_L_law_305 hl (k := 2) rfl (by rw [ex4_3]; rfl) (by decide) rfl (fun ls hl => ?_)
    refine lv_goto (tgt := 81) hx hb d_L_law_308 (by decide) ?_
    exact hB81 _ _ _ _ _ _ _ S hC  hG (lv_sub hl [1, 2, 0] rfl) hf
  · have hf := hf.2 hc
    refine lv_iconst (v := (0 : Int32)) hx hb d_L_law_303 (by decide) ?_
    exact hR _ _ S _ _ _ _ _ _ hG hf d_L_law_304
set_option maxHeartbeats 4000000 in
set_option maxRecDepth 100000 in
theorem w_L_law_272 {r1 : Nat} {x4 : Int32} {x7 : Int32} {x8 : Int32} {x9 : Int32} {B81 : Int32 → St → Prop} {Q : Int32 → St → Prop} {t0 : Int32} {t1 : Int32} {t2 : Int32} {t3 : Int32} {t4 : Nat} {σ : St} {H : Heap} {locs : List Loc} {ls : Array Slot} {N : Nat} (S : SC A D ac st p m c code 10 s args "SweeperRoundsLaw" R cells slots 7 191) (hC : cells + 4 * N ≤ R.cells ∧ slots + 92 * N ≤ R.slots) (hAA : ad 999 = 0 ∧ ∀ q, s.heap.size ≤ q → A q) (hR : ∀ (cells slots : Nat), SC A D ac st p m c code 10 s args "SweeperRoundsLaw" R cells slots 7 191 → RtI A D ac ad p l e R s m args below meth c code cells slots QW Q) (hk_r1 : kd r1 = 9) (hk_t4 : kd t4 = 9) (hB81 : ∀ (x4 : Int32) (σ : St) (H : Heap) (locs : List Loc) (ls : Array Slot) (cells slots : Nat), SC A D ac st p m c code 10 s args "SweeperRoundsLaw" R cells slots 7 191 → (cells + 4 * N ≤ R.cells ∧ slots + 92 * N ≤ R.slots) → DG A D ac ad s σ H locs → lv_has ls 10 [(0, .ref (st.1 3)), (1, .ref (ad r1)), (4, .int x4)] → B81 x4 σ → W p l e R s m args below meth c H locs cells slots QW (F0 m 81 ls [])) (hG : DG A D ac ad s σ H locs) (hl : lv_has ls 10 [(0, .ref (st.1 3)), (1, .ref (ad r1)), (4, .int x4), (7, .int x7), (8, .int x8), (9, .int x9)]) (hf : m_L_law_272 r1 x4 x7 x8 x9 B81 st.2.1 st.2.2 Q t0 t1 t2 t3 t4 σ) : W p l e R s m args below meth c H locs cells slots QW (F0 m 272 ls [.int t0, .int t1, .int t2, .int t3, .ref (ad t4)]) := by
  have hx := S.1.1
  have hb := S.1.2.1
  unfold m_L_law_272 at hf
  refine iv_L_30 S hl.1 hG hk_t4 (c_9_park l hk_t4 hf) ⟨Nat.le_of_ble_eq_true rfl, Nat.le_of_ble_eq_true rfl⟩ (Nat.le_of_ble_eq_true rfl) d_L_law_272 (fun v_2 σ_1 hf H locs hG => ?_)
  refine lv_iload hx hb d_L_law_275 (lv_at hl 5 rfl) ?_
  refine lv_icmp_ne (tgt := 294) hx hb d_L_law_277 (by decide) (fun hc => ?_) (fun hc => ?_)
  · have hf := hf.1 hc
    refine lv_iconst (v := (0 : Int32)) hx hb d_L_law_294 (by decide) ?_
    exact hR _ _ S _ _ _ _ _ _ hG hf d_L_law_295
  · have hf := hf.2 hc
    refine lv_aload_n hx hb d_L_law_280 rfl (lv_at hl 1 rfl) ?_
    refine lv_iconst (v := (0 : Int32)) hx hb d_L_law_281 (by decide) ?_
    refine lv_iload hx hb d_L_law_282 (lv_at hl 3 rfl) ?_
    refine lv_iload hx hb d_L_law_284 (lv_at hl 4 rfl) ?_
    refine lv_bipush (v := (99 : Int32)) hx hb d_L_law_286 (by decide) ?_
    refine iv_L_26 S hl.1 hG hk_r1 (c_9_lay l hk_r1 hf) ⟨Nat.le_of_ble_eq_true rfl, Nat.le_of_ble_eq_true rfl⟩ (Nat.le_of_ble_eq_true rfl) d_L_law_288 (fun v_4 σ_3 hf H locs hG => ?_)
    refine lv_if_ge (tgt := 296) hx hb d_L_law_291 (by decide) (fun hc => ?_) (fun hc => ?_)
    · have hf := hf.1 hc
      exact w_L_law_296 S hC hAA hR hk_r1   hB81 hG (lv_sub hl [0, 1, 2] rfl) hf
    · have hf := hf.2 hc
      refine lv_iconst (v := (0 : Int32)) hx hb d_L_law_294 (by decide) ?_
      exact hR _ _ S _ _ _ _ _ _ hG hf d_L_law_295
set_option maxHeartbeats 4000000 in
set_option maxRecDepth 100000 in
theorem w_L_law_213 {r1 : Nat} {x4 : Int32} {x5 : Int32} {x6 : Int32} {B81 : Int32 → St → Prop} {Q : Int32 → St → Prop} {σ : St} {H : Heap} {locs : List Loc} {ls : Array Slot} {N : Nat} (S : SC A D ac st p m c code 10 s args "SweeperRoundsLaw" R cells slots 7 191) (hC : cells + 4 * N ≤ R.cells ∧ slots + 92 * N ≤ R.slots) (hAA : ad 999 = 0 ∧ ∀ q, s.heap.size ≤ q → A q) (hR : ∀ (cells slots : Nat), SC A D ac st p m c code 10 s args "SweeperRoundsLaw" R cells slots 7 191 → RtI A D ac ad p l e R s m args below meth c code cells slots QW Q) (hk_r1 : kd r1 = 9) (hB81 : ∀ (x4 : Int32) (σ : St) (H : Heap) (locs : List Loc) (ls : Array Slot) (cells slots : Nat), SC A D ac st p m c code 10 s args "SweeperRoundsLaw" R cells slots 7 191 → (cells + 4 * N ≤ R.cells ∧ slots + 92 * N ≤ R.slots) → DG A D ac ad s σ H locs → lv_has ls 10 [(0, .ref (st.1 3)), (1, .ref (ad r1)), (4, .int x4)] → B81 x4 σ → W p l e R s m args below meth c H locs cells slots QW (F0 m 81 ls [])) (hG : DG A D ac ad s σ H locs) (hl : lv_has ls 10 [(0, .ref (st.1 3)), (1, .ref (ad r1)), (4, .int x4), (5, .int x5), (6, .int x6)]) (hf : m_L_law_213 r1 x4 x5 x6 B81 st.2.1 st.2.2 Q σ) : W p l e R s m args below meth c H locs cells slots QW (F0 m 213 ls []) := by
  have hx := S.1.1
  have hb := S.1.2.1
  unfold m_L_law_213 at hf
  refine lv_iload hx hb d_L_law_213 (lv_at hl 4 rfl) ?_
  refine lv_iconst (v := (3 : Int32)) hx hb d_L_law_215 (by decide) ?_
  refine lv_icmp_ne (tgt := 296) hx hb d_L_law_216 (by decide) (fun hc => ?_) (fun hc => ?_)
  · have hf := hf.1 hc
    exact w_L_law_296 S hC hAA hR hk_r1   hB81 hG (lv_sub hl [0, 1, 2] rfl) hf
  · have hf := hf.2 hc
    refine lv_iload hx hb d_L_law_219 (lv_at hl 3 rfl) ?_
    refine lv_iconst (v := (4 : Int32)) hx hb d_L_law_221 (by decide) ?_
    refine lv_ishr hx hb d_L_law_222 ?_
    refine lv_iconst (v := (2 : Int32)) hx hb d_L_law_223 (by decide) ?_
    refine iv_L_16 S hl.1 hG  (c_L_low l  hf) ⟨Nat.le_of_ble_eq_true rfl, Nat.le_of_ble_eq_true rfl⟩ (Nat.le_of_ble_eq_true rfl) d_L_law_224 (fun v_2 σ_1 hf H locs hG => ?_)
    refine lv_istore (lv' := [(7, .int v_2), (0, .ref (st.1 3)), (1, .ref (ad r1)), (4, .int x4), (5, .int x5), (6, .int x6)]) hx hb d_L_law_227 hl (by decide) rfl (fun ls hl => ?_)
    refine lv_iload hx hb d_L_law_229 (lv_at hl 4 rfl) ?_
    refine lv_iconst (v := (5 : Int32)) hx hb d_L_law_231 (by decide) ?_
    refine lv_ishr hx hb d_L_law_232 ?_
    refine lv_aload_n hx hb d_L_law_233 rfl (lv_at hl 2 rfl) ?_
    refine lv_iconst (v := (0 : Int32)) hx hb d_L_law_234 (by decide) ?_
    refine lv_iconst (v := (0 : Int32)) hx hb d_L_law_235 (by decide) ?_
    refine iv_L_47 S hl.1 hG hk_r1 (c_9_street l hk_r1 hf) ⟨Nat.le_of_ble_eq_true rfl, Nat.le_of_ble_eq_true rfl⟩ (Nat.le_of_ble_eq_true rfl) d_L_law_236 (fun v_4 σ_3 hf H locs hG => ?_)
    refine iv_L_16 S hl.1 hG  (c_L_low l  hf) ⟨Nat.le_of_ble_eq_true rfl, Nat.le_of_ble_eq_true rfl⟩ (Nat.le_of_ble_eq_true rfl) d_L_law_239 (fun v_6 σ_5 hf H locs hG => ?_)
    refine lv_istore (lv' := [(8, .int v_6), (7, .int v_2), (0, .ref (st.1 3)), (1, .ref (ad r1)), (4, .int x4), (5, .int x5), (6, .int x6)]) hx hb d_L_law_242 hl (by decide) rfl (fun ls hl => ?_)
    refine lv_aload_n hx hb d_L_law_244 rfl (lv_at hl 3 rfl) ?_
    refine lv_iconst (v := (0 : Int32)) hx hb d_L_law_245 (by decide) ?_
    refine lv_iload hx hb d_L_law_246 (lv_at hl 1 rfl) ?_
    refine lv_iload hx hb d_L_law_248 (lv_at hl 0 rfl) ?_
    refine lv_iconst (v := (1 : Int32)) hx hb d_L_law_250 (by decide) ?_
    refine iv_L_50 S hl.1 hG hk_r1 (c_9_cell l hk_r1 hf) ⟨Nat.le_of_ble_eq_true rfl, Nat.le_of_ble_eq_true rfl⟩ (Nat.le_of_ble_eq_true rfl) d_L_law_251 (fun v_8 σ_7 hf H locs hG => ?_)
    refine lv_istore (lv' := [(9, .int v_8), (8, .int v_6), (7, .int v_2), (0, .ref (st.1 3)), (1, .ref (ad r1)), (4, .int x4), (5, .int x5), (6, .int x6)]) hx hb d_L_law_254 hl (by decide) rfl (fun ls hl => ?_)
    refine lv_aload_n hx hb d_L_law_256 rfl (lv_at hl 4 rfl) ?_
    refine lv_iconst (v := (0 : Int32)) hx hb d_L_law_257 (by decide) ?_
    refine lv_iload hx hb d_L_law_258 (lv_at hl 2 rfl) ?_
    refine lv_iload hx hb d_L_law_260 (lv_at hl 1 rfl) ?_
    refine lv_iload hx hb d_L_law_262 (lv_at hl 0 rfl) ?_
    refine lv_if_ne (tgt := 271) hx hb d_L_law_264 (by decide) (fun hc => ?_) (fun hc => ?_)
    · have hf := hf.1 hc
      refine lv_iconst (v := (0 : Int32)) hx hb d_L_law_271 (by decide) ?_
      exact w_L_law_272 S hC hAA hR hk_r1  hk_r1 hB81 hG (lv_sub hl [3, 4, 5, 2, 1, 0] rfl) hf
    · have hf := hf.2 hc
      refine lv_iconst (v := (1 : Int32)) hx hb d_L_law_267 (by decide) ?_
      refine lv_goto (tgt := 272) hx hb d_L_law_268 (by decide) ?_
      exact w_L_law_272 S hC hAA hR hk_r1  hk_r1 hB81 hG (lv_sub hl [3, 4, 5, 2, 1, 0] rfl) hf
set_option maxHeartbeats 4000000 in
set_option maxRecDepth 100000 in
theorem w_L_law_178 {r1 : Nat} {x4 : Int32} {x5 : Int32} {x6 : Int32} {B81 : Int32 → St → Prop} {Q : Int32 → St → Prop} {σ : St} {H : Heap} {locs : List Loc} {ls : Array Slot} {N : Nat} (S : SC A D ac st p m c code 10 s args "SweeperRoundsLaw" R cells slots 7 191) (hC : cells + 4 * N ≤ R.cells ∧ slots + 92 * N ≤ R.slots) (hAA : ad 999 = 0 ∧ ∀ q, s.heap.size ≤ q → A q) (hR : ∀ (cells slots : Nat), SC A D ac st p m c code 10 s args "SweeperRoundsLaw" R cells slots 7 191 → RtI A D ac ad p l e R s m args below meth c code cells slots QW Q) (hk_r1 : kd r1 = 9) (hB81 : ∀ (x4 : Int32) (σ : St) (H : Heap) (locs : List Loc) (ls : Array Slot) (cells slots : Nat), SC A D ac st p m c code 10 s args "SweeperRoundsLaw" R cells slots 7 191 → (cells + 4 * N ≤ R.cells ∧ slots + 92 * N ≤ R.slots) → DG A D ac ad s σ H locs → lv_has ls 10 [(0, .ref (st.1 3)), (1, .ref (ad r1)), (4, .int x4)] → B81 x4 σ → W p l e R s m args below meth c H locs cells slots QW (F0 m 81 ls [])) (hG : DG A D ac ad s σ H locs) (hl : lv_has ls 10 [(0, .ref (st.1 3)), (1, .ref (ad r1)), (4, .int x4), (5, .int x5), (6, .int x6)]) (hf : m_L_law_178 r1 x4 x5 x6 B81 st.2.1 st.2.2 Q σ) : W p l e R s m args below meth c H locs cells slots QW (F0 m 178 ls []) := by
  have hx := S.1.1
  have hb := S.1.2.1
  unfold m_L_law_178 at hf
  refine lv_iload hx hb d_L_law_178 (lv_at hl 4 rfl) ?_
  refine lv_iconst (v := (2 : Int32)) hx hb d_L_law_180 (by decide) ?_
  refine lv_icmp_ne (tgt := 213) hx hb d_L_law_181 (by decide) (fun hc => ?_) (fun hc => ?_)
  · have hf := hf.1 hc
    exact w_L_law_213 S hC hAA hR hk_r1   hB81 hG (lv_sub hl [0, 1, 2, 3, 4] rfl) hf
  · have hf := hf.2 hc
    refine lv_aload_n hx hb d_L_law_184 rfl (lv_at hl 1 rfl) ?_
    refine lv_iconst (v := (2 : Int32)) hx hb d_L_law_185 (by decide) ?_
    refine iv_L_44 S hl.1 hG hk_r1 (c_9_count l hk_r1 hf) ⟨Nat.le_of_ble_eq_true rfl, Nat.le_of_ble_eq_true rfl⟩ (Nat.le_of_ble_eq_true rfl) d_L_law_186 (fun v_2 σ_1 hf H locs hG => ?_)
    refine lv_istore (lv' := [(7, .int v_2), (0, .ref (st.1 3)), (1, .ref (ad r1)), (4, .int x4), (5, .int x5), (6, .int x6)]) hx hb d_L_law_189 hl (by decide) rfl (fun ls hl => ?_)
    refine lv_aload_n hx hb d_L_law_191 rfl (lv_at hl 2 rfl) ?_
    refine lv_iconst (v := (0 : Int32)) hx hb d_L_law_192 (by decide) ?_
    refine lv_iconst (v := (1 : Int32)) hx hb d_L_law_193 (by decide) ?_
    refine lv_iload hx hb d_L_law_194 (lv_at hl 4 rfl) ?_
    refine lv_iconst (v := (3 : Int32)) hx hb d_L_law_196 (by decide) ?_
    refine lv_ishr hx hb d_L_law_197 ?_
    refine lv_iconst (v := (4 : Int32)) hx hb d_L_law_198 (by decide) ?_
    refine iv_L_16 S hl.1 hG  (c_L_low l  hf) ⟨Nat.le_of_ble_eq_true rfl, Nat.le_of_ble_eq_true rfl⟩ (Nat.le_of_ble_eq_true rfl) d_L_law_199 (fun v_4 σ_3 hf H locs hG => ?_)
    refine lv_iadd hx hb d_L_law_202 ?_
    refine iv_L_37 S hl.1 hG hk_r1 (c_9_set l hk_r1 hf) ⟨Nat.le_of_ble_eq_true rfl, Nat.le_of_ble_eq_true rfl⟩ (Nat.le_of_ble_eq_true rfl) d_L_law_203 (fun v_6 σ_5 hf H locs hG => ?_)
    refine lv_iload hx hb d_L_law_206 (lv_at hl 0 rfl) ?_
    refine lv_icmp_eq (tgt := 213) hx hb d_L_law_208 (by decide) (fun hc => ?_) (fun hc => ?_)
    · have hf := hf.1 hc
      exact w_L_law_213 S hC hAA hR hk_r1   hB81 hG (lv_sub hl [1, 2, 3, 4, 5] rfl) hf
    · have hf := hf.2 hc
      refine lv_iconst (v := (0 : Int32)) hx hb d_L_law_211 (by decide) ?_
      exact hR _ _ S _ _ _ _ _ _ hG hf d_L_law_212
set_option maxHeartbeats 4000000 in
set_option maxRecDepth 100000 in
theorem w_L_law_152 {r1 : Nat} {x4 : Int32} {x5 : Int32} {x6 : Int32} {B81 : Int32 → St → Prop} {Q : Int32 → St → Prop} {σ : St} {H : Heap} {locs : List Loc} {ls : Array Slot} {N : Nat} (S : SC A D ac st p m c code 10 s args "SweeperRoundsLaw" R cells slots 7 191) (hC : cells + 4 * N ≤ R.cells ∧ slots + 92 * N ≤ R.slots) (hAA : ad 999 = 0 ∧ ∀ q, s.heap.size ≤ q → A q) (hR : ∀ (cells slots : Nat), SC A D ac st p m c code 10 s args "SweeperRoundsLaw" R cells slots 7 191 → RtI A D ac ad p l e R s m args below meth c code cells slots QW Q) (hk_r1 : kd r1 = 9) (hB81 : ∀ (x4 : Int32) (σ : St) (H : Heap) (locs : List Loc) (ls : Array Slot) (cells slots : Nat), SC A D ac st p m c code 10 s args "SweeperRoundsLaw" R cells slots 7 191 → (cells + 4 * N ≤ R.cells ∧ slots + 92 * N ≤ R.slots) → DG A D ac ad s σ H locs → lv_has ls 10 [(0, .ref (st.1 3)), (1, .ref (ad r1)), (4, .int x4)] → B81 x4 σ → W p l e R s m args below meth c H locs cells slots QW (F0 m 81 ls [])) (hG : DG A D ac ad s σ H locs) (hl : lv_has ls 10 [(0, .ref (st.1 3)), (1, .ref (ad r1)), (4, .int x4), (5, .int x5), (6, .int x6)]) (hf : m_L_law_152 r1 x4 x5 x6 B81 st.2.1 st.2.2 Q σ) : W p l e R s m args below meth c H locs cells slots QW (F0 m 152 ls []) := by
  have hx := S.1.1
  have hb := S.1.2.1
  unfold m_L_law_152 at hf
  refine lv_iload hx hb d_L_law_152 (lv_at hl 4 rfl) ?_
  refine lv_iconst (v := (1 : Int32)) hx hb d_L_law_154 (by decide) ?_
  refine lv_icmp_ne (tgt := 178) hx hb d_L_law_155 (by decide) (fun hc => ?_) (fun hc => ?_)
  · have hf := hf.1 hc
    exact w_L_law_178 S hC hAA hR hk_r1   hB81 hG (lv_sub hl [0, 1, 2, 3, 4] rfl) hf
  · have hf := hf.2 hc
    refine lv_aload_n hx hb d_L_law_158 rfl (lv_at hl 1 rfl) ?_
    refine lv_iconst (v := (1 : Int32)) hx hb d_L_law_159 (by decide) ?_
    refine lv_iload hx hb d_L_law_160 (lv_at hl 3 rfl) ?_
    refine lv_iconst (v := (3 : Int32)) hx hb d_L_law_162 (by decide) ?_
    refine lv_ishr hx hb d_L_law_163 ?_
    refine lv_bipush (v := (100 : Int32)) hx hb d_L_law_164 (by decide) ?_
    refine iv_L_16 S hl.1 hG  (c_L_low l  hf) ⟨Nat.le_of_ble_eq_true rfl, Nat.le_of_ble_eq_true rfl⟩ (Nat.le_of_ble_eq_true rfl) d_L_law_166 (fun v_2 σ_1 hf H locs hG => ?_)
    refine lv_iadd hx hb d_L_law_169 ?_
    refine iv_L_79 S hl.1 hG hk_r1 (c_9_rain l hk_r1 hf) ⟨Nat.le_of_ble_eq_true rfl, Nat.le_of_ble_eq_true rfl⟩ (Nat.le_of_ble_eq_true rfl) d_L_law_170 (fun v_4 σ_3 hf H locs hG => ?_)
    refine lv_if_ge (tgt := 178) hx hb d_L_law_173 (by decide) (fun hc => ?_) (fun hc => ?_)
    · have hf := hf.1 hc
      exact w_L_law_178 S hC hAA hR hk_r1   hB81 hG (lv_sub hl [0, 1, 2, 3, 4] rfl) hf
    · have hf := hf.2 hc
      refine lv_iconst (v := (0 : Int32)) hx hb d_L_law_176 (by decide) ?_
      exact hR _ _ S _ _ _ _ _ _ hG hf d_L_law_177
set_option maxHeartbeats 4000000 in
set_option maxRecDepth 100000 in
theorem w_L_law_81 {r1 : Nat} {Q : Int32 → St → Prop} {B81 : Int32 → St → Prop} {x4 : Int32} {σ : St} {H : Heap} {locs : List Loc} {ls : Array Slot} {N : Nat} (S : SC A D ac st p m c code 10 s args "SweeperRoundsLaw" R cells slots 7 191) (hC : cells + 4 * (N + 1) ≤ R.cells ∧ slots + 92 * (N + 1) ≤ R.slots) (hAA : ad 999 = 0 ∧ ∀ q, s.heap.size ≤ q → A q) (hR : ∀ (cells slots : Nat), SC A D ac st p m c code 10 s args "SweeperRoundsLaw" R cells slots 7 191 → RtI A D ac ad p l e R s m args below meth c code cells slots QW Q) (hk_r1 : kd r1 = 9) (hB81 : ∀ (x4 : Int32) (σ : St) (H : Heap) (locs : List Loc) (ls : Array Slot) (cells slots : Nat), SC A D ac st p m c code 10 s args "SweeperRoundsLaw" R cells slots 7 191 → (cells + 4 * N ≤ R.cells ∧ slots + 92 * N ≤ R.slots) → DG A D ac ad s σ H locs → lv_has ls 10 [(0, .ref (st.1 3)), (1, .ref (ad r1)), (4, .int x4)] → B81 x4 σ → W p l e R s m args below meth c H locs cells slots QW (F0 m 81 ls [])) (hG : DG A D ac ad s σ H locs) (hl : lv_has ls 10 [(0, .ref (st.1 3)), (1, .ref (ad r1)), (4, .int x4)]) (hf : m_L_law_81 r1 st.2.1 st.2.2 Q B81 x4 σ) : W p l e R s m args below meth c H locs cells slots QW (F0 m 81 ls []) := by
  have hx := S.1.1
  have hb := S.1.2.1
  unfold m_L_law_81 at hf
  refine lv_iload hx hb d_L_law_81 (lv_at hl 2 rfl) ?_
  refine lv_bipush (v := (6 : Int32)) hx hb d_L_law_83 (by decide) ?_
  refine lv_icmp_ge (tgt := 311) hx hb d_L_law_85 (by decide) (fun hc => ?_) (fun hc => ?_)
  · have hf := hf.1 hc
    refine lv_iconst (v := (1 : Int32)) hx hb d_L_law_311 (by decide) ?_
    exact hR _ _ S _ _ _ _ _ _ hG hf d_L_law_312
  · have hf := hf.2 hc
    refine lv_aload_n hx hb d_L_law_88 rfl (lv_at hl 0 rfl) ?_
    refine lv_bipush (v := (13 : Int32)) hx hb d_L_law_89 (by decide) ?_
    refine lv_iload hx hb d_L_law_91 (lv_at hl 2 rfl) ?_
    refine lv_iadd hx hb d_L_law_93 ?_
    refine iv_L_10 S hl.1 hG  (c_L_cell l  hf) ⟨Nat.le_of_ble_eq_true rfl, Nat.le_of_ble_eq_true rfl⟩ (Nat.le_of_ble_eq_true rfl) d_L_law_94 (fun v_2 σ_1 hf H locs hG => ?_)
    refine lv_istore (lv' := [(5, .int v_2), (0, .ref (st.1 3)), (1, .ref (ad r1)), (4, .int x4)]) hx hb d_L_law_97 hl (by decide) rfl (fun ls hl => ?_)
    refine lv_aload_n hx hb d_L_law_99 rfl (lv_at hl 2 rfl) ?_
    refine ivS S hl.1 hG hAA.2 (show cells + 4 ≤ R.cells ∧ slots + 92 ≤ R.slots by omega) hk_r1 (c_L_shift l hAA.1 hk_r1 hf) ⟨Nat.le_of_ble_eq_true rfl, Nat.le_of_ble_eq_true rfl⟩ (Nat.le_of_ble_eq_true rfl) d_L_law_100 (fun v_4 σ_3 hf H locs S hG => ?_)
    have hC : (cells + 4) + 4 * N ≤ R.cells ∧ (slots + 92) + 92 * N ≤ R.slots := by omega
    refine lv_if_eq (tgt := 119) hx hb d_L_law_103 (by decide) (fun hc => ?_) (fun hc => ?_)
    · have hf := hf.1 hc
      refine lv_iconst (v := (0 : Int32)) hx hb d_L_law_119 (by decide) ?_
      exact hR _ _ S _ _ _ _ _ _ hG hf d_L_law_120
    · have hf := hf.2 hc
      refine lv_aload_n hx hb d_L_law_106 rfl (lv_at hl 2 rfl) ?_
      refine lv_bipush (v := (11 : Int32)) hx hb d_L_law_107 (by decide) ?_
      refine iv_L_44 S hl.1 hG hk_r1 (c_9_count l hk_r1 hf) ⟨Nat.le_of_ble_eq_true rfl, Nat.le_of_ble_eq_true rfl⟩ (Nat.le_of_ble_eq_true rfl) d_L_law_109 (fun v_6 σ_5 hf H locs hG => ?_)
      refine lv_iload hx hb d_L_law_112 (lv_at hl 3 rfl) ?_
      refine lv_iconst (v := (1 : Int32)) hx hb d_L_law_114 (by decide) ?_
      refine lv_iadd hx hb d_L_law_115 ?_
      refine lv_icmp_eq (tgt := 121) hx hb d_L_law_116 (by decide) (fun hc => ?_) (fun hc => ?_)
      · have hf := hf.1 hc
        refine lv_iload hx hb d_L_law_121 (lv_at hl 0 rfl) ?_
        refine lv_iconst (v := (5 : Int32)) hx hb d_L_law_123 (by decide) ?_
        refine iv_L_16 S hl.1 hG  (c_L_low l  hf) ⟨Nat.le_of_ble_eq_true rfl, Nat.le_of_ble_eq_true rfl⟩ (Nat.le_of_ble_eq_true rfl) d_L_law_124 (fun v_8 σ_7 hf H locs hG => ?_)
        refine lv_istore (lv' := [(6, .int v_8), (5, .int v_2), (0, .ref (st.1 3)), (1, .ref (ad r1)), (4, .int x4)]) hx hb d_L_law_127 hl (by decide) rfl (fun ls hl => ?_)
        refine lv_iload hx hb d_L_law_129 (lv_at hl 0 rfl) ?_
        refine lv_if_ne (tgt := 152) hx hb d_L_law_131 (by decide) (fun hc => ?_) (fun hc => ?_)
        · have hf := hf.1 hc
          exact w_L_law_152 S hC hAA hR hk_r1   hB81 hG (lv_sub hl [2, 3, 4, 1, 0] rfl) hf
        · have hf := hf.2 hc
          refine lv_aload_n hx hb d_L_law_134 rfl (lv_at hl 3 rfl) ?_
          refine lv_iconst (v := (1 : Int32)) hx hb d_L_law_135 (by decide) ?_
          refine lv_iload hx hb d_L_law_136 (lv_at hl 1 rfl) ?_
          refine lv_iconst (v := (3 : Int32)) hx hb d_L_law_138 (by decide) ?_
          refine lv_ishr hx hb d_L_law_139 ?_
          refine lv_bipush (v := (9 : Int32)) hx hb d_L_law_140 (by decide) ?_
          refine iv_L_16 S hl.1 hG  (c_L_low l  hf) ⟨Nat.le_of_ble_eq_true rfl, Nat.le_of_ble_eq_true rfl⟩ (Nat.le_of_ble_eq_true rfl) d_L_law_142 (fun v_10 σ_9 hf H locs hG => ?_)
          refine lv_iadd hx hb d_L_law_145 ?_
          refine iv_L_76 S hl.1 hG hk_r1 (c_9_night l hk_r1 hf) ⟨Nat.le_of_ble_eq_true rfl, Nat.le_of_ble_eq_true rfl⟩ (Nat.le_of_ble_eq_true rfl) d_L_law_146 (fun v_12 σ_11 hf H locs hG => ?_)
          refine lv_if_lt (tgt := 176) hx hb d_L_law_149 (by decide) (fun hc => ?_) (fun hc => ?_)
          · have hf := hf.1 hc
            refine lv_iconst (v := (0 : Int32)) hx hb d_L_law_176 (by decide) ?_
            exact hR _ _ S _ _ _ _ _ _ hG hf d_L_law_177
          · have hf := hf.2 hc
            exact w_L_law_152 S hC hAA hR hk_r1   hB81 hG (lv_sub hl [2, 3, 4, 1, 0] rfl) hf
      · have hf := hf.2 hc
        refine lv_iconst (v := (0 : Int32)) hx hb d_L_law_119 (by decide) ?_
        exact hR _ _ S _ _ _ _ _ _ hG hf d_L_law_120
set_option maxHeartbeats 4000000 in
set_option maxRecDepth 100000 in
theorem lp_L_law_81 {r1 : Nat} {Q : Int32 → St → Prop} (hAA : ad 999 = 0 ∧ ∀ q, s.heap.size ≤ q → A q) (hR : ∀ (cells slots : Nat), SC A D ac st p m c code 10 s args "SweeperRoundsLaw" R cells slots 7 191 → RtI A D ac ad p l e R s m args below meth c code cells slots QW Q) (hk_r1 : kd r1 = 9) : ∀ (N : Nat) (x4 : Int32) (σ : St) (H : Heap) (locs : List Loc) (ls : Array Slot) (cells slots : Nat), SC A D ac st p m c code 10 s args "SweeperRoundsLaw" R cells slots 7 191 → (cells + 4 * N ≤ R.cells ∧ slots + 92 * N ≤ R.slots) → DG A D ac ad s σ H locs → lv_has ls 10 [(0, .ref (st.1 3)), (1, .ref (ad r1)), (4, .int x4)] → itN (m_L_law_81 r1 st.2.1 st.2.2 Q) (fun _ _ => False) N x4 σ → W p l e R s m args below meth c H locs cells slots QW (F0 m 81 ls []) := by
  intro n
  induction n with
  | zero =>
    intro x4 σ H locs ls cells slots S hC  hG hl hf
    exact hf.elim
  | succ n ih =>
    intro x4 σ H locs ls cells slots S hC  hG hl hf
    exact w_L_law_81 S hC hAA hR hk_r1  ih hG hl hf
set_option maxHeartbeats 4000000 in
set_option maxRecDepth 100000 in
theorem w_L_law_66 {r1 : Nat} {Q : Int32 → St → Prop} {σ : St} {H : Heap} {locs : List Loc} {ls : Array Slot} (S : SC A D ac st p m c code 10 s args "SweeperRoundsLaw" R cells slots 7 191) (hC : cells + 4 * 7 ≤ R.cells ∧ slots + 92 * 7 ≤ R.slots) (hAA : ad 999 = 0 ∧ ∀ q, s.heap.size ≤ q → A q) (hR : ∀ (cells slots : Nat), SC A D ac st p m c code 10 s args "SweeperRoundsLaw" R cells slots 7 191 → RtI A D ac ad p l e R s m args below meth c code cells slots QW Q) (hk_r1 : kd r1 = 9) (hG : DG A D ac ad s σ H locs) (hl : lv_has ls 10 [(0, .ref (st.1 3)), (1, .ref (ad r1))]) (hf : m_L_law_66 r1 st.2.1 st.2.2 Q σ) : W p l e R s m args below meth c H locs cells slots QW (F0 m 66 ls []) := by
  have hx := S.1.1
  have hb := S.1.2.1
  unfold m_L_law_66 at hf
  refine lv_aload_n hx hb d_L_law_66 rfl (lv_at hl 1 rfl) ?_
  refine lv_iconst (v := (0 : Int32)) hx hb d_L_law_67 (by decide) ?_
  refine iv_L_62 S hl.1 hG hk_r1 (c_9_latest l hk_r1 hf) ⟨Nat.le_of_ble_eq_true rfl, Nat.le_of_ble_eq_true rfl⟩ (Nat.le_of_ble_eq_true rfl) d_L_law_68 (fun v_2 σ_1 hf H locs hG => ?_)
  refine lv_bipush (v := (-9 : Int32)) hx hb d_L_law_71 (by decide) ?_
  refine lv_icmp_eq (tgt := 78) hx hb d_L_law_73 (by decide) (fun hc => ?_) (fun hc => ?_)
  · have hf := hf.1 hc
    refine lv_iconst (v := (0 : Int32)) hx hb d_L_law_78 (by decide) ?_
    refine lv_istore (lv' := [(4, .int (0 : Int32)), (0, .ref (st.1 3)), (1, .ref (ad r1))]) hx hb d_L_law_79 hl (by decide) rfl (fun ls hl => ?_)
    exact lp_L_law_81 hAA hR hk_r1  7 _ _ _ _ _ _ _ S hC  hG (lv_sub hl [1, 2, 0] rfl) hf
  · have hf := hf.2 hc
    refine lv_iconst (v := (0 : Int32)) hx hb d_L_law_76 (by decide) ?_
    exact hR _ _ S _ _ _ _ _ _ hG hf d_L_law_77
set_option maxHeartbeats 4000000 in
set_option maxRecDepth 100000 in
theorem w_L_law_8 {r1 : Nat} {Q : Int32 → St → Prop} {σ : St} {H : Heap} {locs : List Loc} {ls : Array Slot} (S : SC A D ac st p m c code 10 s args "SweeperRoundsLaw" R cells slots 7 191) (hC : cells + 4 * 7 ≤ R.cells ∧ slots + 92 * 7 ≤ R.slots) (hAA : ad 999 = 0 ∧ ∀ q, s.heap.size ≤ q → A q) (hR : ∀ (cells slots : Nat), SC A D ac st p m c code 10 s args "SweeperRoundsLaw" R cells slots 7 191 → RtI A D ac ad p l e R s m args below meth c code cells slots QW Q) (hk_r1 : kd r1 = 9) (hG : DG A D ac ad s σ H locs) (hl : lv_has ls 10 [(0, .ref (st.1 3)), (1, .ref (ad r1))]) (hf : m_L_law r1 st.2.1 st.2.2 Q σ) : W p l e R s m args below meth c H locs cells slots QW (F0 m 8 ls []) := by
  have hx := S.1.1
  have hb := S.1.2.1
  unfold m_L_law at hf
  refine lv_iconst (v := (1 : Int32)) hx hb d_L_law_8 (by decide) ?_
  refine lv_aload_n hx hb d_L_law_9 rfl (lv_at hl 0 rfl) ?_
  refine lv_iconst (v := (0 : Int32)) hx hb d_L_law_10 (by decide) ?_
  refine iv_L_10 S hl.1 hG  (c_L_cell l  hf) ⟨Nat.le_of_ble_eq_true rfl, Nat.le_of_ble_eq_true rfl⟩ (Nat.le_of_ble_eq_true rfl) d_L_law_11 (fun v_2 σ_1 hf H locs hG => ?_)
  refine lv_iconst (v := (3 : Int32)) hx hb d_L_law_14 (by decide) ?_
  refine iv_L_16 S hl.1 hG  (c_L_low l  hf) ⟨Nat.le_of_ble_eq_true rfl, Nat.le_of_ble_eq_true rfl⟩ (Nat.le_of_ble_eq_true rfl) d_L_law_15 (fun v_4 σ_3 hf H locs hG => ?_)
  refine lv_iadd hx hb d_L_law_18 ?_
  refine lv_topi (fun x2_5 ex2_5 => ?_)
  have hf := hf x2_5 ex2_5
  refine lv_istore_n (lv' := [(2, .int x2_5), (0, .ref (st.1 3)), (1, .ref (ad r1))]) hx hb d_L_law_19 rfl hl (by decide) rfl (fun ls hl => ?_)
  refine lv_aload_n hx hb d_L_law_20 rfl (lv_at hl 1 rfl) ?_
  refine lv_iconst (v := (0 : Int32)) hx hb d_L_law_21 (by decide) ?_
  refine iv_L_10 S hl.1 hG  (c_L_cell l  hf) ⟨Nat.le_of_ble_eq_true rfl, Nat.le_of_ble_eq_true rfl⟩ (Nat.le_of_ble_eq_true rfl) d_L_law_22 (fun v_7 σ_6 hf H locs hG => ?_)
  refine lv_iconst (v := (3 : Int32)) hx hb d_L_law_25 (by decide) ?_
  refine lv_ishr hx hb d_L_law_26 ?_
  refine lv_bipush (v := (6 : Int32)) hx hb d_L_law_27 (by decide) ?_
  refine iv_L_16 S hl.1 hG  (c_L_low l  hf) ⟨Nat.le_of_ble_eq_true rfl, Nat.le_of_ble_eq_true rfl⟩ (Nat.le_of_ble_eq_true rfl) d_L_law_29 (fun v_9 σ_8 hf H locs hG => ?_)
  refine lv_istore_n (lv' := [(3, .int v_9), (2, .int x2_5), (0, .ref (st.1 3)), (1, .ref (ad r1))]) hx hb d_L_law_32 rfl hl (by decide) rfl (fun ls hl => ?_)
  refine lv_aload_n hx hb d_L_law_33 rfl (lv_at hl 3 rfl) ?_
  refine lv_aload_n hx hb d_L_law_34 rfl (lv_at hl 2 rfl) ?_
  refine lv_iconst (v := (1 : Int32)) hx hb d_L_law_35 (by decide) ?_
  refine lv_iload_n hx hb d_L_law_36 rfl (lv_at hl 1 rfl) ?_
  refine lv_iload_n hx hb d_L_law_37 rfl (lv_at hl 0 rfl) ?_
  refine iv_L_70 S hl.1 hG  (c_L_town l hk_r1 hf) ⟨Nat.le_of_ble_eq_true rfl, Nat.le_of_ble_eq_true rfl⟩ (Nat.le_of_ble_eq_true rfl) d_L_law_38 (fun v_11 σ_10 hf H locs hG => ?_)
  refine lv_if_eq (tgt := 76) hx hb d_L_law_41 (by decide) (fun hc => ?_) (fun hc => ?_)
  · have hf := hf.1 hc
    refine lv_iconst (v := (0 : Int32)) hx hb d_L_law_76 (by decide) ?_
    exact hR _ _ S _ _ _ _ _ _ hG hf d_L_law_77
  · have hf := hf.2 hc
    refine lv_aload_n hx hb d_L_law_44 rfl (lv_at hl 3 rfl) ?_
    refine iv_L_65 S hl.1 hG  (c_L_balanced l hk_r1 hf) ⟨Nat.le_of_ble_eq_true rfl, Nat.le_of_ble_eq_true rfl⟩ (Nat.le_of_ble_eq_true rfl) d_L_law_45 (fun v_13 σ_12 hf H locs hG => ?_)
    refine lv_if_eq (tgt := 76) hx hb d_L_law_48 (by decide) (fun hc => ?_) (fun hc => ?_)
    · have hf := hf.1 hc
      refine lv_iconst (v := (0 : Int32)) hx hb d_L_law_76 (by decide) ?_
      exact hR _ _ S _ _ _ _ _ _ hG hf d_L_law_77
    · have hf := hf.2 hc
      refine lv_iload_n hx hb d_L_law_51 rfl (lv_at hl 0 rfl) ?_
      refine lv_if_le (tgt := 66) hx hb d_L_law_52 (by decide) (fun hc => ?_) (fun hc => ?_)
      · have hf := hf.1 hc
        exact w_L_law_66 S hC hAA hR hk_r1    hG (lv_sub hl [2, 3] rfl) hf
      · have hf := hf.2 hc
        refine lv_aload_n hx hb d_L_law_55 rfl (lv_at hl 3 rfl) ?_
        refine lv_iconst (v := (0 : Int32)) hx hb d_L_law_56 (by decide) ?_
        refine lv_iconst (v := (2 : Int32)) hx hb d_L_law_57 (by decide) ?_
        refine iv_L_52 S hl.1 hG hk_r1 (c_9_leg l hk_r1 hf) ⟨Nat.le_of_ble_eq_true rfl, Nat.le_of_ble_eq_true rfl⟩ (Nat.le_of_ble_eq_true rfl) d_L_law_58 (fun v_15 σ_14 hf H locs hG => ?_)
        refine lv_bipush (v := (-2 : Int32)) hx hb d_L_law_61 (by decide) ?_
        refine lv_icmp_ne (tgt := 76) hx hb d_L_law_63 (by decide) (fun hc => ?_) (fun hc => ?_)
        · have hf := hf.1 hc
          refine lv_iconst (v := (0 : Int32)) hx hb d_L_law_76 (by decide) ?_
          exact hR _ _ S _ _ _ _ _ _ hG hf d_L_law_77
        · have hf := hf.2 hc
          exact w_L_law_66 S hC hAA hR hk_r1    hG (lv_sub hl [2, 3] rfl) hf
end LB
