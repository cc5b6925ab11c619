section
-- ===== PART A: goes FIRST, ahead of the names: the tables' words, and 'selects' of the private methods out of them =====
/-- a private method of a class that the tables say can be made, by its rows of tables_1 -/
def lw_okq (q : MethodName × Nat) : Prop := (q.1.cls ≠ "java/lang/invoke/MethodHandle" ∧ q.1.cls ≠ "java/lang/invoke/VarHandle") ∧ Cond.instantiable q.1.cls q.2 ∈ tables_1 ∧ Cond.privateMethod q.1 ∈ tables_1 ∧ Cond.instanceMethod q.1 ∈ tables_1
theorem lw_p0 : lw_okq (⟨"SweeperRounds", "trySpeed", "(I)V"⟩, 9) := ⟨⟨by decide +kernel, by decide +kernel⟩, List.mem_of_getElem? (i := 14) (by decide +kernel), List.mem_of_getElem? (i := 508) (by decide +kernel), List.mem_of_getElem? (i := 509) (by decide +kernel)⟩
theorem lw_p1 : lw_okq (⟨"SweeperRounds$Round", "driveToLeg", "(LSweeperRounds$Leg;LSweeperRounds$Street;)I"⟩, 2) := ⟨⟨by decide +kernel, by decide +kernel⟩, List.mem_of_getElem? (i := 227) (by decide +kernel), List.mem_of_getElem? (i := 521) (by decide +kernel), List.mem_of_getElem? (i := 522) (by decide +kernel)⟩
theorem lw_p2 : lw_okq (⟨"SweeperRounds$Round", "driveTo", "(I)I"⟩, 2) := ⟨⟨by decide +kernel, by decide +kernel⟩, List.mem_of_getElem? (i := 227) (by decide +kernel), List.mem_of_getElem? (i := 525) (by decide +kernel), List.mem_of_getElem? (i := 526) (by decide +kernel)⟩
theorem lw_p3 : lw_okq (⟨"SweeperRounds$Round", "fits", "(ILSweeperRounds$Street;)Z"⟩, 2) := ⟨⟨by decide +kernel, by decide +kernel⟩, List.mem_of_getElem? (i := 227) (by decide +kernel), List.mem_of_getElem? (i := 532) (by decide +kernel), List.mem_of_getElem? (i := 533) (by decide +kernel)⟩
theorem lw_p4 : lw_okq (⟨"SweeperRounds$Round", "finishCell", "(LSweeperRounds$Leg;LSweeperRounds$Street;I)I"⟩, 2) := ⟨⟨by decide +kernel, by decide +kernel⟩, List.mem_of_getElem? (i := 227) (by decide +kernel), List.mem_of_getElem? (i := 541) (by decide +kernel), List.mem_of_getElem? (i := 542) (by decide +kernel)⟩
theorem lw_p5 : lw_okq (⟨"SweeperRounds$Round", "unitsForCell", "()I"⟩, 2) := ⟨⟨by decide +kernel, by decide +kernel⟩, List.mem_of_getElem? (i := 227) (by decide +kernel), List.mem_of_getElem? (i := 545) (by decide +kernel), List.mem_of_getElem? (i := 546) (by decide +kernel)⟩
theorem lw_p6 : lw_okq (⟨"SweeperRounds$Round", "sweepOnce", "(LSweeperRounds$Leg;LSweeperRounds$Street;I)Z"⟩, 2) := ⟨⟨by decide +kernel, by decide +kernel⟩, List.mem_of_getElem? (i := 227) (by decide +kernel), List.mem_of_getElem? (i := 551) (by decide +kernel), List.mem_of_getElem? (i := 552) (by decide +kernel)⟩
theorem lw_p7 : lw_okq (⟨"SweeperRounds$Round", "endShift", "()V"⟩, 2) := ⟨⟨by decide +kernel, by decide +kernel⟩, List.mem_of_getElem? (i := 227) (by decide +kernel), List.mem_of_getElem? (i := 563) (by decide +kernel), List.mem_of_getElem? (i := 564) (by decide +kernel)⟩
def lw_privs_1 : List (MethodName × Nat) := [(⟨"SweeperRounds", "trySpeed", "(I)V"⟩, 9), (⟨"SweeperRounds$Round", "driveToLeg", "(LSweeperRounds$Leg;LSweeperRounds$Street;)I"⟩, 2), (⟨"SweeperRounds$Round", "driveTo", "(I)I"⟩, 2), (⟨"SweeperRounds$Round", "fits", "(ILSweeperRounds$Street;)Z"⟩, 2), (⟨"SweeperRounds$Round", "finishCell", "(LSweeperRounds$Leg;LSweeperRounds$Street;I)I"⟩, 2), (⟨"SweeperRounds$Round", "unitsForCell", "()I"⟩, 2), (⟨"SweeperRounds$Round", "sweepOnce", "(LSweeperRounds$Leg;LSweeperRounds$Street;I)Z"⟩, 2), (⟨"SweeperRounds$Round", "endShift", "()V"⟩, 2)]
theorem lw_r1 : ∀ q ∈ lw_privs_1, lw_okq q := List.forall_mem_cons.mpr ⟨lw_p0, List.forall_mem_cons.mpr ⟨lw_p1, List.forall_mem_cons.mpr ⟨lw_p2, List.forall_mem_cons.mpr ⟨lw_p3, List.forall_mem_cons.mpr ⟨lw_p4, List.forall_mem_cons.mpr ⟨lw_p5, List.forall_mem_cons.mpr ⟨lw_p6, List.forall_mem_cons.mpr ⟨lw_p7, fun _ h => absurd h List.not_mem_nil⟩⟩⟩⟩⟩⟩⟩⟩
def lw_privs : List (MethodName × Nat) := lw_privs_1
def lw_tbl : List Cond := k2_sels lw_privs ++ tables_1
theorem lw_privs_ok : ∀ q ∈ lw_privs, lw_okq q := lw_r1
-- ===== end of PART A

/-- all the tables' words that any caller may hand on -/
def wA : List Cond := lw_tbl.filter goodWord
theorem wA_i {i : Nat} {w : Cond} (h : lw_tbl[i]? = some w) (g : goodWord w = true) : w ∈ wA := List.mem_filter.mpr ⟨List.mem_of_getElem? h, g⟩
theorem wA_sub {w : Cond} (h : w ∈ wA) : w ∈ lw_tbl := (List.mem_filter.mp h).1
theorem wA_good {w : Cond} (h : w ∈ wA) : goodWord w = true := (List.mem_filter.mp h).2
theorem wA_all {l : List Cond} (h : (l.all fun w => decide (w ∈ lw_tbl) && goodWord w) = true) : ∀ w ∈ l, w ∈ wA := fun w hw => by
  have := List.all_eq_true.mp h w hw
  simp only [Bool.and_eq_true, decide_eq_true_eq] at this
  exact List.mem_filter.mpr this
theorem wA_in {ws : List Cond} (h : ∀ w ∈ ws, w ∈ wA) : GoodIn wA ws := fun w hw => ⟨h w hw, good_of_word (wA_good (h w hw))⟩
theorem wA_cons {c : Cond} (h : c ∈ wA) : ∀ w ∈ c :: wA, w ∈ wA := fun w hw => (List.mem_cons.mp hw).elim (fun e => e ▸ h) id
theorem wm_0 : Cond.selects "SweeperRounds" ⟨"SweeperRounds", "trySpeed", "(I)V"⟩ ⟨"SweeperRounds", "trySpeed", "(I)V"⟩ ∈ wA := wA_i (i := 0) (by decide +kernel) (by decide +kernel)
theorem wm_1 : Cond.selects "SweeperRounds$Round" ⟨"SweeperRounds$Round", "driveToLeg", "(LSweeperRounds$Leg;LSweeperRounds$Street;)I"⟩ ⟨"SweeperRounds$Round", "driveToLeg", "(LSweeperRounds$Leg;LSweeperRounds$Street;)I"⟩ ∈ wA := wA_i (i := 1) (by decide +kernel) (by decide +kernel)
theorem wm_2 : Cond.selects "SweeperRounds$Round" ⟨"SweeperRounds$Round", "driveTo", "(I)I"⟩ ⟨"SweeperRounds$Round", "driveTo", "(I)I"⟩ ∈ wA := wA_i (i := 2) (by decide +kernel) (by decide +kernel)
theorem wm_3 : Cond.selects "SweeperRounds$Round" ⟨"SweeperRounds$Round", "fits", "(ILSweeperRounds$Street;)Z"⟩ ⟨"SweeperRounds$Round", "fits", "(ILSweeperRounds$Street;)Z"⟩ ∈ wA := wA_i (i := 3) (by decide +kernel) (by decide +kernel)
theorem wm_4 : Cond.selects "SweeperRounds$Round" ⟨"SweeperRounds$Round", "finishCell", "(LSweeperRounds$Leg;LSweeperRounds$Street;I)I"⟩ ⟨"SweeperRounds$Round", "finishCell", "(LSweeperRounds$Leg;LSweeperRounds$Street;I)I"⟩ ∈ wA := wA_i (i := 4) (by decide +kernel) (by decide +kernel)
theorem wm_5 : Cond.selects "SweeperRounds$Round" ⟨"SweeperRounds$Round", "unitsForCell", "()I"⟩ ⟨"SweeperRounds$Round", "unitsForCell", "()I"⟩ ∈ wA := wA_i (i := 5) (by decide +kernel) (by decide +kernel)
theorem wm_6 : Cond.selects "SweeperRounds$Round" ⟨"SweeperRounds$Round", "sweepOnce", "(LSweeperRounds$Leg;LSweeperRounds$Street;I)Z"⟩ ⟨"SweeperRounds$Round", "sweepOnce", "(LSweeperRounds$Leg;LSweeperRounds$Street;I)Z"⟩ ∈ wA := wA_i (i := 6) (by decide +kernel) (by decide +kernel)
theorem wm_7 : Cond.selects "SweeperRounds$Round" ⟨"SweeperRounds$Round", "endShift", "()V"⟩ ⟨"SweeperRounds$Round", "endShift", "()V"⟩ ∈ wA := wA_i (i := 7) (by decide +kernel) (by decide +kernel)
theorem wm_8 : Cond.initialized "SweeperRoundsLaw" ∈ wA := wA_i (i := 8) (by decide +kernel) (by decide +kernel)
theorem wm_9 : Cond.initialized "SweeperRounds" ∈ wA := wA_i (i := 9) (by decide +kernel) (by decide +kernel)
theorem wm_10 : Cond.initialized "SweeperRounds$Text" ∈ wA := wA_i (i := 10) (by decide +kernel) (by decide +kernel)
theorem wm_11 : Cond.initialized "SweeperRounds$Reader" ∈ wA := wA_i (i := 11) (by decide +kernel) (by decide +kernel)
theorem wm_12 : Cond.initialized "SweeperRounds$Street" ∈ wA := wA_i (i := 12) (by decide +kernel) (by decide +kernel)
theorem wm_13 : Cond.initialized "SweeperRounds$World" ∈ wA := wA_i (i := 13) (by decide +kernel) (by decide +kernel)
theorem wm_14 : Cond.initialized "SweeperRounds$Report" ∈ wA := wA_i (i := 14) (by decide +kernel) (by decide +kernel)
theorem wm_15 : Cond.initialized "SweeperRounds$Leg" ∈ wA := wA_i (i := 15) (by decide +kernel) (by decide +kernel)
theorem wm_16 : Cond.initialized "java/lang/System" ∈ wA := wA_i (i := 16) (by decide +kernel) (by decide +kernel)
theorem wm_17 : Cond.initialized "SweeperRounds$Round" ∈ wA := wA_i (i := 17) (by decide +kernel) (by decide +kernel)
theorem wm_18 : Cond.initialized "SweeperRounds$History" ∈ wA := wA_i (i := 18) (by decide +kernel) (by decide +kernel)
theorem wm_19 : Cond.initialized "SweeperRounds$Orders" ∈ wA := wA_i (i := 19) (by decide +kernel) (by decide +kernel)
theorem wm_20 : Cond.initialized "java/lang/Math" ∈ wA := wA_i (i := 20) (by decide +kernel) (by decide +kernel)
theorem wm_21 : Cond.classLink "SweeperRoundsLaw" 21 "SweeperRounds" ∈ wA := wA_i (i := 21) (by decide +kernel) (by decide +kernel)
theorem wm_22 : Cond.instantiable "SweeperRounds" 9 ∈ wA := wA_i (i := 22) (by decide +kernel) (by decide +kernel)
theorem wm_23 : Cond.methodLink "SweeperRoundsLaw" 69 ⟨"SweeperRounds", "<init>", "()V"⟩ ∈ wA := wA_i (i := 23) (by decide +kernel) (by decide +kernel)
theorem wm_24 : Cond.instanceMethod ⟨"SweeperRounds", "<init>", "()V"⟩ ∈ wA := wA_i (i := 24) (by decide +kernel) (by decide +kernel)
theorem wm_25 : Cond.code ⟨"SweeperRounds", "<init>", "()V"⟩ prog_1_method_1_code 1 none ∈ wA := wA_i (i := 25) (by decide +kernel) (by decide +kernel)
theorem wm_26 : Cond.methodLink "SweeperRounds" 1 ⟨"java/lang/Object", "<init>", "()V"⟩ ∈ wA := wA_i (i := 26) (by decide +kernel) (by decide +kernel)
theorem wm_27 : Cond.instanceMethod ⟨"java/lang/Object", "<init>", "()V"⟩ ∈ wA := wA_i (i := 27) (by decide +kernel) (by decide +kernel)
theorem wm_28 : Cond.code ⟨"java/lang/Object", "<init>", "()V"⟩ object_method_1_code 1 none ∈ wA := wA_i (i := 28) (by decide +kernel) (by decide +kernel)
theorem wm_29 : Cond.classLink "SweeperRounds" 7 "SweeperRounds$Text" ∈ wA := wA_i (i := 29) (by decide +kernel) (by decide +kernel)
theorem wm_30 : Cond.instantiable "SweeperRounds$Text" 2 ∈ wA := wA_i (i := 30) (by decide +kernel) (by decide +kernel)
theorem wm_32 : Cond.instanceMethod ⟨"SweeperRounds$Text", "<init>", "()V"⟩ ∈ wA := wA_i (i := 32) (by decide +kernel) (by decide +kernel)
theorem wm_33 : Cond.code ⟨"SweeperRounds$Text", "<init>", "()V"⟩ prog_9_method_1_code 1 none ∈ wA := wA_i (i := 33) (by decide +kernel) (by decide +kernel)
theorem wm_34 : Cond.methodLink "SweeperRounds$Text" 3 ⟨"java/lang/Object", "<init>", "()V"⟩ ∈ wA := wA_i (i := 34) (by decide +kernel) (by decide +kernel)
theorem wm_35 : Cond.fieldLink "SweeperRounds$Text" 9 "SweeperRounds$Text" "signs" "[C" ∈ wA := wA_i (i := 35) (by decide +kernel) (by decide +kernel)
theorem wm_36 : Cond.fieldLink "SweeperRounds" 63 "SweeperRounds$Text" "length" "I" ∈ wA := wA_i (i := 36) (by decide +kernel) (by decide +kernel)
theorem wm_42 : Cond.arrayClass FieldType.char ∈ wA := wA_i (i := 42) (by decide +kernel) (by decide +kernel)
theorem wm_43 : Cond.classLink "SweeperRounds" 16 "SweeperRounds$Reader" ∈ wA := wA_i (i := 43) (by decide +kernel) (by decide +kernel)
theorem wm_44 : Cond.instantiable "SweeperRounds$Reader" 4 ∈ wA := wA_i (i := 44) (by decide +kernel) (by decide +kernel)
theorem wm_46 : Cond.instanceMethod ⟨"SweeperRounds$Reader", "<init>", "()V"⟩ ∈ wA := wA_i (i := 46) (by decide +kernel) (by decide +kernel)
theorem wm_47 : Cond.code ⟨"SweeperRounds$Reader", "<init>", "()V"⟩ prog_5_method_1_code 1 none ∈ wA := wA_i (i := 47) (by decide +kernel) (by decide +kernel)
theorem wm_48 : Cond.methodLink "SweeperRounds$Reader" 3 ⟨"java/lang/Object", "<init>", "()V"⟩ ∈ wA := wA_i (i := 48) (by decide +kernel) (by decide +kernel)
theorem wm_49 : Cond.classLink "SweeperRounds$Reader" 9 "SweeperRounds$Street" ∈ wA := wA_i (i := 49) (by decide +kernel) (by decide +kernel)
theorem wm_50 : Cond.instantiable "SweeperRounds$Street" 5 ∈ wA := wA_i (i := 50) (by decide +kernel) (by decide +kernel)
theorem wm_52 : Cond.instanceMethod ⟨"SweeperRounds$Street", "<init>", "()V"⟩ ∈ wA := wA_i (i := 52) (by decide +kernel) (by decide +kernel)
theorem wm_53 : Cond.code ⟨"SweeperRounds$Street", "<init>", "()V"⟩ prog_8_method_1_code 1 none ∈ wA := wA_i (i := 53) (by decide +kernel) (by decide +kernel)
theorem wm_54 : Cond.methodLink "SweeperRounds$Street" 3 ⟨"java/lang/Object", "<init>", "()V"⟩ ∈ wA := wA_i (i := 54) (by decide +kernel) (by decide +kernel)
theorem wm_55 : Cond.fieldLink "SweeperRounds$Street" 19 "SweeperRounds$Street" "cells" "I" ∈ wA := wA_i (i := 55) (by decide +kernel) (by decide +kernel)
theorem wm_56 : Cond.fieldLink "SweeperRounds$Round" 59 "SweeperRounds$Street" "cells" "I" ∈ wA := wA_i (i := 56) (by decide +kernel) (by decide +kernel)
theorem wm_57 : Cond.fieldLink "SweeperRounds$World" 85 "SweeperRounds$Street" "cells" "I" ∈ wA := wA_i (i := 57) (by decide +kernel) (by decide +kernel)
theorem wm_58 : Cond.fieldLink "SweeperRounds" 91 "SweeperRounds$Street" "cells" "I" ∈ wA := wA_i (i := 58) (by decide +kernel) (by decide +kernel)
theorem wm_59 : Cond.fieldLink "SweeperRounds$Street" 23 "SweeperRounds$Street" "distance" "I" ∈ wA := wA_i (i := 59) (by decide +kernel) (by decide +kernel)
theorem wm_60 : Cond.fieldLink "SweeperRounds$Round" 92 "SweeperRounds$Street" "distance" "I" ∈ wA := wA_i (i := 60) (by decide +kernel) (by decide +kernel)
theorem wm_61 : Cond.fieldLink "SweeperRounds$World" 98 "SweeperRounds$Street" "distance" "I" ∈ wA := wA_i (i := 61) (by decide +kernel) (by decide +kernel)
theorem wm_62 : Cond.fieldLink "SweeperRounds" 149 "SweeperRounds$Street" "distance" "I" ∈ wA := wA_i (i := 62) (by decide +kernel) (by decide +kernel)
theorem wm_63 : Cond.fieldLink "SweeperRounds$Street" 26 "SweeperRounds$Street" "trees" "I" ∈ wA := wA_i (i := 63) (by decide +kernel) (by decide +kernel)
theorem wm_64 : Cond.fieldLink "SweeperRounds$World" 101 "SweeperRounds$Street" "trees" "I" ∈ wA := wA_i (i := 64) (by decide +kernel) (by decide +kernel)
theorem wm_65 : Cond.fieldLink "SweeperRounds" 152 "SweeperRounds$Street" "trees" "I" ∈ wA := wA_i (i := 65) (by decide +kernel) (by decide +kernel)
theorem wm_66 : Cond.fieldLink "SweeperRounds$Street" 9 "SweeperRounds$Street" "dirt" "[I" ∈ wA := wA_i (i := 66) (by decide +kernel) (by decide +kernel)
theorem wm_67 : Cond.fieldLink "SweeperRounds$Round" 137 "SweeperRounds$Street" "dirt" "[I" ∈ wA := wA_i (i := 67) (by decide +kernel) (by decide +kernel)
theorem wm_68 : Cond.fieldLink "SweeperRounds" 130 "SweeperRounds$Street" "dirt" "[I" ∈ wA := wA_i (i := 68) (by decide +kernel) (by decide +kernel)
theorem wm_69 : Cond.fieldLink "SweeperRounds$World" 111 "SweeperRounds$Street" "dirt" "[I" ∈ wA := wA_i (i := 69) (by decide +kernel) (by decide +kernel)
theorem wm_70 : Cond.fieldLink "SweeperRounds$Street" 15 "SweeperRounds$Street" "parked" "[Z" ∈ wA := wA_i (i := 70) (by decide +kernel) (by decide +kernel)
theorem wm_71 : Cond.fieldLink "SweeperRounds" 126 "SweeperRounds$Street" "parked" "[Z" ∈ wA := wA_i (i := 71) (by decide +kernel) (by decide +kernel)
theorem wm_83 : Cond.arrayClass FieldType.int ∈ wA := wA_i (i := 83) (by decide +kernel) (by decide +kernel)
theorem wm_84 : Cond.arrayClass FieldType.boolean ∈ wA := wA_i (i := 84) (by decide +kernel) (by decide +kernel)
theorem wm_85 : Cond.fieldLink "SweeperRounds$Reader" 12 "SweeperRounds$Reader" "draft" "LSweeperRounds$Street;" ∈ wA := wA_i (i := 85) (by decide +kernel) (by decide +kernel)
theorem wm_95 : Cond.classLink "SweeperRounds" 23 "SweeperRounds$World" ∈ wA := wA_i (i := 95) (by decide +kernel) (by decide +kernel)
theorem wm_96 : Cond.instantiable "SweeperRounds$World" 12 ∈ wA := wA_i (i := 96) (by decide +kernel) (by decide +kernel)
theorem wm_97 : Cond.methodLink "SweeperRounds" 25 ⟨"SweeperRounds$World", "<init>", "()V"⟩ ∈ wA := wA_i (i := 97) (by decide +kernel) (by decide +kernel)
theorem wm_98 : Cond.instanceMethod ⟨"SweeperRounds$World", "<init>", "()V"⟩ ∈ wA := wA_i (i := 98) (by decide +kernel) (by decide +kernel)
theorem wm_99 : Cond.code ⟨"SweeperRounds$World", "<init>", "()V"⟩ prog_10_method_1_code 2 none ∈ wA := wA_i (i := 99) (by decide +kernel) (by decide +kernel)
theorem wm_100 : Cond.methodLink "SweeperRounds$World" 3 ⟨"java/lang/Object", "<init>", "()V"⟩ ∈ wA := wA_i (i := 100) (by decide +kernel) (by decide +kernel)
theorem wm_101 : Cond.classLink "SweeperRounds$World" 9 "SweeperRounds$Street" ∈ wA := wA_i (i := 101) (by decide +kernel) (by decide +kernel)
theorem wm_103 : Cond.classLink "SweeperRounds$World" 17 "SweeperRounds$Leg" ∈ wA := wA_i (i := 103) (by decide +kernel) (by decide +kernel)
theorem wm_105 : Cond.classLink "SweeperRounds$World" 30 "SweeperRounds$Report" ∈ wA := wA_i (i := 105) (by decide +kernel) (by decide +kernel)
theorem wm_106 : Cond.instantiable "SweeperRounds$Report" 6 ∈ wA := wA_i (i := 106) (by decide +kernel) (by decide +kernel)
theorem wm_108 : Cond.instanceMethod ⟨"SweeperRounds$Report", "<init>", "()V"⟩ ∈ wA := wA_i (i := 108) (by decide +kernel) (by decide +kernel)
theorem wm_109 : Cond.code ⟨"SweeperRounds$Report", "<init>", "()V"⟩ prog_6_method_1_code 1 none ∈ wA := wA_i (i := 109) (by decide +kernel) (by decide +kernel)
theorem wm_110 : Cond.methodLink "SweeperRounds$Report" 3 ⟨"java/lang/Object", "<init>", "()V"⟩ ∈ wA := wA_i (i := 110) (by decide +kernel) (by decide +kernel)
theorem wm_111 : Cond.fieldLink "SweeperRounds$Report" 9 "SweeperRounds$Report" "reason" "I" ∈ wA := wA_i (i := 111) (by decide +kernel) (by decide +kernel)
theorem wm_112 : Cond.fieldLink "SweeperRounds$Round" 45 "SweeperRounds$Report" "reason" "I" ∈ wA := wA_i (i := 112) (by decide +kernel) (by decide +kernel)
theorem wm_113 : Cond.fieldLink "SweeperRounds" 230 "SweeperRounds$Report" "reason" "I" ∈ wA := wA_i (i := 113) (by decide +kernel) (by decide +kernel)
theorem wm_114 : Cond.fieldLink "SweeperRounds$Report" 15 "SweeperRounds$Report" "units" "I" ∈ wA := wA_i (i := 114) (by decide +kernel) (by decide +kernel)
theorem wm_115 : Cond.fieldLink "SweeperRounds$Round" 89 "SweeperRounds$Report" "units" "I" ∈ wA := wA_i (i := 115) (by decide +kernel) (by decide +kernel)
theorem wm_116 : Cond.fieldLink "SweeperRounds" 233 "SweeperRounds$Report" "units" "I" ∈ wA := wA_i (i := 116) (by decide +kernel) (by decide +kernel)
theorem wm_117 : Cond.fieldLink "SweeperRounds$Report" 18 "SweeperRounds$Report" "trips" "I" ∈ wA := wA_i (i := 117) (by decide +kernel) (by decide +kernel)
theorem wm_118 : Cond.fieldLink "SweeperRounds$Round" 119 "SweeperRounds$Report" "trips" "I" ∈ wA := wA_i (i := 118) (by decide +kernel) (by decide +kernel)
theorem wm_119 : Cond.fieldLink "SweeperRounds" 236 "SweeperRounds$Report" "trips" "I" ∈ wA := wA_i (i := 119) (by decide +kernel) (by decide +kernel)
theorem wm_120 : Cond.fieldLink "SweeperRounds$Report" 21 "SweeperRounds$Report" "taken" "I" ∈ wA := wA_i (i := 120) (by decide +kernel) (by decide +kernel)
theorem wm_121 : Cond.fieldLink "SweeperRounds$Round" 143 "SweeperRounds$Report" "taken" "I" ∈ wA := wA_i (i := 121) (by decide +kernel) (by decide +kernel)
theorem wm_122 : Cond.fieldLink "SweeperRounds" 215 "SweeperRounds$Report" "taken" "I" ∈ wA := wA_i (i := 122) (by decide +kernel) (by decide +kernel)
theorem wm_123 : Cond.fieldLink "SweeperRounds$Report" 24 "SweeperRounds$Report" "worn" "I" ∈ wA := wA_i (i := 123) (by decide +kernel) (by decide +kernel)
theorem wm_124 : Cond.fieldLink "SweeperRounds$Round" 147 "SweeperRounds$Report" "worn" "I" ∈ wA := wA_i (i := 124) (by decide +kernel) (by decide +kernel)
theorem wm_125 : Cond.fieldLink "SweeperRounds" 239 "SweeperRounds$Report" "worn" "I" ∈ wA := wA_i (i := 125) (by decide +kernel) (by decide +kernel)
theorem wm_126 : Cond.fieldLink "SweeperRounds$Report" 27 "SweeperRounds$Report" "leg" "I" ∈ wA := wA_i (i := 126) (by decide +kernel) (by decide +kernel)
theorem wm_127 : Cond.fieldLink "SweeperRounds$Round" 75 "SweeperRounds$Report" "leg" "I" ∈ wA := wA_i (i := 127) (by decide +kernel) (by decide +kernel)
theorem wm_128 : Cond.fieldLink "SweeperRounds" 242 "SweeperRounds$Report" "leg" "I" ∈ wA := wA_i (i := 128) (by decide +kernel) (by decide +kernel)
theorem wm_143 : Cond.instantiable "SweeperRounds$Leg" 4 ∈ wA := wA_i (i := 143) (by decide +kernel) (by decide +kernel)
theorem wm_145 : Cond.instanceMethod ⟨"SweeperRounds$Leg", "<init>", "()V"⟩ ∈ wA := wA_i (i := 145) (by decide +kernel) (by decide +kernel)
theorem wm_146 : Cond.code ⟨"SweeperRounds$Leg", "<init>", "()V"⟩ prog_3_method_1_code 1 none ∈ wA := wA_i (i := 146) (by decide +kernel) (by decide +kernel)
theorem wm_147 : Cond.methodLink "SweeperRounds$Leg" 1 ⟨"java/lang/Object", "<init>", "()V"⟩ ∈ wA := wA_i (i := 147) (by decide +kernel) (by decide +kernel)
theorem wm_148 : Cond.fieldLink "SweeperRounds$Leg" 7 "SweeperRounds$Leg" "street" "I" ∈ wA := wA_i (i := 148) (by decide +kernel) (by decide +kernel)
theorem wm_149 : Cond.fieldLink "SweeperRounds$Round" 52 "SweeperRounds$Leg" "street" "I" ∈ wA := wA_i (i := 149) (by decide +kernel) (by decide +kernel)
theorem wm_150 : Cond.fieldLink "SweeperRounds$World" 92 "SweeperRounds$Leg" "street" "I" ∈ wA := wA_i (i := 150) (by decide +kernel) (by decide +kernel)
theorem wm_151 : Cond.fieldLink "SweeperRounds" 190 "SweeperRounds$Leg" "street" "I" ∈ wA := wA_i (i := 151) (by decide +kernel) (by decide +kernel)
theorem wm_152 : Cond.fieldLink "SweeperRounds$Leg" 13 "SweeperRounds$Leg" "side" "I" ∈ wA := wA_i (i := 152) (by decide +kernel) (by decide +kernel)
theorem wm_153 : Cond.fieldLink "SweeperRounds$Round" 64 "SweeperRounds$Leg" "side" "I" ∈ wA := wA_i (i := 153) (by decide +kernel) (by decide +kernel)
theorem wm_154 : Cond.fieldLink "SweeperRounds$World" 108 "SweeperRounds$Leg" "side" "I" ∈ wA := wA_i (i := 154) (by decide +kernel) (by decide +kernel)
theorem wm_155 : Cond.fieldLink "SweeperRounds" 195 "SweeperRounds$Leg" "side" "I" ∈ wA := wA_i (i := 155) (by decide +kernel) (by decide +kernel)
theorem wm_156 : Cond.fieldLink "SweeperRounds$Leg" 16 "SweeperRounds$Leg" "sweptCells" "I" ∈ wA := wA_i (i := 156) (by decide +kernel) (by decide +kernel)
theorem wm_157 : Cond.fieldLink "SweeperRounds$Round" 37 "SweeperRounds$Leg" "sweptCells" "I" ∈ wA := wA_i (i := 157) (by decide +kernel) (by decide +kernel)
theorem wm_158 : Cond.fieldLink "SweeperRounds" 202 "SweeperRounds$Leg" "sweptCells" "I" ∈ wA := wA_i (i := 158) (by decide +kernel) (by decide +kernel)
theorem wm_159 : Cond.fieldLink "SweeperRounds$Leg" 19 "SweeperRounds$Leg" "taken" "I" ∈ wA := wA_i (i := 159) (by decide +kernel) (by decide +kernel)
theorem wm_160 : Cond.fieldLink "SweeperRounds$Round" 42 "SweeperRounds$Leg" "taken" "I" ∈ wA := wA_i (i := 160) (by decide +kernel) (by decide +kernel)
theorem wm_161 : Cond.fieldLink "SweeperRounds" 205 "SweeperRounds$Leg" "taken" "I" ∈ wA := wA_i (i := 161) (by decide +kernel) (by decide +kernel)
theorem wm_173 : Cond.methodLink "SweeperRounds$World" 42 ⟨"java/lang/System", "arraycopy", "(Ljava/lang/Object;ILjava/lang/Object;II)V"⟩ ∈ wA := wA_i (i := 173) (by decide +kernel) (by decide +kernel)
theorem wm_174 : Cond.static ⟨"java/lang/System", "arraycopy", "(Ljava/lang/Object;ILjava/lang/Object;II)V"⟩ ∈ wA := wA_i (i := 174) (by decide +kernel) (by decide +kernel)
theorem wm_175 : Cond.native ⟨"java/lang/System", "arraycopy", "(Ljava/lang/Object;ILjava/lang/Object;II)V"⟩ ∈ wA := wA_i (i := 175) (by decide +kernel) (by decide +kernel)
theorem wm_176 : Cond.fieldLink "SweeperRounds$World" 11 "SweeperRounds$World" "streets" "[LSweeperRounds$Street;" ∈ wA := wA_i (i := 176) (by decide +kernel) (by decide +kernel)
theorem wm_177 : Cond.fieldLink "SweeperRounds$Round" 48 "SweeperRounds$World" "streets" "[LSweeperRounds$Street;" ∈ wA := wA_i (i := 177) (by decide +kernel) (by decide +kernel)
theorem wm_178 : Cond.fieldLink "SweeperRounds" 122 "SweeperRounds$World" "streets" "[LSweeperRounds$Street;" ∈ wA := wA_i (i := 178) (by decide +kernel) (by decide +kernel)
theorem wm_179 : Cond.fieldLink "SweeperRounds$World" 52 "SweeperRounds$World" "streetCount" "I" ∈ wA := wA_i (i := 179) (by decide +kernel) (by decide +kernel)
theorem wm_180 : Cond.fieldLink "SweeperRounds" 70 "SweeperRounds$World" "streetCount" "I" ∈ wA := wA_i (i := 180) (by decide +kernel) (by decide +kernel)
theorem wm_181 : Cond.fieldLink "SweeperRounds$World" 19 "SweeperRounds$World" "legs" "[LSweeperRounds$Leg;" ∈ wA := wA_i (i := 181) (by decide +kernel) (by decide +kernel)
theorem wm_182 : Cond.fieldLink "SweeperRounds$Round" 33 "SweeperRounds$World" "legs" "[LSweeperRounds$Leg;" ∈ wA := wA_i (i := 182) (by decide +kernel) (by decide +kernel)
theorem wm_183 : Cond.fieldLink "SweeperRounds" 186 "SweeperRounds$World" "legs" "[LSweeperRounds$Leg;" ∈ wA := wA_i (i := 183) (by decide +kernel) (by decide +kernel)
theorem wm_184 : Cond.fieldLink "SweeperRounds$Round" 30 "SweeperRounds$World" "legCount" "I" ∈ wA := wA_i (i := 184) (by decide +kernel) (by decide +kernel)
theorem wm_185 : Cond.fieldLink "SweeperRounds$World" 59 "SweeperRounds$World" "legCount" "I" ∈ wA := wA_i (i := 185) (by decide +kernel) (by decide +kernel)
theorem wm_186 : Cond.fieldLink "SweeperRounds" 108 "SweeperRounds$World" "legCount" "I" ∈ wA := wA_i (i := 186) (by decide +kernel) (by decide +kernel)
theorem wm_187 : Cond.fieldLink "SweeperRounds$World" 65 "SweeperRounds$World" "legsTell" "Z" ∈ wA := wA_i (i := 187) (by decide +kernel) (by decide +kernel)
theorem wm_188 : Cond.fieldLink "SweeperRounds$Round" 153 "SweeperRounds$World" "legsTell" "Z" ∈ wA := wA_i (i := 188) (by decide +kernel) (by decide +kernel)
theorem wm_189 : Cond.fieldLink "SweeperRounds" 198 "SweeperRounds$World" "legsTell" "Z" ∈ wA := wA_i (i := 189) (by decide +kernel) (by decide +kernel)
theorem wm_190 : Cond.fieldLink "SweeperRounds$World" 23 "SweeperRounds$World" "settings" "[I" ∈ wA := wA_i (i := 190) (by decide +kernel) (by decide +kernel)
theorem wm_191 : Cond.fieldLink "SweeperRounds$Round" 104 "SweeperRounds$World" "settings" "[I" ∈ wA := wA_i (i := 191) (by decide +kernel) (by decide +kernel)
theorem wm_192 : Cond.fieldLink "SweeperRounds" 174 "SweeperRounds$World" "settings" "[I" ∈ wA := wA_i (i := 192) (by decide +kernel) (by decide +kernel)
theorem wm_193 : Cond.fieldLink "SweeperRounds$World" 48 "SweeperRounds$World" "brush" "I" ∈ wA := wA_i (i := 193) (by decide +kernel) (by decide +kernel)
theorem wm_194 : Cond.fieldLink "SweeperRounds$Round" 144 "SweeperRounds$World" "brush" "I" ∈ wA := wA_i (i := 194) (by decide +kernel) (by decide +kernel)
theorem wm_195 : Cond.fieldLink "SweeperRounds" 274 "SweeperRounds$World" "brush" "I" ∈ wA := wA_i (i := 195) (by decide +kernel) (by decide +kernel)
theorem wm_196 : Cond.fieldLink "SweeperRounds$World" 69 "SweeperRounds$World" "hopper" "I" ∈ wA := wA_i (i := 196) (by decide +kernel) (by decide +kernel)
theorem wm_197 : Cond.fieldLink "SweeperRounds$Round" 140 "SweeperRounds$World" "hopper" "I" ∈ wA := wA_i (i := 197) (by decide +kernel) (by decide +kernel)
theorem wm_198 : Cond.fieldLink "SweeperRounds" 277 "SweeperRounds$World" "hopper" "I" ∈ wA := wA_i (i := 198) (by decide +kernel) (by decide +kernel)
theorem wm_199 : Cond.fieldLink "SweeperRounds$World" 27 "SweeperRounds$World" "sums" "[I" ∈ wA := wA_i (i := 199) (by decide +kernel) (by decide +kernel)
theorem wm_200 : Cond.fieldLink "SweeperRounds" 265 "SweeperRounds$World" "sums" "[I" ∈ wA := wA_i (i := 200) (by decide +kernel) (by decide +kernel)
theorem wm_201 : Cond.fieldLink "SweeperRounds$World" 33 "SweeperRounds$World" "report" "LSweeperRounds$Report;" ∈ wA := wA_i (i := 201) (by decide +kernel) (by decide +kernel)
theorem wm_202 : Cond.fieldLink "SweeperRounds$Round" 15 "SweeperRounds$World" "report" "LSweeperRounds$Report;" ∈ wA := wA_i (i := 202) (by decide +kernel) (by decide +kernel)
theorem wm_203 : Cond.fieldLink "SweeperRounds" 211 "SweeperRounds$World" "report" "LSweeperRounds$Report;" ∈ wA := wA_i (i := 203) (by decide +kernel) (by decide +kernel)
theorem wm_204 : Cond.fieldLink "SweeperRounds$World" 75 "SweeperRounds$World" "shifts" "I" ∈ wA := wA_i (i := 204) (by decide +kernel) (by decide +kernel)
theorem wm_205 : Cond.fieldLink "SweeperRounds$Round" 150 "SweeperRounds$World" "shifts" "I" ∈ wA := wA_i (i := 205) (by decide +kernel) (by decide +kernel)
theorem wm_206 : Cond.fieldLink "SweeperRounds" 227 "SweeperRounds$World" "shifts" "I" ∈ wA := wA_i (i := 206) (by decide +kernel) (by decide +kernel)
theorem wm_207 : Cond.fieldLink "SweeperRounds$World" 78 "SweeperRounds$World" "nights" "I" ∈ wA := wA_i (i := 207) (by decide +kernel) (by decide +kernel)
theorem wm_208 : Cond.fieldLink "SweeperRounds" 280 "SweeperRounds$World" "nights" "I" ∈ wA := wA_i (i := 208) (by decide +kernel) (by decide +kernel)
theorem wm_234 : Cond.classLink "SweeperRounds" 30 "SweeperRounds$Round" ∈ wA := wA_i (i := 234) (by decide +kernel) (by decide +kernel)
theorem wm_235 : Cond.instantiable "SweeperRounds$Round" 2 ∈ wA := wA_i (i := 235) (by decide +kernel) (by decide +kernel)
theorem wm_236 : Cond.methodLink "SweeperRounds" 32 ⟨"SweeperRounds$Round", "<init>", "(LSweeperRounds$World;)V"⟩ ∈ wA := wA_i (i := 236) (by decide +kernel) (by decide +kernel)
theorem wm_237 : Cond.instanceMethod ⟨"SweeperRounds$Round", "<init>", "(LSweeperRounds$World;)V"⟩ ∈ wA := wA_i (i := 237) (by decide +kernel) (by decide +kernel)
theorem wm_238 : Cond.code ⟨"SweeperRounds$Round", "<init>", "(LSweeperRounds$World;)V"⟩ prog_7_method_1_code 2 none ∈ wA := wA_i (i := 238) (by decide +kernel) (by decide +kernel)
theorem wm_239 : Cond.methodLink "SweeperRounds$Round" 3 ⟨"java/lang/Object", "<init>", "()V"⟩ ∈ wA := wA_i (i := 239) (by decide +kernel) (by decide +kernel)
theorem wm_240 : Cond.fieldLink "SweeperRounds$Round" 9 "SweeperRounds$Round" "world" "LSweeperRounds$World;" ∈ wA := wA_i (i := 240) (by decide +kernel) (by decide +kernel)
theorem wm_241 : Cond.fieldLink "SweeperRounds$Round" 26 "SweeperRounds$Round" "standsIn" "I" ∈ wA := wA_i (i := 241) (by decide +kernel) (by decide +kernel)
theorem wm_247 : Cond.classLink "SweeperRounds" 39 "SweeperRounds$History" ∈ wA := wA_i (i := 247) (by decide +kernel) (by decide +kernel)
theorem wm_248 : Cond.instantiable "SweeperRounds$History" 3 ∈ wA := wA_i (i := 248) (by decide +kernel) (by decide +kernel)
theorem wm_249 : Cond.methodLink "SweeperRounds" 41 ⟨"SweeperRounds$History", "<init>", "()V"⟩ ∈ wA := wA_i (i := 249) (by decide +kernel) (by decide +kernel)
theorem wm_250 : Cond.instanceMethod ⟨"SweeperRounds$History", "<init>", "()V"⟩ ∈ wA := wA_i (i := 250) (by decide +kernel) (by decide +kernel)
theorem wm_251 : Cond.code ⟨"SweeperRounds$History", "<init>", "()V"⟩ prog_2_method_1_code 2 none ∈ wA := wA_i (i := 251) (by decide +kernel) (by decide +kernel)
theorem wm_252 : Cond.methodLink "SweeperRounds$History" 3 ⟨"java/lang/Object", "<init>", "()V"⟩ ∈ wA := wA_i (i := 252) (by decide +kernel) (by decide +kernel)
theorem wm_253 : Cond.classLink "SweeperRounds$History" 9 "SweeperRounds$World" ∈ wA := wA_i (i := 253) (by decide +kernel) (by decide +kernel)
theorem wm_255 : Cond.methodLink "SweeperRounds$History" 17 ⟨"SweeperRounds$World", "<init>", "()V"⟩ ∈ wA := wA_i (i := 255) (by decide +kernel) (by decide +kernel)
theorem wm_256 : Cond.fieldLink "SweeperRounds$History" 11 "SweeperRounds$History" "worlds" "[LSweeperRounds$World;" ∈ wA := wA_i (i := 256) (by decide +kernel) (by decide +kernel)
theorem wm_257 : Cond.fieldLink "SweeperRounds$History" 18 "SweeperRounds$History" "next" "I" ∈ wA := wA_i (i := 257) (by decide +kernel) (by decide +kernel)
theorem wm_258 : Cond.fieldLink "SweeperRounds$History" 26 "SweeperRounds$History" "size" "I" ∈ wA := wA_i (i := 258) (by decide +kernel) (by decide +kernel)
theorem wm_259 : Cond.fieldLink "SweeperRounds" 268 "SweeperRounds$History" "size" "I" ∈ wA := wA_i (i := 259) (by decide +kernel) (by decide +kernel)
theorem wm_267 : Cond.classLink "SweeperRounds" 52 "SweeperRounds$Orders" ∈ wA := wA_i (i := 267) (by decide +kernel) (by decide +kernel)
theorem wm_268 : Cond.instantiable "SweeperRounds$Orders" 4 ∈ wA := wA_i (i := 268) (by decide +kernel) (by decide +kernel)
theorem wm_270 : Cond.instanceMethod ⟨"SweeperRounds$Orders", "<init>", "()V"⟩ ∈ wA := wA_i (i := 270) (by decide +kernel) (by decide +kernel)
theorem wm_271 : Cond.code ⟨"SweeperRounds$Orders", "<init>", "()V"⟩ prog_4_method_1_code 1 none ∈ wA := wA_i (i := 271) (by decide +kernel) (by decide +kernel)
theorem wm_272 : Cond.methodLink "SweeperRounds$Orders" 3 ⟨"java/lang/Object", "<init>", "()V"⟩ ∈ wA := wA_i (i := 272) (by decide +kernel) (by decide +kernel)
theorem wm_273 : Cond.fieldLink "SweeperRounds$Orders" 9 "SweeperRounds$Orders" "best" "[I" ∈ wA := wA_i (i := 273) (by decide +kernel) (by decide +kernel)
theorem wm_274 : Cond.fieldLink "SweeperRounds$Orders" 15 "SweeperRounds$Orders" "order" "[I" ∈ wA := wA_i (i := 274) (by decide +kernel) (by decide +kernel)
theorem wm_284 : Cond.fieldLink "SweeperRounds" 10 "SweeperRounds" "text" "LSweeperRounds$Text;" ∈ wA := wA_i (i := 284) (by decide +kernel) (by decide +kernel)
theorem wm_285 : Cond.fieldLink "SweeperRounds" 19 "SweeperRounds" "reader" "LSweeperRounds$Reader;" ∈ wA := wA_i (i := 285) (by decide +kernel) (by decide +kernel)
theorem wm_286 : Cond.fieldLink "SweeperRounds" 26 "SweeperRounds" "now" "LSweeperRounds$World;" ∈ wA := wA_i (i := 286) (by decide +kernel) (by decide +kernel)
theorem wm_287 : Cond.fieldLink "SweeperRounds" 35 "SweeperRounds" "round" "LSweeperRounds$Round;" ∈ wA := wA_i (i := 287) (by decide +kernel) (by decide +kernel)
theorem wm_288 : Cond.fieldLink "SweeperRounds" 42 "SweeperRounds" "history" "LSweeperRounds$History;" ∈ wA := wA_i (i := 288) (by decide +kernel) (by decide +kernel)
theorem wm_289 : Cond.fieldLink "SweeperRounds" 46 "SweeperRounds" "trial" "LSweeperRounds$World;" ∈ wA := wA_i (i := 289) (by decide +kernel) (by decide +kernel)
theorem wm_290 : Cond.fieldLink "SweeperRounds" 49 "SweeperRounds" "trialRound" "LSweeperRounds$Round;" ∈ wA := wA_i (i := 290) (by decide +kernel) (by decide +kernel)
theorem wm_291 : Cond.fieldLink "SweeperRounds" 55 "SweeperRounds" "orders" "LSweeperRounds$Orders;" ∈ wA := wA_i (i := 291) (by decide +kernel) (by decide +kernel)
theorem wm_292 : Cond.fieldLink "SweeperRounds" 59 "SweeperRounds" "latestFault" "I" ∈ wA := wA_i (i := 292) (by decide +kernel) (by decide +kernel)
theorem wm_312 : Cond.methodLink "SweeperRoundsLaw" 26 ⟨"SweeperRounds", "lay", "(IIII)I"⟩ ∈ wA := wA_i (i := 312) (by decide +kernel) (by decide +kernel)
theorem wm_313 : Cond.instanceMethod ⟨"SweeperRounds", "lay", "(IIII)I"⟩ ∈ wA := wA_i (i := 313) (by decide +kernel) (by decide +kernel)
theorem wm_314 : Cond.selects "SweeperRounds" ⟨"SweeperRounds", "lay", "(IIII)I"⟩ ⟨"SweeperRounds", "lay", "(IIII)I"⟩ ∈ wA := wA_i (i := 314) (by decide +kernel) (by decide +kernel)
theorem wm_315 : Cond.code ⟨"SweeperRounds", "lay", "(IIII)I"⟩ prog_1_method_8_code 5 (Option.some FieldType.int) ∈ wA := wA_i (i := 315) (by decide +kernel) (by decide +kernel)
theorem wm_316 : Cond.methodLink "SweeperRounds" 111 ⟨"SweeperRounds$World", "hasCell", "(III)Z"⟩ ∈ wA := wA_i (i := 316) (by decide +kernel) (by decide +kernel)
theorem wm_317 : Cond.instanceMethod ⟨"SweeperRounds$World", "hasCell", "(III)Z"⟩ ∈ wA := wA_i (i := 317) (by decide +kernel) (by decide +kernel)
theorem wm_318 : Cond.selects "SweeperRounds$World" ⟨"SweeperRounds$World", "hasCell", "(III)Z"⟩ ⟨"SweeperRounds$World", "hasCell", "(III)Z"⟩ ∈ wA := wA_i (i := 318) (by decide +kernel) (by decide +kernel)
theorem wm_319 : Cond.code ⟨"SweeperRounds$World", "hasCell", "(III)Z"⟩ prog_10_method_4_code 4 (Option.some FieldType.boolean) ∈ wA := wA_i (i := 319) (by decide +kernel) (by decide +kernel)
theorem wm_320 : Cond.methodLink "SweeperRounds$World" 81 ⟨"SweeperRounds$World", "hasStreet", "(I)Z"⟩ ∈ wA := wA_i (i := 320) (by decide +kernel) (by decide +kernel)
theorem wm_321 : Cond.instanceMethod ⟨"SweeperRounds$World", "hasStreet", "(I)Z"⟩ ∈ wA := wA_i (i := 321) (by decide +kernel) (by decide +kernel)
theorem wm_322 : Cond.selects "SweeperRounds$World" ⟨"SweeperRounds$World", "hasStreet", "(I)Z"⟩ ⟨"SweeperRounds$World", "hasStreet", "(I)Z"⟩ ∈ wA := wA_i (i := 322) (by decide +kernel) (by decide +kernel)
theorem wm_323 : Cond.code ⟨"SweeperRounds$World", "hasStreet", "(I)Z"⟩ prog_10_method_3_code 2 (Option.some FieldType.boolean) ∈ wA := wA_i (i := 323) (by decide +kernel) (by decide +kernel)
theorem wm_324 : Cond.methodLink "SweeperRounds" 80 ⟨"SweeperRounds$History", "remember", "(LSweeperRounds$World;)V"⟩ ∈ wA := wA_i (i := 324) (by decide +kernel) (by decide +kernel)
theorem wm_325 : Cond.instanceMethod ⟨"SweeperRounds$History", "remember", "(LSweeperRounds$World;)V"⟩ ∈ wA := wA_i (i := 325) (by decide +kernel) (by decide +kernel)
theorem wm_326 : Cond.selects "SweeperRounds$History" ⟨"SweeperRounds$History", "remember", "(LSweeperRounds$World;)V"⟩ ⟨"SweeperRounds$History", "remember", "(LSweeperRounds$World;)V"⟩ ∈ wA := wA_i (i := 326) (by decide +kernel) (by decide +kernel)
theorem wm_327 : Cond.code ⟨"SweeperRounds$History", "remember", "(LSweeperRounds$World;)V"⟩ prog_2_method_2_code 2 none ∈ wA := wA_i (i := 327) (by decide +kernel) (by decide +kernel)
theorem wm_328 : Cond.methodLink "SweeperRounds$History" 22 ⟨"SweeperRounds$World", "copyFrom", "(LSweeperRounds$World;)V"⟩ ∈ wA := wA_i (i := 328) (by decide +kernel) (by decide +kernel)
theorem wm_329 : Cond.instanceMethod ⟨"SweeperRounds$World", "copyFrom", "(LSweeperRounds$World;)V"⟩ ∈ wA := wA_i (i := 329) (by decide +kernel) (by decide +kernel)
theorem wm_330 : Cond.selects "SweeperRounds$World" ⟨"SweeperRounds$World", "copyFrom", "(LSweeperRounds$World;)V"⟩ ⟨"SweeperRounds$World", "copyFrom", "(LSweeperRounds$World;)V"⟩ ∈ wA := wA_i (i := 330) (by decide +kernel) (by decide +kernel)
theorem wm_331 : Cond.code ⟨"SweeperRounds$World", "copyFrom", "(LSweeperRounds$World;)V"⟩ prog_10_method_2_code 3 none ∈ wA := wA_i (i := 331) (by decide +kernel) (by decide +kernel)
theorem wm_332 : Cond.methodLink "SweeperRounds$World" 55 ⟨"SweeperRounds$Street", "copyFrom", "(LSweeperRounds$Street;)V"⟩ ∈ wA := wA_i (i := 332) (by decide +kernel) (by decide +kernel)
theorem wm_333 : Cond.instanceMethod ⟨"SweeperRounds$Street", "copyFrom", "(LSweeperRounds$Street;)V"⟩ ∈ wA := wA_i (i := 333) (by decide +kernel) (by decide +kernel)
theorem wm_334 : Cond.selects "SweeperRounds$Street" ⟨"SweeperRounds$Street", "copyFrom", "(LSweeperRounds$Street;)V"⟩ ⟨"SweeperRounds$Street", "copyFrom", "(LSweeperRounds$Street;)V"⟩ ∈ wA := wA_i (i := 334) (by decide +kernel) (by decide +kernel)
theorem wm_335 : Cond.code ⟨"SweeperRounds$Street", "copyFrom", "(LSweeperRounds$Street;)V"⟩ prog_8_method_3_code 3 none ∈ wA := wA_i (i := 335) (by decide +kernel) (by decide +kernel)
theorem wm_336 : Cond.methodLink "SweeperRounds$World" 62 ⟨"SweeperRounds$Leg", "copyFrom", "(LSweeperRounds$Leg;)V"⟩ ∈ wA := wA_i (i := 336) (by decide +kernel) (by decide +kernel)
theorem wm_337 : Cond.instanceMethod ⟨"SweeperRounds$Leg", "copyFrom", "(LSweeperRounds$Leg;)V"⟩ ∈ wA := wA_i (i := 337) (by decide +kernel) (by decide +kernel)
theorem wm_338 : Cond.selects "SweeperRounds$Leg" ⟨"SweeperRounds$Leg", "copyFrom", "(LSweeperRounds$Leg;)V"⟩ ⟨"SweeperRounds$Leg", "copyFrom", "(LSweeperRounds$Leg;)V"⟩ ∈ wA := wA_i (i := 338) (by decide +kernel) (by decide +kernel)
theorem wm_339 : Cond.code ⟨"SweeperRounds$Leg", "copyFrom", "(LSweeperRounds$Leg;)V"⟩ prog_3_method_2_code 2 none ∈ wA := wA_i (i := 339) (by decide +kernel) (by decide +kernel)
theorem wm_340 : Cond.methodLink "SweeperRounds$World" 72 ⟨"SweeperRounds$Report", "copyFrom", "(LSweeperRounds$Report;)V"⟩ ∈ wA := wA_i (i := 340) (by decide +kernel) (by decide +kernel)
theorem wm_341 : Cond.instanceMethod ⟨"SweeperRounds$Report", "copyFrom", "(LSweeperRounds$Report;)V"⟩ ∈ wA := wA_i (i := 341) (by decide +kernel) (by decide +kernel)
theorem wm_342 : Cond.selects "SweeperRounds$Report" ⟨"SweeperRounds$Report", "copyFrom", "(LSweeperRounds$Report;)V"⟩ ⟨"SweeperRounds$Report", "copyFrom", "(LSweeperRounds$Report;)V"⟩ ∈ wA := wA_i (i := 342) (by decide +kernel) (by decide +kernel)
theorem wm_343 : Cond.code ⟨"SweeperRounds$Report", "copyFrom", "(LSweeperRounds$Report;)V"⟩ prog_6_method_3_code 2 none ∈ wA := wA_i (i := 343) (by decide +kernel) (by decide +kernel)
theorem wm_344 : Cond.methodLink "SweeperRounds$History" 29 ⟨"java/lang/Math", "min", "(II)I"⟩ ∈ wA := wA_i (i := 344) (by decide +kernel) (by decide +kernel)
theorem wm_345 : Cond.static ⟨"java/lang/Math", "min", "(II)I"⟩ ∈ wA := wA_i (i := 345) (by decide +kernel) (by decide +kernel)
theorem wm_346 : Cond.code ⟨"java/lang/Math", "min", "(II)I"⟩ prog_13_method_69_code 2 (Option.some FieldType.int) ∈ wA := wA_i (i := 346) (by decide +kernel) (by decide +kernel)
theorem wm_347 : Cond.methodLink "SweeperRounds" 115 ⟨"SweeperRounds", "placeOf", "(II)I"⟩ ∈ wA := wA_i (i := 347) (by decide +kernel) (by decide +kernel)
theorem wm_348 : Cond.static ⟨"SweeperRounds", "placeOf", "(II)I"⟩ ∈ wA := wA_i (i := 348) (by decide +kernel) (by decide +kernel)
theorem wm_349 : Cond.code ⟨"SweeperRounds", "placeOf", "(II)I"⟩ prog_1_method_32_code 2 (Option.some FieldType.int) ∈ wA := wA_i (i := 349) (by decide +kernel) (by decide +kernel)
theorem wm_350 : Cond.methodLink "SweeperRounds" 119 ⟨"SweeperRounds$World", "layDirt", "(III)I"⟩ ∈ wA := wA_i (i := 350) (by decide +kernel) (by decide +kernel)
theorem wm_351 : Cond.instanceMethod ⟨"SweeperRounds$World", "layDirt", "(III)I"⟩ ∈ wA := wA_i (i := 351) (by decide +kernel) (by decide +kernel)
theorem wm_352 : Cond.selects "SweeperRounds$World" ⟨"SweeperRounds$World", "layDirt", "(III)I"⟩ ⟨"SweeperRounds$World", "layDirt", "(III)I"⟩ ∈ wA := wA_i (i := 352) (by decide +kernel) (by decide +kernel)
theorem wm_353 : Cond.code ⟨"SweeperRounds$World", "layDirt", "(III)I"⟩ prog_10_method_14_code 6 (Option.some FieldType.int) ∈ wA := wA_i (i := 353) (by decide +kernel) (by decide +kernel)
theorem wm_354 : Cond.methodLink "SweeperRounds$World" 114 ⟨"java/lang/Math", "max", "(II)I"⟩ ∈ wA := wA_i (i := 354) (by decide +kernel) (by decide +kernel)
theorem wm_355 : Cond.static ⟨"java/lang/Math", "max", "(II)I"⟩ ∈ wA := wA_i (i := 355) (by decide +kernel) (by decide +kernel)
theorem wm_356 : Cond.code ⟨"java/lang/Math", "max", "(II)I"⟩ prog_13_method_65_code 2 (Option.some FieldType.int) ∈ wA := wA_i (i := 356) (by decide +kernel) (by decide +kernel)
theorem wm_357 : Cond.methodLink "SweeperRoundsLaw" 30 ⟨"SweeperRounds", "park", "(IIIZ)I"⟩ ∈ wA := wA_i (i := 357) (by decide +kernel) (by decide +kernel)
theorem wm_358 : Cond.instanceMethod ⟨"SweeperRounds", "park", "(IIIZ)I"⟩ ∈ wA := wA_i (i := 358) (by decide +kernel) (by decide +kernel)
theorem wm_359 : Cond.selects "SweeperRounds" ⟨"SweeperRounds", "park", "(IIIZ)I"⟩ ⟨"SweeperRounds", "park", "(IIIZ)I"⟩ ∈ wA := wA_i (i := 359) (by decide +kernel) (by decide +kernel)
theorem wm_360 : Cond.code ⟨"SweeperRounds", "park", "(IIIZ)I"⟩ prog_1_method_9_code 8 (Option.some FieldType.int) ∈ wA := wA_i (i := 360) (by decide +kernel) (by decide +kernel)
theorem wm_361 : Cond.methodLink "SweeperRoundsLaw" 50 ⟨"SweeperRounds", "cell", "(IIII)I"⟩ ∈ wA := wA_i (i := 361) (by decide +kernel) (by decide +kernel)
theorem wm_362 : Cond.instanceMethod ⟨"SweeperRounds", "cell", "(IIII)I"⟩ ∈ wA := wA_i (i := 362) (by decide +kernel) (by decide +kernel)
theorem wm_363 : Cond.selects "SweeperRounds" ⟨"SweeperRounds", "cell", "(IIII)I"⟩ ⟨"SweeperRounds", "cell", "(IIII)I"⟩ ∈ wA := wA_i (i := 363) (by decide +kernel) (by decide +kernel)
theorem wm_364 : Cond.code ⟨"SweeperRounds", "cell", "(IIII)I"⟩ prog_1_method_10_code 7 (Option.some FieldType.int) ∈ wA := wA_i (i := 364) (by decide +kernel) (by decide +kernel)
theorem wm_365 : Cond.methodLink "SweeperRounds" 134 ⟨"SweeperRounds$World", "grip", "()I"⟩ ∈ wA := wA_i (i := 365) (by decide +kernel) (by decide +kernel)
theorem wm_366 : Cond.instanceMethod ⟨"SweeperRounds$World", "grip", "()I"⟩ ∈ wA := wA_i (i := 366) (by decide +kernel) (by decide +kernel)
theorem wm_367 : Cond.selects "SweeperRounds$World" ⟨"SweeperRounds$World", "grip", "()I"⟩ ⟨"SweeperRounds$World", "grip", "()I"⟩ ∈ wA := wA_i (i := 367) (by decide +kernel) (by decide +kernel)
theorem wm_368 : Cond.code ⟨"SweeperRounds$World", "grip", "()I"⟩ prog_10_method_16_code 1 (Option.some FieldType.int) ∈ wA := wA_i (i := 368) (by decide +kernel) (by decide +kernel)
theorem wm_369 : Cond.methodLink "SweeperRounds" 138 ⟨"SweeperRounds$Street", "couldGive", "(II)I"⟩ ∈ wA := wA_i (i := 369) (by decide +kernel) (by decide +kernel)
theorem wm_370 : Cond.instanceMethod ⟨"SweeperRounds$Street", "couldGive", "(II)I"⟩ ∈ wA := wA_i (i := 370) (by decide +kernel) (by decide +kernel)
theorem wm_371 : Cond.selects "SweeperRounds$Street" ⟨"SweeperRounds$Street", "couldGive", "(II)I"⟩ ⟨"SweeperRounds$Street", "couldGive", "(II)I"⟩ ∈ wA := wA_i (i := 371) (by decide +kernel) (by decide +kernel)
theorem wm_372 : Cond.code ⟨"SweeperRounds$Street", "couldGive", "(II)I"⟩ prog_8_method_8_code 3 (Option.some FieldType.int) ∈ wA := wA_i (i := 372) (by decide +kernel) (by decide +kernel)
theorem wm_373 : Cond.methodLink "SweeperRounds" 141 ⟨"SweeperRounds$World", "room", "()I"⟩ ∈ wA := wA_i (i := 373) (by decide +kernel) (by decide +kernel)
theorem wm_374 : Cond.instanceMethod ⟨"SweeperRounds$World", "room", "()I"⟩ ∈ wA := wA_i (i := 374) (by decide +kernel) (by decide +kernel)
theorem wm_375 : Cond.selects "SweeperRounds$World" ⟨"SweeperRounds$World", "room", "()I"⟩ ⟨"SweeperRounds$World", "room", "()I"⟩ ∈ wA := wA_i (i := 375) (by decide +kernel) (by decide +kernel)
theorem wm_376 : Cond.code ⟨"SweeperRounds$World", "room", "()I"⟩ prog_10_method_17_code 1 (Option.some FieldType.int) ∈ wA := wA_i (i := 376) (by decide +kernel) (by decide +kernel)
theorem wm_377 : Cond.methodLink "SweeperRounds" 144 ⟨"java/lang/Math", "min", "(II)I"⟩ ∈ wA := wA_i (i := 377) (by decide +kernel) (by decide +kernel)
theorem wm_378 : Cond.methodLink "SweeperRoundsLaw" 47 ⟨"SweeperRounds", "street", "(II)I"⟩ ∈ wA := wA_i (i := 378) (by decide +kernel) (by decide +kernel)
theorem wm_379 : Cond.instanceMethod ⟨"SweeperRounds", "street", "(II)I"⟩ ∈ wA := wA_i (i := 379) (by decide +kernel) (by decide +kernel)
theorem wm_380 : Cond.selects "SweeperRounds" ⟨"SweeperRounds", "street", "(II)I"⟩ ⟨"SweeperRounds", "street", "(II)I"⟩ ∈ wA := wA_i (i := 380) (by decide +kernel) (by decide +kernel)
theorem wm_381 : Cond.code ⟨"SweeperRounds", "street", "(II)I"⟩ prog_1_method_11_code 4 (Option.some FieldType.int) ∈ wA := wA_i (i := 381) (by decide +kernel) (by decide +kernel)
theorem wm_382 : Cond.methodLink "SweeperRounds" 100 ⟨"SweeperRounds$World", "hasStreet", "(I)Z"⟩ ∈ wA := wA_i (i := 382) (by decide +kernel) (by decide +kernel)
theorem wm_383 : Cond.methodLink "SweeperRounds" 155 ⟨"SweeperRounds$Street", "dirtOfSide", "(I)I"⟩ ∈ wA := wA_i (i := 383) (by decide +kernel) (by decide +kernel)
theorem wm_384 : Cond.instanceMethod ⟨"SweeperRounds$Street", "dirtOfSide", "(I)I"⟩ ∈ wA := wA_i (i := 384) (by decide +kernel) (by decide +kernel)
theorem wm_385 : Cond.selects "SweeperRounds$Street" ⟨"SweeperRounds$Street", "dirtOfSide", "(I)I"⟩ ⟨"SweeperRounds$Street", "dirtOfSide", "(I)I"⟩ ∈ wA := wA_i (i := 385) (by decide +kernel) (by decide +kernel)
theorem wm_386 : Cond.code ⟨"SweeperRounds$Street", "dirtOfSide", "(I)I"⟩ prog_8_method_4_code 4 (Option.some FieldType.int) ∈ wA := wA_i (i := 386) (by decide +kernel) (by decide +kernel)
theorem wm_388 : Cond.methodLink "SweeperRounds" 159 ⟨"SweeperRounds$Street", "parkedCells", "()I"⟩ ∈ wA := wA_i (i := 388) (by decide +kernel) (by decide +kernel)
theorem wm_389 : Cond.instanceMethod ⟨"SweeperRounds$Street", "parkedCells", "()I"⟩ ∈ wA := wA_i (i := 389) (by decide +kernel) (by decide +kernel)
theorem wm_390 : Cond.selects "SweeperRounds$Street" ⟨"SweeperRounds$Street", "parkedCells", "()I"⟩ ⟨"SweeperRounds$Street", "parkedCells", "()I"⟩ ∈ wA := wA_i (i := 390) (by decide +kernel) (by decide +kernel)
set_option maxRecDepth 100000 in
set_option maxHeartbeats 4000000 in
theorem wm_391 : Cond.code ⟨"SweeperRounds$Street", "parkedCells", "()I"⟩ prog_8_method_6_code 3 (Option.some FieldType.int) ∈ wA := wA_i (i := 391) (by rfl) (by rfl)
theorem wm_392 : Cond.methodLink "SweeperRounds" 162 ⟨"SweeperRounds$Street", "greatestDirt", "()I"⟩ ∈ wA := wA_i (i := 392) (by decide +kernel) (by decide +kernel)
theorem wm_393 : Cond.instanceMethod ⟨"SweeperRounds$Street", "greatestDirt", "()I"⟩ ∈ wA := wA_i (i := 393) (by decide +kernel) (by decide +kernel)
theorem wm_394 : Cond.selects "SweeperRounds$Street" ⟨"SweeperRounds$Street", "greatestDirt", "()I"⟩ ⟨"SweeperRounds$Street", "greatestDirt", "()I"⟩ ∈ wA := wA_i (i := 394) (by decide +kernel) (by decide +kernel)
theorem wm_395 : Cond.code ⟨"SweeperRounds$Street", "greatestDirt", "()I"⟩ prog_8_method_7_code 3 (Option.some FieldType.int) ∈ wA := wA_i (i := 395) (by decide +kernel) (by decide +kernel)
theorem wm_396 : Cond.methodLink "SweeperRounds$Street" 37 ⟨"java/lang/Math", "max", "(II)I"⟩ ∈ wA := wA_i (i := 396) (by decide +kernel) (by decide +kernel)
theorem wm_397 : Cond.methodLink "SweeperRounds" 165 ⟨"SweeperRounds$World", "legsIn", "(I)I"⟩ ∈ wA := wA_i (i := 397) (by decide +kernel) (by decide +kernel)
theorem wm_398 : Cond.instanceMethod ⟨"SweeperRounds$World", "legsIn", "(I)I"⟩ ∈ wA := wA_i (i := 398) (by decide +kernel) (by decide +kernel)
theorem wm_399 : Cond.selects "SweeperRounds$World" ⟨"SweeperRounds$World", "legsIn", "(I)I"⟩ ⟨"SweeperRounds$World", "legsIn", "(I)I"⟩ ∈ wA := wA_i (i := 399) (by decide +kernel) (by decide +kernel)
theorem wm_400 : Cond.code ⟨"SweeperRounds$World", "legsIn", "(I)I"⟩ prog_10_method_7_code 4 (Option.some FieldType.int) ∈ wA := wA_i (i := 400) (by decide +kernel) (by decide +kernel)
theorem wm_401 : Cond.methodLink "SweeperRoundsLaw" 37 ⟨"SweeperRounds", "set", "(II)I"⟩ ∈ wA := wA_i (i := 401) (by decide +kernel) (by decide +kernel)
theorem wm_402 : Cond.instanceMethod ⟨"SweeperRounds", "set", "(II)I"⟩ ∈ wA := wA_i (i := 402) (by decide +kernel) (by decide +kernel)
theorem wm_403 : Cond.selects "SweeperRounds" ⟨"SweeperRounds", "set", "(II)I"⟩ ⟨"SweeperRounds", "set", "(II)I"⟩ ∈ wA := wA_i (i := 403) (by decide +kernel) (by decide +kernel)
theorem wm_404 : Cond.code ⟨"SweeperRounds", "set", "(II)I"⟩ prog_1_method_12_code 4 (Option.some FieldType.int) ∈ wA := wA_i (i := 404) (by decide +kernel) (by decide +kernel)
theorem wm_405 : Cond.methodLink "SweeperRounds" 168 ⟨"SweeperRounds$World", "leastSetting", "(I)I"⟩ ∈ wA := wA_i (i := 405) (by decide +kernel) (by decide +kernel)
theorem wm_406 : Cond.instanceMethod ⟨"SweeperRounds$World", "leastSetting", "(I)I"⟩ ∈ wA := wA_i (i := 406) (by decide +kernel) (by decide +kernel)
theorem wm_407 : Cond.selects "SweeperRounds$World" ⟨"SweeperRounds$World", "leastSetting", "(I)I"⟩ ⟨"SweeperRounds$World", "leastSetting", "(I)I"⟩ ∈ wA := wA_i (i := 407) (by decide +kernel) (by decide +kernel)
theorem wm_408 : Cond.code ⟨"SweeperRounds$World", "leastSetting", "(I)I"⟩ prog_10_method_15_code 2 (Option.some FieldType.int) ∈ wA := wA_i (i := 408) (by decide +kernel) (by decide +kernel)
theorem wm_411 : Cond.fieldLink "SweeperRounds" 171 "SweeperRounds" "MOST_SETTINGS" "[I" ∈ wA := wA_i (i := 411) (by decide +kernel) (by decide +kernel)
theorem wm_413 : Cond.methodLink "SweeperRoundsLaw" 52 ⟨"SweeperRounds", "leg", "(II)I"⟩ ∈ wA := wA_i (i := 413) (by decide +kernel) (by decide +kernel)
theorem wm_414 : Cond.instanceMethod ⟨"SweeperRounds", "leg", "(II)I"⟩ ∈ wA := wA_i (i := 414) (by decide +kernel) (by decide +kernel)
theorem wm_415 : Cond.selects "SweeperRounds" ⟨"SweeperRounds", "leg", "(II)I"⟩ ⟨"SweeperRounds", "leg", "(II)I"⟩ ∈ wA := wA_i (i := 415) (by decide +kernel) (by decide +kernel)
theorem wm_416 : Cond.code ⟨"SweeperRounds", "leg", "(II)I"⟩ prog_1_method_15_code 4 (Option.some FieldType.int) ∈ wA := wA_i (i := 416) (by decide +kernel) (by decide +kernel)
theorem wm_417 : Cond.methodLink "SweeperRounds" 180 ⟨"SweeperRounds$World", "hasLeg", "(I)Z"⟩ ∈ wA := wA_i (i := 417) (by decide +kernel) (by decide +kernel)
theorem wm_418 : Cond.instanceMethod ⟨"SweeperRounds$World", "hasLeg", "(I)Z"⟩ ∈ wA := wA_i (i := 418) (by decide +kernel) (by decide +kernel)
theorem wm_419 : Cond.selects "SweeperRounds$World" ⟨"SweeperRounds$World", "hasLeg", "(I)Z"⟩ ⟨"SweeperRounds$World", "hasLeg", "(I)Z"⟩ ∈ wA := wA_i (i := 419) (by decide +kernel) (by decide +kernel)
theorem wm_420 : Cond.code ⟨"SweeperRounds$World", "hasLeg", "(I)Z"⟩ prog_10_method_5_code 2 (Option.some FieldType.boolean) ∈ wA := wA_i (i := 420) (by decide +kernel) (by decide +kernel)
theorem wm_421 : Cond.methodLink "SweeperRoundsLaw" 76 ⟨"SweeperRounds", "night", "(I)I"⟩ ∈ wA := wA_i (i := 421) (by decide +kernel) (by decide +kernel)
theorem wm_422 : Cond.instanceMethod ⟨"SweeperRounds", "night", "(I)I"⟩ ∈ wA := wA_i (i := 422) (by decide +kernel) (by decide +kernel)
theorem wm_423 : Cond.selects "SweeperRounds" ⟨"SweeperRounds", "night", "(I)I"⟩ ⟨"SweeperRounds", "night", "(I)I"⟩ ∈ wA := wA_i (i := 423) (by decide +kernel) (by decide +kernel)
theorem wm_424 : Cond.code ⟨"SweeperRounds", "night", "(I)I"⟩ prog_1_method_17_code 2 (Option.some FieldType.int) ∈ wA := wA_i (i := 424) (by decide +kernel) (by decide +kernel)
theorem wm_425 : Cond.methodLink "SweeperRounds" 218 ⟨"SweeperRounds$World", "passNights", "(I)V"⟩ ∈ wA := wA_i (i := 425) (by decide +kernel) (by decide +kernel)
theorem wm_426 : Cond.instanceMethod ⟨"SweeperRounds$World", "passNights", "(I)V"⟩ ∈ wA := wA_i (i := 426) (by decide +kernel) (by decide +kernel)
theorem wm_427 : Cond.selects "SweeperRounds$World" ⟨"SweeperRounds$World", "passNights", "(I)V"⟩ ⟨"SweeperRounds$World", "passNights", "(I)V"⟩ ∈ wA := wA_i (i := 427) (by decide +kernel) (by decide +kernel)
theorem wm_428 : Cond.code ⟨"SweeperRounds$World", "passNights", "(I)V"⟩ prog_10_method_20_code 6 none ∈ wA := wA_i (i := 428) (by decide +kernel) (by decide +kernel)
theorem wm_429 : Cond.methodLink "SweeperRounds$World" 123 ⟨"SweeperRounds$World", "fallOn", "(LSweeperRounds$Street;)I"⟩ ∈ wA := wA_i (i := 429) (by decide +kernel) (by decide +kernel)
theorem wm_430 : Cond.instanceMethod ⟨"SweeperRounds$World", "fallOn", "(LSweeperRounds$Street;)I"⟩ ∈ wA := wA_i (i := 430) (by decide +kernel) (by decide +kernel)
theorem wm_431 : Cond.selects "SweeperRounds$World" ⟨"SweeperRounds$World", "fallOn", "(LSweeperRounds$Street;)I"⟩ ⟨"SweeperRounds$World", "fallOn", "(LSweeperRounds$Street;)I"⟩ ∈ wA := wA_i (i := 431) (by decide +kernel) (by decide +kernel)
theorem wm_432 : Cond.code ⟨"SweeperRounds$World", "fallOn", "(LSweeperRounds$Street;)I"⟩ prog_10_method_19_code 2 (Option.some FieldType.int) ∈ wA := wA_i (i := 432) (by decide +kernel) (by decide +kernel)
theorem wm_434 : Cond.methodLink "SweeperRounds$World" 130 ⟨"SweeperRounds$Street", "putDirt", "(II)I"⟩ ∈ wA := wA_i (i := 434) (by decide +kernel) (by decide +kernel)
theorem wm_435 : Cond.instanceMethod ⟨"SweeperRounds$Street", "putDirt", "(II)I"⟩ ∈ wA := wA_i (i := 435) (by decide +kernel) (by decide +kernel)
theorem wm_436 : Cond.selects "SweeperRounds$Street" ⟨"SweeperRounds$Street", "putDirt", "(II)I"⟩ ⟨"SweeperRounds$Street", "putDirt", "(II)I"⟩ ∈ wA := wA_i (i := 436) (by decide +kernel) (by decide +kernel)
theorem wm_437 : Cond.code ⟨"SweeperRounds$Street", "putDirt", "(II)I"⟩ prog_8_method_9_code 4 (Option.some FieldType.int) ∈ wA := wA_i (i := 437) (by decide +kernel) (by decide +kernel)
theorem wm_438 : Cond.methodLink "SweeperRounds$Street" 42 ⟨"java/lang/Math", "min", "(II)I"⟩ ∈ wA := wA_i (i := 438) (by decide +kernel) (by decide +kernel)
theorem wm_439 : Cond.methodLink "SweeperRounds" 221 ⟨"SweeperRounds$World", "dirtOnStreets", "()I"⟩ ∈ wA := wA_i (i := 439) (by decide +kernel) (by decide +kernel)
theorem wm_440 : Cond.instanceMethod ⟨"SweeperRounds$World", "dirtOnStreets", "()I"⟩ ∈ wA := wA_i (i := 440) (by decide +kernel) (by decide +kernel)
theorem wm_441 : Cond.selects "SweeperRounds$World" ⟨"SweeperRounds$World", "dirtOnStreets", "()I"⟩ ⟨"SweeperRounds$World", "dirtOnStreets", "()I"⟩ ∈ wA := wA_i (i := 441) (by decide +kernel) (by decide +kernel)
set_option maxRecDepth 100000 in
set_option maxHeartbeats 4000000 in
theorem wm_442 : Cond.code ⟨"SweeperRounds$World", "dirtOnStreets", "()I"⟩ prog_10_method_6_code 3 (Option.some FieldType.int) ∈ wA := wA_i (i := 442) (by rfl) (by rfl)
theorem wm_443 : Cond.methodLink "SweeperRounds$World" 88 ⟨"SweeperRounds$Street", "allDirt", "()I"⟩ ∈ wA := wA_i (i := 443) (by decide +kernel) (by decide +kernel)
theorem wm_444 : Cond.instanceMethod ⟨"SweeperRounds$Street", "allDirt", "()I"⟩ ∈ wA := wA_i (i := 444) (by decide +kernel) (by decide +kernel)
theorem wm_445 : Cond.selects "SweeperRounds$Street" ⟨"SweeperRounds$Street", "allDirt", "()I"⟩ ⟨"SweeperRounds$Street", "allDirt", "()I"⟩ ∈ wA := wA_i (i := 445) (by decide +kernel) (by decide +kernel)
theorem wm_446 : Cond.code ⟨"SweeperRounds$Street", "allDirt", "()I"⟩ prog_8_method_5_code 1 (Option.some FieldType.int) ∈ wA := wA_i (i := 446) (by decide +kernel) (by decide +kernel)
theorem wm_447 : Cond.methodLink "SweeperRounds$Street" 33 ⟨"SweeperRounds$Street", "dirtOfSide", "(I)I"⟩ ∈ wA := wA_i (i := 447) (by decide +kernel) (by decide +kernel)
theorem wm_448 : Cond.methodLink "SweeperRoundsLaw" 79 ⟨"SweeperRounds", "rain", "(I)I"⟩ ∈ wA := wA_i (i := 448) (by decide +kernel) (by decide +kernel)
theorem wm_449 : Cond.instanceMethod ⟨"SweeperRounds", "rain", "(I)I"⟩ ∈ wA := wA_i (i := 449) (by decide +kernel) (by decide +kernel)
theorem wm_450 : Cond.selects "SweeperRounds" ⟨"SweeperRounds", "rain", "(I)I"⟩ ⟨"SweeperRounds", "rain", "(I)I"⟩ ∈ wA := wA_i (i := 450) (by decide +kernel) (by decide +kernel)
theorem wm_451 : Cond.code ⟨"SweeperRounds", "rain", "(I)I"⟩ prog_1_method_18_code 2 (Option.some FieldType.int) ∈ wA := wA_i (i := 451) (by decide +kernel) (by decide +kernel)
theorem wm_452 : Cond.methodLink "SweeperRounds" 224 ⟨"SweeperRounds$World", "washStreets", "(I)I"⟩ ∈ wA := wA_i (i := 452) (by decide +kernel) (by decide +kernel)
theorem wm_453 : Cond.instanceMethod ⟨"SweeperRounds$World", "washStreets", "(I)I"⟩ ∈ wA := wA_i (i := 453) (by decide +kernel) (by decide +kernel)
theorem wm_454 : Cond.selects "SweeperRounds$World" ⟨"SweeperRounds$World", "washStreets", "(I)I"⟩ ⟨"SweeperRounds$World", "washStreets", "(I)I"⟩ ∈ wA := wA_i (i := 454) (by decide +kernel) (by decide +kernel)
theorem wm_455 : Cond.code ⟨"SweeperRounds$World", "washStreets", "(I)I"⟩ prog_10_method_21_code 4 (Option.some FieldType.int) ∈ wA := wA_i (i := 455) (by decide +kernel) (by decide +kernel)
theorem wm_456 : Cond.methodLink "SweeperRounds$World" 133 ⟨"SweeperRounds$Street", "washSide", "(II)I"⟩ ∈ wA := wA_i (i := 456) (by decide +kernel) (by decide +kernel)
theorem wm_457 : Cond.instanceMethod ⟨"SweeperRounds$Street", "washSide", "(II)I"⟩ ∈ wA := wA_i (i := 457) (by decide +kernel) (by decide +kernel)
theorem wm_458 : Cond.selects "SweeperRounds$Street" ⟨"SweeperRounds$Street", "washSide", "(II)I"⟩ ⟨"SweeperRounds$Street", "washSide", "(II)I"⟩ ∈ wA := wA_i (i := 458) (by decide +kernel) (by decide +kernel)
theorem wm_459 : Cond.code ⟨"SweeperRounds$Street", "washSide", "(II)I"⟩ prog_8_method_10_code 7 (Option.some FieldType.int) ∈ wA := wA_i (i := 459) (by decide +kernel) (by decide +kernel)
theorem wm_460 : Cond.methodLink "SweeperRounds$Street" 45 ⟨"SweeperRounds$Street", "putDirt", "(II)I"⟩ ∈ wA := wA_i (i := 460) (by decide +kernel) (by decide +kernel)
theorem wm_461 : Cond.methodLink "SweeperRoundsLaw" 62 ⟨"SweeperRounds", "latest", "(I)I"⟩ ∈ wA := wA_i (i := 461) (by decide +kernel) (by decide +kernel)
theorem wm_462 : Cond.instanceMethod ⟨"SweeperRounds", "latest", "(I)I"⟩ ∈ wA := wA_i (i := 462) (by decide +kernel) (by decide +kernel)
theorem wm_463 : Cond.selects "SweeperRounds" ⟨"SweeperRounds", "latest", "(I)I"⟩ ⟨"SweeperRounds", "latest", "(I)I"⟩ ∈ wA := wA_i (i := 463) (by decide +kernel) (by decide +kernel)
theorem wm_464 : Cond.code ⟨"SweeperRounds", "latest", "(I)I"⟩ prog_1_method_19_code 2 (Option.some FieldType.int) ∈ wA := wA_i (i := 464) (by decide +kernel) (by decide +kernel)
theorem wm_465 : Cond.methodLink "SweeperRoundsLaw" 44 ⟨"SweeperRounds", "count", "(I)I"⟩ ∈ wA := wA_i (i := 465) (by decide +kernel) (by decide +kernel)
theorem wm_466 : Cond.instanceMethod ⟨"SweeperRounds", "count", "(I)I"⟩ ∈ wA := wA_i (i := 466) (by decide +kernel) (by decide +kernel)
theorem wm_467 : Cond.selects "SweeperRounds" ⟨"SweeperRounds", "count", "(I)I"⟩ ⟨"SweeperRounds", "count", "(I)I"⟩ ∈ wA := wA_i (i := 467) (by decide +kernel) (by decide +kernel)
theorem wm_468 : Cond.code ⟨"SweeperRounds", "count", "(I)I"⟩ prog_1_method_26_code 2 (Option.some FieldType.int) ∈ wA := wA_i (i := 468) (by decide +kernel) (by decide +kernel)
theorem wm_469 : Cond.methodLink "SweeperRoundsLaw" 10 ⟨"SweeperRoundsLaw", "cell", "([II)I"⟩ ∈ wA := wA_i (i := 469) (by decide +kernel) (by decide +kernel)
theorem wm_470 : Cond.static ⟨"SweeperRoundsLaw", "cell", "([II)I"⟩ ∈ wA := wA_i (i := 470) (by decide +kernel) (by decide +kernel)
theorem wm_471 : Cond.code ⟨"SweeperRoundsLaw", "cell", "([II)I"⟩ method_2_code 2 (Option.some FieldType.int) ∈ wA := wA_i (i := 471) (by decide +kernel) (by decide +kernel)
theorem wm_472 : Cond.constant "SweeperRoundsLaw" 7 86028157 ∈ wA := wA_i (i := 472) (by decide +kernel) (by decide +kernel)
theorem wm_473 : Cond.constant "SweeperRoundsLaw" 8 32452867 ∈ wA := wA_i (i := 473) (by decide +kernel) (by decide +kernel)
theorem wm_474 : Cond.methodLink "SweeperRoundsLaw" 16 ⟨"SweeperRoundsLaw", "low", "(II)I"⟩ ∈ wA := wA_i (i := 474) (by decide +kernel) (by decide +kernel)
theorem wm_475 : Cond.static ⟨"SweeperRoundsLaw", "low", "(II)I"⟩ ∈ wA := wA_i (i := 475) (by decide +kernel) (by decide +kernel)
theorem wm_476 : Cond.code ⟨"SweeperRoundsLaw", "low", "(II)I"⟩ method_3_code 2 (Option.some FieldType.int) ∈ wA := wA_i (i := 476) (by decide +kernel) (by decide +kernel)
theorem wm_477 : Cond.constant "SweeperRoundsLaw" 9 2147483647 ∈ wA := wA_i (i := 477) (by decide +kernel) (by decide +kernel)
theorem wm_478 : Cond.methodLink "SweeperRoundsLaw" 70 ⟨"SweeperRoundsLaw", "town", "(LSweeperRounds;[IIII)Z"⟩ ∈ wA := wA_i (i := 478) (by decide +kernel) (by decide +kernel)
theorem wm_479 : Cond.static ⟨"SweeperRoundsLaw", "town", "(LSweeperRounds;[IIII)Z"⟩ ∈ wA := wA_i (i := 479) (by decide +kernel) (by decide +kernel)
theorem wm_480 : Cond.code ⟨"SweeperRoundsLaw", "town", "(LSweeperRounds;[IIII)Z"⟩ method_4_code 11 (Option.some FieldType.boolean) ∈ wA := wA_i (i := 480) (by decide +kernel) (by decide +kernel)
theorem wm_481 : Cond.methodLink "SweeperRoundsLaw" 20 ⟨"SweeperRounds", "addStreet", "(III)I"⟩ ∈ wA := wA_i (i := 481) (by decide +kernel) (by decide +kernel)
theorem wm_482 : Cond.instanceMethod ⟨"SweeperRounds", "addStreet", "(III)I"⟩ ∈ wA := wA_i (i := 482) (by decide +kernel) (by decide +kernel)
theorem wm_483 : Cond.selects "SweeperRounds" ⟨"SweeperRounds", "addStreet", "(III)I"⟩ ⟨"SweeperRounds", "addStreet", "(III)I"⟩ ∈ wA := wA_i (i := 483) (by decide +kernel) (by decide +kernel)
set_option maxRecDepth 100000 in
set_option maxHeartbeats 4000000 in
theorem wm_484 : Cond.code ⟨"SweeperRounds", "addStreet", "(III)I"⟩ prog_1_method_6_code 4 (Option.some FieldType.int) ∈ wA := wA_i (i := 484) (by rfl) (by rfl)
theorem wm_485 : Cond.methodLink "SweeperRounds" 96 ⟨"SweeperRounds$World", "appendStreet", "(III)I"⟩ ∈ wA := wA_i (i := 485) (by decide +kernel) (by decide +kernel)
theorem wm_486 : Cond.instanceMethod ⟨"SweeperRounds$World", "appendStreet", "(III)I"⟩ ∈ wA := wA_i (i := 486) (by decide +kernel) (by decide +kernel)
theorem wm_487 : Cond.selects "SweeperRounds$World" ⟨"SweeperRounds$World", "appendStreet", "(III)I"⟩ ⟨"SweeperRounds$World", "appendStreet", "(III)I"⟩ ∈ wA := wA_i (i := 487) (by decide +kernel) (by decide +kernel)
theorem wm_488 : Cond.code ⟨"SweeperRounds$World", "appendStreet", "(III)I"⟩ prog_10_method_9_code 5 (Option.some FieldType.int) ∈ wA := wA_i (i := 488) (by decide +kernel) (by decide +kernel)
theorem wm_489 : Cond.methodLink "SweeperRounds$World" 95 ⟨"SweeperRounds$Street", "clear", "()V"⟩ ∈ wA := wA_i (i := 489) (by decide +kernel) (by decide +kernel)
theorem wm_490 : Cond.instanceMethod ⟨"SweeperRounds$Street", "clear", "()V"⟩ ∈ wA := wA_i (i := 490) (by decide +kernel) (by decide +kernel)
theorem wm_491 : Cond.selects "SweeperRounds$Street" ⟨"SweeperRounds$Street", "clear", "()V"⟩ ⟨"SweeperRounds$Street", "clear", "()V"⟩ ∈ wA := wA_i (i := 491) (by decide +kernel) (by decide +kernel)
theorem wm_492 : Cond.code ⟨"SweeperRounds$Street", "clear", "()V"⟩ prog_8_method_2_code 2 none ∈ wA := wA_i (i := 492) (by decide +kernel) (by decide +kernel)
theorem wm_493 : Cond.methodLink "SweeperRoundsLaw" 34 ⟨"SweeperRounds", "addLeg", "(II)I"⟩ ∈ wA := wA_i (i := 493) (by decide +kernel) (by decide +kernel)
theorem wm_494 : Cond.instanceMethod ⟨"SweeperRounds", "addLeg", "(II)I"⟩ ∈ wA := wA_i (i := 494) (by decide +kernel) (by decide +kernel)
theorem wm_495 : Cond.selects "SweeperRounds" ⟨"SweeperRounds", "addLeg", "(II)I"⟩ ⟨"SweeperRounds", "addLeg", "(II)I"⟩ ∈ wA := wA_i (i := 495) (by decide +kernel) (by decide +kernel)
theorem wm_496 : Cond.code ⟨"SweeperRounds", "addLeg", "(II)I"⟩ prog_1_method_13_code 3 (Option.some FieldType.int) ∈ wA := wA_i (i := 496) (by decide +kernel) (by decide +kernel)
theorem wm_497 : Cond.methodLink "SweeperRounds" 177 ⟨"SweeperRounds$World", "appendLeg", "(II)I"⟩ ∈ wA := wA_i (i := 497) (by decide +kernel) (by decide +kernel)
theorem wm_498 : Cond.instanceMethod ⟨"SweeperRounds$World", "appendLeg", "(II)I"⟩ ∈ wA := wA_i (i := 498) (by decide +kernel) (by decide +kernel)
theorem wm_499 : Cond.selects "SweeperRounds$World" ⟨"SweeperRounds$World", "appendLeg", "(II)I"⟩ ⟨"SweeperRounds$World", "appendLeg", "(II)I"⟩ ∈ wA := wA_i (i := 499) (by decide +kernel) (by decide +kernel)
theorem wm_500 : Cond.code ⟨"SweeperRounds$World", "appendLeg", "(II)I"⟩ prog_10_method_12_code 4 (Option.some FieldType.int) ∈ wA := wA_i (i := 500) (by decide +kernel) (by decide +kernel)
theorem wm_501 : Cond.methodLink "SweeperRoundsLaw" 65 ⟨"SweeperRoundsLaw", "balanced", "(LSweeperRounds;)Z"⟩ ∈ wA := wA_i (i := 501) (by decide +kernel) (by decide +kernel)
theorem wm_502 : Cond.static ⟨"SweeperRoundsLaw", "balanced", "(LSweeperRounds;)Z"⟩ ∈ wA := wA_i (i := 502) (by decide +kernel) (by decide +kernel)
theorem wm_503 : Cond.code ⟨"SweeperRoundsLaw", "balanced", "(LSweeperRounds;)Z"⟩ method_5_code 1 (Option.some FieldType.boolean) ∈ wA := wA_i (i := 503) (by decide +kernel) (by decide +kernel)
theorem wm_504 : Cond.methodLink "SweeperRoundsLaw" 40 ⟨"SweeperRounds", "account", "(I)I"⟩ ∈ wA := wA_i (i := 504) (by decide +kernel) (by decide +kernel)
theorem wm_505 : Cond.instanceMethod ⟨"SweeperRounds", "account", "(I)I"⟩ ∈ wA := wA_i (i := 505) (by decide +kernel) (by decide +kernel)
theorem wm_506 : Cond.selects "SweeperRounds" ⟨"SweeperRounds", "account", "(I)I"⟩ ⟨"SweeperRounds", "account", "(I)I"⟩ ∈ wA := wA_i (i := 506) (by decide +kernel) (by decide +kernel)
theorem wm_507 : Cond.code ⟨"SweeperRounds", "account", "(I)I"⟩ prog_1_method_24_code 2 (Option.some FieldType.int) ∈ wA := wA_i (i := 507) (by decide +kernel) (by decide +kernel)
theorem wm_508 : Cond.methodLink "SweeperRoundsLaw" 74 ⟨"SweeperRoundsLaw", "shift", "(LSweeperRounds;)Z"⟩ ∈ wA := wA_i (i := 508) (by decide +kernel) (by decide +kernel)
theorem wm_509 : Cond.static ⟨"SweeperRoundsLaw", "shift", "(LSweeperRounds;)Z"⟩ ∈ wA := wA_i (i := 509) (by decide +kernel) (by decide +kernel)
set_option maxRecDepth 100000 in
set_option maxHeartbeats 4000000 in
theorem wm_510 : Cond.code ⟨"SweeperRoundsLaw", "shift", "(LSweeperRounds;)Z"⟩ method_6_code 30 (Option.some FieldType.boolean) ∈ wA := wA_i (i := 510) (by rfl) (by rfl)
theorem wm_511 : Cond.methodLink "SweeperRoundsLaw" 55 ⟨"SweeperRounds", "ifSpeed", "(I)I"⟩ ∈ wA := wA_i (i := 511) (by decide +kernel) (by decide +kernel)
theorem wm_512 : Cond.instanceMethod ⟨"SweeperRounds", "ifSpeed", "(I)I"⟩ ∈ wA := wA_i (i := 512) (by decide +kernel) (by decide +kernel)
theorem wm_513 : Cond.selects "SweeperRounds" ⟨"SweeperRounds", "ifSpeed", "(I)I"⟩ ⟨"SweeperRounds", "ifSpeed", "(I)I"⟩ ∈ wA := wA_i (i := 513) (by decide +kernel) (by decide +kernel)
theorem wm_514 : Cond.code ⟨"SweeperRounds", "ifSpeed", "(I)I"⟩ prog_1_method_20_code 2 (Option.some FieldType.int) ∈ wA := wA_i (i := 514) (by decide +kernel) (by decide +kernel)
theorem wm_515 : Cond.methodLink "SweeperRounds" 245 ⟨"SweeperRounds", "trySpeed", "(I)V"⟩ ∈ wA := wA_i (i := 515) (by decide +kernel) (by decide +kernel)
theorem wm_517 : Cond.instanceMethod ⟨"SweeperRounds", "trySpeed", "(I)V"⟩ ∈ wA := wA_i (i := 517) (by decide +kernel) (by decide +kernel)
theorem wm_518 : Cond.code ⟨"SweeperRounds", "trySpeed", "(I)V"⟩ prog_1_method_30_code 2 none ∈ wA := wA_i (i := 518) (by decide +kernel) (by decide +kernel)
theorem wm_519 : Cond.methodLink "SweeperRounds" 317 ⟨"SweeperRounds$World", "copyFrom", "(LSweeperRounds$World;)V"⟩ ∈ wA := wA_i (i := 519) (by decide +kernel) (by decide +kernel)
theorem wm_520 : Cond.methodLink "SweeperRounds" 208 ⟨"SweeperRounds$Round", "carryOut", "()V"⟩ ∈ wA := wA_i (i := 520) (by decide +kernel) (by decide +kernel)
theorem wm_521 : Cond.instanceMethod ⟨"SweeperRounds$Round", "carryOut", "()V"⟩ ∈ wA := wA_i (i := 521) (by decide +kernel) (by decide +kernel)
theorem wm_522 : Cond.selects "SweeperRounds$Round" ⟨"SweeperRounds$Round", "carryOut", "()V"⟩ ⟨"SweeperRounds$Round", "carryOut", "()V"⟩ ∈ wA := wA_i (i := 522) (by decide +kernel) (by decide +kernel)
theorem wm_523 : Cond.code ⟨"SweeperRounds$Round", "carryOut", "()V"⟩ prog_7_method_2_code 6 none ∈ wA := wA_i (i := 523) (by decide +kernel) (by decide +kernel)
theorem wm_524 : Cond.methodLink "SweeperRounds$Round" 21 ⟨"SweeperRounds$Report", "clear", "()V"⟩ ∈ wA := wA_i (i := 524) (by decide +kernel) (by decide +kernel)
theorem wm_525 : Cond.instanceMethod ⟨"SweeperRounds$Report", "clear", "()V"⟩ ∈ wA := wA_i (i := 525) (by decide +kernel) (by decide +kernel)
theorem wm_526 : Cond.selects "SweeperRounds$Report" ⟨"SweeperRounds$Report", "clear", "()V"⟩ ⟨"SweeperRounds$Report", "clear", "()V"⟩ ∈ wA := wA_i (i := 526) (by decide +kernel) (by decide +kernel)
theorem wm_527 : Cond.code ⟨"SweeperRounds$Report", "clear", "()V"⟩ prog_6_method_2_code 1 none ∈ wA := wA_i (i := 527) (by decide +kernel) (by decide +kernel)
theorem wm_528 : Cond.methodLink "SweeperRounds$Round" 55 ⟨"SweeperRounds$Round", "driveToLeg", "(LSweeperRounds$Leg;LSweeperRounds$Street;)I"⟩ ∈ wA := wA_i (i := 528) (by decide +kernel) (by decide +kernel)
theorem wm_530 : Cond.instanceMethod ⟨"SweeperRounds$Round", "driveToLeg", "(LSweeperRounds$Leg;LSweeperRounds$Street;)I"⟩ ∈ wA := wA_i (i := 530) (by decide +kernel) (by decide +kernel)
theorem wm_531 : Cond.code ⟨"SweeperRounds$Round", "driveToLeg", "(LSweeperRounds$Leg;LSweeperRounds$Street;)I"⟩ prog_7_method_3_code 4 (Option.some FieldType.int) ∈ wA := wA_i (i := 531) (by decide +kernel) (by decide +kernel)
theorem wm_532 : Cond.methodLink "SweeperRounds$Round" 81 ⟨"SweeperRounds$Round", "driveTo", "(I)I"⟩ ∈ wA := wA_i (i := 532) (by decide +kernel) (by decide +kernel)
theorem wm_534 : Cond.instanceMethod ⟨"SweeperRounds$Round", "driveTo", "(I)I"⟩ ∈ wA := wA_i (i := 534) (by decide +kernel) (by decide +kernel)
theorem wm_535 : Cond.code ⟨"SweeperRounds$Round", "driveTo", "(I)I"⟩ prog_7_method_4_code 4 (Option.some FieldType.int) ∈ wA := wA_i (i := 535) (by decide +kernel) (by decide +kernel)
theorem wm_536 : Cond.methodLink "SweeperRounds$Round" 95 ⟨"java/lang/Math", "abs", "(I)I"⟩ ∈ wA := wA_i (i := 536) (by decide +kernel) (by decide +kernel)
theorem wm_537 : Cond.static ⟨"java/lang/Math", "abs", "(I)I"⟩ ∈ wA := wA_i (i := 537) (by decide +kernel) (by decide +kernel)
theorem wm_538 : Cond.code ⟨"java/lang/Math", "abs", "(I)I"⟩ prog_13_method_59_code 1 (Option.some FieldType.int) ∈ wA := wA_i (i := 538) (by decide +kernel) (by decide +kernel)
theorem wm_539 : Cond.methodLink "SweeperRounds$Round" 85 ⟨"SweeperRounds$Round", "fits", "(ILSweeperRounds$Street;)Z"⟩ ∈ wA := wA_i (i := 539) (by decide +kernel) (by decide +kernel)
theorem wm_541 : Cond.instanceMethod ⟨"SweeperRounds$Round", "fits", "(ILSweeperRounds$Street;)Z"⟩ ∈ wA := wA_i (i := 541) (by decide +kernel) (by decide +kernel)
theorem wm_542 : Cond.code ⟨"SweeperRounds$Round", "fits", "(ILSweeperRounds$Street;)Z"⟩ prog_7_method_5_code 3 (Option.some FieldType.boolean) ∈ wA := wA_i (i := 542) (by decide +kernel) (by decide +kernel)
theorem wm_543 : Cond.methodLink "SweeperRounds$Round" 100 ⟨"SweeperRounds$Street", "driveToDump", "()I"⟩ ∈ wA := wA_i (i := 543) (by decide +kernel) (by decide +kernel)
theorem wm_544 : Cond.instanceMethod ⟨"SweeperRounds$Street", "driveToDump", "()I"⟩ ∈ wA := wA_i (i := 544) (by decide +kernel) (by decide +kernel)
theorem wm_545 : Cond.selects "SweeperRounds$Street" ⟨"SweeperRounds$Street", "driveToDump", "()I"⟩ ⟨"SweeperRounds$Street", "driveToDump", "()I"⟩ ∈ wA := wA_i (i := 545) (by decide +kernel) (by decide +kernel)
theorem wm_546 : Cond.code ⟨"SweeperRounds$Street", "driveToDump", "()I"⟩ prog_8_method_11_code 1 (Option.some FieldType.int) ∈ wA := wA_i (i := 546) (by decide +kernel) (by decide +kernel)
theorem wm_548 : Cond.methodLink "SweeperRounds$Round" 71 ⟨"SweeperRounds$Round", "finishCell", "(LSweeperRounds$Leg;LSweeperRounds$Street;I)I"⟩ ∈ wA := wA_i (i := 548) (by decide +kernel) (by decide +kernel)
theorem wm_550 : Cond.instanceMethod ⟨"SweeperRounds$Round", "finishCell", "(LSweeperRounds$Leg;LSweeperRounds$Street;I)I"⟩ ∈ wA := wA_i (i := 550) (by decide +kernel) (by decide +kernel)
set_option maxRecDepth 100000 in
set_option maxHeartbeats 4000000 in
theorem wm_551 : Cond.code ⟨"SweeperRounds$Round", "finishCell", "(LSweeperRounds$Leg;LSweeperRounds$Street;I)I"⟩ prog_7_method_6_code 8 (Option.some FieldType.int) ∈ wA := wA_i (i := 551) (by rfl) (by rfl)
theorem wm_552 : Cond.methodLink "SweeperRounds$Round" 108 ⟨"SweeperRounds$Round", "unitsForCell", "()I"⟩ ∈ wA := wA_i (i := 552) (by decide +kernel) (by decide +kernel)
theorem wm_554 : Cond.instanceMethod ⟨"SweeperRounds$Round", "unitsForCell", "()I"⟩ ∈ wA := wA_i (i := 554) (by decide +kernel) (by decide +kernel)
theorem wm_555 : Cond.code ⟨"SweeperRounds$Round", "unitsForCell", "()I"⟩ prog_7_method_7_code 1 (Option.some FieldType.int) ∈ wA := wA_i (i := 555) (by decide +kernel) (by decide +kernel)
theorem wm_556 : Cond.methodLink "SweeperRounds$Round" 125 ⟨"java/lang/Math", "max", "(II)I"⟩ ∈ wA := wA_i (i := 556) (by decide +kernel) (by decide +kernel)
theorem wm_557 : Cond.constant "SweeperRounds$Round" 111 1000000 ∈ wA := wA_i (i := 557) (by decide +kernel) (by decide +kernel)
theorem wm_558 : Cond.methodLink "SweeperRounds$Round" 112 ⟨"SweeperRounds$Round", "sweepOnce", "(LSweeperRounds$Leg;LSweeperRounds$Street;I)Z"⟩ ∈ wA := wA_i (i := 558) (by decide +kernel) (by decide +kernel)
theorem wm_560 : Cond.instanceMethod ⟨"SweeperRounds$Round", "sweepOnce", "(LSweeperRounds$Leg;LSweeperRounds$Street;I)Z"⟩ ∈ wA := wA_i (i := 560) (by decide +kernel) (by decide +kernel)
theorem wm_561 : Cond.code ⟨"SweeperRounds$Round", "sweepOnce", "(LSweeperRounds$Leg;LSweeperRounds$Street;I)Z"⟩ prog_7_method_8_code 7 (Option.some FieldType.boolean) ∈ wA := wA_i (i := 561) (by decide +kernel) (by decide +kernel)
theorem wm_562 : Cond.methodLink "SweeperRounds$Round" 128 ⟨"SweeperRounds$World", "grip", "()I"⟩ ∈ wA := wA_i (i := 562) (by decide +kernel) (by decide +kernel)
theorem wm_563 : Cond.methodLink "SweeperRounds$Round" 131 ⟨"SweeperRounds$Street", "couldGive", "(II)I"⟩ ∈ wA := wA_i (i := 563) (by decide +kernel) (by decide +kernel)
theorem wm_564 : Cond.methodLink "SweeperRounds$Round" 116 ⟨"SweeperRounds$World", "room", "()I"⟩ ∈ wA := wA_i (i := 564) (by decide +kernel) (by decide +kernel)
theorem wm_565 : Cond.methodLink "SweeperRounds$Round" 134 ⟨"java/lang/Math", "min", "(II)I"⟩ ∈ wA := wA_i (i := 565) (by decide +kernel) (by decide +kernel)
theorem wm_566 : Cond.methodLink "SweeperRounds$Round" 122 ⟨"SweeperRounds$World", "emptyHopper", "()V"⟩ ∈ wA := wA_i (i := 566) (by decide +kernel) (by decide +kernel)
theorem wm_567 : Cond.instanceMethod ⟨"SweeperRounds$World", "emptyHopper", "()V"⟩ ∈ wA := wA_i (i := 567) (by decide +kernel) (by decide +kernel)
theorem wm_568 : Cond.selects "SweeperRounds$World" ⟨"SweeperRounds$World", "emptyHopper", "()V"⟩ ⟨"SweeperRounds$World", "emptyHopper", "()V"⟩ ∈ wA := wA_i (i := 568) (by decide +kernel) (by decide +kernel)
theorem wm_569 : Cond.code ⟨"SweeperRounds$World", "emptyHopper", "()V"⟩ prog_10_method_18_code 1 none ∈ wA := wA_i (i := 569) (by decide +kernel) (by decide +kernel)
theorem wm_570 : Cond.methodLink "SweeperRounds$Round" 78 ⟨"SweeperRounds$Round", "endShift", "()V"⟩ ∈ wA := wA_i (i := 570) (by decide +kernel) (by decide +kernel)
theorem wm_572 : Cond.instanceMethod ⟨"SweeperRounds$Round", "endShift", "()V"⟩ ∈ wA := wA_i (i := 572) (by decide +kernel) (by decide +kernel)
theorem wm_573 : Cond.code ⟨"SweeperRounds$Round", "endShift", "()V"⟩ prog_7_method_9_code 1 none ∈ wA := wA_i (i := 573) (by decide +kernel) (by decide +kernel)
theorem wm_574 : Cond.methodLink "SweeperRoundsLaw" 58 ⟨"SweeperRounds", "shift", "()I"⟩ ∈ wA := wA_i (i := 574) (by decide +kernel) (by decide +kernel)
theorem wm_575 : Cond.instanceMethod ⟨"SweeperRounds", "shift", "()I"⟩ ∈ wA := wA_i (i := 575) (by decide +kernel) (by decide +kernel)
theorem wm_576 : Cond.selects "SweeperRounds" ⟨"SweeperRounds", "shift", "()I"⟩ ⟨"SweeperRounds", "shift", "()I"⟩ ∈ wA := wA_i (i := 576) (by decide +kernel) (by decide +kernel)
theorem wm_577 : Cond.code ⟨"SweeperRounds", "shift", "()I"⟩ prog_1_method_16_code 1 (Option.some FieldType.int) ∈ wA := wA_i (i := 577) (by decide +kernel) (by decide +kernel)
end
section
def FT0 : u_T := fun k => match k with
  | 0 => ("SweeperRounds$History", "worlds", "[LSweeperRounds$World;", true)
  | 1 => ("SweeperRounds$History", "next", "I", false)
  | _ => ("SweeperRounds$History", "size", "I", false)
def Ft0 : Nat → FieldType := fun k => match k with
  | 0 => .array (.object "SweeperRounds$World")
  | 1 => .int
  | _ => .int
theorem Fn0 : ∀ a, a < 3 → ∀ b, b < 3 → a ≠ b → (FT0 a).2.1 ≠ (FT0 b).2.1 := by decide +kernel
theorem Fy0 : ∀ k, k < 3 → parseFieldDescriptor (FT0 k).2.2.1 = some (Ft0 k) := by decide +kernel
theorem Fi0 : ∀ w ∈ u_ws "SweeperRounds$History" FT0 3, w ∈ wA := wA_all (by decide +kernel)
def FT1 : u_T := fun k => match k with
  | 0 => ("SweeperRounds$Leg", "street", "I", false)
  | 1 => ("SweeperRounds$Leg", "side", "I", false)
  | 2 => ("SweeperRounds$Leg", "sweptCells", "I", false)
  | _ => ("SweeperRounds$Leg", "taken", "I", false)
def Ft1 : Nat → FieldType := fun k => match k with
  | 0 => .int
  | 1 => .int
  | 2 => .int
  | _ => .int
theorem Fn1 : ∀ a, a < 4 → ∀ b, b < 4 → a ≠ b → (FT1 a).2.1 ≠ (FT1 b).2.1 := by decide +kernel
theorem Fy1 : ∀ k, k < 4 → parseFieldDescriptor (FT1 k).2.2.1 = some (Ft1 k) := by decide +kernel
theorem Fi1 : ∀ w ∈ u_ws "SweeperRounds$Leg" FT1 4, w ∈ wA := wA_all (by decide +kernel)
def FT2 : u_T := fun k => match k with
  | 0 => ("SweeperRounds$Orders", "best", "[I", true)
  | 1 => ("SweeperRounds$Orders", "bestTaken", "I", false)
  | 2 => ("SweeperRounds$Orders", "order", "[I", true)
  | _ => ("SweeperRounds$Orders", "length", "I", false)
def Ft2 : Nat → FieldType := fun k => match k with
  | 0 => .array (.int)
  | 1 => .int
  | 2 => .array (.int)
  | _ => .int
theorem Fn2 : ∀ a, a < 4 → ∀ b, b < 4 → a ≠ b → (FT2 a).2.1 ≠ (FT2 b).2.1 := by decide +kernel
theorem Fy2 : ∀ k, k < 4 → parseFieldDescriptor (FT2 k).2.2.1 = some (Ft2 k) := by decide +kernel
theorem Fi2 : ∀ w ∈ u_ws "SweeperRounds$Orders" FT2 4, w ∈ wA := wA_all (by decide +kernel)
def FT3 : u_T := fun k => match k with
  | 0 => ("SweeperRounds$Reader", "draft", "LSweeperRounds$Street;", true)
  | 1 => ("SweeperRounds$Reader", "faultIndex", "I", false)
  | 2 => ("SweeperRounds$Reader", "at", "I", false)
  | _ => ("SweeperRounds$Reader", "fault", "I", false)
def Ft3 : Nat → FieldType := fun k => match k with
  | 0 => .object "SweeperRounds$Street"
  | 1 => .int
  | 2 => .int
  | _ => .int
theorem Fn3 : ∀ a, a < 4 → ∀ b, b < 4 → a ≠ b → (FT3 a).2.1 ≠ (FT3 b).2.1 := by decide +kernel
theorem Fy3 : ∀ k, k < 4 → parseFieldDescriptor (FT3 k).2.2.1 = some (Ft3 k) := by decide +kernel
theorem Fi3 : ∀ w ∈ u_ws "SweeperRounds$Reader" FT3 4, w ∈ wA := wA_all (by decide +kernel)
def FT4 : u_T := fun k => match k with
  | 0 => ("SweeperRounds$Report", "reason", "I", false)
  | 1 => ("SweeperRounds$Report", "units", "I", false)
  | 2 => ("SweeperRounds$Report", "trips", "I", false)
  | 3 => ("SweeperRounds$Report", "taken", "I", false)
  | 4 => ("SweeperRounds$Report", "worn", "I", false)
  | _ => ("SweeperRounds$Report", "leg", "I", false)
def Ft4 : Nat → FieldType := fun k => match k with
  | 0 => .int
  | 1 => .int
  | 2 => .int
  | 3 => .int
  | 4 => .int
  | _ => .int
theorem Fn4 : ∀ a, a < 6 → ∀ b, b < 6 → a ≠ b → (FT4 a).2.1 ≠ (FT4 b).2.1 := by decide +kernel
theorem Fy4 : ∀ k, k < 6 → parseFieldDescriptor (FT4 k).2.2.1 = some (Ft4 k) := by decide +kernel
theorem Fi4 : ∀ w ∈ u_ws "SweeperRounds$Report" FT4 6, w ∈ wA := wA_all (by decide +kernel)
def FT5 : u_T := fun k => match k with
  | 0 => ("SweeperRounds$Round", "world", "LSweeperRounds$World;", true)
  | _ => ("SweeperRounds$Round", "standsIn", "I", false)
def Ft5 : Nat → FieldType := fun k => match k with
  | 0 => .object "SweeperRounds$World"
  | _ => .int
theorem Fn5 : ∀ a, a < 2 → ∀ b, b < 2 → a ≠ b → (FT5 a).2.1 ≠ (FT5 b).2.1 := by decide +kernel
theorem Fy5 : ∀ k, k < 2 → parseFieldDescriptor (FT5 k).2.2.1 = some (Ft5 k) := by decide +kernel
theorem Fi5 : ∀ w ∈ u_ws "SweeperRounds$Round" FT5 2, w ∈ wA := wA_all (by decide +kernel)
def FT6 : u_T := fun k => match k with
  | 0 => ("SweeperRounds$Street", "cells", "I", false)
  | 1 => ("SweeperRounds$Street", "distance", "I", false)
  | 2 => ("SweeperRounds$Street", "trees", "I", false)
  | 3 => ("SweeperRounds$Street", "dirt", "[I", true)
  | _ => ("SweeperRounds$Street", "parked", "[Z", true)
def Ft6 : Nat → FieldType := fun k => match k with
  | 0 => .int
  | 1 => .int
  | 2 => .int
  | 3 => .array (.int)
  | _ => .array (.boolean)
theorem Fn6 : ∀ a, a < 5 → ∀ b, b < 5 → a ≠ b → (FT6 a).2.1 ≠ (FT6 b).2.1 := by decide +kernel
theorem Fy6 : ∀ k, k < 5 → parseFieldDescriptor (FT6 k).2.2.1 = some (Ft6 k) := by decide +kernel
theorem Fi6 : ∀ w ∈ u_ws "SweeperRounds$Street" FT6 5, w ∈ wA := wA_all (by decide +kernel)
def FT7 : u_T := fun k => match k with
  | 0 => ("SweeperRounds$Text", "signs", "[C", true)
  | _ => ("SweeperRounds$Text", "length", "I", false)
def Ft7 : Nat → FieldType := fun k => match k with
  | 0 => .array (.char)
  | _ => .int
theorem Fn7 : ∀ a, a < 2 → ∀ b, b < 2 → a ≠ b → (FT7 a).2.1 ≠ (FT7 b).2.1 := by decide +kernel
theorem Fy7 : ∀ k, k < 2 → parseFieldDescriptor (FT7 k).2.2.1 = some (Ft7 k) := by decide +kernel
theorem Fi7 : ∀ w ∈ u_ws "SweeperRounds$Text" FT7 2, w ∈ wA := wA_all (by decide +kernel)
def FT8 : u_T := fun k => match k with
  | 0 => ("SweeperRounds$World", "streets", "[LSweeperRounds$Street;", true)
  | 1 => ("SweeperRounds$World", "streetCount", "I", false)
  | 2 => ("SweeperRounds$World", "legs", "[LSweeperRounds$Leg;", true)
  | 3 => ("SweeperRounds$World", "legCount", "I", false)
  | 4 => ("SweeperRounds$World", "legsTell", "Z", false)
  | 5 => ("SweeperRounds$World", "settings", "[I", true)
  | 6 => ("SweeperRounds$World", "brush", "I", false)
  | 7 => ("SweeperRounds$World", "hopper", "I", false)
  | 8 => ("SweeperRounds$World", "sums", "[I", true)
  | 9 => ("SweeperRounds$World", "report", "LSweeperRounds$Report;", true)
  | 10 => ("SweeperRounds$World", "shifts", "I", false)
  | _ => ("SweeperRounds$World", "nights", "I", false)
def Ft8 : Nat → FieldType := fun k => match k with
  | 0 => .array (.object "SweeperRounds$Street")
  | 1 => .int
  | 2 => .array (.object "SweeperRounds$Leg")
  | 3 => .int
  | 4 => .boolean
  | 5 => .array (.int)
  | 6 => .int
  | 7 => .int
  | 8 => .array (.int)
  | 9 => .object "SweeperRounds$Report"
  | 10 => .int
  | _ => .int
theorem Fn8 : ∀ a, a < 12 → ∀ b, b < 12 → a ≠ b → (FT8 a).2.1 ≠ (FT8 b).2.1 := by decide +kernel
theorem Fy8 : ∀ k, k < 12 → parseFieldDescriptor (FT8 k).2.2.1 = some (Ft8 k) := by decide +kernel
theorem Fi8 : ∀ w ∈ u_ws "SweeperRounds$World" FT8 12, w ∈ wA := wA_all (by decide +kernel)
def FT9 : u_T := fun k => match k with
  | 0 => ("SweeperRounds", "text", "LSweeperRounds$Text;", true)
  | 1 => ("SweeperRounds", "reader", "LSweeperRounds$Reader;", true)
  | 2 => ("SweeperRounds", "now", "LSweeperRounds$World;", true)
  | 3 => ("SweeperRounds", "round", "LSweeperRounds$Round;", true)
  | 4 => ("SweeperRounds", "history", "LSweeperRounds$History;", true)
  | 5 => ("SweeperRounds", "trial", "LSweeperRounds$World;", true)
  | 6 => ("SweeperRounds", "trialRound", "LSweeperRounds$Round;", true)
  | 7 => ("SweeperRounds", "orders", "LSweeperRounds$Orders;", true)
  | _ => ("SweeperRounds", "latestFault", "I", false)
def Ft9 : Nat → FieldType := fun k => match k with
  | 0 => .object "SweeperRounds$Text"
  | 1 => .object "SweeperRounds$Reader"
  | 2 => .object "SweeperRounds$World"
  | 3 => .object "SweeperRounds$Round"
  | 4 => .object "SweeperRounds$History"
  | 5 => .object "SweeperRounds$World"
  | 6 => .object "SweeperRounds$Round"
  | 7 => .object "SweeperRounds$Orders"
  | _ => .int
theorem Fn9 : ∀ a, a < 9 → ∀ b, b < 9 → a ≠ b → (FT9 a).2.1 ≠ (FT9 b).2.1 := by decide +kernel
theorem Fy9 : ∀ k, k < 9 → parseFieldDescriptor (FT9 k).2.2.1 = some (Ft9 k) := by decide +kernel
theorem Fi9 : ∀ w ∈ u_ws "SweeperRounds" FT9 9, w ∈ wA := wA_all (by decide +kernel)
abbrev classes : List vw_C := [("SweeperRounds$History", FT0, 3), ("SweeperRounds$Leg", FT1, 4), ("SweeperRounds$Orders", FT2, 4), ("SweeperRounds$Reader", FT3, 4), ("SweeperRounds$Report", FT4, 6), ("SweeperRounds$Round", FT5, 2), ("SweeperRounds$Street", FT6, 5), ("SweeperRounds$Text", FT7, 2), ("SweeperRounds$World", FT8, 12), ("SweeperRounds", FT9, 9)]
/-- the state: what each cell holds of whole numbers, by the cell's number and the place in it; the one long -/
abbrev St : Type := (Nat → Nat → Int32) × Int64
def kindW : List Nat := [8, 23, 24, 26, 27, 4, 6, 20, 22, 6, 20, 22, 6, 20, 22, 6, 20, 22, 6, 20, 22, 6, 20, 22, 1, 1, 1, 1, 1, 1, 1, 1, 1, 1]
def kinds : List Nat := [9, 7, 21, 3, 6, 20, 22] ++ (kindW ++ ([5, 0, 25] ++ (kindW ++ (kindW ++ (kindW ++ (kindW ++ (kindW ++ (kindW ++ (kindW ++ (kindW ++ (kindW ++ ([5, 2, 28, 29, 30, 31, 32, 33]))))))))))))
def kd (k : Nat) : Nat := kinds.getD k 99
def rfR (k : Nat) : Nat := if k = 41 then 7 else 316
def lnK (c : Nat) : Nat := match c with
  | 20 => 40
  | 21 => 80
  | 22 => 40
  | 23 => 6
  | 24 => 10
  | 25 => 8
  | 26 => 6
  | 27 => 6
  | 28 => 6
  | 29 => 6
  | 30 => 36
  | 31 => 36
  | 32 => 10
  | 33 => 10
  | _ => 0
def fsOf (ad : Nat → Nat) (σ : St) (k : Nat) (c : Nat) : List Value := match c with
  | 0 => [.ref (ad (k + 1)), .int (σ.1 k 1), .int (σ.1 k 2)]
  | 1 => [.int (σ.1 k 0), .int (σ.1 k 1), .int (σ.1 k 2), .int (σ.1 k 3)]
  | 2 => [.ref (ad (k + 1)), .int (σ.1 k 1), .ref (ad (k + 2)), .int (σ.1 k 3)]
  | 3 => [.ref (ad (k + 1)), .int (σ.1 k 1), .int (σ.1 k 2), .int (σ.1 k 3)]
  | 4 => [.int (σ.1 k 0), .int (σ.1 k 1), .int (σ.1 k 2), .int (σ.1 k 3), .int (σ.1 k 4), .int (σ.1 k 5)]
  | 5 => [.ref (ad (rfR k)), .int (σ.1 k 1)]
  | 6 => [.int (σ.1 k 0), .int (σ.1 k 1), .int (σ.1 k 2), .ref (ad (k + 1)), .ref (ad (k + 2))]
  | 7 => [.ref (ad (k + 1)), .int (σ.1 k 1)]
  | 8 => [.ref (ad (k + 1)), .int (σ.1 k 1), .ref (ad (k + 2)), .int (σ.1 k 3), .int (σ.1 k 4), .ref (ad (k + 3)), .int (σ.1 k 6), .int (σ.1 k 7), .ref (ad (k + 4)), .ref (ad (k + 5)), .int (σ.1 k 10), .int (σ.1 k 11)]
  | 9 => [.ref (ad (k + 1)), .ref (ad (k + 3)), .ref (ad (k + 7)), .ref (ad (k + 41)), .ref (ad (k + 42)), .ref (ad (k + 316)), .ref (ad (k + 350)), .ref (ad (k + 351)), .int (σ.1 k 8)]
  | _ => []
def imgE (ac : Nat → ClassId) (ad : Nat → Nat) (σ : St) (k : Nat) : va_E :=
  if kd k < 20 then .inr (kd k, fsOf ad σ k (kd k))
  else if kd k = 23 then .inl (ac 3, 6, .inr (.inr (.inr (.inr (fun j => some (ad (k + 5 + 3 * j)))))))
  else if kd k = 24 then .inl (ac 4, 10, .inr (.inr (.inr (.inr (fun j => some (ad (k + 22 + j)))))))
  else if kd k = 25 then .inl (ac 5, 8, .inr (.inr (.inr (.inr (fun j => some (ad (k + 1 + 34 * j)))))))
  else .inl (ac (if kd k = 21 then 1 else if kd k = 22 then 2 else 0), lnK (kd k), .inl (σ.1 k))
/-- the world: the class's 354 cells and, where ad 999 is 4, the law's own four rows -/
def wsL (ac : Nat → ClassId) (ad : Nat → Nat) (σ : St) : va_W := (List.range (354 + ad 999)).map (fun k => (ad k, imgE ac ad σ k))
abbrev tysL (ac : Nat → ClassId) : List (ClassId × FieldType) := [(ac 0, .int), (ac 1, .char), (ac 2, .boolean), (ac 3, .object "SweeperRounds$Street"), (ac 4, .object "SweeperRounds$Leg"), (ac 5, .object "SweeperRounds$World")]
def wrA (σ : St) (k : Nat) (f : Nat → Int32) : St := (fun a => if a = k then f else σ.1 a, σ.2)
def wr (σ : St) (k j : Nat) (v : Int32) : St := wrA σ k (upd (σ.1 k) j v)
theorem kd_lt {k c : Nat} (h : kd k = c) (hc : c < 99) : k < 358 := by
  rcases Nat.lt_or_ge k 358 with q | q
  · exact q
  · exfalso
    unfold kd at h
    rw [List.getD_eq_getElem?_getD, List.getElem?_eq_none (by rw [show kinds.length = 358 from by decide +kernel]; exact q)] at h
    simp at h
    omega
theorem kd_l4 : ∀ k, k < 358 → kd k < 30 → k < 354 := by decide +kernel
theorem kd_lo {k c : Nat} (h : kd k = c) (hc : c < 30) : k < 354 := kd_l4 k (kd_lt h (by omega)) (by omega)
theorem wsL_get {ac : Nat → ClassId} {ad : Nat → Nat} {σ : St} {k : Nat} (h : k < 354 + ad 999) : (wsL ac ad σ)[k]? = some (ad k, imgE ac ad σ k) := by
  simp [wsL, h]
theorem wsL_obj {ac : Nat → ClassId} {ad : Nat → Nat} {σ : St} {k c : Nat} (h : kd k = c) (hc : c < 20) : (wsL ac ad σ)[k]? = some (ad k, .inr (c, fsOf ad σ k c)) := by
  have := kd_lo h (by omega)
  rw [wsL_get (by omega)]
  simp only [imgE, h, if_pos hc]
def isPK (c : Nat) : Bool := (20 ≤ c && c ≤ 29) && !(c == 23 || c == 24 || c == 25)
def isLK (c : Nat) : Bool := 30 ≤ c && c ≤ 33
def acK (c : Nat) : Nat := if c = 21 then 1 else if c = 22 then 2 else 0
theorem imgE_pk {ac : Nat → ClassId} {ad : Nat → Nat} {σ : St} {k c : Nat} (h : kd k = c) (hc : isPK c = true ∨ isLK c = true) : imgE ac ad σ k = .inl (ac (acK c), lnK c, .inl (σ.1 k)) := by
  have h2 : 20 ≤ c ∧ c ≠ 23 ∧ c ≠ 24 ∧ c ≠ 25 := by
    rcases hc with hc | hc
    · simp [isPK] at hc
      omega
    · simp [isLK] at hc
      omega
  simp only [imgE, h, if_neg (show ¬ c < 20 by omega), if_neg h2.2.1, if_neg h2.2.2.1, if_neg h2.2.2.2, acK]
theorem wsL_arr {ac : Nat → ClassId} {ad : Nat → Nat} {σ : St} {k c : Nat} (h : kd k = c) (hc : isPK c = true) : (wsL ac ad σ)[k]? = some (ad k, .inl (ac (acK c), lnK c, .inl (σ.1 k))) := by
  have := kd_lo h (by simp [isPK] at hc; omega)
  rw [wsL_get (by omega), imgE_pk h (Or.inl hc)]
theorem wsL_la {ac : Nat → ClassId} {ad : Nat → Nat} {σ : St} {k c : Nat} (h4 : ad 999 = 4) (h : kd k = c) (hc : isLK c = true) : (wsL ac ad σ)[k]? = some (ad k, .inl (ac 0, lnK c, .inl (σ.1 k))) := by
  have h1 := kd_lt h (by simp [isLK] at hc; omega)
  rw [wsL_get (by omega), imgE_pk h (Or.inr hc)]
  have : acK c = 0 := by simp [isLK] at hc; unfold acK; rw [if_neg (by omega), if_neg (by omega)]
  rw [this]
theorem wsL_ar3 {ac : Nat → ClassId} {ad : Nat → Nat} {σ : St} {k : Nat} (h : kd k = 23) : (wsL ac ad σ)[k]? = some (ad k, .inl (ac 3, 6, .inr (.inr (.inr (.inr (fun j => some (ad (k + 5 + 3 * j)))))))) := by
  have := kd_lo h (by omega)
  rw [wsL_get (by omega)]
  simp [imgE, h]
theorem wsL_ar4 {ac : Nat → ClassId} {ad : Nat → Nat} {σ : St} {k : Nat} (h : kd k = 24) : (wsL ac ad σ)[k]? = some (ad k, .inl (ac 4, 10, .inr (.inr (.inr (.inr (fun j => some (ad (k + 22 + j)))))))) := by
  have := kd_lo h (by omega)
  rw [wsL_get (by omega)]
  simp [imgE, h]
theorem wsL_ar5 {ac : Nat → ClassId} {ad : Nat → Nat} {σ : St} {k : Nat} (h : kd k = 25) : (wsL ac ad σ)[k]? = some (ad k, .inl (ac 5, 8, .inr (.inr (.inr (.inr (fun j => some (ad (k + 1 + 34 * j)))))))) := by
  have := kd_lo h (by omega)
  rw [wsL_get (by omega)]
  simp [imgE, h]
theorem wsL_set {ac : Nat → ClassId} {ad : Nat → Nat} {σ σ' : St} {k : Nat} {x : va_E} (hx : imgE ac ad σ' k = x) (ho : ∀ a, a ≠ k → imgE ac ad σ' a = imgE ac ad σ a) : (wsL ac ad σ).set k (ad k, x) = wsL ac ad σ' := by
  apply List.ext_getElem?
  intro i
  rw [List.getElem?_set]
  by_cases hi : k = i
  · subst hi
    simp only [if_pos rfl, wsL, List.length_map, List.length_range]
    by_cases hk : k < 354 + ad 999
    · simp [hk, hx]
    · simp [hk]
  · rw [if_neg hi]
    simp only [wsL, List.getElem?_map]
    by_cases hk : i < 354 + ad 999
    · simp [hk, ho i (fun e => hi e.symm)]
    · simp [hk]
theorem fsOf_same {ad : Nat → Nat} {σ σ' : St} {a c : Nat} (h : σ'.1 a = σ.1 a) (h2 : σ'.2 = σ.2) : fsOf ad σ' a c = fsOf ad σ a c := by
  unfold fsOf
  rw [h]
theorem imgE_same {ac : Nat → ClassId} {ad : Nat → Nat} {σ σ' : St} {a : Nat} (h : σ'.1 a = σ.1 a) (h2 : σ'.2 = σ.2) : imgE ac ad σ' a = imgE ac ad σ a := by
  unfold imgE
  rw [h, fsOf_same h h2]
theorem wrA_ne {σ : St} {k a : Nat} {f : Nat → Int32} (h : a ≠ k) : (wrA σ k f).1 a = σ.1 a := by simp [wrA, h]
theorem wrA_eq {σ : St} {k : Nat} {f : Nat → Int32} : (wrA σ k f).1 k = f := by simp [wrA]
theorem wsL_wrA {ac : Nat → ClassId} {ad : Nat → Nat} {σ : St} {k c : Nat} {f : Nat → Int32} (h : kd k = c) (hc : isPK c = true) : (wsL ac ad σ).set k (ad k, .inl (ac (acK c), lnK c, .inl f)) = wsL ac ad (wrA σ k f) := by
  refine wsL_set ?_ (fun a ha => imgE_same (wrA_ne ha) rfl)
  rw [imgE_pk h (Or.inl hc), wrA_eq]
theorem wsL_lwA {ac : Nat → ClassId} {ad : Nat → Nat} {σ : St} {k c : Nat} {f : Nat → Int32} (h : kd k = c) (hc : isLK c = true) : (wsL ac ad σ).set k (ad k, .inl (ac 0, lnK c, .inl f)) = wsL ac ad (wrA σ k f) := by
  refine wsL_set ?_ (fun a ha => imgE_same (wrA_ne ha) rfl)
  have : acK c = 0 := by simp [isLK] at hc; unfold acK; rw [if_neg (by omega), if_neg (by omega)]
  rw [imgE_pk h (Or.inr hc), wrA_eq, this]
theorem wsL_wr {ac : Nat → ClassId} {ad : Nat → Nat} {σ : St} {k c j : Nat} {v : Int32} {fs : List Value} (h : kd k = c) (hc : c < 20) (hf : fsOf ad (wr σ k j v) k c = fs) : (wsL ac ad σ).set k (ad k, .inr (c, fs)) = wsL ac ad (wr σ k j v) := by
  refine wsL_set ?_ (fun a ha => imgE_same (wrA_ne ha) rfl)
  simp only [imgE, h, if_pos hc, hf]
/-- the statics: their three cells and the script's cell; the script's length, and what it holds -/
abbrev SS : Type := (Nat → Nat) × (Nat × (Nat → Int32))
theorem kr_0_0 {k : Nat} (h : kd k = 0) : kd (k + 1) = 25 := (by decide +kernel : ∀ k, k < 358 → kd k = 0 → kd (k + 1) = 25) k (kd_lt h (by decide)) h
theorem kr_2_0 {k : Nat} (h : kd k = 2) : kd (k + 1) = 28 := (by decide +kernel : ∀ k, k < 358 → kd k = 2 → kd (k + 1) = 28) k (kd_lt h (by decide)) h
theorem kr_2_2 {k : Nat} (h : kd k = 2) : kd (k + 2) = 29 := (by decide +kernel : ∀ k, k < 358 → kd k = 2 → kd (k + 2) = 29) k (kd_lt h (by decide)) h
theorem kr_3_0 {k : Nat} (h : kd k = 3) : kd (k + 1) = 6 := (by decide +kernel : ∀ k, k < 358 → kd k = 3 → kd (k + 1) = 6) k (kd_lt h (by decide)) h
theorem kr_6_3 {k : Nat} (h : kd k = 6) : kd (k + 1) = 20 := (by decide +kernel : ∀ k, k < 358 → kd k = 6 → kd (k + 1) = 20) k (kd_lt h (by decide)) h
theorem kr_6_4 {k : Nat} (h : kd k = 6) : kd (k + 2) = 22 := (by decide +kernel : ∀ k, k < 358 → kd k = 6 → kd (k + 2) = 22) k (kd_lt h (by decide)) h
theorem kr_7_0 {k : Nat} (h : kd k = 7) : kd (k + 1) = 21 := (by decide +kernel : ∀ k, k < 358 → kd k = 7 → kd (k + 1) = 21) k (kd_lt h (by decide)) h
theorem kr_8_0 {k : Nat} (h : kd k = 8) : kd (k + 1) = 23 := (by decide +kernel : ∀ k, k < 358 → kd k = 8 → kd (k + 1) = 23) k (kd_lt h (by decide)) h
theorem kr_8_2 {k : Nat} (h : kd k = 8) : kd (k + 2) = 24 := (by decide +kernel : ∀ k, k < 358 → kd k = 8 → kd (k + 2) = 24) k (kd_lt h (by decide)) h
theorem kr_8_5 {k : Nat} (h : kd k = 8) : kd (k + 3) = 26 := (by decide +kernel : ∀ k, k < 358 → kd k = 8 → kd (k + 3) = 26) k (kd_lt h (by decide)) h
theorem kr_8_8 {k : Nat} (h : kd k = 8) : kd (k + 4) = 27 := (by decide +kernel : ∀ k, k < 358 → kd k = 8 → kd (k + 4) = 27) k (kd_lt h (by decide)) h
theorem kr_8_9 {k : Nat} (h : kd k = 8) : kd (k + 5) = 4 := (by decide +kernel : ∀ k, k < 358 → kd k = 8 → kd (k + 5) = 4) k (kd_lt h (by decide)) h
theorem kr_9_0 {k : Nat} (h : kd k = 9) : kd (k + 1) = 7 := (by decide +kernel : ∀ k, k < 358 → kd k = 9 → kd (k + 1) = 7) k (kd_lt h (by decide)) h
theorem kr_9_1 {k : Nat} (h : kd k = 9) : kd (k + 3) = 3 := (by decide +kernel : ∀ k, k < 358 → kd k = 9 → kd (k + 3) = 3) k (kd_lt h (by decide)) h
theorem kr_9_2 {k : Nat} (h : kd k = 9) : kd (k + 7) = 8 := (by decide +kernel : ∀ k, k < 358 → kd k = 9 → kd (k + 7) = 8) k (kd_lt h (by decide)) h
theorem kr_9_3 {k : Nat} (h : kd k = 9) : kd (k + 41) = 5 := (by decide +kernel : ∀ k, k < 358 → kd k = 9 → kd (k + 41) = 5) k (kd_lt h (by decide)) h
theorem kr_9_4 {k : Nat} (h : kd k = 9) : kd (k + 42) = 0 := (by decide +kernel : ∀ k, k < 358 → kd k = 9 → kd (k + 42) = 0) k (kd_lt h (by decide)) h
theorem kr_9_5 {k : Nat} (h : kd k = 9) : kd (k + 316) = 8 := (by decide +kernel : ∀ k, k < 358 → kd k = 9 → kd (k + 316) = 8) k (kd_lt h (by decide)) h
theorem kr_9_6 {k : Nat} (h : kd k = 9) : kd (k + 350) = 5 := (by decide +kernel : ∀ k, k < 358 → kd k = 9 → kd (k + 350) = 5) k (kd_lt h (by decide)) h
theorem kr_9_7 {k : Nat} (h : kd k = 9) : kd (k + 351) = 2 := (by decide +kernel : ∀ k, k < 358 → kd k = 9 → kd (k + 351) = 2) k (kd_lt h (by decide)) h
theorem kr_5_0 {k : Nat} (_h : kd k = 5) : kd (rfR k) = 8 := by unfold rfR; split <;> decide +kernel
theorem ke_23 {k i : Nat} (h : kd k = 23) (hi : i < 6) : kd (k + 5 + 3 * i) = 6 := (by decide +kernel : ∀ k, k < 358 → kd k = 23 → ∀ i, i < 6 → kd (k + 5 + 3 * i) = 6) k (kd_lt h (by decide)) h i hi
theorem ke_24 {k i : Nat} (h : kd k = 24) (hi : i < 10) : kd (k + 22 + i) = 1 := (by decide +kernel : ∀ k, k < 358 → kd k = 24 → ∀ i, i < 10 → kd (k + 22 + i) = 1) k (kd_lt h (by decide)) h i hi
theorem ke_25 {k i : Nat} (h : kd k = 25) (hi : i < 8) : kd (k + 1 + 34 * i) = 8 := (by decide +kernel : ∀ k, k < 358 → kd k = 25 → ∀ i, i < 8 → kd (k + 1 + 34 * i) = 8) k (kd_lt h (by decide)) h i hi
end
section
def nestM : List (String × Nat × MethodName × String) := [("SweeperRounds", 9, ⟨"SweeperRounds$Text", "<init>", "()V"⟩, "SweeperRounds"), ("SweeperRounds", 18, ⟨"SweeperRounds$Reader", "<init>", "()V"⟩, "SweeperRounds"), ("SweeperRounds$Reader", 11, ⟨"SweeperRounds$Street", "<init>", "()V"⟩, "SweeperRounds"), ("SweeperRounds$World", 32, ⟨"SweeperRounds$Report", "<init>", "()V"⟩, "SweeperRounds"), ("SweeperRounds$World", 37, ⟨"SweeperRounds$Street", "<init>", "()V"⟩, "SweeperRounds"), ("SweeperRounds$World", 38, ⟨"SweeperRounds$Leg", "<init>", "()V"⟩, "SweeperRounds"), ("SweeperRounds", 54, ⟨"SweeperRounds$Orders", "<init>", "()V"⟩, "SweeperRounds"), ("SweeperRounds$Street", 29, ⟨"SweeperRounds", "placeOf", "(II)I"⟩, "SweeperRounds"), ("SweeperRounds$World", 127, ⟨"SweeperRounds", "placeOf", "(II)I"⟩, "SweeperRounds"), ("SweeperRounds$Round", 67, ⟨"SweeperRounds", "placeOf", "(II)I"⟩, "SweeperRounds")]
def nestF : List (String × Nat × String × String × String × String) := [("SweeperRounds$World", 39, "SweeperRounds", "FIRST_SETTINGS", "[I", "SweeperRounds"), ("SweeperRounds$World", 120, "SweeperRounds", "LEAST_SETTINGS", "[I", "SweeperRounds")]
def stN (j : Nat) : String := match j with
  | 0 => "FIRST_SETTINGS"
  | 1 => "LEAST_SETTINGS"
  | _ => "MOST_SETTINGS"
def stV (j : Nat) (i : Nat) : Int32 := match j with
  | 0 => ([2, 300, 1, 2400, 200, 100] : List Int32).getD i 0
  | 1 => ([1, 20, 0, 100, 0, 0] : List Int32).getD i 0
  | _ => ([4, 2000, 9, 6000, 1000, 400] : List Int32).getD i 0
/-- what stays over the whole run: the tables of the machine, the links of nest mates, the three static arrays -/
def KSt (A : Nat → Prop) (D : va_G) (ac : Nat → ClassId) (st : SS) (U : State) : Prop :=
  va_K D classes (tysL ac) U ∧ (∀ q ∈ nestM, va_Nw (.methodLinkNest q.1 q.2.1 q.2.2.1 q.2.2.2) U) ∧ (∀ q ∈ nestF, va_Nw (.fieldLinkNest q.1 q.2.1 q.2.2.1 q.2.2.2.1 q.2.2.2.2.1 q.2.2.2.2.2) U) ∧
  (∀ j, j < 3 → va_Z "SweeperRounds" (stN j) "[I" (.ref (st.1 j)) A U U.heap ∧ va_T .int (st.1 j) 6 (fun i => .int (stV j i)) A U U.heap) ∧
  va_X (st.1 3) st.2.1 st.2.2 U U.heap ∧ st.1 3 < U.heap.size ∧ ¬ A (st.1 3)
theorem KSt.on {A : Nat → Prop} {D : va_G} {ac : Nat → ClassId} {st : SS} {s U : State} {H : Heap} {locs : List Loc} (h : KSt A D ac st s) (hW : s.WarmedH U.vm) (hS : va_S A s.heap H locs) (hU : U.heap = H) : KSt A D ac st U := by
  obtain ⟨h1, h2, h3, h4, h7, h8, h9⟩ := h
  subst hU
  refine ⟨va_K.moved hW.alike h1, fun q hq => (h2 q hq).warmM hW, fun q hq => (h3 q hq).warmF hW, fun j hj => ?_, (h7.moved hW.alike).kept (hS.2.1 _ h8 h9), Nat.lt_of_lt_of_le h8 hS.1, h9⟩
  obtain ⟨h5, h6⟩ := h4 j hj
  exact ⟨(h5.moved hW.alike).kept hS.2.1, (h6.moved hW.alike).kept hS.2.1⟩
theorem KSt.calling {A : Nat → Prop} {D : va_G} {ac : Nat → ClassId} {st : SS} {U : State} {g : JFrame} {mk : MethodId} {a : Array Value} (h : KSt A D ac st U) : KSt A D ac st (U.calling g mk a) := by
  obtain ⟨h1, h2, h3, h4, h7, h8, h9⟩ := h
  refine ⟨va_K.moved (u := U) (U := U.calling g mk a) (Vm.Alike.refl U.vm) h1, fun q hq => va_Nw.same (u := U) (U := U.calling g mk a) rfl rfl (h2 q hq), fun q hq => va_Nw.same (u := U) (U := U.calling g mk a) rfl rfl (h3 q hq), fun j hj => ?_, h7.moved (u := U) (U := U.calling g mk a) (Vm.Alike.refl U.vm), h8, h9⟩
  obtain ⟨h5, h6⟩ := h4 j hj
  exact ⟨h5.moved (u := U) (U := U.calling g mk a) (Vm.Alike.refl U.vm), h6.moved (u := U) (U := U.calling g mk a) (Vm.Alike.refl U.vm)⟩
def GSt (A : Nat → Prop) (D : va_G) (ac : Nat → ClassId) (ad : Nat → Nat) (st : SS) (σ : St) (U : State) : Prop := va_P D classes (wsL ac ad σ) U.heap ∧ va_D A (wsL ac ad σ) ∧ KSt A D ac st U
theorem GSt.blind {A : Nat → Prop} {D : va_G} {ac : Nat → ClassId} {ad : Nat → Nat} {st : SS} {σ : St} {vals : List Value} : FrameBlind (va_Pc vals (GSt A D ac ad st σ)) := fun _ _ _ _ q => ⟨q.1, q.2.1, q.2.2.1, q.2.2.2.calling⟩
def DG (A : Nat → Prop) (D : va_G) (ac : Nat → ClassId) (ad : Nat → Nat) (s : State) (σ : St) (H : Heap) (locs : List Loc) : Prop := va_P D classes (wsL ac ad σ) H ∧ va_D A (wsL ac ad σ) ∧ va_S A s.heap H locs
def SC (A : Nat → Prop) (D : va_G) (ac : Nat → ClassId) (st : SS) (p : Program) (m : MethodId) (c : Code) (cc : ByteArray) (nL : Nat) (s : State) (args : Array Value) (own : String) (R : Room) (cells slots F Lc : Nat) : Prop :=
  CallFix p m c cc nL s args wA own ∧ KSt A D ac st s ∧ (cells ≤ R.cells ∧ slots ≤ R.slots) ∧ F ≤ R.frames ∧ Lc ≤ R.locals
def itN {β : Type} (F : β → β) (bot : β) : Nat → β
  | 0 => bot
  | n + 1 => F (itN F bot n)
def FU : Nat := 1000000
def isB (v : Int32) : Prop := v = 0 ∨ v = 1
theorem isB_nar {v : Int32} (h : isB v) : narrow .boolean (.int v) = .int v := by rcases h with rfl | rfl <;> decide
theorem isB_fit {v : Int32} (h : isB v) : fits .boolean (.int v) = true := by rcases h with rfl | rfl <;> decide
section RW
variable {p : Program} {l : Launch} {e : Env} {R : Room} {s : State} {m : MethodId} {args : Array Value} {below : List Frame} {meth : Method} {c : Code} {H : Heap} {locs : List Loc} {cells slots : Nat} {QW : State → Prop}
variable {cc : ByteArray} {pc nL F Lc : Nat} {ls : Array Slot} {rest : List Value} {D : va_G} {ac : Nat → ClassId} {ad : Nat → Nat} {st : SS} {A : Nat → Prop} {σ : St} {own : String}
theorem mg (S : SC A D ac st p m c cc nL s args own R cells slots F Lc) (hG : DG A D ac ad s σ H locs) {k ci j index : Nat} {C ref : String} {T : u_T} {N : Nat} (hc : classes[ci]? = some (C, T, N)) (hin : ∀ w ∈ u_ws C T N, w ∈ wA) (hj : j < N) (hl : Cond.fieldLink own index ref (T j).2.1 (T j).2.2.1 ∈ wA) (href : (T j).1 = ref) (hci : ci < 20) (hk : kd k = ci) {v : Value} (hv : (fsOf ad σ k ci)[j]? = some v) (hdg : decode cc pc = .ok (.getfield index, 3))
    (kk : W p l e R s m args below meth c H locs cells slots QW (F0 m (pc + 3) ls (v :: rest))) : W p l e R s m args below meth c H locs cells slots QW (F0 m pc ls (.ref (ad k) :: rest)) := by
  subst href
  exact va_get S.1.1 S.1.2.1 S.1.2.2.2.2 hin S.1.2.2.2.1 S.2.1.1 hG.1 k (wsL_obj hk hci) hc j hj (S.1.2.2.2.2 _ hl) (fun _ h => h) hv hdg kk
theorem mp (S : SC A D ac st p m c cc nL s args own R cells slots F Lc) (hG : DG A D ac ad s σ H locs) {k ci j index : Nat} {C ref : String} {T : u_T} {N : Nat} (hc : classes[ci]? = some (C, T, N)) (hin : ∀ w ∈ u_ws C T N, w ∈ wA) (ty0 : Nat → FieldType) (hty : ∀ k, k < N → parseFieldDescriptor (T k).2.2.1 = some (ty0 k)) (hnm : ∀ a, a < N → ∀ b, b < N → a ≠ b → (T a).2.1 ≠ (T b).2.1) (hj : j < N) (hl : Cond.fieldLink own index ref (T j).2.1 (T j).2.2.1 ∈ wA) (href : (T j).1 = ref) (hfin : (T j).2.2.2 = false) (hci : ci < 20) (hk : kd k = ci) {v : Int32} (hn : narrow (ty0 j) (.int v) = .int v) (hft : fits (ty0 j) (.int v) = true) (hlen : j < (fsOf ad σ k ci).length) (hfs : (fsOf ad σ k ci).set j (.int v) = fsOf ad (wr σ k j v) k ci) (hdg : decode cc pc = .ok (.putfield index, 3))
    (kk : ∀ (σ1 : St), σ1 = wr σ k j v → ∀ (H1 : Heap) (locs1 : List Loc), DG A D ac ad s σ1 H1 locs1 → W p l e R s m args below meth c H1 locs1 cells slots QW (F0 m (pc + 3) ls rest)) : W p l e R s m args below meth c H locs cells slots QW (F0 m pc ls (.int v :: .ref (ad k) :: rest)) := by
  subst href
  have ew := wsL_wr (ac := ac) (ad := ad) (σ := σ) (j := j) (v := v) hk hci hfs.symm
  refine va_put S.1.1 S.1.2.1 S.1.2.2.2.2 hin ty0 hty hnm S.1.2.2.2.1 S.2.1.1 hG.1 hG.2.1 hG.2.2 k (wsL_obj hk hci) hc j hj (S.1.2.2.2.2 _ hl) (fun _ h => h) hfin (hty j hj) hn hft hlen hdg (fun H1 locs1 h1 h2 h3 => ?_)
  rw [ew] at h1 h2
  exact kk _ rfl H1 locs1 ⟨h1, h2, h3⟩
theorem mia (S : SC A D ac st p m c cc nL s args own R cells slots F Lc) (hG : DG A D ac ad s σ H locs) {k : Nat} (kk0 : Nat) (hp : isPK kk0 = true) (ha : acK kk0 = 0) (hk : kd k = kk0) {i : Int32} (hin : vp_in i (lnK kk0)) (hdg : decode cc pc = .ok (.iaload, 1))
    (kk : W p l e R s m args below meth c H locs cells slots QW (F0 m (pc + 1) ls (.int (σ.1 k i.toNatClampNeg) :: rest))) : W p l e R s m args below meth c H locs cells slots QW (F0 m pc ls (.int i :: .ref (ad k) :: rest)) :=
  va_iald S.1.1 S.1.2.1 S.2.1.1 hG.1 k 0 (wsL_arr hk hp) (by rw [ha]; rfl) hin hdg kk
theorem mla (S : SC A D ac st p m c cc nL s args own R cells slots F Lc) (hG : DG A D ac ad s σ H locs) (h4 : ad 999 = 4) {k : Nat} (kk0 : Nat) (hp : isLK kk0 = true) (hk : kd k = kk0) {i : Int32} (hin : vp_in i (lnK kk0)) (hdg : decode cc pc = .ok (.iaload, 1))
    (kk : W p l e R s m args below meth c H locs cells slots QW (F0 m (pc + 1) ls (.int (σ.1 k i.toNatClampNeg) :: rest))) : W p l e R s m args below meth c H locs cells slots QW (F0 m pc ls (.int i :: .ref (ad k) :: rest)) :=
  va_iald S.1.1 S.1.2.1 S.2.1.1 hG.1 k 0 (wsL_la h4 hk hp) rfl hin hdg kk
theorem mls (S : SC A D ac st p m c cc nL s args own R cells slots F Lc) (hG : DG A D ac ad s σ H locs) (h4 : ad 999 = 4) {k : Nat} (kk0 : Nat) (hp : isLK kk0 = true) (hk : kd k = kk0) {i v : Int32} (hin : vp_in i (lnK kk0)) (hdg : decode cc pc = .ok (.iastore, 1))
    (kk : ∀ (σ1 : St), σ1 = wr σ k i.toNatClampNeg v → ∀ (H1 : Heap) (locs1 : List Loc), DG A D ac ad s σ1 H1 locs1 → W p l e R s m args below meth c H1 locs1 cells slots QW (F0 m (pc + 1) ls rest)) : W p l e R s m args below meth c H locs cells slots QW (F0 m pc ls (.int v :: .int i :: .ref (ad k) :: rest)) := by
  refine va_iast S.1.1 S.1.2.1 S.2.1.1 hG.1 hG.2.1 hG.2.2 k 0 (wsL_la h4 hk hp) rfl hin hdg (fun H1 locs1 h1 h2 h3 => ?_)
  rw [wsL_lwA hk hp] at h1 h2
  exact kk _ rfl H1 locs1 ⟨h1, h2, h3⟩
theorem mss (S : SC A D ac st p m c cc nL s args own R cells slots F Lc) (hG : DG A D ac ad s σ H locs) {i : Int32} (hin : vp_in i st.2.1) (hdg : decode cc pc = .ok (.iaload, 1))
    (kk : W p l e R s m args below meth c H locs cells slots QW (F0 m (pc + 1) ls (.int (st.2.2 i.toNatClampNeg) :: rest))) : W p l e R s m args below meth c H locs cells slots QW (F0 m pc ls (.int i :: .ref (st.1 3) :: rest)) :=
  va_sld S.1.1 S.1.2.1 S.2.1.2.2.2.2.1 S.2.1.2.2.2.2.2.1 S.2.1.2.2.2.2.2.2 hG.2.2 hin hdg kk
theorem msl (S : SC A D ac st p m c cc nL s args own R cells slots F Lc) (hG : DG A D ac ad s σ H locs) (hdg : decode cc pc = .ok (.arraylength, 1))
    (kk : W p l e R s m args below meth c H locs cells slots QW (F0 m (pc + 1) ls (.int (Int32.ofNat st.2.1) :: rest))) : W p l e R s m args below meth c H locs cells slots QW (F0 m pc ls (.ref (st.1 3) :: rest)) :=
  va_slen S.1.1 S.1.2.1 S.2.1.2.2.2.2.1 S.2.1.2.2.2.2.2.1 S.2.1.2.2.2.2.2.2 hG.2.2 hdg kk
theorem mca (S : SC A D ac st p m c cc nL s args own R cells slots F Lc) (hG : DG A D ac ad s σ H locs) {k : Nat} (hk : kd k = 21) {i : Int32} (hin : vp_in i 80) (hdg : decode cc pc = .ok (.caload, 1))
    (kk : W p l e R s m args below meth c H locs cells slots QW (F0 m (pc + 1) ls (.int (σ.1 k i.toNatClampNeg) :: rest))) : W p l e R s m args below meth c H locs cells slots QW (F0 m pc ls (.int i :: .ref (ad k) :: rest)) :=
  va_cald S.1.1 S.1.2.1 S.2.1.1 hG.1 k 1 (wsL_arr hk rfl) rfl hin hdg kk
theorem mza (S : SC A D ac st p m c cc nL s args own R cells slots F Lc) (hG : DG A D ac ad s σ H locs) {k : Nat} (hk : kd k = 22) {i : Int32} (hin : vp_in i 40) (hdg : decode cc pc = .ok (.baload, 1))
    (kk : W p l e R s m args below meth c H locs cells slots QW (F0 m (pc + 1) ls (.int (σ.1 k i.toNatClampNeg) :: rest))) : W p l e R s m args below meth c H locs cells slots QW (F0 m pc ls (.int i :: .ref (ad k) :: rest)) :=
  va_zald S.1.1 S.1.2.1 S.2.1.1 hG.1 k 2 (wsL_arr hk rfl) rfl hin hdg kk
theorem mq3 (S : SC A D ac st p m c cc nL s args own R cells slots F Lc) (hG : DG A D ac ad s σ H locs) {k : Nat} (hk : kd k = 23) {i : Int32} (hin : vp_in i 6) (hdg : decode cc pc = .ok (.aaload, 1))
    (kk : W p l e R s m args below meth c H locs cells slots QW (F0 m (pc + 1) ls (.ref (ad (k + 5 + 3 * i.toNatClampNeg)) :: rest))) : W p l e R s m args below meth c H locs cells slots QW (F0 m pc ls (.int i :: .ref (ad k) :: rest)) :=
  va_aldq S.1.1 S.1.2.1 S.2.1.1 hG.1 k 3 (wsL_ar3 hk) rfl hin hdg kk
theorem mq4 (S : SC A D ac st p m c cc nL s args own R cells slots F Lc) (hG : DG A D ac ad s σ H locs) {k : Nat} (hk : kd k = 24) {i : Int32} (hin : vp_in i 10) (hdg : decode cc pc = .ok (.aaload, 1))
    (kk : W p l e R s m args below meth c H locs cells slots QW (F0 m (pc + 1) ls (.ref (ad (k + 22 + i.toNatClampNeg)) :: rest))) : W p l e R s m args below meth c H locs cells slots QW (F0 m pc ls (.int i :: .ref (ad k) :: rest)) :=
  va_aldq S.1.1 S.1.2.1 S.2.1.1 hG.1 k 4 (wsL_ar4 hk) rfl hin hdg kk
theorem mq5 (S : SC A D ac st p m c cc nL s args own R cells slots F Lc) (hG : DG A D ac ad s σ H locs) {k : Nat} (hk : kd k = 25) {i : Int32} (hin : vp_in i 8) (hdg : decode cc pc = .ok (.aaload, 1))
    (kk : W p l e R s m args below meth c H locs cells slots QW (F0 m (pc + 1) ls (.ref (ad (k + 1 + 34 * i.toNatClampNeg)) :: rest))) : W p l e R s m args below meth c H locs cells slots QW (F0 m pc ls (.int i :: .ref (ad k) :: rest)) :=
  va_aldq S.1.1 S.1.2.1 S.2.1.1 hG.1 k 5 (wsL_ar5 hk) rfl hin hdg kk
theorem vin_lt {i : Int32} {n : Nat} (h : vp_in i n) : i.toNatClampNeg < n := Nat.not_le.mp fun q => h (Or.inr q)
theorem mis (S : SC A D ac st p m c cc nL s args own R cells slots F Lc) (hG : DG A D ac ad s σ H locs) {k : Nat} (kk0 : Nat) (hp : isPK kk0 = true) (ha : acK kk0 = 0) (hk : kd k = kk0) {i v : Int32} (hin : vp_in i (lnK kk0)) (hdg : decode cc pc = .ok (.iastore, 1))
    (kk : ∀ (σ1 : St), σ1 = wr σ k i.toNatClampNeg v → ∀ (H1 : Heap) (locs1 : List Loc), DG A D ac ad s σ1 H1 locs1 → W p l e R s m args below meth c H1 locs1 cells slots QW (F0 m (pc + 1) ls rest)) : W p l e R s m args below meth c H locs cells slots QW (F0 m pc ls (.int v :: .int i :: .ref (ad k) :: rest)) := by
  refine va_iast S.1.1 S.1.2.1 S.2.1.1 hG.1 hG.2.1 hG.2.2 k 0 (wsL_arr hk hp) (by rw [ha]; rfl) hin hdg (fun H1 locs1 h1 h2 h3 => ?_)
  rw [wsL_wrA hk hp] at h1 h2
  exact kk _ rfl H1 locs1 ⟨h1, h2, h3⟩
theorem mcs (S : SC A D ac st p m c cc nL s args own R cells slots F Lc) (hG : DG A D ac ad s σ H locs) {k : Nat} (hk : kd k = 21) {i v : Int32} (hin : vp_in i 80) (hdg : decode cc pc = .ok (.castore, 1))
    (kk : ∀ (σ1 : St), σ1 = wr σ k i.toNatClampNeg (vp_nar .char v) → ∀ (H1 : Heap) (locs1 : List Loc), DG A D ac ad s σ1 H1 locs1 → W p l e R s m args below meth c H1 locs1 cells slots QW (F0 m (pc + 1) ls rest)) : W p l e R s m args below meth c H locs cells slots QW (F0 m pc ls (.int v :: .int i :: .ref (ad k) :: rest)) := by
  refine va_cast S.1.1 S.1.2.1 S.2.1.1 hG.1 hG.2.1 hG.2.2 k 1 (wsL_arr hk rfl) rfl hin hdg (fun H1 locs1 h1 h2 h3 => ?_)
  rw [wsL_wrA hk rfl] at h1 h2
  exact kk _ rfl H1 locs1 ⟨h1, h2, h3⟩
theorem mzs (S : SC A D ac st p m c cc nL s args own R cells slots F Lc) (hG : DG A D ac ad s σ H locs) {k : Nat} (hk : kd k = 22) {i v : Int32} (hin : vp_in i 40) (hdg : decode cc pc = .ok (.bastore, 1))
    (kk : ∀ (σ1 : St), σ1 = wr σ k i.toNatClampNeg (vp_nar .boolean v) → ∀ (H1 : Heap) (locs1 : List Loc), DG A D ac ad s σ1 H1 locs1 → W p l e R s m args below meth c H1 locs1 cells slots QW (F0 m (pc + 1) ls rest)) : W p l e R s m args below meth c H locs cells slots QW (F0 m pc ls (.int v :: .int i :: .ref (ad k) :: rest)) := by
  refine va_zast S.1.1 S.1.2.1 S.2.1.1 hG.1 hG.2.1 hG.2.2 k 2 (wsL_arr hk rfl) rfl hin hdg (fun H1 locs1 h1 h2 h3 => ?_)
  rw [wsL_wrA hk rfl] at h1 h2
  exact kk _ rfl H1 locs1 ⟨h1, h2, h3⟩
theorem mcp (S : SC A D ac st p m c cc nL s args own R cells slots F Lc) (hsz : ls.size = nL) (hG : DG A D ac ad s σ H locs) {index : Nat} (hl : Cond.methodLink own index arraycopyName ∈ wA) (hnat : Cond.native arraycopyName ∈ wA) (hstat : Cond.static arraycopyName ∈ wA) (hini : Cond.initialized "java/lang/System" ∈ wA) {k0 k1 : Nat} (c0 c1 : Nat) (hp0 : isPK c0 = true) (hp1 : isPK c1 = true) (ha0 : acK c0 = 0) (ha1 : acK c1 = 0) (hk0 : kd k0 = c0) (hk1 : kd k1 = c1) {n : Int32} (h3 : ¬ n < 0) (h4 : n.toNatClampNeg ≤ lnK c0) (h5 : n.toNatClampNeg ≤ lnK c1) (hF : 1 ≤ F) (hLc : (rest.map fun v => v.category).sum + 18 ≤ Lc) (hdg : decode cc pc = .ok (.invokestatic index, 3))
    (kk : ∀ (σ1 : St), σ1 = wrA σ k1 (va_cpy (σ.1 k0) (σ.1 k1) 0 0 n.toNatClampNeg) → ∀ (H1 : Heap) (locs1 : List Loc), DG A D ac ad s σ1 H1 locs1 → W p l e R s m args below meth c H1 locs1 cells slots QW (F0 m (pc + 3) ls rest)) : W p l e R s m args below meth c H locs cells slots QW (F0 m pc ls (.int n :: .int 0 :: .ref (ad k1) :: .int 0 :: .ref (ad k0) :: rest)) := by
  have hnf : nativeFrameWords "java/lang/System" "arraycopy" 5 + 11 = 18 := by decide
  have z0 : (0 : Int32).toNatClampNeg = 0 := by decide
  refine va_copyi S.1.1 S.1.2.1 (S.1.2.2.1.trans hsz.symm) S.1.2.2.2.1 (S.1.2.2.2.2 _ hl) (S.1.2.2.2.2 _ hnat) (S.1.2.2.2.2 _ hstat) (S.1.2.2.2.2 _ hini) S.2.1.1 hG.1 hG.2.1 hG.2.2 k0 k1 0 0 (ty := .int) (wsL_arr hk0 hp0) (wsL_arr hk1 hp1) (by rw [ha0]; rfl) (by rw [ha1]; rfl) rfl (by decide) (by decide) h3 (by rw [z0]; omega) (by rw [z0]; omega) (fun _ _ => rfl) (Nat.le_trans hF S.2.2.2.1) (by rw [hnf]; exact Nat.le_trans hLc S.2.2.2.2) hdg (fun H1 locs1 h1 h2 h3 => ?_)
  rw [wsL_wrA hk1 hp1, z0] at h1 h2
  exact kk _ rfl H1 locs1 ⟨h1, h2, h3⟩
theorem mgs (S : SC A D ac st p m c cc nL s args own R cells slots F Lc) (hG : DG A D ac ad s σ H locs) (j : Nat) (hj : j < 3) {index : Nat} (hl : Cond.fieldLink own index "SweeperRounds" (stN j) "[I" ∈ wA) (hdg : decode cc pc = .ok (.getstatic index, 3))
    (kk : W p l e R s m args below meth c H locs cells slots QW (F0 m (pc + 3) ls (.ref (st.1 j) :: rest))) : W p l e R s m args below meth c H locs cells slots QW (F0 m pc ls rest) :=
  va_gets S.1.1 S.1.2.1 (S.2.1.2.2.2.1 j hj).1 hG.2.2 S.1.2.2.2.1 (S.1.2.2.2.2 _ hl) (fun _ h => h) hdg kk
theorem mgsN (S : SC A D ac st p m c cc nL s args own R cells slots F Lc) (hG : DG A D ac ad s σ H locs) (j : Nat) (hj : j < 3) {index : Nat} {host : String} (hl : (own, index, "SweeperRounds", stN j, "[I", host) ∈ nestF) (hdg : decode cc pc = .ok (.getstatic index, 3))
    (kk : W p l e R s m args below meth c H locs cells slots QW (F0 m (pc + 3) ls (.ref (st.1 j) :: rest))) : W p l e R s m args below meth c H locs cells slots QW (F0 m pc ls rest) :=
  va_getsN S.1.1 S.1.2.1 (S.2.1.2.2.2.1 j hj).1 hG.2.2 S.1.2.2.2.1 (va_Nw.use rfl (S.2.1.2.2.1 _ hl)) (fun _ h => h) hdg kk
theorem mts (S : SC A D ac st p m c cc nL s args own R cells slots F Lc) (hG : DG A D ac ad s σ H locs) (j : Nat) (hj : j < 3) {i : Int32} (hin : vp_in i 6) (hdg : decode cc pc = .ok (.iaload, 1))
    (kk : W p l e R s m args below meth c H locs cells slots QW (F0 m (pc + 1) ls (.int (stV j i.toNatClampNeg) :: rest))) : W p l e R s m args below meth c H locs cells slots QW (F0 m pc ls (.int i :: .ref (st.1 j) :: rest)) :=
  va_ti S.1.1 S.1.2.1 (S.2.1.2.2.2.1 j hj).2 hG.2.2 hin rfl hdg kk
/-- the words of a call -/
theorem mcw {C : String} {y : MethodName} {bytes : ByteArray} {maxL n index F' L' : Nat} {ret : Option FieldType} (S : SC A D ac st p m c cc nL s args own R cells slots F Lc) (h1 : Cond.methodLink own index y ∈ wA) (h2 : Cond.instanceMethod y ∈ wA) (h3 : Cond.selects C y y ∈ wA) (h4 : Cond.initialized C ∈ wA) (h5 : Cond.code y bytes maxL ret ∈ wA) (hd : y.cls = C ∧ y.cls ≠ "java/lang/invoke/MethodHandle" ∧ y.cls ≠ "java/lang/invoke/VarHandle" ∧ (parseMethodDescriptor y.desc).map (fun d => d.parameters.length) = some n) (hR : F' + 1 ≤ F ∧ 8 + (maxL + 11) + L' ≤ Lc) :
    CallW R s args own C index y bytes maxL ret (Cond.code y bytes maxL ret :: wA) { frames := F', cells := 0, slots := 0, locals := L' } 0 0 n :=
  cwV n S.1.2.2.2.2 (wA_in (fun w hw => (List.mem_append.mp hw).elim (fun q => by simp at q; rcases q with rfl | rfl | rfl | rfl <;> assumption) (wA_cons h5 w))) rfl rfl rfl hd ⟨Nat.le_trans hR.1 S.2.2.2.1, Nat.le_trans hR.2 S.2.2.2.2⟩
theorem mcws {y : MethodName} {bytes : ByteArray} {maxL n index F' L' : Nat} {ret : Option FieldType} (S : SC A D ac st p m c cc nL s args own R cells slots F Lc) (h1 : Cond.methodLink own index y ∈ wA) (h2 : Cond.static y ∈ wA) (h4 : Cond.initialized own ∈ wA) (h5 : Cond.code y bytes maxL ret ∈ wA) (hd : y.cls = own ∧ y.cls ≠ "java/lang/invoke/MethodHandle" ∧ y.cls ≠ "java/lang/invoke/VarHandle" ∧ (parseMethodDescriptor y.desc).map (fun d => d.parameters.length) = some n) (hR : F' + 1 ≤ F ∧ 8 + (maxL + 11) + L' ≤ Lc) :
    CallB R s args own index y bytes maxL ret (Cond.code y bytes maxL ret :: wA) { frames := F', cells := 0, slots := 0, locals := L' } 0 0 n ∧ (Cond.static y).before args s = true :=
  cwS n S.1.2.2.2.2 (wA_in (fun w hw => (List.mem_append.mp hw).elim (fun q => by simp at q; rcases q with rfl | rfl | rfl <;> assumption) (wA_cons h5 w))) rfl rfl rfl hd ⟨Nat.le_trans hR.1 S.2.2.2.1, Nat.le_trans hR.2 S.2.2.2.2⟩
theorem mcwn {y : MethodName} {bytes : ByteArray} {maxL n index F' L' : Nat} {ret : Option FieldType} {host : String} (S : SC A D ac st p m c cc nL s args own R cells slots F Lc) (h1 : (own, index, y, host) ∈ nestM) (h2 : Cond.static y ∈ wA) (h4 : Cond.initialized y.cls ∈ wA) (h5 : Cond.code y bytes maxL ret ∈ wA) (hd : y.cls ≠ "java/lang/invoke/MethodHandle" ∧ y.cls ≠ "java/lang/invoke/VarHandle" ∧ (parseMethodDescriptor y.desc).map (fun d => d.parameters.length) = some n) (hR : F' + 1 ≤ F ∧ 8 + (maxL + 11) + L' ≤ Lc) :
    va_CN R s args own index y host bytes maxL ret (Cond.code y bytes maxL ret :: wA) { frames := F', cells := 0, slots := 0, locals := L' } 0 0 n ∧ (Cond.static y).before args s = true ∧ True :=
  ⟨va_cnB n S.1.2.2.2.2 (wA_in (wA_cons h5)) rfl rfl rfl (S.2.1.2.1 _ h1) (S.1.2.2.2.2 _ h4) hd ⟨Nat.le_trans hR.1 S.2.2.2.1, Nat.le_trans hR.2 S.2.2.2.2⟩, S.1.2.2.2.2 _ h2, trivial⟩

theorem mcVi {y : MethodName} {bytes : ByteArray} {maxL n index F' L' ci kb : Nat} {C : String} {T : u_T} {N : Nat} {rt : Option FieldType} (As : List Value) {Q : Int32 → St → Prop} (S : SC A D ac st p m c cc nL s args own R cells slots F Lc) (hsz : ls.size = nL) (hG : DG A D ac ad s σ H locs) (hM : Met l y (Cond.code y bytes maxL rt :: wA) { frames := F', cells := 0, slots := 0, locals := L' } (va_Pc (.ref (ad kb) :: As) (GSt A D ac ad st σ)) (va_Qi Q (GSt A D ac ad st) A) 0 0 A) (cw : CallW R s args own C index y bytes maxL rt (Cond.code y bytes maxL rt :: wA) { frames := F', cells := 0, slots := 0, locals := L' } 0 0 n) (hc : classes[ci]? = some (C, T, N)) (hci : ci < 20) (hkb : kd kb = ci) (hn : As.length = n) (hcat : (rest.map fun v => v.category).sum ≤ 8) (hdg : decode cc pc = .ok (.invokevirtual index, 3))
    (kk : ∀ (r : Int32) (u : St), Q r u → ∀ (H1 : Heap) (locs1 : List Loc), DG A D ac ad s u H1 locs1 → W p l e R s m args below meth c H1 locs1 cells slots QW (F0 m (pc + 3) ls (.int r :: rest))) : W p l e R s m args below meth c H locs cells slots QW (F0 m pc ls (As.reverse ++ .ref (ad kb) :: rest)) := by
  refine va_calli (va_runV (As := As) (rest := rest) S.1 hM cw ⟨GSt.blind, va_recv S.2.1.1 hG.1 hc (wsL_obj hkb hci), fun U hU hW => ⟨rfl, by rw [hU]; exact hG.1, hG.2.1, S.2.1.on hW hG.2.2 hU⟩⟩ rfl hn hsz rfl (lv_room hcat) hdg ⟨S.2.2.1.1, S.2.2.1.2⟩) hG.2.2 (fun q _ h => h) (fun q h => h) (fun r u t H1 locs1 ht hvm hq hB hz1 hk1 hS => ?_)
  subst ht
  exact kk r u hq t.heap locs1 ⟨hB.1, hB.2.1, hS⟩
theorem mcVv {y : MethodName} {bytes : ByteArray} {maxL n index F' L' ci kb : Nat} {C : String} {T : u_T} {N : Nat} {rt : Option FieldType} (As : List Value) {Q : St → Prop} (S : SC A D ac st p m c cc nL s args own R cells slots F Lc) (hsz : ls.size = nL) (hG : DG A D ac ad s σ H locs) (hM : Met l y (Cond.code y bytes maxL rt :: wA) { frames := F', cells := 0, slots := 0, locals := L' } (va_Pc (.ref (ad kb) :: As) (GSt A D ac ad st σ)) (va_Qv Q (GSt A D ac ad st) A) 0 0 A) (cw : CallW R s args own C index y bytes maxL rt (Cond.code y bytes maxL rt :: wA) { frames := F', cells := 0, slots := 0, locals := L' } 0 0 n) (hc : classes[ci]? = some (C, T, N)) (hci : ci < 20) (hkb : kd kb = ci) (hn : As.length = n) (hcat : (rest.map fun v => v.category).sum ≤ 8) (hdg : decode cc pc = .ok (.invokevirtual index, 3))
    (kk : ∀ (u : St), Q u → ∀ (H1 : Heap) (locs1 : List Loc), DG A D ac ad s u H1 locs1 → W p l e R s m args below meth c H1 locs1 cells slots QW (F0 m (pc + 3) ls (rest))) : W p l e R s m args below meth c H locs cells slots QW (F0 m pc ls (As.reverse ++ .ref (ad kb) :: rest)) := by
  refine va_callv (va_runV (As := As) (rest := rest) S.1 hM cw ⟨GSt.blind, va_recv S.2.1.1 hG.1 hc (wsL_obj hkb hci), fun U hU hW => ⟨rfl, by rw [hU]; exact hG.1, hG.2.1, S.2.1.on hW hG.2.2 hU⟩⟩ rfl hn hsz rfl (lv_room hcat) hdg ⟨S.2.2.1.1, S.2.2.1.2⟩) hG.2.2 (fun q _ h => h) (fun q h => h) (fun u t H1 locs1 ht hvm hq hB hz1 hk1 hS => ?_)
  subst ht
  exact kk u hq t.heap locs1 ⟨hB.1, hB.2.1, hS⟩
theorem mcSi {y : MethodName} {bytes : ByteArray} {maxL n index F' L' : Nat} {rt : Option FieldType} (As : List Value) {Q : Int32 → St → Prop} (S : SC A D ac st p m c cc nL s args own R cells slots F Lc) (hsz : ls.size = nL) (hG : DG A D ac ad s σ H locs) (hM : Met l y (Cond.code y bytes maxL rt :: wA) { frames := F', cells := 0, slots := 0, locals := L' } (va_Pc (As) (GSt A D ac ad st σ)) (va_Qi Q (GSt A D ac ad st) A) 0 0 A) (cw : CallB R s args own index y bytes maxL rt (Cond.code y bytes maxL rt :: wA) { frames := F', cells := 0, slots := 0, locals := L' } 0 0 n ∧ (Cond.static y).before args s = true) (hn : As.length = n) (hcat : (rest.map fun v => v.category).sum ≤ 8) (hdg : decode cc pc = .ok (.invokestatic index, 3))
    (kk : ∀ (r : Int32) (u : St), Q r u → ∀ (H1 : Heap) (locs1 : List Loc), DG A D ac ad s u H1 locs1 → W p l e R s m args below meth c H1 locs1 cells slots QW (F0 m (pc + 3) ls (.int r :: rest))) : W p l e R s m args below meth c H locs cells slots QW (F0 m pc ls (As.reverse ++ rest)) := by
  refine va_calli (va_runS (As := As) (rest := rest) S.1 hM cw ⟨GSt.blind, fun U hU hW => ⟨rfl, by rw [hU]; exact hG.1, hG.2.1, S.2.1.on hW hG.2.2 hU⟩⟩ rfl hn hsz rfl (lv_room hcat) hdg ⟨S.2.2.1.1, S.2.2.1.2⟩) hG.2.2 (fun q _ h => h) (fun q h => h) (fun r u t H1 locs1 ht hvm hq hB hz1 hk1 hS => ?_)
  subst ht
  exact kk r u hq t.heap locs1 ⟨hB.1, hB.2.1, hS⟩
theorem mcSv {y : MethodName} {bytes : ByteArray} {maxL n index F' L' : Nat} {rt : Option FieldType} (As : List Value) {Q : St → Prop} (S : SC A D ac st p m c cc nL s args own R cells slots F Lc) (hsz : ls.size = nL) (hG : DG A D ac ad s σ H locs) (hM : Met l y (Cond.code y bytes maxL rt :: wA) { frames := F', cells := 0, slots := 0, locals := L' } (va_Pc (As) (GSt A D ac ad st σ)) (va_Qv Q (GSt A D ac ad st) A) 0 0 A) (cw : CallB R s args own index y bytes maxL rt (Cond.code y bytes maxL rt :: wA) { frames := F', cells := 0, slots := 0, locals := L' } 0 0 n ∧ (Cond.static y).before args s = true) (hn : As.length = n) (hcat : (rest.map fun v => v.category).sum ≤ 8) (hdg : decode cc pc = .ok (.invokestatic index, 3))
    (kk : ∀ (u : St), Q u → ∀ (H1 : Heap) (locs1 : List Loc), DG A D ac ad s u H1 locs1 → W p l e R s m args below meth c H1 locs1 cells slots QW (F0 m (pc + 3) ls (rest))) : W p l e R s m args below meth c H locs cells slots QW (F0 m pc ls (As.reverse ++ rest)) := by
  refine va_callv (va_runS (As := As) (rest := rest) S.1 hM cw ⟨GSt.blind, fun U hU hW => ⟨rfl, by rw [hU]; exact hG.1, hG.2.1, S.2.1.on hW hG.2.2 hU⟩⟩ rfl hn hsz rfl (lv_room hcat) hdg ⟨S.2.2.1.1, S.2.2.1.2⟩) hG.2.2 (fun q _ h => h) (fun q h => h) (fun u t H1 locs1 ht hvm hq hB hz1 hk1 hS => ?_)
  subst ht
  exact kk u hq t.heap locs1 ⟨hB.1, hB.2.1, hS⟩
theorem mcNi {y : MethodName} {bytes : ByteArray} {maxL n index F' L' : Nat} {rt : Option FieldType} {host : String} (As : List Value) {Q : Int32 → St → Prop} (S : SC A D ac st p m c cc nL s args own R cells slots F Lc) (hsz : ls.size = nL) (hG : DG A D ac ad s σ H locs) (hM : Met l y (Cond.code y bytes maxL rt :: wA) { frames := F', cells := 0, slots := 0, locals := L' } (va_Pc (As) (GSt A D ac ad st σ)) (va_Qi Q (GSt A D ac ad st) A) 0 0 A) (cw : va_CN R s args own index y host bytes maxL rt (Cond.code y bytes maxL rt :: wA) { frames := F', cells := 0, slots := 0, locals := L' } 0 0 n ∧ (Cond.static y).before args s = true ∧ True) (hn : As.length = n) (hcat : (rest.map fun v => v.category).sum ≤ 8) (hdg : decode cc pc = .ok (.invokestatic index, 3))
    (kk : ∀ (r : Int32) (u : St), Q r u → ∀ (H1 : Heap) (locs1 : List Loc), DG A D ac ad s u H1 locs1 → W p l e R s m args below meth c H1 locs1 cells slots QW (F0 m (pc + 3) ls (.int r :: rest))) : W p l e R s m args below meth c H locs cells slots QW (F0 m pc ls (As.reverse ++ rest)) := by
  refine va_calli (va_runSN (As := As) (rest := rest) S.1 hM cw ⟨GSt.blind, fun U hU hW => ⟨rfl, by rw [hU]; exact hG.1, hG.2.1, S.2.1.on hW hG.2.2 hU⟩⟩ rfl hn hsz rfl (lv_room hcat) hdg ⟨S.2.2.1.1, S.2.2.1.2⟩) hG.2.2 (fun q _ h => h) (fun q h => h) (fun r u t H1 locs1 ht hvm hq hB hz1 hk1 hS => ?_)
  subst ht
  exact kk r u hq t.heap locs1 ⟨hB.1, hB.2.1, hS⟩
theorem mmn (S : SC A D ac st p m c cc nL s args own R cells slots F Lc) (hsz : ls.size = nL) {index : Nat} (hl : Cond.methodLink own index Lib.Math.min.name ∈ wA) (h2 : Cond.static Lib.Math.min.name ∈ wA) (h3 : Cond.initialized "java/lang/Math" ∈ wA) (h4 : Cond.code Lib.Math.min.name Lib.Math.min.code 2 (some .int) ∈ wA) (hF : 1 ≤ F) (hLc : (rest.map fun v => v.category).sum + 13 ≤ Lc) {x y : Int32} (hdg : decode cc pc = .ok (.invokestatic index, 3))
    (kk : W p l e R s m args below meth c H locs cells slots QW (F0 m (pc + 3) ls (.int (if y < x then y else x) :: rest))) : W p l e R s m args below meth c H locs cells slots QW (F0 m pc ls (.int y :: .int x :: rest)) :=
  va_mmin S.1.1 S.1.2.1 (S.1.2.2.1.trans hsz.symm) S.1.2.2.2.1 (S.1.2.2.2.2 _ hl) (S.1.2.2.2.2 _ h2) (S.1.2.2.2.2 _ h3) (S.1.2.2.2.2 _ h4) (Nat.le_trans hF S.2.2.2.1) (Nat.le_trans hLc S.2.2.2.2) S.2.2.1.1 S.2.2.1.2 hdg kk
theorem mmx (S : SC A D ac st p m c cc nL s args own R cells slots F Lc) (hsz : ls.size = nL) {index : Nat} (hl : Cond.methodLink own index Lib.Math.max.name ∈ wA) (h2 : Cond.static Lib.Math.max.name ∈ wA) (h3 : Cond.initialized "java/lang/Math" ∈ wA) (h4 : Cond.code Lib.Math.max.name Lib.Math.max.code 2 (some .int) ∈ wA) (hF : 1 ≤ F) (hLc : (rest.map fun v => v.category).sum + 13 ≤ Lc) {x y : Int32} (hdg : decode cc pc = .ok (.invokestatic index, 3))
    (kk : W p l e R s m args below meth c H locs cells slots QW (F0 m (pc + 3) ls (.int (if x < y then y else x) :: rest))) : W p l e R s m args below meth c H locs cells slots QW (F0 m pc ls (.int y :: .int x :: rest)) :=
  va_mmax S.1.1 S.1.2.1 (S.1.2.2.1.trans hsz.symm) S.1.2.2.2.1 (S.1.2.2.2.2 _ hl) (S.1.2.2.2.2 _ h2) (S.1.2.2.2.2 _ h3) (S.1.2.2.2.2 _ h4) (Nat.le_trans hF S.2.2.2.1) (Nat.le_trans hLc S.2.2.2.2) S.2.2.1.1 S.2.2.1.2 hdg kk
theorem mab (S : SC A D ac st p m c cc nL s args own R cells slots F Lc) (hsz : ls.size = nL) {index : Nat} (hl : Cond.methodLink own index Lib.Math.abs.name ∈ wA) (h2 : Cond.static Lib.Math.abs.name ∈ wA) (h3 : Cond.initialized "java/lang/Math" ∈ wA) (h4 : Cond.code Lib.Math.abs.name Lib.Math.abs.code 1 (some .int) ∈ wA) (hF : 1 ≤ F) (hLc : (rest.map fun v => v.category).sum + 13 ≤ Lc) {x : Int32} (hdg : decode cc pc = .ok (.invokestatic index, 3))
    (kk : W p l e R s m args below meth c H locs cells slots QW (F0 m (pc + 3) ls (.int (if 0 ≤ x then x else 0 - x) :: rest))) : W p l e R s m args below meth c H locs cells slots QW (F0 m pc ls (.int x :: rest)) :=
  va_mabs S.1.1 S.1.2.1 (S.1.2.2.1.trans hsz.symm) S.1.2.2.2.1 (S.1.2.2.2.2 _ hl) (S.1.2.2.2.2 _ h2) (S.1.2.2.2.2 _ h3) (S.1.2.2.2.2 _ h4) (Nat.le_trans hF S.2.2.2.1) (Nat.le_trans hLc S.2.2.2.2) S.2.2.1.1 S.2.2.1.2 hdg kk
end RW
/-- what a method's body may use at its returns -/
def RtI (A : Nat → Prop) (D : va_G) (ac : Nat → ClassId) (ad : Nat → Nat) (p : Program) (l : Launch) (e : Env) (R : Room) (s : State) (m : MethodId) (args : Array Value) (below : List Frame) (meth : Method) (c : Code) (cc : ByteArray) (cells slots : Nat) (QW : State → Prop) (Q : Int32 → St → Prop) : Prop :=
  ∀ (v : Int32) (u : St) (H : Heap) (locs : List Loc) (pc : Nat) (ls : Array Slot), DG A D ac ad s u H locs → Q v u → decode cc pc = .ok (.ireturn, 1) → W p l e R s m args below meth c H locs cells slots QW (F0 m pc ls [.int v])
def RtZ (A : Nat → Prop) (D : va_G) (ac : Nat → ClassId) (ad : Nat → Nat) (p : Program) (l : Launch) (e : Env) (R : Room) (s : State) (m : MethodId) (args : Array Value) (below : List Frame) (meth : Method) (c : Code) (cc : ByteArray) (cells slots : Nat) (QW : State → Prop) (Q : Int32 → St → Prop) : Prop :=
  ∀ (v : Int32) (u : St) (H : Heap) (locs : List Loc) (pc : Nat) (ls : Array Slot), DG A D ac ad s u H locs → isB v → Q v u → decode cc pc = .ok (.ireturn, 1) → W p l e R s m args below meth c H locs cells slots QW (F0 m pc ls [.int v])
def RtV (A : Nat → Prop) (D : va_G) (ac : Nat → ClassId) (ad : Nat → Nat) (p : Program) (l : Launch) (e : Env) (R : Room) (s : State) (m : MethodId) (args : Array Value) (below : List Frame) (meth : Method) (c : Code) (cc : ByteArray) (cells slots : Nat) (QW : State → Prop) (Q : St → Prop) : Prop :=
  ∀ (u : St) (H : Heap) (locs : List Loc) (pc : Nat) (ls : Array Slot), DG A D ac ad s u H locs → Q u → decode cc pc = .ok (.return_, 1) → W p l e R s m args below meth c H locs cells slots QW (F0 m pc ls [])
theorem mkI (l : Launch) {y : MethodName} {own : String} {bytes : ByteArray} {nL F Lc : Nat} {D : va_G} {ac : Nat → ClassId} {ad : Nat → Nat} {st : SS} {A : Nat → Prop} {σ : St} {Q : Int32 → St → Prop} (hy : plainName y.cls = true) (hown : y.cls = own) (vals : List Value) (hlen : (lg_sl vals).length ≤ nL)
    (body : ∀ (p : Program) (e : Env) (s : State) (m : MethodId) (args : Array Value) (below : List Frame) (meth : Method) (c : Code) (ls : Array Slot) (QW : State → Prop), SC A D ac st p m c bytes nL s args own { frames := F, cells := 0, slots := 0, locals := Lc } 0 0 F Lc → RtI A D ac ad p l e { frames := F, cells := 0, slots := 0, locals := Lc } s m args below meth c bytes 0 0 QW Q → DG A D ac ad s σ s.heap [] → lv_has ls nL (lv_args 0 vals) →
      W p l e { frames := F, cells := 0, slots := 0, locals := Lc } s m args below meth c s.heap [] 0 0 QW (F0 m 0 ls [])) :
    Met l y (Cond.code y bytes nL (some .int) :: wA) { frames := F, cells := 0, slots := 0, locals := Lc } (va_Pc vals (GSt A D ac ad st σ)) (va_Qi Q (GSt A D ac ad st) A) 0 0 A := by
  subst hown
  refine Met.ofW (cc := bytes) (maxL := nL) (ret := (some .int)) hy rfl ?_
  intro p e s m args below meth c s₁ B hml hv
  obtain ⟨rfl, hP, hD, hK⟩ := hv
  have hx := B.exec
  have hb := B.bytes
  have hr := B.returns
  have hts : ∀ w ∈ wA, w.before vals.toArray s = true := fun w hw => atoms_spec (ws := Cond.code y bytes nL (some .int) :: wA) B.pre w (List.mem_cons_of_mem _ hw)
  have hown : s.vm.findClass y.cls = some m.cls := findClass_of_methodNamed B.named
  have hlocks := B.notSynchronized
  have hl := lv_entry vals (n := nL) hlen
  rw [lg_entry_eq]
  generalize (lg_sl vals ++ List.replicate (nL - (lg_sl vals).length) Slot.unset).toArray = ls at hl ⊢
  refine body p e s m vals.toArray below meth c ls _ ⟨⟨hx, hb, hml, hown, hts⟩, hK, ⟨Nat.le_refl _, Nat.le_refl _⟩, Nat.le_refl _, Nat.le_refl _⟩ ?_ ⟨hP, hD, va_S.rf⟩ hl
  intro v u H locs pc ls hG hq hdg
  exact W.iret hx hb hr  (fun t ht hW => ⟨⟨v, u, rfl, hq, by rw [ht]; exact hG.1, hG.2.1, hK.on hW hG.2.2 ht⟩, hG.2.2.F ht⟩) hG.2.2.2.2 hdg
theorem mkZ (l : Launch) {y : MethodName} {own : String} {bytes : ByteArray} {nL F Lc : Nat} {D : va_G} {ac : Nat → ClassId} {ad : Nat → Nat} {st : SS} {A : Nat → Prop} {σ : St} {Q : Int32 → St → Prop} (hy : plainName y.cls = true) (hown : y.cls = own) (vals : List Value) (hlen : (lg_sl vals).length ≤ nL)
    (body : ∀ (p : Program) (e : Env) (s : State) (m : MethodId) (args : Array Value) (below : List Frame) (meth : Method) (c : Code) (ls : Array Slot) (QW : State → Prop), SC A D ac st p m c bytes nL s args own { frames := F, cells := 0, slots := 0, locals := Lc } 0 0 F Lc → RtZ A D ac ad p l e { frames := F, cells := 0, slots := 0, locals := Lc } s m args below meth c bytes 0 0 QW Q → DG A D ac ad s σ s.heap [] → lv_has ls nL (lv_args 0 vals) →
      W p l e { frames := F, cells := 0, slots := 0, locals := Lc } s m args below meth c s.heap [] 0 0 QW (F0 m 0 ls [])) :
    Met l y (Cond.code y bytes nL (some .boolean) :: wA) { frames := F, cells := 0, slots := 0, locals := Lc } (va_Pc vals (GSt A D ac ad st σ)) (va_Qi Q (GSt A D ac ad st) A) 0 0 A := by
  subst hown
  refine Met.ofW (cc := bytes) (maxL := nL) (ret := (some .boolean)) hy rfl ?_
  intro p e s m args below meth c s₁ B hml hv
  obtain ⟨rfl, hP, hD, hK⟩ := hv
  have hx := B.exec
  have hb := B.bytes
  have hr := B.returns
  have hts : ∀ w ∈ wA, w.before vals.toArray s = true := fun w hw => atoms_spec (ws := Cond.code y bytes nL (some .boolean) :: wA) B.pre w (List.mem_cons_of_mem _ hw)
  have hown : s.vm.findClass y.cls = some m.cls := findClass_of_methodNamed B.named
  have hlocks := B.notSynchronized
  have hl := lv_entry vals (n := nL) hlen
  rw [lg_entry_eq]
  generalize (lg_sl vals ++ List.replicate (nL - (lg_sl vals).length) Slot.unset).toArray = ls at hl ⊢
  refine body p e s m vals.toArray below meth c ls _ ⟨⟨hx, hb, hml, hown, hts⟩, hK, ⟨Nat.le_refl _, Nat.le_refl _⟩, Nat.le_refl _, Nat.le_refl _⟩ ?_ ⟨hP, hD, va_S.rf⟩ hl
  intro v u H locs pc ls hG hv hq hdg
  exact W.zret hx hb hr (isB_nar hv) (fun t ht hW => ⟨⟨v, u, rfl, hq, by rw [ht]; exact hG.1, hG.2.1, hK.on hW hG.2.2 ht⟩, hG.2.2.F ht⟩) hG.2.2.2.2 hdg
theorem mkV (l : Launch) {y : MethodName} {own : String} {bytes : ByteArray} {nL F Lc : Nat} {D : va_G} {ac : Nat → ClassId} {ad : Nat → Nat} {st : SS} {A : Nat → Prop} {σ : St} {Q : St → Prop} (hy : plainName y.cls = true) (hown : y.cls = own) (vals : List Value) (hlen : (lg_sl vals).length ≤ nL)
    (body : ∀ (p : Program) (e : Env) (s : State) (m : MethodId) (args : Array Value) (below : List Frame) (meth : Method) (c : Code) (ls : Array Slot) (QW : State → Prop), SC A D ac st p m c bytes nL s args own { frames := F, cells := 0, slots := 0, locals := Lc } 0 0 F Lc → RtV A D ac ad p l e { frames := F, cells := 0, slots := 0, locals := Lc } s m args below meth c bytes 0 0 QW Q → DG A D ac ad s σ s.heap [] → lv_has ls nL (lv_args 0 vals) →
      W p l e { frames := F, cells := 0, slots := 0, locals := Lc } s m args below meth c s.heap [] 0 0 QW (F0 m 0 ls [])) :
    Met l y (Cond.code y bytes nL none :: wA) { frames := F, cells := 0, slots := 0, locals := Lc } (va_Pc vals (GSt A D ac ad st σ)) (va_Qv Q (GSt A D ac ad st) A) 0 0 A := by
  subst hown
  refine Met.ofW (cc := bytes) (maxL := nL) (ret := none) hy rfl ?_
  intro p e s m args below meth c s₁ B hml hv
  obtain ⟨rfl, hP, hD, hK⟩ := hv
  have hx := B.exec
  have hb := B.bytes
  have hr := B.returns
  have hts : ∀ w ∈ wA, w.before vals.toArray s = true := fun w hw => atoms_spec (ws := Cond.code y bytes nL none :: wA) B.pre w (List.mem_cons_of_mem _ hw)
  have hown : s.vm.findClass y.cls = some m.cls := findClass_of_methodNamed B.named
  have hlocks := B.notSynchronized
  have hl := lv_entry vals (n := nL) hlen
  rw [lg_entry_eq]
  generalize (lg_sl vals ++ List.replicate (nL - (lg_sl vals).length) Slot.unset).toArray = ls at hl ⊢
  refine body p e s m vals.toArray below meth c ls _ ⟨⟨hx, hb, hml, hown, hts⟩, hK, ⟨Nat.le_refl _, Nat.le_refl _⟩, Nat.le_refl _, Nat.le_refl _⟩ ?_ ⟨hP, hD, va_S.rf⟩ hl
  intro u H locs pc ls hG hq hdg
  exact W.vret hx hb hr  (fun t ht hW => ⟨⟨u, rfl, hq, by rw [ht]; exact hG.1, hG.2.1, hK.on hW hG.2.2 ht⟩, hG.2.2.F ht⟩) hG.2.2.2.2 hdg
theorem sw_0_2 (x : Int32) : (x.toInt < 0 ∨ 2 < x.toInt) ∨ x = 0 ∨ x = 1 ∨ x = 2 := by
  by_cases h : x.toInt < 0 ∨ 2 < x.toInt
  · exact Or.inl h
  · refine Or.inr ?_
    have e : ∀ (y : Int32), x.toInt = y.toInt → x = y := fun y h => Int32.toInt_inj.mp h
    have h2 : x.toInt = 0 ∨ x.toInt = 1 ∨ x.toInt = 2 := by omega
    rcases h2 with h | h | h <;> first | exact Or.inl (e 0 (by rw [h]; decide)) | exact Or.inr (Or.inl (e 1 (by rw [h]; decide))) | exact Or.inr (Or.inr (e 2 (by rw [h]; decide)))
theorem sw_0_4 (x : Int32) : (x.toInt < 0 ∨ 4 < x.toInt) ∨ x = 0 ∨ x = 1 ∨ x = 2 ∨ x = 3 ∨ x = 4 := by
  by_cases h : x.toInt < 0 ∨ 4 < x.toInt
  · exact Or.inl h
  · refine Or.inr ?_
    have e : ∀ (y : Int32), x.toInt = y.toInt → x = y := fun y h => Int32.toInt_inj.mp h
    have h2 : x.toInt = 0 ∨ x.toInt = 1 ∨ x.toInt = 2 ∨ x.toInt = 3 ∨ x.toInt = 4 := by omega
    rcases h2 with h | h | h | h | h <;> first | exact Or.inl (e 0 (by rw [h]; decide)) | exact Or.inr (Or.inl (e 1 (by rw [h]; decide))) | exact Or.inr (Or.inr (Or.inl (e 2 (by rw [h]; decide)))) | exact Or.inr (Or.inr (Or.inr (Or.inl (e 3 (by rw [h]; decide))))) | exact Or.inr (Or.inr (Or.inr (Or.inr (e 4 (by rw [h]; decide)))))
theorem sw_0_7 (x : Int32) : (x.toInt < 0 ∨ 7 < x.toInt) ∨ x = 0 ∨ x = 1 ∨ x = 2 ∨ x = 3 ∨ x = 4 ∨ x = 5 ∨ x = 6 ∨ x = 7 := by
  by_cases h : x.toInt < 0 ∨ 7 < x.toInt
  · exact Or.inl h
  · refine Or.inr ?_
    have e : ∀ (y : Int32), x.toInt = y.toInt → x = y := fun y h => Int32.toInt_inj.mp h
    have h2 : x.toInt = 0 ∨ x.toInt = 1 ∨ x.toInt = 2 ∨ x.toInt = 3 ∨ x.toInt = 4 ∨ x.toInt = 5 ∨ x.toInt = 6 ∨ x.toInt = 7 := by omega
    rcases h2 with h | h | h | h | h | h | h | h <;> first | exact Or.inl (e 0 (by rw [h]; decide)) | exact Or.inr (Or.inl (e 1 (by rw [h]; decide))) | exact Or.inr (Or.inr (Or.inl (e 2 (by rw [h]; decide)))) | exact Or.inr (Or.inr (Or.inr (Or.inl (e 3 (by rw [h]; decide))))) | exact Or.inr (Or.inr (Or.inr (Or.inr (Or.inl (e 4 (by rw [h]; decide)))))) | exact Or.inr (Or.inr (Or.inr (Or.inr (Or.inr (Or.inl (e 5 (by rw [h]; decide))))))) | exact Or.inr (Or.inr (Or.inr (Or.inr (Or.inr (Or.inr (Or.inl (e 6 (by rw [h]; decide)))))))) | exact Or.inr (Or.inr (Or.inr (Or.inr (Or.inr (Or.inr (Or.inr (e 7 (by rw [h]; decide))))))))
theorem sw_0_14 (x : Int32) : (x.toInt < 0 ∨ 14 < x.toInt) ∨ x = 0 ∨ x = 1 ∨ x = 2 ∨ x = 3 ∨ x = 4 ∨ x = 5 ∨ x = 6 ∨ x = 7 ∨ x = 8 ∨ x = 9 ∨ x = 10 ∨ x = 11 ∨ x = 12 ∨ x = 13 ∨ x = 14 := by
  by_cases h : x.toInt < 0 ∨ 14 < x.toInt
  · exact Or.inl h
  · refine Or.inr ?_
    have e : ∀ (y : Int32), x.toInt = y.toInt → x = y := fun y h => Int32.toInt_inj.mp h
    have h2 : x.toInt = 0 ∨ x.toInt = 1 ∨ x.toInt = 2 ∨ x.toInt = 3 ∨ x.toInt = 4 ∨ x.toInt = 5 ∨ x.toInt = 6 ∨ x.toInt = 7 ∨ x.toInt = 8 ∨ x.toInt = 9 ∨ x.toInt = 10 ∨ x.toInt = 11 ∨ x.toInt = 12 ∨ x.toInt = 13 ∨ x.toInt = 14 := by omega
    rcases h2 with h | h | h | h | h | h | h | h | h | h | h | h | h | h | h <;> first | exact Or.inl (e 0 (by rw [h]; decide)) | exact Or.inr (Or.inl (e 1 (by rw [h]; decide))) | exact Or.inr (Or.inr (Or.inl (e 2 (by rw [h]; decide)))) | exact Or.inr (Or.inr (Or.inr (Or.inl (e 3 (by rw [h]; decide))))) | exact Or.inr (Or.inr (Or.inr (Or.inr (Or.inl (e 4 (by rw [h]; decide)))))) | exact Or.inr (Or.inr (Or.inr (Or.inr (Or.inr (Or.inl (e 5 (by rw [h]; decide))))))) | exact Or.inr (Or.inr (Or.inr (Or.inr (Or.inr (Or.inr (Or.inl (e 6 (by rw [h]; decide)))))))) | exact Or.inr (Or.inr (Or.inr (Or.inr (Or.inr (Or.inr (Or.inr (Or.inl (e 7 (by rw [h]; decide))))))))) | exact Or.inr (Or.inr (Or.inr (Or.inr (Or.inr (Or.inr (Or.inr (Or.inr (Or.inl (e 8 (by rw [h]; decide)))))))))) | exact Or.inr (Or.inr (Or.inr (Or.inr (Or.inr (Or.inr (Or.inr (Or.inr (Or.inr (Or.inl (e 9 (by rw [h]; decide))))))))))) | exact Or.inr (Or.inr (Or.inr (Or.inr (Or.inr (Or.inr (Or.inr (Or.inr (Or.inr (Or.inr (Or.inl (e 10 (by rw [h]; decide)))))))))))) | exact Or.inr (Or.inr (Or.inr (Or.inr (Or.inr (Or.inr (Or.inr (Or.inr (Or.inr (Or.inr (Or.inr (Or.inl (e 11 (by rw [h]; decide))))))))))))) | exact Or.inr (Or.inr (Or.inr (Or.inr (Or.inr (Or.inr (Or.inr (Or.inr (Or.inr (Or.inr (Or.inr (Or.inr (Or.inl (e 12 (by rw [h]; decide)))))))))))))) | exact Or.inr (Or.inr (Or.inr (Or.inr (Or.inr (Or.inr (Or.inr (Or.inr (Or.inr (Or.inr (Or.inr (Or.inr (Or.inr (Or.inl (e 13 (by rw [h]; decide))))))))))))))) | exact Or.inr (Or.inr (Or.inr (Or.inr (Or.inr (Or.inr (Or.inr (Or.inr (Or.inr (Or.inr (Or.inr (Or.inr (Or.inr (Or.inr (e 14 (by rw [h]; decide)))))))))))))))
end
section
abbrev y_6_copyFrom : MethodName := ⟨"SweeperRounds$Street", "copyFrom", "(LSweeperRounds$Street;)V"⟩
abbrev y_1_copyFrom : MethodName := ⟨"SweeperRounds$Leg", "copyFrom", "(LSweeperRounds$Leg;)V"⟩
abbrev y_4_copyFrom : MethodName := ⟨"SweeperRounds$Report", "copyFrom", "(LSweeperRounds$Report;)V"⟩
abbrev y_8_copyFrom : MethodName := ⟨"SweeperRounds$World", "copyFrom", "(LSweeperRounds$World;)V"⟩
abbrev y_0_remember : MethodName := ⟨"SweeperRounds$History", "remember", "(LSweeperRounds$World;)V"⟩
abbrev y_6_clear : MethodName := ⟨"SweeperRounds$Street", "clear", "()V"⟩
abbrev y_8_appendStreet : MethodName := ⟨"SweeperRounds$World", "appendStreet", "(III)I"⟩
abbrev y_9_addStreet : MethodName := ⟨"SweeperRounds", "addStreet", "(III)I"⟩
abbrev y_8_hasStreet : MethodName := ⟨"SweeperRounds$World", "hasStreet", "(I)Z"⟩
abbrev y_8_hasCell : MethodName := ⟨"SweeperRounds$World", "hasCell", "(III)Z"⟩
abbrev y_9_placeOf : MethodName := ⟨"SweeperRounds", "placeOf", "(II)I"⟩
abbrev y_8_layDirt : MethodName := ⟨"SweeperRounds$World", "layDirt", "(III)I"⟩
abbrev y_9_lay : MethodName := ⟨"SweeperRounds", "lay", "(IIII)I"⟩
abbrev y_9_park : MethodName := ⟨"SweeperRounds", "park", "(IIIZ)I"⟩
abbrev y_8_grip : MethodName := ⟨"SweeperRounds$World", "grip", "()I"⟩
abbrev y_6_couldGive : MethodName := ⟨"SweeperRounds$Street", "couldGive", "(II)I"⟩
abbrev y_8_room : MethodName := ⟨"SweeperRounds$World", "room", "()I"⟩
abbrev y_9_cell : MethodName := ⟨"SweeperRounds", "cell", "(IIII)I"⟩
abbrev y_6_dirtOfSide : MethodName := ⟨"SweeperRounds$Street", "dirtOfSide", "(I)I"⟩
abbrev y_6_parkedCells : MethodName := ⟨"SweeperRounds$Street", "parkedCells", "()I"⟩
abbrev y_6_greatestDirt : MethodName := ⟨"SweeperRounds$Street", "greatestDirt", "()I"⟩
abbrev y_8_legsIn : MethodName := ⟨"SweeperRounds$World", "legsIn", "(I)I"⟩
abbrev y_9_street : MethodName := ⟨"SweeperRounds", "street", "(II)I"⟩
abbrev y_8_leastSetting : MethodName := ⟨"SweeperRounds$World", "leastSetting", "(I)I"⟩
abbrev y_9_set : MethodName := ⟨"SweeperRounds", "set", "(II)I"⟩
abbrev y_8_appendLeg : MethodName := ⟨"SweeperRounds$World", "appendLeg", "(II)I"⟩
abbrev y_9_addLeg : MethodName := ⟨"SweeperRounds", "addLeg", "(II)I"⟩
abbrev y_8_hasLeg : MethodName := ⟨"SweeperRounds$World", "hasLeg", "(I)Z"⟩
abbrev y_9_leg : MethodName := ⟨"SweeperRounds", "leg", "(II)I"⟩
abbrev y_4_clear : MethodName := ⟨"SweeperRounds$Report", "clear", "()V"⟩
abbrev y_5_driveTo : MethodName := ⟨"SweeperRounds$Round", "driveTo", "(I)I"⟩
abbrev y_6_driveToDump : MethodName := ⟨"SweeperRounds$Street", "driveToDump", "()I"⟩
abbrev y_5_fits : MethodName := ⟨"SweeperRounds$Round", "fits", "(ILSweeperRounds$Street;)Z"⟩
abbrev y_5_driveToLeg : MethodName := ⟨"SweeperRounds$Round", "driveToLeg", "(LSweeperRounds$Leg;LSweeperRounds$Street;)I"⟩
abbrev y_5_unitsForCell : MethodName := ⟨"SweeperRounds$Round", "unitsForCell", "()I"⟩
abbrev y_5_sweepOnce : MethodName := ⟨"SweeperRounds$Round", "sweepOnce", "(LSweeperRounds$Leg;LSweeperRounds$Street;I)Z"⟩
abbrev y_8_emptyHopper : MethodName := ⟨"SweeperRounds$World", "emptyHopper", "()V"⟩
abbrev y_5_finishCell : MethodName := ⟨"SweeperRounds$Round", "finishCell", "(LSweeperRounds$Leg;LSweeperRounds$Street;I)I"⟩
abbrev y_5_endShift : MethodName := ⟨"SweeperRounds$Round", "endShift", "()V"⟩
abbrev y_5_carryOut : MethodName := ⟨"SweeperRounds$Round", "carryOut", "()V"⟩
abbrev y_9_shift : MethodName := ⟨"SweeperRounds", "shift", "()I"⟩
abbrev y_8_fallOn : MethodName := ⟨"SweeperRounds$World", "fallOn", "(LSweeperRounds$Street;)I"⟩
abbrev y_6_putDirt : MethodName := ⟨"SweeperRounds$Street", "putDirt", "(II)I"⟩
abbrev y_8_passNights : MethodName := ⟨"SweeperRounds$World", "passNights", "(I)V"⟩
abbrev y_6_allDirt : MethodName := ⟨"SweeperRounds$Street", "allDirt", "()I"⟩
abbrev y_8_dirtOnStreets : MethodName := ⟨"SweeperRounds$World", "dirtOnStreets", "()I"⟩
abbrev y_9_night : MethodName := ⟨"SweeperRounds", "night", "(I)I"⟩
abbrev y_6_washSide : MethodName := ⟨"SweeperRounds$Street", "washSide", "(II)I"⟩
abbrev y_8_washStreets : MethodName := ⟨"SweeperRounds$World", "washStreets", "(I)I"⟩
abbrev y_9_rain : MethodName := ⟨"SweeperRounds", "rain", "(I)I"⟩
abbrev y_9_latest : MethodName := ⟨"SweeperRounds", "latest", "(I)I"⟩
abbrev y_9_trySpeed : MethodName := ⟨"SweeperRounds", "trySpeed", "(I)V"⟩
abbrev y_9_ifSpeed : MethodName := ⟨"SweeperRounds", "ifSpeed", "(I)I"⟩
abbrev y_9_account : MethodName := ⟨"SweeperRounds", "account", "(I)I"⟩
abbrev y_9_count : MethodName := ⟨"SweeperRounds", "count", "(I)I"⟩
abbrev y_L_cell : MethodName := ⟨"SweeperRoundsLaw", "cell", "([II)I"⟩
abbrev y_L_low : MethodName := ⟨"SweeperRoundsLaw", "low", "(II)I"⟩
abbrev y_L_town : MethodName := ⟨"SweeperRoundsLaw", "town", "(LSweeperRounds;[IIII)Z"⟩
abbrev y_L_balanced : MethodName := ⟨"SweeperRoundsLaw", "balanced", "(LSweeperRounds;)Z"⟩
abbrev y_L_shift : MethodName := ⟨"SweeperRoundsLaw", "shift", "(LSweeperRounds;)Z"⟩
section LK
variable {p : Program} {l : Launch} {e : Env} {R : Room} {s : State} {m : MethodId} {args : Array Value} {below : List Frame} {meth : Method} {c : Code} {cells slots : Nat} {QW : State → Prop}
variable {D : va_G} {ac : Nat → ClassId} {ad : Nat → Nat} {st : SS} {A : Nat → Prop}
theorem lv_topr {H : Heap} {locs : List Loc} {pc : Nat} {ls : Array Slot} {rest : List Value} {x : Nat} (k : ∀ y : Nat, y = x → W p l e R s m args below meth c H locs cells slots QW (F0 m pc ls (.ref (ad y) :: rest))) : W p l e R s m args below meth c H locs cells slots QW (F0 m pc ls (.ref (ad x) :: rest)) := k x rfl
theorem gf_7_9 {cc : ByteArray} {pc nL F Lc : Nat} {ls : Array Slot} {rest : List Value} {σ : St} {H : Heap} {locs : List Loc} (S : SC A D ac st p m c cc nL s args "SweeperRounds$Text" R cells slots F Lc) (hG : DG A D ac ad s σ H locs) {k : Nat} (hk : kd k = 7) (hdg : decode cc pc = .ok (.getfield 9, 3))
    (kk : W p l e R s m args below meth c H locs cells slots QW (F0 m (pc + 3) ls (.ref (ad (k + 1)) :: rest))) : W p l e R s m args below meth c H locs cells slots QW (F0 m pc ls (.ref (ad k) :: rest)) := mg (j := 0) S hG rfl Fi7 (by decide) wm_35 rfl (by decide) hk rfl hdg kk
theorem gf_9_63 {cc : ByteArray} {pc nL F Lc : Nat} {ls : Array Slot} {rest : List Value} {σ : St} {H : Heap} {locs : List Loc} (S : SC A D ac st p m c cc nL s args "SweeperRounds" R cells slots F Lc) (hG : DG A D ac ad s σ H locs) {k : Nat} (hk : kd k = 7) (hdg : decode cc pc = .ok (.getfield 63, 3))
    (kk : W p l e R s m args below meth c H locs cells slots QW (F0 m (pc + 3) ls (.int (σ.1 k 1) :: rest))) : W p l e R s m args below meth c H locs cells slots QW (F0 m pc ls (.ref (ad k) :: rest)) := mg (j := 1) S hG rfl Fi7 (by decide) wm_36 rfl (by decide) hk rfl hdg kk
theorem pf_9_63 {cc : ByteArray} {pc nL F Lc : Nat} {ls : Array Slot} {rest : List Value} {σ : St} {H : Heap} {locs : List Loc} (S : SC A D ac st p m c cc nL s args "SweeperRounds" R cells slots F Lc) (hG : DG A D ac ad s σ H locs) {k : Nat} {v : Int32} (hk : kd k = 7) (hdg : decode cc pc = .ok (.putfield 63, 3))
    (kk : ∀ (σ1 : St), σ1 = wr σ k 1 v → ∀ (H1 : Heap) (locs1 : List Loc), DG A D ac ad s σ1 H1 locs1 → W p l e R s m args below meth c H1 locs1 cells slots QW (F0 m (pc + 3) ls rest)) : W p l e R s m args below meth c H locs cells slots QW (F0 m pc ls (.int v :: .ref (ad k) :: rest)) := mp (j := 1) S hG rfl Fi7 Ft7 Fy7 Fn7 (by decide) wm_36 rfl rfl (by decide) hk rfl rfl (Nat.le_of_ble_eq_true rfl) (by simp [fsOf, wr, wrA, upd]) hdg kk
theorem gf_6_19 {cc : ByteArray} {pc nL F Lc : Nat} {ls : Array Slot} {rest : List Value} {σ : St} {H : Heap} {locs : List Loc} (S : SC A D ac st p m c cc nL s args "SweeperRounds$Street" R cells slots F Lc) (hG : DG A D ac ad s σ H locs) {k : Nat} (hk : kd k = 6) (hdg : decode cc pc = .ok (.getfield 19, 3))
    (kk : W p l e R s m args below meth c H locs cells slots QW (F0 m (pc + 3) ls (.int (σ.1 k 0) :: rest))) : W p l e R s m args below meth c H locs cells slots QW (F0 m pc ls (.ref (ad k) :: rest)) := mg (j := 0) S hG rfl Fi6 (by decide) wm_55 rfl (by decide) hk rfl hdg kk
theorem pf_6_19 {cc : ByteArray} {pc nL F Lc : Nat} {ls : Array Slot} {rest : List Value} {σ : St} {H : Heap} {locs : List Loc} (S : SC A D ac st p m c cc nL s args "SweeperRounds$Street" R cells slots F Lc) (hG : DG A D ac ad s σ H locs) {k : Nat} {v : Int32} (hk : kd k = 6) (hdg : decode cc pc = .ok (.putfield 19, 3))
    (kk : ∀ (σ1 : St), σ1 = wr σ k 0 v → ∀ (H1 : Heap) (locs1 : List Loc), DG A D ac ad s σ1 H1 locs1 → W p l e R s m args below meth c H1 locs1 cells slots QW (F0 m (pc + 3) ls rest)) : W p l e R s m args below meth c H locs cells slots QW (F0 m pc ls (.int v :: .ref (ad k) :: rest)) := mp (j := 0) S hG rfl Fi6 Ft6 Fy6 Fn6 (by decide) wm_55 rfl rfl (by decide) hk rfl rfl (Nat.le_of_ble_eq_true rfl) (by simp [fsOf, wr, wrA, upd]) hdg kk
theorem gf_5_59 {cc : ByteArray} {pc nL F Lc : Nat} {ls : Array Slot} {rest : List Value} {σ : St} {H : Heap} {locs : List Loc} (S : SC A D ac st p m c cc nL s args "SweeperRounds$Round" R cells slots F Lc) (hG : DG A D ac ad s σ H locs) {k : Nat} (hk : kd k = 6) (hdg : decode cc pc = .ok (.getfield 59, 3))
    (kk : W p l e R s m args below meth c H locs cells slots QW (F0 m (pc + 3) ls (.int (σ.1 k 0) :: rest))) : W p l e R s m args below meth c H locs cells slots QW (F0 m pc ls (.ref (ad k) :: rest)) := mg (j := 0) S hG rfl Fi6 (by decide) wm_56 rfl (by decide) hk rfl hdg kk
theorem pf_5_59 {cc : ByteArray} {pc nL F Lc : Nat} {ls : Array Slot} {rest : List Value} {σ : St} {H : Heap} {locs : List Loc} (S : SC A D ac st p m c cc nL s args "SweeperRounds$Round" R cells slots F Lc) (hG : DG A D ac ad s σ H locs) {k : Nat} {v : Int32} (hk : kd k = 6) (hdg : decode cc pc = .ok (.putfield 59, 3))
    (kk : ∀ (σ1 : St), σ1 = wr σ k 0 v → ∀ (H1 : Heap) (locs1 : List Loc), DG A D ac ad s σ1 H1 locs1 → W p l e R s m args below meth c H1 locs1 cells slots QW (F0 m (pc + 3) ls rest)) : W p l e R s m args below meth c H locs cells slots QW (F0 m pc ls (.int v :: .ref (ad k) :: rest)) := mp (j := 0) S hG rfl Fi6 Ft6 Fy6 Fn6 (by decide) wm_56 rfl rfl (by decide) hk rfl rfl (Nat.le_of_ble_eq_true rfl) (by simp [fsOf, wr, wrA, upd]) hdg kk
theorem gf_8_85 {cc : ByteArray} {pc nL F Lc : Nat} {ls : Array Slot} {rest : List Value} {σ : St} {H : Heap} {locs : List Loc} (S : SC A D ac st p m c cc nL s args "SweeperRounds$World" R cells slots F Lc) (hG : DG A D ac ad s σ H locs) {k : Nat} (hk : kd k = 6) (hdg : decode cc pc = .ok (.getfield 85, 3))
    (kk : W p l e R s m args below meth c H locs cells slots QW (F0 m (pc + 3) ls (.int (σ.1 k 0) :: rest))) : W p l e R s m args below meth c H locs cells slots QW (F0 m pc ls (.ref (ad k) :: rest)) := mg (j := 0) S hG rfl Fi6 (by decide) wm_57 rfl (by decide) hk rfl hdg kk
theorem pf_8_85 {cc : ByteArray} {pc nL F Lc : Nat} {ls : Array Slot} {rest : List Value} {σ : St} {H : Heap} {locs : List Loc} (S : SC A D ac st p m c cc nL s args "SweeperRounds$World" R cells slots F Lc) (hG : DG A D ac ad s σ H locs) {k : Nat} {v : Int32} (hk : kd k = 6) (hdg : decode cc pc = .ok (.putfield 85, 3))
    (kk : ∀ (σ1 : St), σ1 = wr σ k 0 v → ∀ (H1 : Heap) (locs1 : List Loc), DG A D ac ad s σ1 H1 locs1 → W p l e R s m args below meth c H1 locs1 cells slots QW (F0 m (pc + 3) ls rest)) : W p l e R s m args below meth c H locs cells slots QW (F0 m pc ls (.int v :: .ref (ad k) :: rest)) := mp (j := 0) S hG rfl Fi6 Ft6 Fy6 Fn6 (by decide) wm_57 rfl rfl (by decide) hk rfl rfl (Nat.le_of_ble_eq_true rfl) (by simp [fsOf, wr, wrA, upd]) hdg kk
theorem gf_9_91 {cc : ByteArray} {pc nL F Lc : Nat} {ls : Array Slot} {rest : List Value} {σ : St} {H : Heap} {locs : List Loc} (S : SC A D ac st p m c cc nL s args "SweeperRounds" R cells slots F Lc) (hG : DG A D ac ad s σ H locs) {k : Nat} (hk : kd k = 6) (hdg : decode cc pc = .ok (.getfield 91, 3))
    (kk : W p l e R s m args below meth c H locs cells slots QW (F0 m (pc + 3) ls (.int (σ.1 k 0) :: rest))) : W p l e R s m args below meth c H locs cells slots QW (F0 m pc ls (.ref (ad k) :: rest)) := mg (j := 0) S hG rfl Fi6 (by decide) wm_58 rfl (by decide) hk rfl hdg kk
theorem pf_9_91 {cc : ByteArray} {pc nL F Lc : Nat} {ls : Array Slot} {rest : List Value} {σ : St} {H : Heap} {locs : List Loc} (S : SC A D ac st p m c cc nL s args "SweeperRounds" R cells slots F Lc) (hG : DG A D ac ad s σ H locs) {k : Nat} {v : Int32} (hk : kd k = 6) (hdg : decode cc pc = .ok (.putfield 91, 3))
    (kk : ∀ (σ1 : St), σ1 = wr σ k 0 v → ∀ (H1 : Heap) (locs1 : List Loc), DG A D ac ad s σ1 H1 locs1 → W p l e R s m args below meth c H1 locs1 cells slots QW (F0 m (pc + 3) ls rest)) : W p l e R s m args below meth c H locs cells slots QW (F0 m pc ls (.int v :: .ref (ad k) :: rest)) := mp (j := 0) S hG rfl Fi6 Ft6 Fy6 Fn6 (by decide) wm_58 rfl rfl (by decide) hk rfl rfl (Nat.le_of_ble_eq_true rfl) (by simp [fsOf, wr, wrA, upd]) hdg kk
theorem gf_6_23 {cc : ByteArray} {pc nL F Lc : Nat} {ls : Array Slot} {rest : List Value} {σ : St} {H : Heap} {locs : List Loc} (S : SC A D ac st p m c cc nL s args "SweeperRounds$Street" R cells slots F Lc) (hG : DG A D ac ad s σ H locs) {k : Nat} (hk : kd k = 6) (hdg : decode cc pc = .ok (.getfield 23, 3))
    (kk : W p l e R s m args below meth c H locs cells slots QW (F0 m (pc + 3) ls (.int (σ.1 k 1) :: rest))) : W p l e R s m args below meth c H locs cells slots QW (F0 m pc ls (.ref (ad k) :: rest)) := mg (j := 1) S hG rfl Fi6 (by decide) wm_59 rfl (by decide) hk rfl hdg kk
theorem pf_6_23 {cc : ByteArray} {pc nL F Lc : Nat} {ls : Array Slot} {rest : List Value} {σ : St} {H : Heap} {locs : List Loc} (S : SC A D ac st p m c cc nL s args "SweeperRounds$Street" R cells slots F Lc) (hG : DG A D ac ad s σ H locs) {k : Nat} {v : Int32} (hk : kd k = 6) (hdg : decode cc pc = .ok (.putfield 23, 3))
    (kk : ∀ (σ1 : St), σ1 = wr σ k 1 v → ∀ (H1 : Heap) (locs1 : List Loc), DG A D ac ad s σ1 H1 locs1 → W p l e R s m args below meth c H1 locs1 cells slots QW (F0 m (pc + 3) ls rest)) : W p l e R s m args below meth c H locs cells slots QW (F0 m pc ls (.int v :: .ref (ad k) :: rest)) := mp (j := 1) S hG rfl Fi6 Ft6 Fy6 Fn6 (by decide) wm_59 rfl rfl (by decide) hk rfl rfl (Nat.le_of_ble_eq_true rfl) (by simp [fsOf, wr, wrA, upd]) hdg kk
theorem gf_5_92 {cc : ByteArray} {pc nL F Lc : Nat} {ls : Array Slot} {rest : List Value} {σ : St} {H : Heap} {locs : List Loc} (S : SC A D ac st p m c cc nL s args "SweeperRounds$Round" R cells slots F Lc) (hG : DG A D ac ad s σ H locs) {k : Nat} (hk : kd k = 6) (hdg : decode cc pc = .ok (.getfield 92, 3))
    (kk : W p l e R s m args below meth c H locs cells slots QW (F0 m (pc + 3) ls (.int (σ.1 k 1) :: rest))) : W p l e R s m args below meth c H locs cells slots QW (F0 m pc ls (.ref (ad k) :: rest)) := mg (j := 1) S hG rfl Fi6 (by decide) wm_60 rfl (by decide) hk rfl hdg kk
theorem pf_5_92 {cc : ByteArray} {pc nL F Lc : Nat} {ls : Array Slot} {rest : List Value} {σ : St} {H : Heap} {locs : List Loc} (S : SC A D ac st p m c cc nL s args "SweeperRounds$Round" R cells slots F Lc) (hG : DG A D ac ad s σ H locs) {k : Nat} {v : Int32} (hk : kd k = 6) (hdg : decode cc pc = .ok (.putfield 92, 3))
    (kk : ∀ (σ1 : St), σ1 = wr σ k 1 v → ∀ (H1 : Heap) (locs1 : List Loc), DG A D ac ad s σ1 H1 locs1 → W p l e R s m args below meth c H1 locs1 cells slots QW (F0 m (pc + 3) ls rest)) : W p l e R s m args below meth c H locs cells slots QW (F0 m pc ls (.int v :: .ref (ad k) :: rest)) := mp (j := 1) S hG rfl Fi6 Ft6 Fy6 Fn6 (by decide) wm_60 rfl rfl (by decide) hk rfl rfl (Nat.le_of_ble_eq_true rfl) (by simp [fsOf, wr, wrA, upd]) hdg kk
theorem gf_8_98 {cc : ByteArray} {pc nL F Lc : Nat} {ls : Array Slot} {rest : List Value} {σ : St} {H : Heap} {locs : List Loc} (S : SC A D ac st p m c cc nL s args "SweeperRounds$World" R cells slots F Lc) (hG : DG A D ac ad s σ H locs) {k : Nat} (hk : kd k = 6) (hdg : decode cc pc = .ok (.getfield 98, 3))
    (kk : W p l e R s m args below meth c H locs cells slots QW (F0 m (pc + 3) ls (.int (σ.1 k 1) :: rest))) : W p l e R s m args below meth c H locs cells slots QW (F0 m pc ls (.ref (ad k) :: rest)) := mg (j := 1) S hG rfl Fi6 (by decide) wm_61 rfl (by decide) hk rfl hdg kk
theorem pf_8_98 {cc : ByteArray} {pc nL F Lc : Nat} {ls : Array Slot} {rest : List Value} {σ : St} {H : Heap} {locs : List Loc} (S : SC A D ac st p m c cc nL s args "SweeperRounds$World" R cells slots F Lc) (hG : DG A D ac ad s σ H locs) {k : Nat} {v : Int32} (hk : kd k = 6) (hdg : decode cc pc = .ok (.putfield 98, 3))
    (kk : ∀ (σ1 : St), σ1 = wr σ k 1 v → ∀ (H1 : Heap) (locs1 : List Loc), DG A D ac ad s σ1 H1 locs1 → W p l e R s m args below meth c H1 locs1 cells slots QW (F0 m (pc + 3) ls rest)) : W p l e R s m args below meth c H locs cells slots QW (F0 m pc ls (.int v :: .ref (ad k) :: rest)) := mp (j := 1) S hG rfl Fi6 Ft6 Fy6 Fn6 (by decide) wm_61 rfl rfl (by decide) hk rfl rfl (Nat.le_of_ble_eq_true rfl) (by simp [fsOf, wr, wrA, upd]) hdg kk
theorem gf_9_149 {cc : ByteArray} {pc nL F Lc : Nat} {ls : Array Slot} {rest : List Value} {σ : St} {H : Heap} {locs : List Loc} (S : SC A D ac st p m c cc nL s args "SweeperRounds" R cells slots F Lc) (hG : DG A D ac ad s σ H locs) {k : Nat} (hk : kd k = 6) (hdg : decode cc pc = .ok (.getfield 149, 3))
    (kk : W p l e R s m args below meth c H locs cells slots QW (F0 m (pc + 3) ls (.int (σ.1 k 1) :: rest))) : W p l e R s m args below meth c H locs cells slots QW (F0 m pc ls (.ref (ad k) :: rest)) := mg (j := 1) S hG rfl Fi6 (by decide) wm_62 rfl (by decide) hk rfl hdg kk
theorem pf_9_149 {cc : ByteArray} {pc nL F Lc : Nat} {ls : Array Slot} {rest : List Value} {σ : St} {H : Heap} {locs : List Loc} (S : SC A D ac st p m c cc nL s args "SweeperRounds" R cells slots F Lc) (hG : DG A D ac ad s σ H locs) {k : Nat} {v : Int32} (hk : kd k = 6) (hdg : decode cc pc = .ok (.putfield 149, 3))
    (kk : ∀ (σ1 : St), σ1 = wr σ k 1 v → ∀ (H1 : Heap) (locs1 : List Loc), DG A D ac ad s σ1 H1 locs1 → W p l e R s m args below meth c H1 locs1 cells slots QW (F0 m (pc + 3) ls rest)) : W p l e R s m args below meth c H locs cells slots QW (F0 m pc ls (.int v :: .ref (ad k) :: rest)) := mp (j := 1) S hG rfl Fi6 Ft6 Fy6 Fn6 (by decide) wm_62 rfl rfl (by decide) hk rfl rfl (Nat.le_of_ble_eq_true rfl) (by simp [fsOf, wr, wrA, upd]) hdg kk
theorem gf_6_26 {cc : ByteArray} {pc nL F Lc : Nat} {ls : Array Slot} {rest : List Value} {σ : St} {H : Heap} {locs : List Loc} (S : SC A D ac st p m c cc nL s args "SweeperRounds$Street" R cells slots F Lc) (hG : DG A D ac ad s σ H locs) {k : Nat} (hk : kd k = 6) (hdg : decode cc pc = .ok (.getfield 26, 3))
    (kk : W p l e R s m args below meth c H locs cells slots QW (F0 m (pc + 3) ls (.int (σ.1 k 2) :: rest))) : W p l e R s m args below meth c H locs cells slots QW (F0 m pc ls (.ref (ad k) :: rest)) := mg (j := 2) S hG rfl Fi6 (by decide) wm_63 rfl (by decide) hk rfl hdg kk
theorem pf_6_26 {cc : ByteArray} {pc nL F Lc : Nat} {ls : Array Slot} {rest : List Value} {σ : St} {H : Heap} {locs : List Loc} (S : SC A D ac st p m c cc nL s args "SweeperRounds$Street" R cells slots F Lc) (hG : DG A D ac ad s σ H locs) {k : Nat} {v : Int32} (hk : kd k = 6) (hdg : decode cc pc = .ok (.putfield 26, 3))
    (kk : ∀ (σ1 : St), σ1 = wr σ k 2 v → ∀ (H1 : Heap) (locs1 : List Loc), DG A D ac ad s σ1 H1 locs1 → W p l e R s m args below meth c H1 locs1 cells slots QW (F0 m (pc + 3) ls rest)) : W p l e R s m args below meth c H locs cells slots QW (F0 m pc ls (.int v :: .ref (ad k) :: rest)) := mp (j := 2) S hG rfl Fi6 Ft6 Fy6 Fn6 (by decide) wm_63 rfl rfl (by decide) hk rfl rfl (Nat.le_of_ble_eq_true rfl) (by simp [fsOf, wr, wrA, upd]) hdg kk
theorem gf_8_101 {cc : ByteArray} {pc nL F Lc : Nat} {ls : Array Slot} {rest : List Value} {σ : St} {H : Heap} {locs : List Loc} (S : SC A D ac st p m c cc nL s args "SweeperRounds$World" R cells slots F Lc) (hG : DG A D ac ad s σ H locs) {k : Nat} (hk : kd k = 6) (hdg : decode cc pc = .ok (.getfield 101, 3))
    (kk : W p l e R s m args below meth c H locs cells slots QW (F0 m (pc + 3) ls (.int (σ.1 k 2) :: rest))) : W p l e R s m args below meth c H locs cells slots QW (F0 m pc ls (.ref (ad k) :: rest)) := mg (j := 2) S hG rfl Fi6 (by decide) wm_64 rfl (by decide) hk rfl hdg kk
theorem pf_8_101 {cc : ByteArray} {pc nL F Lc : Nat} {ls : Array Slot} {rest : List Value} {σ : St} {H : Heap} {locs : List Loc} (S : SC A D ac st p m c cc nL s args "SweeperRounds$World" R cells slots F Lc) (hG : DG A D ac ad s σ H locs) {k : Nat} {v : Int32} (hk : kd k = 6) (hdg : decode cc pc = .ok (.putfield 101, 3))
    (kk : ∀ (σ1 : St), σ1 = wr σ k 2 v → ∀ (H1 : Heap) (locs1 : List Loc), DG A D ac ad s σ1 H1 locs1 → W p l e R s m args below meth c H1 locs1 cells slots QW (F0 m (pc + 3) ls rest)) : W p l e R s m args below meth c H locs cells slots QW (F0 m pc ls (.int v :: .ref (ad k) :: rest)) := mp (j := 2) S hG rfl Fi6 Ft6 Fy6 Fn6 (by decide) wm_64 rfl rfl (by decide) hk rfl rfl (Nat.le_of_ble_eq_true rfl) (by simp [fsOf, wr, wrA, upd]) hdg kk
theorem gf_9_152 {cc : ByteArray} {pc nL F Lc : Nat} {ls : Array Slot} {rest : List Value} {σ : St} {H : Heap} {locs : List Loc} (S : SC A D ac st p m c cc nL s args "SweeperRounds" R cells slots F Lc) (hG : DG A D ac ad s σ H locs) {k : Nat} (hk : kd k = 6) (hdg : decode cc pc = .ok (.getfield 152, 3))
    (kk : W p l e R s m args below meth c H locs cells slots QW (F0 m (pc + 3) ls (.int (σ.1 k 2) :: rest))) : W p l e R s m args below meth c H locs cells slots QW (F0 m pc ls (.ref (ad k) :: rest)) := mg (j := 2) S hG rfl Fi6 (by decide) wm_65 rfl (by decide) hk rfl hdg kk
theorem pf_9_152 {cc : ByteArray} {pc nL F Lc : Nat} {ls : Array Slot} {rest : List Value} {σ : St} {H : Heap} {locs : List Loc} (S : SC A D ac st p m c cc nL s args "SweeperRounds" R cells slots F Lc) (hG : DG A D ac ad s σ H locs) {k : Nat} {v : Int32} (hk : kd k = 6) (hdg : decode cc pc = .ok (.putfield 152, 3))
    (kk : ∀ (σ1 : St), σ1 = wr σ k 2 v → ∀ (H1 : Heap) (locs1 : List Loc), DG A D ac ad s σ1 H1 locs1 → W p l e R s m args below meth c H1 locs1 cells slots QW (F0 m (pc + 3) ls rest)) : W p l e R s m args below meth c H locs cells slots QW (F0 m pc ls (.int v :: .ref (ad k) :: rest)) := mp (j := 2) S hG rfl Fi6 Ft6 Fy6 Fn6 (by decide) wm_65 rfl rfl (by decide) hk rfl rfl (Nat.le_of_ble_eq_true rfl) (by simp [fsOf, wr, wrA, upd]) hdg kk
theorem gf_6_9 {cc : ByteArray} {pc nL F Lc : Nat} {ls : Array Slot} {rest : List Value} {σ : St} {H : Heap} {locs : List Loc} (S : SC A D ac st p m c cc nL s args "SweeperRounds$Street" R cells slots F Lc) (hG : DG A D ac ad s σ H locs) {k : Nat} (hk : kd k = 6) (hdg : decode cc pc = .ok (.getfield 9, 3))
    (kk : W p l e R s m args below meth c H locs cells slots QW (F0 m (pc + 3) ls (.ref (ad (k + 1)) :: rest))) : W p l e R s m args below meth c H locs cells slots QW (F0 m pc ls (.ref (ad k) :: rest)) := mg (j := 3) S hG rfl Fi6 (by decide) wm_66 rfl (by decide) hk rfl hdg kk
theorem gf_5_137 {cc : ByteArray} {pc nL F Lc : Nat} {ls : Array Slot} {rest : List Value} {σ : St} {H : Heap} {locs : List Loc} (S : SC A D ac st p m c cc nL s args "SweeperRounds$Round" R cells slots F Lc) (hG : DG A D ac ad s σ H locs) {k : Nat} (hk : kd k = 6) (hdg : decode cc pc = .ok (.getfield 137, 3))
    (kk : W p l e R s m args below meth c H locs cells slots QW (F0 m (pc + 3) ls (.ref (ad (k + 1)) :: rest))) : W p l e R s m args below meth c H locs cells slots QW (F0 m pc ls (.ref (ad k) :: rest)) := mg (j := 3) S hG rfl Fi6 (by decide) wm_67 rfl (by decide) hk rfl hdg kk
theorem gf_9_130 {cc : ByteArray} {pc nL F Lc : Nat} {ls : Array Slot} {rest : List Value} {σ : St} {H : Heap} {locs : List Loc} (S : SC A D ac st p m c cc nL s args "SweeperRounds" R cells slots F Lc) (hG : DG A D ac ad s σ H locs) {k : Nat} (hk : kd k = 6) (hdg : decode cc pc = .ok (.getfield 130, 3))
    (kk : W p l e R s m args below meth c H locs cells slots QW (F0 m (pc + 3) ls (.ref (ad (k + 1)) :: rest))) : W p l e R s m args below meth c H locs cells slots QW (F0 m pc ls (.ref (ad k) :: rest)) := mg (j := 3) S hG rfl Fi6 (by decide) wm_68 rfl (by decide) hk rfl hdg kk
theorem gf_8_111 {cc : ByteArray} {pc nL F Lc : Nat} {ls : Array Slot} {rest : List Value} {σ : St} {H : Heap} {locs : List Loc} (S : SC A D ac st p m c cc nL s args "SweeperRounds$World" R cells slots F Lc) (hG : DG A D ac ad s σ H locs) {k : Nat} (hk : kd k = 6) (hdg : decode cc pc = .ok (.getfield 111, 3))
    (kk : W p l e R s m args below meth c H locs cells slots QW (F0 m (pc + 3) ls (.ref (ad (k + 1)) :: rest))) : W p l e R s m args below meth c H locs cells slots QW (F0 m pc ls (.ref (ad k) :: rest)) := mg (j := 3) S hG rfl Fi6 (by decide) wm_69 rfl (by decide) hk rfl hdg kk
theorem gf_6_15 {cc : ByteArray} {pc nL F Lc : Nat} {ls : Array Slot} {rest : List Value} {σ : St} {H : Heap} {locs : List Loc} (S : SC A D ac st p m c cc nL s args "SweeperRounds$Street" R cells slots F Lc) (hG : DG A D ac ad s σ H locs) {k : Nat} (hk : kd k = 6) (hdg : decode cc pc = .ok (.getfield 15, 3))
    (kk : W p l e R s m args below meth c H locs cells slots QW (F0 m (pc + 3) ls (.ref (ad (k + 2)) :: rest))) : W p l e R s m args below meth c H locs cells slots QW (F0 m pc ls (.ref (ad k) :: rest)) := mg (j := 4) S hG rfl Fi6 (by decide) wm_70 rfl (by decide) hk rfl hdg kk
theorem gf_9_126 {cc : ByteArray} {pc nL F Lc : Nat} {ls : Array Slot} {rest : List Value} {σ : St} {H : Heap} {locs : List Loc} (S : SC A D ac st p m c cc nL s args "SweeperRounds" R cells slots F Lc) (hG : DG A D ac ad s σ H locs) {k : Nat} (hk : kd k = 6) (hdg : decode cc pc = .ok (.getfield 126, 3))
    (kk : W p l e R s m args below meth c H locs cells slots QW (F0 m (pc + 3) ls (.ref (ad (k + 2)) :: rest))) : W p l e R s m args below meth c H locs cells slots QW (F0 m pc ls (.ref (ad k) :: rest)) := mg (j := 4) S hG rfl Fi6 (by decide) wm_71 rfl (by decide) hk rfl hdg kk
theorem gf_3_12 {cc : ByteArray} {pc nL F Lc : Nat} {ls : Array Slot} {rest : List Value} {σ : St} {H : Heap} {locs : List Loc} (S : SC A D ac st p m c cc nL s args "SweeperRounds$Reader" R cells slots F Lc) (hG : DG A D ac ad s σ H locs) {k : Nat} (hk : kd k = 3) (hdg : decode cc pc = .ok (.getfield 12, 3))
    (kk : W p l e R s m args below meth c H locs cells slots QW (F0 m (pc + 3) ls (.ref (ad (k + 1)) :: rest))) : W p l e R s m args below meth c H locs cells slots QW (F0 m pc ls (.ref (ad k) :: rest)) := mg (j := 0) S hG rfl Fi3 (by decide) wm_85 rfl (by decide) hk rfl hdg kk
theorem gf_4_9 {cc : ByteArray} {pc nL F Lc : Nat} {ls : Array Slot} {rest : List Value} {σ : St} {H : Heap} {locs : List Loc} (S : SC A D ac st p m c cc nL s args "SweeperRounds$Report" R cells slots F Lc) (hG : DG A D ac ad s σ H locs) {k : Nat} (hk : kd k = 4) (hdg : decode cc pc = .ok (.getfield 9, 3))
    (kk : W p l e R s m args below meth c H locs cells slots QW (F0 m (pc + 3) ls (.int (σ.1 k 0) :: rest))) : W p l e R s m args below meth c H locs cells slots QW (F0 m pc ls (.ref (ad k) :: rest)) := mg (j := 0) S hG rfl Fi4 (by decide) wm_111 rfl (by decide) hk rfl hdg kk
theorem pf_4_9 {cc : ByteArray} {pc nL F Lc : Nat} {ls : Array Slot} {rest : List Value} {σ : St} {H : Heap} {locs : List Loc} (S : SC A D ac st p m c cc nL s args "SweeperRounds$Report" R cells slots F Lc) (hG : DG A D ac ad s σ H locs) {k : Nat} {v : Int32} (hk : kd k = 4) (hdg : decode cc pc = .ok (.putfield 9, 3))
    (kk : ∀ (σ1 : St), σ1 = wr σ k 0 v → ∀ (H1 : Heap) (locs1 : List Loc), DG A D ac ad s σ1 H1 locs1 → W p l e R s m args below meth c H1 locs1 cells slots QW (F0 m (pc + 3) ls rest)) : W p l e R s m args below meth c H locs cells slots QW (F0 m pc ls (.int v :: .ref (ad k) :: rest)) := mp (j := 0) S hG rfl Fi4 Ft4 Fy4 Fn4 (by decide) wm_111 rfl rfl (by decide) hk rfl rfl (Nat.le_of_ble_eq_true rfl) (by simp [fsOf, wr, wrA, upd]) hdg kk
theorem gf_5_45 {cc : ByteArray} {pc nL F Lc : Nat} {ls : Array Slot} {rest : List Value} {σ : St} {H : Heap} {locs : List Loc} (S : SC A D ac st p m c cc nL s args "SweeperRounds$Round" R cells slots F Lc) (hG : DG A D ac ad s σ H locs) {k : Nat} (hk : kd k = 4) (hdg : decode cc pc = .ok (.getfield 45, 3))
    (kk : W p l e R s m args below meth c H locs cells slots QW (F0 m (pc + 3) ls (.int (σ.1 k 0) :: rest))) : W p l e R s m args below meth c H locs cells slots QW (F0 m pc ls (.ref (ad k) :: rest)) := mg (j := 0) S hG rfl Fi4 (by decide) wm_112 rfl (by decide) hk rfl hdg kk
theorem pf_5_45 {cc : ByteArray} {pc nL F Lc : Nat} {ls : Array Slot} {rest : List Value} {σ : St} {H : Heap} {locs : List Loc} (S : SC A D ac st p m c cc nL s args "SweeperRounds$Round" R cells slots F Lc) (hG : DG A D ac ad s σ H locs) {k : Nat} {v : Int32} (hk : kd k = 4) (hdg : decode cc pc = .ok (.putfield 45, 3))
    (kk : ∀ (σ1 : St), σ1 = wr σ k 0 v → ∀ (H1 : Heap) (locs1 : List Loc), DG A D ac ad s σ1 H1 locs1 → W p l e R s m args below meth c H1 locs1 cells slots QW (F0 m (pc + 3) ls rest)) : W p l e R s m args below meth c H locs cells slots QW (F0 m pc ls (.int v :: .ref (ad k) :: rest)) := mp (j := 0) S hG rfl Fi4 Ft4 Fy4 Fn4 (by decide) wm_112 rfl rfl (by decide) hk rfl rfl (Nat.le_of_ble_eq_true rfl) (by simp [fsOf, wr, wrA, upd]) hdg kk
theorem gf_9_230 {cc : ByteArray} {pc nL F Lc : Nat} {ls : Array Slot} {rest : List Value} {σ : St} {H : Heap} {locs : List Loc} (S : SC A D ac st p m c cc nL s args "SweeperRounds" R cells slots F Lc) (hG : DG A D ac ad s σ H locs) {k : Nat} (hk : kd k = 4) (hdg : decode cc pc = .ok (.getfield 230, 3))
    (kk : W p l e R s m args below meth c H locs cells slots QW (F0 m (pc + 3) ls (.int (σ.1 k 0) :: rest))) : W p l e R s m args below meth c H locs cells slots QW (F0 m pc ls (.ref (ad k) :: rest)) := mg (j := 0) S hG rfl Fi4 (by decide) wm_113 rfl (by decide) hk rfl hdg kk
theorem pf_9_230 {cc : ByteArray} {pc nL F Lc : Nat} {ls : Array Slot} {rest : List Value} {σ : St} {H : Heap} {locs : List Loc} (S : SC A D ac st p m c cc nL s args "SweeperRounds" R cells slots F Lc) (hG : DG A D ac ad s σ H locs) {k : Nat} {v : Int32} (hk : kd k = 4) (hdg : decode cc pc = .ok (.putfield 230, 3))
    (kk : ∀ (σ1 : St), σ1 = wr σ k 0 v → ∀ (H1 : Heap) (locs1 : List Loc), DG A D ac ad s σ1 H1 locs1 → W p l e R s m args below meth c H1 locs1 cells slots QW (F0 m (pc + 3) ls rest)) : W p l e R s m args below meth c H locs cells slots QW (F0 m pc ls (.int v :: .ref (ad k) :: rest)) := mp (j := 0) S hG rfl Fi4 Ft4 Fy4 Fn4 (by decide) wm_113 rfl rfl (by decide) hk rfl rfl (Nat.le_of_ble_eq_true rfl) (by simp [fsOf, wr, wrA, upd]) hdg kk
theorem gf_4_15 {cc : ByteArray} {pc nL F Lc : Nat} {ls : Array Slot} {rest : List Value} {σ : St} {H : Heap} {locs : List Loc} (S : SC A D ac st p m c cc nL s args "SweeperRounds$Report" R cells slots F Lc) (hG : DG A D ac ad s σ H locs) {k : Nat} (hk : kd k = 4) (hdg : decode cc pc = .ok (.getfield 15, 3))
    (kk : W p l e R s m args below meth c H locs cells slots QW (F0 m (pc + 3) ls (.int (σ.1 k 1) :: rest))) : W p l e R s m args below meth c H locs cells slots QW (F0 m pc ls (.ref (ad k) :: rest)) := mg (j := 1) S hG rfl Fi4 (by decide) wm_114 rfl (by decide) hk rfl hdg kk
theorem pf_4_15 {cc : ByteArray} {pc nL F Lc : Nat} {ls : Array Slot} {rest : List Value} {σ : St} {H : Heap} {locs : List Loc} (S : SC A D ac st p m c cc nL s args "SweeperRounds$Report" R cells slots F Lc) (hG : DG A D ac ad s σ H locs) {k : Nat} {v : Int32} (hk : kd k = 4) (hdg : decode cc pc = .ok (.putfield 15, 3))
    (kk : ∀ (σ1 : St), σ1 = wr σ k 1 v → ∀ (H1 : Heap) (locs1 : List Loc), DG A D ac ad s σ1 H1 locs1 → W p l e R s m args below meth c H1 locs1 cells slots QW (F0 m (pc + 3) ls rest)) : W p l e R s m args below meth c H locs cells slots QW (F0 m pc ls (.int v :: .ref (ad k) :: rest)) := mp (j := 1) S hG rfl Fi4 Ft4 Fy4 Fn4 (by decide) wm_114 rfl rfl (by decide) hk rfl rfl (Nat.le_of_ble_eq_true rfl) (by simp [fsOf, wr, wrA, upd]) hdg kk
theorem gf_5_89 {cc : ByteArray} {pc nL F Lc : Nat} {ls : Array Slot} {rest : List Value} {σ : St} {H : Heap} {locs : List Loc} (S : SC A D ac st p m c cc nL s args "SweeperRounds$Round" R cells slots F Lc) (hG : DG A D ac ad s σ H locs) {k : Nat} (hk : kd k = 4) (hdg : decode cc pc = .ok (.getfield 89, 3))
    (kk : W p l e R s m args below meth c H locs cells slots QW (F0 m (pc + 3) ls (.int (σ.1 k 1) :: rest))) : W p l e R s m args below meth c H locs cells slots QW (F0 m pc ls (.ref (ad k) :: rest)) := mg (j := 1) S hG rfl Fi4 (by decide) wm_115 rfl (by decide) hk rfl hdg kk
theorem pf_5_89 {cc : ByteArray} {pc nL F Lc : Nat} {ls : Array Slot} {rest : List Value} {σ : St} {H : Heap} {locs : List Loc} (S : SC A D ac st p m c cc nL s args "SweeperRounds$Round" R cells slots F Lc) (hG : DG A D ac ad s σ H locs) {k : Nat} {v : Int32} (hk : kd k = 4) (hdg : decode cc pc = .ok (.putfield 89, 3))
    (kk : ∀ (σ1 : St), σ1 = wr σ k 1 v → ∀ (H1 : Heap) (locs1 : List Loc), DG A D ac ad s σ1 H1 locs1 → W p l e R s m args below meth c H1 locs1 cells slots QW (F0 m (pc + 3) ls rest)) : W p l e R s m args below meth c H locs cells slots QW (F0 m pc ls (.int v :: .ref (ad k) :: rest)) := mp (j := 1) S hG rfl Fi4 Ft4 Fy4 Fn4 (by decide) wm_115 rfl rfl (by decide) hk rfl rfl (Nat.le_of_ble_eq_true rfl) (by simp [fsOf, wr, wrA, upd]) hdg kk
theorem gf_9_233 {cc : ByteArray} {pc nL F Lc : Nat} {ls : Array Slot} {rest : List Value} {σ : St} {H : Heap} {locs : List Loc} (S : SC A D ac st p m c cc nL s args "SweeperRounds" R cells slots F Lc) (hG : DG A D ac ad s σ H locs) {k : Nat} (hk : kd k = 4) (hdg : decode cc pc = .ok (.getfield 233, 3))
    (kk : W p l e R s m args below meth c H locs cells slots QW (F0 m (pc + 3) ls (.int (σ.1 k 1) :: rest))) : W p l e R s m args below meth c H locs cells slots QW (F0 m pc ls (.ref (ad k) :: rest)) := mg (j := 1) S hG rfl Fi4 (by decide) wm_116 rfl (by decide) hk rfl hdg kk
theorem pf_9_233 {cc : ByteArray} {pc nL F Lc : Nat} {ls : Array Slot} {rest : List Value} {σ : St} {H : Heap} {locs : List Loc} (S : SC A D ac st p m c cc nL s args "SweeperRounds" R cells slots F Lc) (hG : DG A D ac ad s σ H locs) {k : Nat} {v : Int32} (hk : kd k = 4) (hdg : decode cc pc = .ok (.putfield 233, 3))
    (kk : ∀ (σ1 : St), σ1 = wr σ k 1 v → ∀ (H1 : Heap) (locs1 : List Loc), DG A D ac ad s σ1 H1 locs1 → W p l e R s m args below meth c H1 locs1 cells slots QW (F0 m (pc + 3) ls rest)) : W p l e R s m args below meth c H locs cells slots QW (F0 m pc ls (.int v :: .ref (ad k) :: rest)) := mp (j := 1) S hG rfl Fi4 Ft4 Fy4 Fn4 (by decide) wm_116 rfl rfl (by decide) hk rfl rfl (Nat.le_of_ble_eq_true rfl) (by simp [fsOf, wr, wrA, upd]) hdg kk
theorem gf_4_18 {cc : ByteArray} {pc nL F Lc : Nat} {ls : Array Slot} {rest : List Value} {σ : St} {H : Heap} {locs : List Loc} (S : SC A D ac st p m c cc nL s args "SweeperRounds$Report" R cells slots F Lc) (hG : DG A D ac ad s σ H locs) {k : Nat} (hk : kd k = 4) (hdg : decode cc pc = .ok (.getfield 18, 3))
    (kk : W p l e R s m args below meth c H locs cells slots QW (F0 m (pc + 3) ls (.int (σ.1 k 2) :: rest))) : W p l e R s m args below meth c H locs cells slots QW (F0 m pc ls (.ref (ad k) :: rest)) := mg (j := 2) S hG rfl Fi4 (by decide) wm_117 rfl (by decide) hk rfl hdg kk
theorem pf_4_18 {cc : ByteArray} {pc nL F Lc : Nat} {ls : Array Slot} {rest : List Value} {σ : St} {H : Heap} {locs : List Loc} (S : SC A D ac st p m c cc nL s args "SweeperRounds$Report" R cells slots F Lc) (hG : DG A D ac ad s σ H locs) {k : Nat} {v : Int32} (hk : kd k = 4) (hdg : decode cc pc = .ok (.putfield 18, 3))
    (kk : ∀ (σ1 : St), σ1 = wr σ k 2 v → ∀ (H1 : Heap) (locs1 : List Loc), DG A D ac ad s σ1 H1 locs1 → W p l e R s m args below meth c H1 locs1 cells slots QW (F0 m (pc + 3) ls rest)) : W p l e R s m args below meth c H locs cells slots QW (F0 m pc ls (.int v :: .ref (ad k) :: rest)) := mp (j := 2) S hG rfl Fi4 Ft4 Fy4 Fn4 (by decide) wm_117 rfl rfl (by decide) hk rfl rfl (Nat.le_of_ble_eq_true rfl) (by simp [fsOf, wr, wrA, upd]) hdg kk
theorem gf_5_119 {cc : ByteArray} {pc nL F Lc : Nat} {ls : Array Slot} {rest : List Value} {σ : St} {H : Heap} {locs : List Loc} (S : SC A D ac st p m c cc nL s args "SweeperRounds$Round" R cells slots F Lc) (hG : DG A D ac ad s σ H locs) {k : Nat} (hk : kd k = 4) (hdg : decode cc pc = .ok (.getfield 119, 3))
    (kk : W p l e R s m args below meth c H locs cells slots QW (F0 m (pc + 3) ls (.int (σ.1 k 2) :: rest))) : W p l e R s m args below meth c H locs cells slots QW (F0 m pc ls (.ref (ad k) :: rest)) := mg (j := 2) S hG rfl Fi4 (by decide) wm_118 rfl (by decide) hk rfl hdg kk
theorem pf_5_119 {cc : ByteArray} {pc nL F Lc : Nat} {ls : Array Slot} {rest : List Value} {σ : St} {H : Heap} {locs : List Loc} (S : SC A D ac st p m c cc nL s args "SweeperRounds$Round" R cells slots F Lc) (hG : DG A D ac ad s σ H locs) {k : Nat} {v : Int32} (hk : kd k = 4) (hdg : decode cc pc = .ok (.putfield 119, 3))
    (kk : ∀ (σ1 : St), σ1 = wr σ k 2 v → ∀ (H1 : Heap) (locs1 : List Loc), DG A D ac ad s σ1 H1 locs1 → W p l e R s m args below meth c H1 locs1 cells slots QW (F0 m (pc + 3) ls rest)) : W p l e R s m args below meth c H locs cells slots QW (F0 m pc ls (.int v :: .ref (ad k) :: rest)) := mp (j := 2) S hG rfl Fi4 Ft4 Fy4 Fn4 (by decide) wm_118 rfl rfl (by decide) hk rfl rfl (Nat.le_of_ble_eq_true rfl) (by simp [fsOf, wr, wrA, upd]) hdg kk
theorem gf_9_236 {cc : ByteArray} {pc nL F Lc : Nat} {ls : Array Slot} {rest : List Value} {σ : St} {H : Heap} {locs : List Loc} (S : SC A D ac st p m c cc nL s args "SweeperRounds" R cells slots F Lc) (hG : DG A D ac ad s σ H locs) {k : Nat} (hk : kd k = 4) (hdg : decode cc pc = .ok (.getfield 236, 3))
    (kk : W p l e R s m args below meth c H locs cells slots QW (F0 m (pc + 3) ls (.int (σ.1 k 2) :: rest))) : W p l e R s m args below meth c H locs cells slots QW (F0 m pc ls (.ref (ad k) :: rest)) := mg (j := 2) S hG rfl Fi4 (by decide) wm_119 rfl (by decide) hk rfl hdg kk
theorem pf_9_236 {cc : ByteArray} {pc nL F Lc : Nat} {ls : Array Slot} {rest : List Value} {σ : St} {H : Heap} {locs : List Loc} (S : SC A D ac st p m c cc nL s args "SweeperRounds" R cells slots F Lc) (hG : DG A D ac ad s σ H locs) {k : Nat} {v : Int32} (hk : kd k = 4) (hdg : decode cc pc = .ok (.putfield 236, 3))
    (kk : ∀ (σ1 : St), σ1 = wr σ k 2 v → ∀ (H1 : Heap) (locs1 : List Loc), DG A D ac ad s σ1 H1 locs1 → W p l e R s m args below meth c H1 locs1 cells slots QW (F0 m (pc + 3) ls rest)) : W p l e R s m args below meth c H locs cells slots QW (F0 m pc ls (.int v :: .ref (ad k) :: rest)) := mp (j := 2) S hG rfl Fi4 Ft4 Fy4 Fn4 (by decide) wm_119 rfl rfl (by decide) hk rfl rfl (Nat.le_of_ble_eq_true rfl) (by simp [fsOf, wr, wrA, upd]) hdg kk
theorem gf_4_21 {cc : ByteArray} {pc nL F Lc : Nat} {ls : Array Slot} {rest : List Value} {σ : St} {H : Heap} {locs : List Loc} (S : SC A D ac st p m c cc nL s args "SweeperRounds$Report" R cells slots F Lc) (hG : DG A D ac ad s σ H locs) {k : Nat} (hk : kd k = 4) (hdg : decode cc pc = .ok (.getfield 21, 3))
    (kk : W p l e R s m args below meth c H locs cells slots QW (F0 m (pc + 3) ls (.int (σ.1 k 3) :: rest))) : W p l e R s m args below meth c H locs cells slots QW (F0 m pc ls (.ref (ad k) :: rest)) := mg (j := 3) S hG rfl Fi4 (by decide) wm_120 rfl (by decide) hk rfl hdg kk
theorem pf_4_21 {cc : ByteArray} {pc nL F Lc : Nat} {ls : Array Slot} {rest : List Value} {σ : St} {H : Heap} {locs : List Loc} (S : SC A D ac st p m c cc nL s args "SweeperRounds$Report" R cells slots F Lc) (hG : DG A D ac ad s σ H locs) {k : Nat} {v : Int32} (hk : kd k = 4) (hdg : decode cc pc = .ok (.putfield 21, 3))
    (kk : ∀ (σ1 : St), σ1 = wr σ k 3 v → ∀ (H1 : Heap) (locs1 : List Loc), DG A D ac ad s σ1 H1 locs1 → W p l e R s m args below meth c H1 locs1 cells slots QW (F0 m (pc + 3) ls rest)) : W p l e R s m args below meth c H locs cells slots QW (F0 m pc ls (.int v :: .ref (ad k) :: rest)) := mp (j := 3) S hG rfl Fi4 Ft4 Fy4 Fn4 (by decide) wm_120 rfl rfl (by decide) hk rfl rfl (Nat.le_of_ble_eq_true rfl) (by simp [fsOf, wr, wrA, upd]) hdg kk
theorem gf_5_143 {cc : ByteArray} {pc nL F Lc : Nat} {ls : Array Slot} {rest : List Value} {σ : St} {H : Heap} {locs : List Loc} (S : SC A D ac st p m c cc nL s args "SweeperRounds$Round" R cells slots F Lc) (hG : DG A D ac ad s σ H locs) {k : Nat} (hk : kd k = 4) (hdg : decode cc pc = .ok (.getfield 143, 3))
    (kk : W p l e R s m args below meth c H locs cells slots QW (F0 m (pc + 3) ls (.int (σ.1 k 3) :: rest))) : W p l e R s m args below meth c H locs cells slots QW (F0 m pc ls (.ref (ad k) :: rest)) := mg (j := 3) S hG rfl Fi4 (by decide) wm_121 rfl (by decide) hk rfl hdg kk
theorem pf_5_143 {cc : ByteArray} {pc nL F Lc : Nat} {ls : Array Slot} {rest : List Value} {σ : St} {H : Heap} {locs : List Loc} (S : SC A D ac st p m c cc nL s args "SweeperRounds$Round" R cells slots F Lc) (hG : DG A D ac ad s σ H locs) {k : Nat} {v : Int32} (hk : kd k = 4) (hdg : decode cc pc = .ok (.putfield 143, 3))
    (kk : ∀ (σ1 : St), σ1 = wr σ k 3 v → ∀ (H1 : Heap) (locs1 : List Loc), DG A D ac ad s σ1 H1 locs1 → W p l e R s m args below meth c H1 locs1 cells slots QW (F0 m (pc + 3) ls rest)) : W p l e R s m args below meth c H locs cells slots QW (F0 m pc ls (.int v :: .ref (ad k) :: rest)) := mp (j := 3) S hG rfl Fi4 Ft4 Fy4 Fn4 (by decide) wm_121 rfl rfl (by decide) hk rfl rfl (Nat.le_of_ble_eq_true rfl) (by simp [fsOf, wr, wrA, upd]) hdg kk
theorem gf_9_215 {cc : ByteArray} {pc nL F Lc : Nat} {ls : Array Slot} {rest : List Value} {σ : St} {H : Heap} {locs : List Loc} (S : SC A D ac st p m c cc nL s args "SweeperRounds" R cells slots F Lc) (hG : DG A D ac ad s σ H locs) {k : Nat} (hk : kd k = 4) (hdg : decode cc pc = .ok (.getfield 215, 3))
    (kk : W p l e R s m args below meth c H locs cells slots QW (F0 m (pc + 3) ls (.int (σ.1 k 3) :: rest))) : W p l e R s m args below meth c H locs cells slots QW (F0 m pc ls (.ref (ad k) :: rest)) := mg (j := 3) S hG rfl Fi4 (by decide) wm_122 rfl (by decide) hk rfl hdg kk
theorem pf_9_215 {cc : ByteArray} {pc nL F Lc : Nat} {ls : Array Slot} {rest : List Value} {σ : St} {H : Heap} {locs : List Loc} (S : SC A D ac st p m c cc nL s args "SweeperRounds" R cells slots F Lc) (hG : DG A D ac ad s σ H locs) {k : Nat} {v : Int32} (hk : kd k = 4) (hdg : decode cc pc = .ok (.putfield 215, 3))
    (kk : ∀ (σ1 : St), σ1 = wr σ k 3 v → ∀ (H1 : Heap) (locs1 : List Loc), DG A D ac ad s σ1 H1 locs1 → W p l e R s m args below meth c H1 locs1 cells slots QW (F0 m (pc + 3) ls rest)) : W p l e R s m args below meth c H locs cells slots QW (F0 m pc ls (.int v :: .ref (ad k) :: rest)) := mp (j := 3) S hG rfl Fi4 Ft4 Fy4 Fn4 (by decide) wm_122 rfl rfl (by decide) hk rfl rfl (Nat.le_of_ble_eq_true rfl) (by simp [fsOf, wr, wrA, upd]) hdg kk
theorem gf_4_24 {cc : ByteArray} {pc nL F Lc : Nat} {ls : Array Slot} {rest : List Value} {σ : St} {H : Heap} {locs : List Loc} (S : SC A D ac st p m c cc nL s args "SweeperRounds$Report" R cells slots F Lc) (hG : DG A D ac ad s σ H locs) {k : Nat} (hk : kd k = 4) (hdg : decode cc pc = .ok (.getfield 24, 3))
    (kk : W p l e R s m args below meth c H locs cells slots QW (F0 m (pc + 3) ls (.int (σ.1 k 4) :: rest))) : W p l e R s m args below meth c H locs cells slots QW (F0 m pc ls (.ref (ad k) :: rest)) := mg (j := 4) S hG rfl Fi4 (by decide) wm_123 rfl (by decide) hk rfl hdg kk
theorem pf_4_24 {cc : ByteArray} {pc nL F Lc : Nat} {ls : Array Slot} {rest : List Value} {σ : St} {H : Heap} {locs : List Loc} (S : SC A D ac st p m c cc nL s args "SweeperRounds$Report" R cells slots F Lc) (hG : DG A D ac ad s σ H locs) {k : Nat} {v : Int32} (hk : kd k = 4) (hdg : decode cc pc = .ok (.putfield 24, 3))
    (kk : ∀ (σ1 : St), σ1 = wr σ k 4 v → ∀ (H1 : Heap) (locs1 : List Loc), DG A D ac ad s σ1 H1 locs1 → W p l e R s m args below meth c H1 locs1 cells slots QW (F0 m (pc + 3) ls rest)) : W p l e R s m args below meth c H locs cells slots QW (F0 m pc ls (.int v :: .ref (ad k) :: rest)) := mp (j := 4) S hG rfl Fi4 Ft4 Fy4 Fn4 (by decide) wm_123 rfl rfl (by decide) hk rfl rfl (Nat.le_of_ble_eq_true rfl) (by simp [fsOf, wr, wrA, upd]) hdg kk
theorem gf_5_147 {cc : ByteArray} {pc nL F Lc : Nat} {ls : Array Slot} {rest : List Value} {σ : St} {H : Heap} {locs : List Loc} (S : SC A D ac st p m c cc nL s args "SweeperRounds$Round" R cells slots F Lc) (hG : DG A D ac ad s σ H locs) {k : Nat} (hk : kd k = 4) (hdg : decode cc pc = .ok (.getfield 147, 3))
    (kk : W p l e R s m args below meth c H locs cells slots QW (F0 m (pc + 3) ls (.int (σ.1 k 4) :: rest))) : W p l e R s m args below meth c H locs cells slots QW (F0 m pc ls (.ref (ad k) :: rest)) := mg (j := 4) S hG rfl Fi4 (by decide) wm_124 rfl (by decide) hk rfl hdg kk
theorem pf_5_147 {cc : ByteArray} {pc nL F Lc : Nat} {ls : Array Slot} {rest : List Value} {σ : St} {H : Heap} {locs : List Loc} (S : SC A D ac st p m c cc nL s args "SweeperRounds$Round" R cells slots F Lc) (hG : DG A D ac ad s σ H locs) {k : Nat} {v : Int32} (hk : kd k = 4) (hdg : decode cc pc = .ok (.putfield 147, 3))
    (kk : ∀ (σ1 : St), σ1 = wr σ k 4 v → ∀ (H1 : Heap) (locs1 : List Loc), DG A D ac ad s σ1 H1 locs1 → W p l e R s m args below meth c H1 locs1 cells slots QW (F0 m (pc + 3) ls rest)) : W p l e R s m args below meth c H locs cells slots QW (F0 m pc ls (.int v :: .ref (ad k) :: rest)) := mp (j := 4) S hG rfl Fi4 Ft4 Fy4 Fn4 (by decide) wm_124 rfl rfl (by decide) hk rfl rfl (Nat.le_of_ble_eq_true rfl) (by simp [fsOf, wr, wrA, upd]) hdg kk
theorem gf_9_239 {cc : ByteArray} {pc nL F Lc : Nat} {ls : Array Slot} {rest : List Value} {σ : St} {H : Heap} {locs : List Loc} (S : SC A D ac st p m c cc nL s args "SweeperRounds" R cells slots F Lc) (hG : DG A D ac ad s σ H locs) {k : Nat} (hk : kd k = 4) (hdg : decode cc pc = .ok (.getfield 239, 3))
    (kk : W p l e R s m args below meth c H locs cells slots QW (F0 m (pc + 3) ls (.int (σ.1 k 4) :: rest))) : W p l e R s m args below meth c H locs cells slots QW (F0 m pc ls (.ref (ad k) :: rest)) := mg (j := 4) S hG rfl Fi4 (by decide) wm_125 rfl (by decide) hk rfl hdg kk
theorem pf_9_239 {cc : ByteArray} {pc nL F Lc : Nat} {ls : Array Slot} {rest : List Value} {σ : St} {H : Heap} {locs : List Loc} (S : SC A D ac st p m c cc nL s args "SweeperRounds" R cells slots F Lc) (hG : DG A D ac ad s σ H locs) {k : Nat} {v : Int32} (hk : kd k = 4) (hdg : decode cc pc = .ok (.putfield 239, 3))
    (kk : ∀ (σ1 : St), σ1 = wr σ k 4 v → ∀ (H1 : Heap) (locs1 : List Loc), DG A D ac ad s σ1 H1 locs1 → W p l e R s m args below meth c H1 locs1 cells slots QW (F0 m (pc + 3) ls rest)) : W p l e R s m args below meth c H locs cells slots QW (F0 m pc ls (.int v :: .ref (ad k) :: rest)) := mp (j := 4) S hG rfl Fi4 Ft4 Fy4 Fn4 (by decide) wm_125 rfl rfl (by decide) hk rfl rfl (Nat.le_of_ble_eq_true rfl) (by simp [fsOf, wr, wrA, upd]) hdg kk
theorem gf_4_27 {cc : ByteArray} {pc nL F Lc : Nat} {ls : Array Slot} {rest : List Value} {σ : St} {H : Heap} {locs : List Loc} (S : SC A D ac st p m c cc nL s args "SweeperRounds$Report" R cells slots F Lc) (hG : DG A D ac ad s σ H locs) {k : Nat} (hk : kd k = 4) (hdg : decode cc pc = .ok (.getfield 27, 3))
    (kk : W p l e R s m args below meth c H locs cells slots QW (F0 m (pc + 3) ls (.int (σ.1 k 5) :: rest))) : W p l e R s m args below meth c H locs cells slots QW (F0 m pc ls (.ref (ad k) :: rest)) := mg (j := 5) S hG rfl Fi4 (by decide) wm_126 rfl (by decide) hk rfl hdg kk
theorem pf_4_27 {cc : ByteArray} {pc nL F Lc : Nat} {ls : Array Slot} {rest : List Value} {σ : St} {H : Heap} {locs : List Loc} (S : SC A D ac st p m c cc nL s args "SweeperRounds$Report" R cells slots F Lc) (hG : DG A D ac ad s σ H locs) {k : Nat} {v : Int32} (hk : kd k = 4) (hdg : decode cc pc = .ok (.putfield 27, 3))
    (kk : ∀ (σ1 : St), σ1 = wr σ k 5 v → ∀ (H1 : Heap) (locs1 : List Loc), DG A D ac ad s σ1 H1 locs1 → W p l e R s m args below meth c H1 locs1 cells slots QW (F0 m (pc + 3) ls rest)) : W p l e R s m args below meth c H locs cells slots QW (F0 m pc ls (.int v :: .ref (ad k) :: rest)) := mp (j := 5) S hG rfl Fi4 Ft4 Fy4 Fn4 (by decide) wm_126 rfl rfl (by decide) hk rfl rfl (Nat.le_of_ble_eq_true rfl) (by simp [fsOf, wr, wrA, upd]) hdg kk
theorem gf_5_75 {cc : ByteArray} {pc nL F Lc : Nat} {ls : Array Slot} {rest : List Value} {σ : St} {H : Heap} {locs : List Loc} (S : SC A D ac st p m c cc nL s args "SweeperRounds$Round" R cells slots F Lc) (hG : DG A D ac ad s σ H locs) {k : Nat} (hk : kd k = 4) (hdg : decode cc pc = .ok (.getfield 75, 3))
    (kk : W p l e R s m args below meth c H locs cells slots QW (F0 m (pc + 3) ls (.int (σ.1 k 5) :: rest))) : W p l e R s m args below meth c H locs cells slots QW (F0 m pc ls (.ref (ad k) :: rest)) := mg (j := 5) S hG rfl Fi4 (by decide) wm_127 rfl (by decide) hk rfl hdg kk
theorem pf_5_75 {cc : ByteArray} {pc nL F Lc : Nat} {ls : Array Slot} {rest : List Value} {σ : St} {H : Heap} {locs : List Loc} (S : SC A D ac st p m c cc nL s args "SweeperRounds$Round" R cells slots F Lc) (hG : DG A D ac ad s σ H locs) {k : Nat} {v : Int32} (hk : kd k = 4) (hdg : decode cc pc = .ok (.putfield 75, 3))
    (kk : ∀ (σ1 : St), σ1 = wr σ k 5 v → ∀ (H1 : Heap) (locs1 : List Loc), DG A D ac ad s σ1 H1 locs1 → W p l e R s m args below meth c H1 locs1 cells slots QW (F0 m (pc + 3) ls rest)) : W p l e R s m args below meth c H locs cells slots QW (F0 m pc ls (.int v :: .ref (ad k) :: rest)) := mp (j := 5) S hG rfl Fi4 Ft4 Fy4 Fn4 (by decide) wm_127 rfl rfl (by decide) hk rfl rfl (Nat.le_of_ble_eq_true rfl) (by simp [fsOf, wr, wrA, upd]) hdg kk
theorem gf_9_242 {cc : ByteArray} {pc nL F Lc : Nat} {ls : Array Slot} {rest : List Value} {σ : St} {H : Heap} {locs : List Loc} (S : SC A D ac st p m c cc nL s args "SweeperRounds" R cells slots F Lc) (hG : DG A D ac ad s σ H locs) {k : Nat} (hk : kd k = 4) (hdg : decode cc pc = .ok (.getfield 242, 3))
    (kk : W p l e R s m args below meth c H locs cells slots QW (F0 m (pc + 3) ls (.int (σ.1 k 5) :: rest))) : W p l e R s m args below meth c H locs cells slots QW (F0 m pc ls (.ref (ad k) :: rest)) := mg (j := 5) S hG rfl Fi4 (by decide) wm_128 rfl (by decide) hk rfl hdg kk
theorem pf_9_242 {cc : ByteArray} {pc nL F Lc : Nat} {ls : Array Slot} {rest : List Value} {σ : St} {H : Heap} {locs : List Loc} (S : SC A D ac st p m c cc nL s args "SweeperRounds" R cells slots F Lc) (hG : DG A D ac ad s σ H locs) {k : Nat} {v : Int32} (hk : kd k = 4) (hdg : decode cc pc = .ok (.putfield 242, 3))
    (kk : ∀ (σ1 : St), σ1 = wr σ k 5 v → ∀ (H1 : Heap) (locs1 : List Loc), DG A D ac ad s σ1 H1 locs1 → W p l e R s m args below meth c H1 locs1 cells slots QW (F0 m (pc + 3) ls rest)) : W p l e R s m args below meth c H locs cells slots QW (F0 m pc ls (.int v :: .ref (ad k) :: rest)) := mp (j := 5) S hG rfl Fi4 Ft4 Fy4 Fn4 (by decide) wm_128 rfl rfl (by decide) hk rfl rfl (Nat.le_of_ble_eq_true rfl) (by simp [fsOf, wr, wrA, upd]) hdg kk
theorem gf_1_7 {cc : ByteArray} {pc nL F Lc : Nat} {ls : Array Slot} {rest : List Value} {σ : St} {H : Heap} {locs : List Loc} (S : SC A D ac st p m c cc nL s args "SweeperRounds$Leg" R cells slots F Lc) (hG : DG A D ac ad s σ H locs) {k : Nat} (hk : kd k = 1) (hdg : decode cc pc = .ok (.getfield 7, 3))
    (kk : W p l e R s m args below meth c H locs cells slots QW (F0 m (pc + 3) ls (.int (σ.1 k 0) :: rest))) : W p l e R s m args below meth c H locs cells slots QW (F0 m pc ls (.ref (ad k) :: rest)) := mg (j := 0) S hG rfl Fi1 (by decide) wm_148 rfl (by decide) hk rfl hdg kk
theorem pf_1_7 {cc : ByteArray} {pc nL F Lc : Nat} {ls : Array Slot} {rest : List Value} {σ : St} {H : Heap} {locs : List Loc} (S : SC A D ac st p m c cc nL s args "SweeperRounds$Leg" R cells slots F Lc) (hG : DG A D ac ad s σ H locs) {k : Nat} {v : Int32} (hk : kd k = 1) (hdg : decode cc pc = .ok (.putfield 7, 3))
    (kk : ∀ (σ1 : St), σ1 = wr σ k 0 v → ∀ (H1 : Heap) (locs1 : List Loc), DG A D ac ad s σ1 H1 locs1 → W p l e R s m args below meth c H1 locs1 cells slots QW (F0 m (pc + 3) ls rest)) : W p l e R s m args below meth c H locs cells slots QW (F0 m pc ls (.int v :: .ref (ad k) :: rest)) := mp (j := 0) S hG rfl Fi1 Ft1 Fy1 Fn1 (by decide) wm_148 rfl rfl (by decide) hk rfl rfl (Nat.le_of_ble_eq_true rfl) (by simp [fsOf, wr, wrA, upd]) hdg kk
theorem gf_5_52 {cc : ByteArray} {pc nL F Lc : Nat} {ls : Array Slot} {rest : List Value} {σ : St} {H : Heap} {locs : List Loc} (S : SC A D ac st p m c cc nL s args "SweeperRounds$Round" R cells slots F Lc) (hG : DG A D ac ad s σ H locs) {k : Nat} (hk : kd k = 1) (hdg : decode cc pc = .ok (.getfield 52, 3))
    (kk : W p l e R s m args below meth c H locs cells slots QW (F0 m (pc + 3) ls (.int (σ.1 k 0) :: rest))) : W p l e R s m args below meth c H locs cells slots QW (F0 m pc ls (.ref (ad k) :: rest)) := mg (j := 0) S hG rfl Fi1 (by decide) wm_149 rfl (by decide) hk rfl hdg kk
theorem pf_5_52 {cc : ByteArray} {pc nL F Lc : Nat} {ls : Array Slot} {rest : List Value} {σ : St} {H : Heap} {locs : List Loc} (S : SC A D ac st p m c cc nL s args "SweeperRounds$Round" R cells slots F Lc) (hG : DG A D ac ad s σ H locs) {k : Nat} {v : Int32} (hk : kd k = 1) (hdg : decode cc pc = .ok (.putfield 52, 3))
    (kk : ∀ (σ1 : St), σ1 = wr σ k 0 v → ∀ (H1 : Heap) (locs1 : List Loc), DG A D ac ad s σ1 H1 locs1 → W p l e R s m args below meth c H1 locs1 cells slots QW (F0 m (pc + 3) ls rest)) : W p l e R s m args below meth c H locs cells slots QW (F0 m pc ls (.int v :: .ref (ad k) :: rest)) := mp (j := 0) S hG rfl Fi1 Ft1 Fy1 Fn1 (by decide) wm_149 rfl rfl (by decide) hk rfl rfl (Nat.le_of_ble_eq_true rfl) (by simp [fsOf, wr, wrA, upd]) hdg kk
theorem gf_8_92 {cc : ByteArray} {pc nL F Lc : Nat} {ls : Array Slot} {rest : List Value} {σ : St} {H : Heap} {locs : List Loc} (S : SC A D ac st p m c cc nL s args "SweeperRounds$World" R cells slots F Lc) (hG : DG A D ac ad s σ H locs) {k : Nat} (hk : kd k = 1) (hdg : decode cc pc = .ok (.getfield 92, 3))
    (kk : W p l e R s m args below meth c H locs cells slots QW (F0 m (pc + 3) ls (.int (σ.1 k 0) :: rest))) : W p l e R s m args below meth c H locs cells slots QW (F0 m pc ls (.ref (ad k) :: rest)) := mg (j := 0) S hG rfl Fi1 (by decide) wm_150 rfl (by decide) hk rfl hdg kk
theorem pf_8_92 {cc : ByteArray} {pc nL F Lc : Nat} {ls : Array Slot} {rest : List Value} {σ : St} {H : Heap} {locs : List Loc} (S : SC A D ac st p m c cc nL s args "SweeperRounds$World" R cells slots F Lc) (hG : DG A D ac ad s σ H locs) {k : Nat} {v : Int32} (hk : kd k = 1) (hdg : decode cc pc = .ok (.putfield 92, 3))
    (kk : ∀ (σ1 : St), σ1 = wr σ k 0 v → ∀ (H1 : Heap) (locs1 : List Loc), DG A D ac ad s σ1 H1 locs1 → W p l e R s m args below meth c H1 locs1 cells slots QW (F0 m (pc + 3) ls rest)) : W p l e R s m args below meth c H locs cells slots QW (F0 m pc ls (.int v :: .ref (ad k) :: rest)) := mp (j := 0) S hG rfl Fi1 Ft1 Fy1 Fn1 (by decide) wm_150 rfl rfl (by decide) hk rfl rfl (Nat.le_of_ble_eq_true rfl) (by simp [fsOf, wr, wrA, upd]) hdg kk
theorem gf_9_190 {cc : ByteArray} {pc nL F Lc : Nat} {ls : Array Slot} {rest : List Value} {σ : St} {H : Heap} {locs : List Loc} (S : SC A D ac st p m c cc nL s args "SweeperRounds" R cells slots F Lc) (hG : DG A D ac ad s σ H locs) {k : Nat} (hk : kd k = 1) (hdg : decode cc pc = .ok (.getfield 190, 3))
    (kk : W p l e R s m args below meth c H locs cells slots QW (F0 m (pc + 3) ls (.int (σ.1 k 0) :: rest))) : W p l e R s m args below meth c H locs cells slots QW (F0 m pc ls (.ref (ad k) :: rest)) := mg (j := 0) S hG rfl Fi1 (by decide) wm_151 rfl (by decide) hk rfl hdg kk
theorem pf_9_190 {cc : ByteArray} {pc nL F Lc : Nat} {ls : Array Slot} {rest : List Value} {σ : St} {H : Heap} {locs : List Loc} (S : SC A D ac st p m c cc nL s args "SweeperRounds" R cells slots F Lc) (hG : DG A D ac ad s σ H locs) {k : Nat} {v : Int32} (hk : kd k = 1) (hdg : decode cc pc = .ok (.putfield 190, 3))
    (kk : ∀ (σ1 : St), σ1 = wr σ k 0 v → ∀ (H1 : Heap) (locs1 : List Loc), DG A D ac ad s σ1 H1 locs1 → W p l e R s m args below meth c H1 locs1 cells slots QW (F0 m (pc + 3) ls rest)) : W p l e R s m args below meth c H locs cells slots QW (F0 m pc ls (.int v :: .ref (ad k) :: rest)) := mp (j := 0) S hG rfl Fi1 Ft1 Fy1 Fn1 (by decide) wm_151 rfl rfl (by decide) hk rfl rfl (Nat.le_of_ble_eq_true rfl) (by simp [fsOf, wr, wrA, upd]) hdg kk
theorem gf_1_13 {cc : ByteArray} {pc nL F Lc : Nat} {ls : Array Slot} {rest : List Value} {σ : St} {H : Heap} {locs : List Loc} (S : SC A D ac st p m c cc nL s args "SweeperRounds$Leg" R cells slots F Lc) (hG : DG A D ac ad s σ H locs) {k : Nat} (hk : kd k = 1) (hdg : decode cc pc = .ok (.getfield 13, 3))
    (kk : W p l e R s m args below meth c H locs cells slots QW (F0 m (pc + 3) ls (.int (σ.1 k 1) :: rest))) : W p l e R s m args below meth c H locs cells slots QW (F0 m pc ls (.ref (ad k) :: rest)) := mg (j := 1) S hG rfl Fi1 (by decide) wm_152 rfl (by decide) hk rfl hdg kk
theorem pf_1_13 {cc : ByteArray} {pc nL F Lc : Nat} {ls : Array Slot} {rest : List Value} {σ : St} {H : Heap} {locs : List Loc} (S : SC A D ac st p m c cc nL s args "SweeperRounds$Leg" R cells slots F Lc) (hG : DG A D ac ad s σ H locs) {k : Nat} {v : Int32} (hk : kd k = 1) (hdg : decode cc pc = .ok (.putfield 13, 3))
    (kk : ∀ (σ1 : St), σ1 = wr σ k 1 v → ∀ (H1 : Heap) (locs1 : List Loc), DG A D ac ad s σ1 H1 locs1 → W p l e R s m args below meth c H1 locs1 cells slots QW (F0 m (pc + 3) ls rest)) : W p l e R s m args below meth c H locs cells slots QW (F0 m pc ls (.int v :: .ref (ad k) :: rest)) := mp (j := 1) S hG rfl Fi1 Ft1 Fy1 Fn1 (by decide) wm_152 rfl rfl (by decide) hk rfl rfl (Nat.le_of_ble_eq_true rfl) (by simp [fsOf, wr, wrA, upd]) hdg kk
theorem gf_5_64 {cc : ByteArray} {pc nL F Lc : Nat} {ls : Array Slot} {rest : List Value} {σ : St} {H : Heap} {locs : List Loc} (S : SC A D ac st p m c cc nL s args "SweeperRounds$Round" R cells slots F Lc) (hG : DG A D ac ad s σ H locs) {k : Nat} (hk : kd k = 1) (hdg : decode cc pc = .ok (.getfield 64, 3))
    (kk : W p l e R s m args below meth c H locs cells slots QW (F0 m (pc + 3) ls (.int (σ.1 k 1) :: rest))) : W p l e R s m args below meth c H locs cells slots QW (F0 m pc ls (.ref (ad k) :: rest)) := mg (j := 1) S hG rfl Fi1 (by decide) wm_153 rfl (by decide) hk rfl hdg kk
theorem pf_5_64 {cc : ByteArray} {pc nL F Lc : Nat} {ls : Array Slot} {rest : List Value} {σ : St} {H : Heap} {locs : List Loc} (S : SC A D ac st p m c cc nL s args "SweeperRounds$Round" R cells slots F Lc) (hG : DG A D ac ad s σ H locs) {k : Nat} {v : Int32} (hk : kd k = 1) (hdg : decode cc pc = .ok (.putfield 64, 3))
    (kk : ∀ (σ1 : St), σ1 = wr σ k 1 v → ∀ (H1 : Heap) (locs1 : List Loc), DG A D ac ad s σ1 H1 locs1 → W p l e R s m args below meth c H1 locs1 cells slots QW (F0 m (pc + 3) ls rest)) : W p l e R s m args below meth c H locs cells slots QW (F0 m pc ls (.int v :: .ref (ad k) :: rest)) := mp (j := 1) S hG rfl Fi1 Ft1 Fy1 Fn1 (by decide) wm_153 rfl rfl (by decide) hk rfl rfl (Nat.le_of_ble_eq_true rfl) (by simp [fsOf, wr, wrA, upd]) hdg kk
theorem gf_8_108 {cc : ByteArray} {pc nL F Lc : Nat} {ls : Array Slot} {rest : List Value} {σ : St} {H : Heap} {locs : List Loc} (S : SC A D ac st p m c cc nL s args "SweeperRounds$World" R cells slots F Lc) (hG : DG A D ac ad s σ H locs) {k : Nat} (hk : kd k = 1) (hdg : decode cc pc = .ok (.getfield 108, 3))
    (kk : W p l e R s m args below meth c H locs cells slots QW (F0 m (pc + 3) ls (.int (σ.1 k 1) :: rest))) : W p l e R s m args below meth c H locs cells slots QW (F0 m pc ls (.ref (ad k) :: rest)) := mg (j := 1) S hG rfl Fi1 (by decide) wm_154 rfl (by decide) hk rfl hdg kk
theorem pf_8_108 {cc : ByteArray} {pc nL F Lc : Nat} {ls : Array Slot} {rest : List Value} {σ : St} {H : Heap} {locs : List Loc} (S : SC A D ac st p m c cc nL s args "SweeperRounds$World" R cells slots F Lc) (hG : DG A D ac ad s σ H locs) {k : Nat} {v : Int32} (hk : kd k = 1) (hdg : decode cc pc = .ok (.putfield 108, 3))
    (kk : ∀ (σ1 : St), σ1 = wr σ k 1 v → ∀ (H1 : Heap) (locs1 : List Loc), DG A D ac ad s σ1 H1 locs1 → W p l e R s m args below meth c H1 locs1 cells slots QW (F0 m (pc + 3) ls rest)) : W p l e R s m args below meth c H locs cells slots QW (F0 m pc ls (.int v :: .ref (ad k) :: rest)) := mp (j := 1) S hG rfl Fi1 Ft1 Fy1 Fn1 (by decide) wm_154 rfl rfl (by decide) hk rfl rfl (Nat.le_of_ble_eq_true rfl) (by simp [fsOf, wr, wrA, upd]) hdg kk
theorem gf_9_195 {cc : ByteArray} {pc nL F Lc : Nat} {ls : Array Slot} {rest : List Value} {σ : St} {H : Heap} {locs : List Loc} (S : SC A D ac st p m c cc nL s args "SweeperRounds" R cells slots F Lc) (hG : DG A D ac ad s σ H locs) {k : Nat} (hk : kd k = 1) (hdg : decode cc pc = .ok (.getfield 195, 3))
    (kk : W p l e R s m args below meth c H locs cells slots QW (F0 m (pc + 3) ls (.int (σ.1 k 1) :: rest))) : W p l e R s m args below meth c H locs cells slots QW (F0 m pc ls (.ref (ad k) :: rest)) := mg (j := 1) S hG rfl Fi1 (by decide) wm_155 rfl (by decide) hk rfl hdg kk
theorem pf_9_195 {cc : ByteArray} {pc nL F Lc : Nat} {ls : Array Slot} {rest : List Value} {σ : St} {H : Heap} {locs : List Loc} (S : SC A D ac st p m c cc nL s args "SweeperRounds" R cells slots F Lc) (hG : DG A D ac ad s σ H locs) {k : Nat} {v : Int32} (hk : kd k = 1) (hdg : decode cc pc = .ok (.putfield 195, 3))
    (kk : ∀ (σ1 : St), σ1 = wr σ k 1 v → ∀ (H1 : Heap) (locs1 : List Loc), DG A D ac ad s σ1 H1 locs1 → W p l e R s m args below meth c H1 locs1 cells slots QW (F0 m (pc + 3) ls rest)) : W p l e R s m args below meth c H locs cells slots QW (F0 m pc ls (.int v :: .ref (ad k) :: rest)) := mp (j := 1) S hG rfl Fi1 Ft1 Fy1 Fn1 (by decide) wm_155 rfl rfl (by decide) hk rfl rfl (Nat.le_of_ble_eq_true rfl) (by simp [fsOf, wr, wrA, upd]) hdg kk
theorem gf_1_16 {cc : ByteArray} {pc nL F Lc : Nat} {ls : Array Slot} {rest : List Value} {σ : St} {H : Heap} {locs : List Loc} (S : SC A D ac st p m c cc nL s args "SweeperRounds$Leg" R cells slots F Lc) (hG : DG A D ac ad s σ H locs) {k : Nat} (hk : kd k = 1) (hdg : decode cc pc = .ok (.getfield 16, 3))
    (kk : W p l e R s m args below meth c H locs cells slots QW (F0 m (pc + 3) ls (.int (σ.1 k 2) :: rest))) : W p l e R s m args below meth c H locs cells slots QW (F0 m pc ls (.ref (ad k) :: rest)) := mg (j := 2) S hG rfl Fi1 (by decide) wm_156 rfl (by decide) hk rfl hdg kk
theorem pf_1_16 {cc : ByteArray} {pc nL F Lc : Nat} {ls : Array Slot} {rest : List Value} {σ : St} {H : Heap} {locs : List Loc} (S : SC A D ac st p m c cc nL s args "SweeperRounds$Leg" R cells slots F Lc) (hG : DG A D ac ad s σ H locs) {k : Nat} {v : Int32} (hk : kd k = 1) (hdg : decode cc pc = .ok (.putfield 16, 3))
    (kk : ∀ (σ1 : St), σ1 = wr σ k 2 v → ∀ (H1 : Heap) (locs1 : List Loc), DG A D ac ad s σ1 H1 locs1 → W p l e R s m args below meth c H1 locs1 cells slots QW (F0 m (pc + 3) ls rest)) : W p l e R s m args below meth c H locs cells slots QW (F0 m pc ls (.int v :: .ref (ad k) :: rest)) := mp (j := 2) S hG rfl Fi1 Ft1 Fy1 Fn1 (by decide) wm_156 rfl rfl (by decide) hk rfl rfl (Nat.le_of_ble_eq_true rfl) (by simp [fsOf, wr, wrA, upd]) hdg kk
theorem gf_5_37 {cc : ByteArray} {pc nL F Lc : Nat} {ls : Array Slot} {rest : List Value} {σ : St} {H : Heap} {locs : List Loc} (S : SC A D ac st p m c cc nL s args "SweeperRounds$Round" R cells slots F Lc) (hG : DG A D ac ad s σ H locs) {k : Nat} (hk : kd k = 1) (hdg : decode cc pc = .ok (.getfield 37, 3))
    (kk : W p l e R s m args below meth c H locs cells slots QW (F0 m (pc + 3) ls (.int (σ.1 k 2) :: rest))) : W p l e R s m args below meth c H locs cells slots QW (F0 m pc ls (.ref (ad k) :: rest)) := mg (j := 2) S hG rfl Fi1 (by decide) wm_157 rfl (by decide) hk rfl hdg kk
theorem pf_5_37 {cc : ByteArray} {pc nL F Lc : Nat} {ls : Array Slot} {rest : List Value} {σ : St} {H : Heap} {locs : List Loc} (S : SC A D ac st p m c cc nL s args "SweeperRounds$Round" R cells slots F Lc) (hG : DG A D ac ad s σ H locs) {k : Nat} {v : Int32} (hk : kd k = 1) (hdg : decode cc pc = .ok (.putfield 37, 3))
    (kk : ∀ (σ1 : St), σ1 = wr σ k 2 v → ∀ (H1 : Heap) (locs1 : List Loc), DG A D ac ad s σ1 H1 locs1 → W p l e R s m args below meth c H1 locs1 cells slots QW (F0 m (pc + 3) ls rest)) : W p l e R s m args below meth c H locs cells slots QW (F0 m pc ls (.int v :: .ref (ad k) :: rest)) := mp (j := 2) S hG rfl Fi1 Ft1 Fy1 Fn1 (by decide) wm_157 rfl rfl (by decide) hk rfl rfl (Nat.le_of_ble_eq_true rfl) (by simp [fsOf, wr, wrA, upd]) hdg kk
theorem gf_9_202 {cc : ByteArray} {pc nL F Lc : Nat} {ls : Array Slot} {rest : List Value} {σ : St} {H : Heap} {locs : List Loc} (S : SC A D ac st p m c cc nL s args "SweeperRounds" R cells slots F Lc) (hG : DG A D ac ad s σ H locs) {k : Nat} (hk : kd k = 1) (hdg : decode cc pc = .ok (.getfield 202, 3))
    (kk : W p l e R s m args below meth c H locs cells slots QW (F0 m (pc + 3) ls (.int (σ.1 k 2) :: rest))) : W p l e R s m args below meth c H locs cells slots QW (F0 m pc ls (.ref (ad k) :: rest)) := mg (j := 2) S hG rfl Fi1 (by decide) wm_158 rfl (by decide) hk rfl hdg kk
theorem pf_9_202 {cc : ByteArray} {pc nL F Lc : Nat} {ls : Array Slot} {rest : List Value} {σ : St} {H : Heap} {locs : List Loc} (S : SC A D ac st p m c cc nL s args "SweeperRounds" R cells slots F Lc) (hG : DG A D ac ad s σ H locs) {k : Nat} {v : Int32} (hk : kd k = 1) (hdg : decode cc pc = .ok (.putfield 202, 3))
    (kk : ∀ (σ1 : St), σ1 = wr σ k 2 v → ∀ (H1 : Heap) (locs1 : List Loc), DG A D ac ad s σ1 H1 locs1 → W p l e R s m args below meth c H1 locs1 cells slots QW (F0 m (pc + 3) ls rest)) : W p l e R s m args below meth c H locs cells slots QW (F0 m pc ls (.int v :: .ref (ad k) :: rest)) := mp (j := 2) S hG rfl Fi1 Ft1 Fy1 Fn1 (by decide) wm_158 rfl rfl (by decide) hk rfl rfl (Nat.le_of_ble_eq_true rfl) (by simp [fsOf, wr, wrA, upd]) hdg kk
theorem gf_1_19 {cc : ByteArray} {pc nL F Lc : Nat} {ls : Array Slot} {rest : List Value} {σ : St} {H : Heap} {locs : List Loc} (S : SC A D ac st p m c cc nL s args "SweeperRounds$Leg" R cells slots F Lc) (hG : DG A D ac ad s σ H locs) {k : Nat} (hk : kd k = 1) (hdg : decode cc pc = .ok (.getfield 19, 3))
    (kk : W p l e R s m args below meth c H locs cells slots QW (F0 m (pc + 3) ls (.int (σ.1 k 3) :: rest))) : W p l e R s m args below meth c H locs cells slots QW (F0 m pc ls (.ref (ad k) :: rest)) := mg (j := 3) S hG rfl Fi1 (by decide) wm_159 rfl (by decide) hk rfl hdg kk
theorem pf_1_19 {cc : ByteArray} {pc nL F Lc : Nat} {ls : Array Slot} {rest : List Value} {σ : St} {H : Heap} {locs : List Loc} (S : SC A D ac st p m c cc nL s args "SweeperRounds$Leg" R cells slots F Lc) (hG : DG A D ac ad s σ H locs) {k : Nat} {v : Int32} (hk : kd k = 1) (hdg : decode cc pc = .ok (.putfield 19, 3))
    (kk : ∀ (σ1 : St), σ1 = wr σ k 3 v → ∀ (H1 : Heap) (locs1 : List Loc), DG A D ac ad s σ1 H1 locs1 → W p l e R s m args below meth c H1 locs1 cells slots QW (F0 m (pc + 3) ls rest)) : W p l e R s m args below meth c H locs cells slots QW (F0 m pc ls (.int v :: .ref (ad k) :: rest)) := mp (j := 3) S hG rfl Fi1 Ft1 Fy1 Fn1 (by decide) wm_159 rfl rfl (by decide) hk rfl rfl (Nat.le_of_ble_eq_true rfl) (by simp [fsOf, wr, wrA, upd]) hdg kk
theorem gf_5_42 {cc : ByteArray} {pc nL F Lc : Nat} {ls : Array Slot} {rest : List Value} {σ : St} {H : Heap} {locs : List Loc} (S : SC A D ac st p m c cc nL s args "SweeperRounds$Round" R cells slots F Lc) (hG : DG A D ac ad s σ H locs) {k : Nat} (hk : kd k = 1) (hdg : decode cc pc = .ok (.getfield 42, 3))
    (kk : W p l e R s m args below meth c H locs cells slots QW (F0 m (pc + 3) ls (.int (σ.1 k 3) :: rest))) : W p l e R s m args below meth c H locs cells slots QW (F0 m pc ls (.ref (ad k) :: rest)) := mg (j := 3) S hG rfl Fi1 (by decide) wm_160 rfl (by decide) hk rfl hdg kk
theorem pf_5_42 {cc : ByteArray} {pc nL F Lc : Nat} {ls : Array Slot} {rest : List Value} {σ : St} {H : Heap} {locs : List Loc} (S : SC A D ac st p m c cc nL s args "SweeperRounds$Round" R cells slots F Lc) (hG : DG A D ac ad s σ H locs) {k : Nat} {v : Int32} (hk : kd k = 1) (hdg : decode cc pc = .ok (.putfield 42, 3))
    (kk : ∀ (σ1 : St), σ1 = wr σ k 3 v → ∀ (H1 : Heap) (locs1 : List Loc), DG A D ac ad s σ1 H1 locs1 → W p l e R s m args below meth c H1 locs1 cells slots QW (F0 m (pc + 3) ls rest)) : W p l e R s m args below meth c H locs cells slots QW (F0 m pc ls (.int v :: .ref (ad k) :: rest)) := mp (j := 3) S hG rfl Fi1 Ft1 Fy1 Fn1 (by decide) wm_160 rfl rfl (by decide) hk rfl rfl (Nat.le_of_ble_eq_true rfl) (by simp [fsOf, wr, wrA, upd]) hdg kk
theorem gf_9_205 {cc : ByteArray} {pc nL F Lc : Nat} {ls : Array Slot} {rest : List Value} {σ : St} {H : Heap} {locs : List Loc} (S : SC A D ac st p m c cc nL s args "SweeperRounds" R cells slots F Lc) (hG : DG A D ac ad s σ H locs) {k : Nat} (hk : kd k = 1) (hdg : decode cc pc = .ok (.getfield 205, 3))
    (kk : W p l e R s m args below meth c H locs cells slots QW (F0 m (pc + 3) ls (.int (σ.1 k 3) :: rest))) : W p l e R s m args below meth c H locs cells slots QW (F0 m pc ls (.ref (ad k) :: rest)) := mg (j := 3) S hG rfl Fi1 (by decide) wm_161 rfl (by decide) hk rfl hdg kk
theorem pf_9_205 {cc : ByteArray} {pc nL F Lc : Nat} {ls : Array Slot} {rest : List Value} {σ : St} {H : Heap} {locs : List Loc} (S : SC A D ac st p m c cc nL s args "SweeperRounds" R cells slots F Lc) (hG : DG A D ac ad s σ H locs) {k : Nat} {v : Int32} (hk : kd k = 1) (hdg : decode cc pc = .ok (.putfield 205, 3))
    (kk : ∀ (σ1 : St), σ1 = wr σ k 3 v → ∀ (H1 : Heap) (locs1 : List Loc), DG A D ac ad s σ1 H1 locs1 → W p l e R s m args below meth c H1 locs1 cells slots QW (F0 m (pc + 3) ls rest)) : W p l e R s m args below meth c H locs cells slots QW (F0 m pc ls (.int v :: .ref (ad k) :: rest)) := mp (j := 3) S hG rfl Fi1 Ft1 Fy1 Fn1 (by decide) wm_161 rfl rfl (by decide) hk rfl rfl (Nat.le_of_ble_eq_true rfl) (by simp [fsOf, wr, wrA, upd]) hdg kk
theorem gf_8_11 {cc : ByteArray} {pc nL F Lc : Nat} {ls : Array Slot} {rest : List Value} {σ : St} {H : Heap} {locs : List Loc} (S : SC A D ac st p m c cc nL s args "SweeperRounds$World" R cells slots F Lc) (hG : DG A D ac ad s σ H locs) {k : Nat} (hk : kd k = 8) (hdg : decode cc pc = .ok (.getfield 11, 3))
    (kk : W p l e R s m args below meth c H locs cells slots QW (F0 m (pc + 3) ls (.ref (ad (k + 1)) :: rest))) : W p l e R s m args below meth c H locs cells slots QW (F0 m pc ls (.ref (ad k) :: rest)) := mg (j := 0) S hG rfl Fi8 (by decide) wm_176 rfl (by decide) hk rfl hdg kk
theorem gf_5_48 {cc : ByteArray} {pc nL F Lc : Nat} {ls : Array Slot} {rest : List Value} {σ : St} {H : Heap} {locs : List Loc} (S : SC A D ac st p m c cc nL s args "SweeperRounds$Round" R cells slots F Lc) (hG : DG A D ac ad s σ H locs) {k : Nat} (hk : kd k = 8) (hdg : decode cc pc = .ok (.getfield 48, 3))
    (kk : W p l e R s m args below meth c H locs cells slots QW (F0 m (pc + 3) ls (.ref (ad (k + 1)) :: rest))) : W p l e R s m args below meth c H locs cells slots QW (F0 m pc ls (.ref (ad k) :: rest)) := mg (j := 0) S hG rfl Fi8 (by decide) wm_177 rfl (by decide) hk rfl hdg kk
theorem gf_9_122 {cc : ByteArray} {pc nL F Lc : Nat} {ls : Array Slot} {rest : List Value} {σ : St} {H : Heap} {locs : List Loc} (S : SC A D ac st p m c cc nL s args "SweeperRounds" R cells slots F Lc) (hG : DG A D ac ad s σ H locs) {k : Nat} (hk : kd k = 8) (hdg : decode cc pc = .ok (.getfield 122, 3))
    (kk : W p l e R s m args below meth c H locs cells slots QW (F0 m (pc + 3) ls (.ref (ad (k + 1)) :: rest))) : W p l e R s m args below meth c H locs cells slots QW (F0 m pc ls (.ref (ad k) :: rest)) := mg (j := 0) S hG rfl Fi8 (by decide) wm_178 rfl (by decide) hk rfl hdg kk
theorem gf_8_52 {cc : ByteArray} {pc nL F Lc : Nat} {ls : Array Slot} {rest : List Value} {σ : St} {H : Heap} {locs : List Loc} (S : SC A D ac st p m c cc nL s args "SweeperRounds$World" R cells slots F Lc) (hG : DG A D ac ad s σ H locs) {k : Nat} (hk : kd k = 8) (hdg : decode cc pc = .ok (.getfield 52, 3))
    (kk : W p l e R s m args below meth c H locs cells slots QW (F0 m (pc + 3) ls (.int (σ.1 k 1) :: rest))) : W p l e R s m args below meth c H locs cells slots QW (F0 m pc ls (.ref (ad k) :: rest)) := mg (j := 1) S hG rfl Fi8 (by decide) wm_179 rfl (by decide) hk rfl hdg kk
theorem pf_8_52 {cc : ByteArray} {pc nL F Lc : Nat} {ls : Array Slot} {rest : List Value} {σ : St} {H : Heap} {locs : List Loc} (S : SC A D ac st p m c cc nL s args "SweeperRounds$World" R cells slots F Lc) (hG : DG A D ac ad s σ H locs) {k : Nat} {v : Int32} (hk : kd k = 8) (hdg : decode cc pc = .ok (.putfield 52, 3))
    (kk : ∀ (σ1 : St), σ1 = wr σ k 1 v → ∀ (H1 : Heap) (locs1 : List Loc), DG A D ac ad s σ1 H1 locs1 → W p l e R s m args below meth c H1 locs1 cells slots QW (F0 m (pc + 3) ls rest)) : W p l e R s m args below meth c H locs cells slots QW (F0 m pc ls (.int v :: .ref (ad k) :: rest)) := mp (j := 1) S hG rfl Fi8 Ft8 Fy8 Fn8 (by decide) wm_179 rfl rfl (by decide) hk rfl rfl (Nat.le_of_ble_eq_true rfl) (by simp [fsOf, wr, wrA, upd]) hdg kk
theorem gf_9_70 {cc : ByteArray} {pc nL F Lc : Nat} {ls : Array Slot} {rest : List Value} {σ : St} {H : Heap} {locs : List Loc} (S : SC A D ac st p m c cc nL s args "SweeperRounds" R cells slots F Lc) (hG : DG A D ac ad s σ H locs) {k : Nat} (hk : kd k = 8) (hdg : decode cc pc = .ok (.getfield 70, 3))
    (kk : W p l e R s m args below meth c H locs cells slots QW (F0 m (pc + 3) ls (.int (σ.1 k 1) :: rest))) : W p l e R s m args below meth c H locs cells slots QW (F0 m pc ls (.ref (ad k) :: rest)) := mg (j := 1) S hG rfl Fi8 (by decide) wm_180 rfl (by decide) hk rfl hdg kk
theorem pf_9_70 {cc : ByteArray} {pc nL F Lc : Nat} {ls : Array Slot} {rest : List Value} {σ : St} {H : Heap} {locs : List Loc} (S : SC A D ac st p m c cc nL s args "SweeperRounds" R cells slots F Lc) (hG : DG A D ac ad s σ H locs) {k : Nat} {v : Int32} (hk : kd k = 8) (hdg : decode cc pc = .ok (.putfield 70, 3))
    (kk : ∀ (σ1 : St), σ1 = wr σ k 1 v → ∀ (H1 : Heap) (locs1 : List Loc), DG A D ac ad s σ1 H1 locs1 → W p l e R s m args below meth c H1 locs1 cells slots QW (F0 m (pc + 3) ls rest)) : W p l e R s m args below meth c H locs cells slots QW (F0 m pc ls (.int v :: .ref (ad k) :: rest)) := mp (j := 1) S hG rfl Fi8 Ft8 Fy8 Fn8 (by decide) wm_180 rfl rfl (by decide) hk rfl rfl (Nat.le_of_ble_eq_true rfl) (by simp [fsOf, wr, wrA, upd]) hdg kk
theorem gf_8_19 {cc : ByteArray} {pc nL F Lc : Nat} {ls : Array Slot} {rest : List Value} {σ : St} {H : Heap} {locs : List Loc} (S : SC A D ac st p m c cc nL s args "SweeperRounds$World" R cells slots F Lc) (hG : DG A D ac ad s σ H locs) {k : Nat} (hk : kd k = 8) (hdg : decode cc pc = .ok (.getfield 19, 3))
    (kk : W p l e R s m args below meth c H locs cells slots QW (F0 m (pc + 3) ls (.ref (ad (k + 2)) :: rest))) : W p l e R s m args below meth c H locs cells slots QW (F0 m pc ls (.ref (ad k) :: rest)) := mg (j := 2) S hG rfl Fi8 (by decide) wm_181 rfl (by decide) hk rfl hdg kk
theorem gf_5_33 {cc : ByteArray} {pc nL F Lc : Nat} {ls : Array Slot} {rest : List Value} {σ : St} {H : Heap} {locs : List Loc} (S : SC A D ac st p m c cc nL s args "SweeperRounds$Round" R cells slots F Lc) (hG : DG A D ac ad s σ H locs) {k : Nat} (hk : kd k = 8) (hdg : decode cc pc = .ok (.getfield 33, 3))
    (kk : W p l e R s m args below meth c H locs cells slots QW (F0 m (pc + 3) ls (.ref (ad (k + 2)) :: rest))) : W p l e R s m args below meth c H locs cells slots QW (F0 m pc ls (.ref (ad k) :: rest)) := mg (j := 2) S hG rfl Fi8 (by decide) wm_182 rfl (by decide) hk rfl hdg kk
theorem gf_9_186 {cc : ByteArray} {pc nL F Lc : Nat} {ls : Array Slot} {rest : List Value} {σ : St} {H : Heap} {locs : List Loc} (S : SC A D ac st p m c cc nL s args "SweeperRounds" R cells slots F Lc) (hG : DG A D ac ad s σ H locs) {k : Nat} (hk : kd k = 8) (hdg : decode cc pc = .ok (.getfield 186, 3))
    (kk : W p l e R s m args below meth c H locs cells slots QW (F0 m (pc + 3) ls (.ref (ad (k + 2)) :: rest))) : W p l e R s m args below meth c H locs cells slots QW (F0 m pc ls (.ref (ad k) :: rest)) := mg (j := 2) S hG rfl Fi8 (by decide) wm_183 rfl (by decide) hk rfl hdg kk
theorem gf_5_30 {cc : ByteArray} {pc nL F Lc : Nat} {ls : Array Slot} {rest : List Value} {σ : St} {H : Heap} {locs : List Loc} (S : SC A D ac st p m c cc nL s args "SweeperRounds$Round" R cells slots F Lc) (hG : DG A D ac ad s σ H locs) {k : Nat} (hk : kd k = 8) (hdg : decode cc pc = .ok (.getfield 30, 3))
    (kk : W p l e R s m args below meth c H locs cells slots QW (F0 m (pc + 3) ls (.int (σ.1 k 3) :: rest))) : W p l e R s m args below meth c H locs cells slots QW (F0 m pc ls (.ref (ad k) :: rest)) := mg (j := 3) S hG rfl Fi8 (by decide) wm_184 rfl (by decide) hk rfl hdg kk
theorem pf_5_30 {cc : ByteArray} {pc nL F Lc : Nat} {ls : Array Slot} {rest : List Value} {σ : St} {H : Heap} {locs : List Loc} (S : SC A D ac st p m c cc nL s args "SweeperRounds$Round" R cells slots F Lc) (hG : DG A D ac ad s σ H locs) {k : Nat} {v : Int32} (hk : kd k = 8) (hdg : decode cc pc = .ok (.putfield 30, 3))
    (kk : ∀ (σ1 : St), σ1 = wr σ k 3 v → ∀ (H1 : Heap) (locs1 : List Loc), DG A D ac ad s σ1 H1 locs1 → W p l e R s m args below meth c H1 locs1 cells slots QW (F0 m (pc + 3) ls rest)) : W p l e R s m args below meth c H locs cells slots QW (F0 m pc ls (.int v :: .ref (ad k) :: rest)) := mp (j := 3) S hG rfl Fi8 Ft8 Fy8 Fn8 (by decide) wm_184 rfl rfl (by decide) hk rfl rfl (Nat.le_of_ble_eq_true rfl) (by simp [fsOf, wr, wrA, upd]) hdg kk
theorem gf_8_59 {cc : ByteArray} {pc nL F Lc : Nat} {ls : Array Slot} {rest : List Value} {σ : St} {H : Heap} {locs : List Loc} (S : SC A D ac st p m c cc nL s args "SweeperRounds$World" R cells slots F Lc) (hG : DG A D ac ad s σ H locs) {k : Nat} (hk : kd k = 8) (hdg : decode cc pc = .ok (.getfield 59, 3))
    (kk : W p l e R s m args below meth c H locs cells slots QW (F0 m (pc + 3) ls (.int (σ.1 k 3) :: rest))) : W p l e R s m args below meth c H locs cells slots QW (F0 m pc ls (.ref (ad k) :: rest)) := mg (j := 3) S hG rfl Fi8 (by decide) wm_185 rfl (by decide) hk rfl hdg kk
theorem pf_8_59 {cc : ByteArray} {pc nL F Lc : Nat} {ls : Array Slot} {rest : List Value} {σ : St} {H : Heap} {locs : List Loc} (S : SC A D ac st p m c cc nL s args "SweeperRounds$World" R cells slots F Lc) (hG : DG A D ac ad s σ H locs) {k : Nat} {v : Int32} (hk : kd k = 8) (hdg : decode cc pc = .ok (.putfield 59, 3))
    (kk : ∀ (σ1 : St), σ1 = wr σ k 3 v → ∀ (H1 : Heap) (locs1 : List Loc), DG A D ac ad s σ1 H1 locs1 → W p l e R s m args below meth c H1 locs1 cells slots QW (F0 m (pc + 3) ls rest)) : W p l e R s m args below meth c H locs cells slots QW (F0 m pc ls (.int v :: .ref (ad k) :: rest)) := mp (j := 3) S hG rfl Fi8 Ft8 Fy8 Fn8 (by decide) wm_185 rfl rfl (by decide) hk rfl rfl (Nat.le_of_ble_eq_true rfl) (by simp [fsOf, wr, wrA, upd]) hdg kk
theorem gf_9_108 {cc : ByteArray} {pc nL F Lc : Nat} {ls : Array Slot} {rest : List Value} {σ : St} {H : Heap} {locs : List Loc} (S : SC A D ac st p m c cc nL s args "SweeperRounds" R cells slots F Lc) (hG : DG A D ac ad s σ H locs) {k : Nat} (hk : kd k = 8) (hdg : decode cc pc = .ok (.getfield 108, 3))
    (kk : W p l e R s m args below meth c H locs cells slots QW (F0 m (pc + 3) ls (.int (σ.1 k 3) :: rest))) : W p l e R s m args below meth c H locs cells slots QW (F0 m pc ls (.ref (ad k) :: rest)) := mg (j := 3) S hG rfl Fi8 (by decide) wm_186 rfl (by decide) hk rfl hdg kk
theorem pf_9_108 {cc : ByteArray} {pc nL F Lc : Nat} {ls : Array Slot} {rest : List Value} {σ : St} {H : Heap} {locs : List Loc} (S : SC A D ac st p m c cc nL s args "SweeperRounds" R cells slots F Lc) (hG : DG A D ac ad s σ H locs) {k : Nat} {v : Int32} (hk : kd k = 8) (hdg : decode cc pc = .ok (.putfield 108, 3))
    (kk : ∀ (σ1 : St), σ1 = wr σ k 3 v → ∀ (H1 : Heap) (locs1 : List Loc), DG A D ac ad s σ1 H1 locs1 → W p l e R s m args below meth c H1 locs1 cells slots QW (F0 m (pc + 3) ls rest)) : W p l e R s m args below meth c H locs cells slots QW (F0 m pc ls (.int v :: .ref (ad k) :: rest)) := mp (j := 3) S hG rfl Fi8 Ft8 Fy8 Fn8 (by decide) wm_186 rfl rfl (by decide) hk rfl rfl (Nat.le_of_ble_eq_true rfl) (by simp [fsOf, wr, wrA, upd]) hdg kk
theorem gf_8_65 {cc : ByteArray} {pc nL F Lc : Nat} {ls : Array Slot} {rest : List Value} {σ : St} {H : Heap} {locs : List Loc} (S : SC A D ac st p m c cc nL s args "SweeperRounds$World" R cells slots F Lc) (hG : DG A D ac ad s σ H locs) {k : Nat} (hk : kd k = 8) (hdg : decode cc pc = .ok (.getfield 65, 3))
    (kk : W p l e R s m args below meth c H locs cells slots QW (F0 m (pc + 3) ls (.int (σ.1 k 4) :: rest))) : W p l e R s m args below meth c H locs cells slots QW (F0 m pc ls (.ref (ad k) :: rest)) := mg (j := 4) S hG rfl Fi8 (by decide) wm_187 rfl (by decide) hk rfl hdg kk
theorem pf_8_65 {cc : ByteArray} {pc nL F Lc : Nat} {ls : Array Slot} {rest : List Value} {σ : St} {H : Heap} {locs : List Loc} (S : SC A D ac st p m c cc nL s args "SweeperRounds$World" R cells slots F Lc) (hG : DG A D ac ad s σ H locs) {k : Nat} {v : Int32} (hk : kd k = 8) (hB : isB v) (hdg : decode cc pc = .ok (.putfield 65, 3))
    (kk : ∀ (σ1 : St), σ1 = wr σ k 4 v → ∀ (H1 : Heap) (locs1 : List Loc), DG A D ac ad s σ1 H1 locs1 → W p l e R s m args below meth c H1 locs1 cells slots QW (F0 m (pc + 3) ls rest)) : W p l e R s m args below meth c H locs cells slots QW (F0 m pc ls (.int v :: .ref (ad k) :: rest)) := mp (j := 4) S hG rfl Fi8 Ft8 Fy8 Fn8 (by decide) wm_187 rfl rfl (by decide) hk (isB_nar hB) (isB_fit hB) (Nat.le_of_ble_eq_true rfl) (by simp [fsOf, wr, wrA, upd]) hdg kk
theorem gf_5_153 {cc : ByteArray} {pc nL F Lc : Nat} {ls : Array Slot} {rest : List Value} {σ : St} {H : Heap} {locs : List Loc} (S : SC A D ac st p m c cc nL s args "SweeperRounds$Round" R cells slots F Lc) (hG : DG A D ac ad s σ H locs) {k : Nat} (hk : kd k = 8) (hdg : decode cc pc = .ok (.getfield 153, 3))
    (kk : W p l e R s m args below meth c H locs cells slots QW (F0 m (pc + 3) ls (.int (σ.1 k 4) :: rest))) : W p l e R s m args below meth c H locs cells slots QW (F0 m pc ls (.ref (ad k) :: rest)) := mg (j := 4) S hG rfl Fi8 (by decide) wm_188 rfl (by decide) hk rfl hdg kk
theorem pf_5_153 {cc : ByteArray} {pc nL F Lc : Nat} {ls : Array Slot} {rest : List Value} {σ : St} {H : Heap} {locs : List Loc} (S : SC A D ac st p m c cc nL s args "SweeperRounds$Round" R cells slots F Lc) (hG : DG A D ac ad s σ H locs) {k : Nat} {v : Int32} (hk : kd k = 8) (hB : isB v) (hdg : decode cc pc = .ok (.putfield 153, 3))
    (kk : ∀ (σ1 : St), σ1 = wr σ k 4 v → ∀ (H1 : Heap) (locs1 : List Loc), DG A D ac ad s σ1 H1 locs1 → W p l e R s m args below meth c H1 locs1 cells slots QW (F0 m (pc + 3) ls rest)) : W p l e R s m args below meth c H locs cells slots QW (F0 m pc ls (.int v :: .ref (ad k) :: rest)) := mp (j := 4) S hG rfl Fi8 Ft8 Fy8 Fn8 (by decide) wm_188 rfl rfl (by decide) hk (isB_nar hB) (isB_fit hB) (Nat.le_of_ble_eq_true rfl) (by simp [fsOf, wr, wrA, upd]) hdg kk
theorem gf_9_198 {cc : ByteArray} {pc nL F Lc : Nat} {ls : Array Slot} {rest : List Value} {σ : St} {H : Heap} {locs : List Loc} (S : SC A D ac st p m c cc nL s args "SweeperRounds" R cells slots F Lc) (hG : DG A D ac ad s σ H locs) {k : Nat} (hk : kd k = 8) (hdg : decode cc pc = .ok (.getfield 198, 3))
    (kk : W p l e R s m args below meth c H locs cells slots QW (F0 m (pc + 3) ls (.int (σ.1 k 4) :: rest))) : W p l e R s m args below meth c H locs cells slots QW (F0 m pc ls (.ref (ad k) :: rest)) := mg (j := 4) S hG rfl Fi8 (by decide) wm_189 rfl (by decide) hk rfl hdg kk
theorem pf_9_198 {cc : ByteArray} {pc nL F Lc : Nat} {ls : Array Slot} {rest : List Value} {σ : St} {H : Heap} {locs : List Loc} (S : SC A D ac st p m c cc nL s args "SweeperRounds" R cells slots F Lc) (hG : DG A D ac ad s σ H locs) {k : Nat} {v : Int32} (hk : kd k = 8) (hB : isB v) (hdg : decode cc pc = .ok (.putfield 198, 3))
    (kk : ∀ (σ1 : St), σ1 = wr σ k 4 v → ∀ (H1 : Heap) (locs1 : List Loc), DG A D ac ad s σ1 H1 locs1 → W p l e R s m args below meth c H1 locs1 cells slots QW (F0 m (pc + 3) ls rest)) : W p l e R s m args below meth c H locs cells slots QW (F0 m pc ls (.int v :: .ref (ad k) :: rest)) := mp (j := 4) S hG rfl Fi8 Ft8 Fy8 Fn8 (by decide) wm_189 rfl rfl (by decide) hk (isB_nar hB) (isB_fit hB) (Nat.le_of_ble_eq_true rfl) (by simp [fsOf, wr, wrA, upd]) hdg kk
theorem gf_8_23 {cc : ByteArray} {pc nL F Lc : Nat} {ls : Array Slot} {rest : List Value} {σ : St} {H : Heap} {locs : List Loc} (S : SC A D ac st p m c cc nL s args "SweeperRounds$World" R cells slots F Lc) (hG : DG A D ac ad s σ H locs) {k : Nat} (hk : kd k = 8) (hdg : decode cc pc = .ok (.getfield 23, 3))
    (kk : W p l e R s m args below meth c H locs cells slots QW (F0 m (pc + 3) ls (.ref (ad (k + 3)) :: rest))) : W p l e R s m args below meth c H locs cells slots QW (F0 m pc ls (.ref (ad k) :: rest)) := mg (j := 5) S hG rfl Fi8 (by decide) wm_190 rfl (by decide) hk rfl hdg kk
theorem gf_5_104 {cc : ByteArray} {pc nL F Lc : Nat} {ls : Array Slot} {rest : List Value} {σ : St} {H : Heap} {locs : List Loc} (S : SC A D ac st p m c cc nL s args "SweeperRounds$Round" R cells slots F Lc) (hG : DG A D ac ad s σ H locs) {k : Nat} (hk : kd k = 8) (hdg : decode cc pc = .ok (.getfield 104, 3))
    (kk : W p l e R s m args below meth c H locs cells slots QW (F0 m (pc + 3) ls (.ref (ad (k + 3)) :: rest))) : W p l e R s m args below meth c H locs cells slots QW (F0 m pc ls (.ref (ad k) :: rest)) := mg (j := 5) S hG rfl Fi8 (by decide) wm_191 rfl (by decide) hk rfl hdg kk
theorem gf_9_174 {cc : ByteArray} {pc nL F Lc : Nat} {ls : Array Slot} {rest : List Value} {σ : St} {H : Heap} {locs : List Loc} (S : SC A D ac st p m c cc nL s args "SweeperRounds" R cells slots F Lc) (hG : DG A D ac ad s σ H locs) {k : Nat} (hk : kd k = 8) (hdg : decode cc pc = .ok (.getfield 174, 3))
    (kk : W p l e R s m args below meth c H locs cells slots QW (F0 m (pc + 3) ls (.ref (ad (k + 3)) :: rest))) : W p l e R s m args below meth c H locs cells slots QW (F0 m pc ls (.ref (ad k) :: rest)) := mg (j := 5) S hG rfl Fi8 (by decide) wm_192 rfl (by decide) hk rfl hdg kk
theorem gf_8_48 {cc : ByteArray} {pc nL F Lc : Nat} {ls : Array Slot} {rest : List Value} {σ : St} {H : Heap} {locs : List Loc} (S : SC A D ac st p m c cc nL s args "SweeperRounds$World" R cells slots F Lc) (hG : DG A D ac ad s σ H locs) {k : Nat} (hk : kd k = 8) (hdg : decode cc pc = .ok (.getfield 48, 3))
    (kk : W p l e R s m args below meth c H locs cells slots QW (F0 m (pc + 3) ls (.int (σ.1 k 6) :: rest))) : W p l e R s m args below meth c H locs cells slots QW (F0 m pc ls (.ref (ad k) :: rest)) := mg (j := 6) S hG rfl Fi8 (by decide) wm_193 rfl (by decide) hk rfl hdg kk
theorem pf_8_48 {cc : ByteArray} {pc nL F Lc : Nat} {ls : Array Slot} {rest : List Value} {σ : St} {H : Heap} {locs : List Loc} (S : SC A D ac st p m c cc nL s args "SweeperRounds$World" R cells slots F Lc) (hG : DG A D ac ad s σ H locs) {k : Nat} {v : Int32} (hk : kd k = 8) (hdg : decode cc pc = .ok (.putfield 48, 3))
    (kk : ∀ (σ1 : St), σ1 = wr σ k 6 v → ∀ (H1 : Heap) (locs1 : List Loc), DG A D ac ad s σ1 H1 locs1 → W p l e R s m args below meth c H1 locs1 cells slots QW (F0 m (pc + 3) ls rest)) : W p l e R s m args below meth c H locs cells slots QW (F0 m pc ls (.int v :: .ref (ad k) :: rest)) := mp (j := 6) S hG rfl Fi8 Ft8 Fy8 Fn8 (by decide) wm_193 rfl rfl (by decide) hk rfl rfl (Nat.le_of_ble_eq_true rfl) (by simp [fsOf, wr, wrA, upd]) hdg kk
theorem gf_5_144 {cc : ByteArray} {pc nL F Lc : Nat} {ls : Array Slot} {rest : List Value} {σ : St} {H : Heap} {locs : List Loc} (S : SC A D ac st p m c cc nL s args "SweeperRounds$Round" R cells slots F Lc) (hG : DG A D ac ad s σ H locs) {k : Nat} (hk : kd k = 8) (hdg : decode cc pc = .ok (.getfield 144, 3))
    (kk : W p l e R s m args below meth c H locs cells slots QW (F0 m (pc + 3) ls (.int (σ.1 k 6) :: rest))) : W p l e R s m args below meth c H locs cells slots QW (F0 m pc ls (.ref (ad k) :: rest)) := mg (j := 6) S hG rfl Fi8 (by decide) wm_194 rfl (by decide) hk rfl hdg kk
theorem pf_5_144 {cc : ByteArray} {pc nL F Lc : Nat} {ls : Array Slot} {rest : List Value} {σ : St} {H : Heap} {locs : List Loc} (S : SC A D ac st p m c cc nL s args "SweeperRounds$Round" R cells slots F Lc) (hG : DG A D ac ad s σ H locs) {k : Nat} {v : Int32} (hk : kd k = 8) (hdg : decode cc pc = .ok (.putfield 144, 3))
    (kk : ∀ (σ1 : St), σ1 = wr σ k 6 v → ∀ (H1 : Heap) (locs1 : List Loc), DG A D ac ad s σ1 H1 locs1 → W p l e R s m args below meth c H1 locs1 cells slots QW (F0 m (pc + 3) ls rest)) : W p l e R s m args below meth c H locs cells slots QW (F0 m pc ls (.int v :: .ref (ad k) :: rest)) := mp (j := 6) S hG rfl Fi8 Ft8 Fy8 Fn8 (by decide) wm_194 rfl rfl (by decide) hk rfl rfl (Nat.le_of_ble_eq_true rfl) (by simp [fsOf, wr, wrA, upd]) hdg kk
theorem gf_9_274 {cc : ByteArray} {pc nL F Lc : Nat} {ls : Array Slot} {rest : List Value} {σ : St} {H : Heap} {locs : List Loc} (S : SC A D ac st p m c cc nL s args "SweeperRounds" R cells slots F Lc) (hG : DG A D ac ad s σ H locs) {k : Nat} (hk : kd k = 8) (hdg : decode cc pc = .ok (.getfield 274, 3))
    (kk : W p l e R s m args below meth c H locs cells slots QW (F0 m (pc + 3) ls (.int (σ.1 k 6) :: rest))) : W p l e R s m args below meth c H locs cells slots QW (F0 m pc ls (.ref (ad k) :: rest)) := mg (j := 6) S hG rfl Fi8 (by decide) wm_195 rfl (by decide) hk rfl hdg kk
theorem pf_9_274 {cc : ByteArray} {pc nL F Lc : Nat} {ls : Array Slot} {rest : List Value} {σ : St} {H : Heap} {locs : List Loc} (S : SC A D ac st p m c cc nL s args "SweeperRounds" R cells slots F Lc) (hG : DG A D ac ad s σ H locs) {k : Nat} {v : Int32} (hk : kd k = 8) (hdg : decode cc pc = .ok (.putfield 274, 3))
    (kk : ∀ (σ1 : St), σ1 = wr σ k 6 v → ∀ (H1 : Heap) (locs1 : List Loc), DG A D ac ad s σ1 H1 locs1 → W p l e R s m args below meth c H1 locs1 cells slots QW (F0 m (pc + 3) ls rest)) : W p l e R s m args below meth c H locs cells slots QW (F0 m pc ls (.int v :: .ref (ad k) :: rest)) := mp (j := 6) S hG rfl Fi8 Ft8 Fy8 Fn8 (by decide) wm_195 rfl rfl (by decide) hk rfl rfl (Nat.le_of_ble_eq_true rfl) (by simp [fsOf, wr, wrA, upd]) hdg kk
theorem gf_8_69 {cc : ByteArray} {pc nL F Lc : Nat} {ls : Array Slot} {rest : List Value} {σ : St} {H : Heap} {locs : List Loc} (S : SC A D ac st p m c cc nL s args "SweeperRounds$World" R cells slots F Lc) (hG : DG A D ac ad s σ H locs) {k : Nat} (hk : kd k = 8) (hdg : decode cc pc = .ok (.getfield 69, 3))
    (kk : W p l e R s m args below meth c H locs cells slots QW (F0 m (pc + 3) ls (.int (σ.1 k 7) :: rest))) : W p l e R s m args below meth c H locs cells slots QW (F0 m pc ls (.ref (ad k) :: rest)) := mg (j := 7) S hG rfl Fi8 (by decide) wm_196 rfl (by decide) hk rfl hdg kk
theorem pf_8_69 {cc : ByteArray} {pc nL F Lc : Nat} {ls : Array Slot} {rest : List Value} {σ : St} {H : Heap} {locs : List Loc} (S : SC A D ac st p m c cc nL s args "SweeperRounds$World" R cells slots F Lc) (hG : DG A D ac ad s σ H locs) {k : Nat} {v : Int32} (hk : kd k = 8) (hdg : decode cc pc = .ok (.putfield 69, 3))
    (kk : ∀ (σ1 : St), σ1 = wr σ k 7 v → ∀ (H1 : Heap) (locs1 : List Loc), DG A D ac ad s σ1 H1 locs1 → W p l e R s m args below meth c H1 locs1 cells slots QW (F0 m (pc + 3) ls rest)) : W p l e R s m args below meth c H locs cells slots QW (F0 m pc ls (.int v :: .ref (ad k) :: rest)) := mp (j := 7) S hG rfl Fi8 Ft8 Fy8 Fn8 (by decide) wm_196 rfl rfl (by decide) hk rfl rfl (Nat.le_of_ble_eq_true rfl) (by simp [fsOf, wr, wrA, upd]) hdg kk
theorem gf_5_140 {cc : ByteArray} {pc nL F Lc : Nat} {ls : Array Slot} {rest : List Value} {σ : St} {H : Heap} {locs : List Loc} (S : SC A D ac st p m c cc nL s args "SweeperRounds$Round" R cells slots F Lc) (hG : DG A D ac ad s σ H locs) {k : Nat} (hk : kd k = 8) (hdg : decode cc pc = .ok (.getfield 140, 3))
    (kk : W p l e R s m args below meth c H locs cells slots QW (F0 m (pc + 3) ls (.int (σ.1 k 7) :: rest))) : W p l e R s m args below meth c H locs cells slots QW (F0 m pc ls (.ref (ad k) :: rest)) := mg (j := 7) S hG rfl Fi8 (by decide) wm_197 rfl (by decide) hk rfl hdg kk
theorem pf_5_140 {cc : ByteArray} {pc nL F Lc : Nat} {ls : Array Slot} {rest : List Value} {σ : St} {H : Heap} {locs : List Loc} (S : SC A D ac st p m c cc nL s args "SweeperRounds$Round" R cells slots F Lc) (hG : DG A D ac ad s σ H locs) {k : Nat} {v : Int32} (hk : kd k = 8) (hdg : decode cc pc = .ok (.putfield 140, 3))
    (kk : ∀ (σ1 : St), σ1 = wr σ k 7 v → ∀ (H1 : Heap) (locs1 : List Loc), DG A D ac ad s σ1 H1 locs1 → W p l e R s m args below meth c H1 locs1 cells slots QW (F0 m (pc + 3) ls rest)) : W p l e R s m args below meth c H locs cells slots QW (F0 m pc ls (.int v :: .ref (ad k) :: rest)) := mp (j := 7) S hG rfl Fi8 Ft8 Fy8 Fn8 (by decide) wm_197 rfl rfl (by decide) hk rfl rfl (Nat.le_of_ble_eq_true rfl) (by simp [fsOf, wr, wrA, upd]) hdg kk
theorem gf_9_277 {cc : ByteArray} {pc nL F Lc : Nat} {ls : Array Slot} {rest : List Value} {σ : St} {H : Heap} {locs : List Loc} (S : SC A D ac st p m c cc nL s args "SweeperRounds" R cells slots F Lc) (hG : DG A D ac ad s σ H locs) {k : Nat} (hk : kd k = 8) (hdg : decode cc pc = .ok (.getfield 277, 3))
    (kk : W p l e R s m args below meth c H locs cells slots QW (F0 m (pc + 3) ls (.int (σ.1 k 7) :: rest))) : W p l e R s m args below meth c H locs cells slots QW (F0 m pc ls (.ref (ad k) :: rest)) := mg (j := 7) S hG rfl Fi8 (by decide) wm_198 rfl (by decide) hk rfl hdg kk
theorem pf_9_277 {cc : ByteArray} {pc nL F Lc : Nat} {ls : Array Slot} {rest : List Value} {σ : St} {H : Heap} {locs : List Loc} (S : SC A D ac st p m c cc nL s args "SweeperRounds" R cells slots F Lc) (hG : DG A D ac ad s σ H locs) {k : Nat} {v : Int32} (hk : kd k = 8) (hdg : decode cc pc = .ok (.putfield 277, 3))
    (kk : ∀ (σ1 : St), σ1 = wr σ k 7 v → ∀ (H1 : Heap) (locs1 : List Loc), DG A D ac ad s σ1 H1 locs1 → W p l e R s m args below meth c H1 locs1 cells slots QW (F0 m (pc + 3) ls rest)) : W p l e R s m args below meth c H locs cells slots QW (F0 m pc ls (.int v :: .ref (ad k) :: rest)) := mp (j := 7) S hG rfl Fi8 Ft8 Fy8 Fn8 (by decide) wm_198 rfl rfl (by decide) hk rfl rfl (Nat.le_of_ble_eq_true rfl) (by simp [fsOf, wr, wrA, upd]) hdg kk
theorem gf_8_27 {cc : ByteArray} {pc nL F Lc : Nat} {ls : Array Slot} {rest : List Value} {σ : St} {H : Heap} {locs : List Loc} (S : SC A D ac st p m c cc nL s args "SweeperRounds$World" R cells slots F Lc) (hG : DG A D ac ad s σ H locs) {k : Nat} (hk : kd k = 8) (hdg : decode cc pc = .ok (.getfield 27, 3))
    (kk : W p l e R s m args below meth c H locs cells slots QW (F0 m (pc + 3) ls (.ref (ad (k + 4)) :: rest))) : W p l e R s m args below meth c H locs cells slots QW (F0 m pc ls (.ref (ad k) :: rest)) := mg (j := 8) S hG rfl Fi8 (by decide) wm_199 rfl (by decide) hk rfl hdg kk
theorem gf_9_265 {cc : ByteArray} {pc nL F Lc : Nat} {ls : Array Slot} {rest : List Value} {σ : St} {H : Heap} {locs : List Loc} (S : SC A D ac st p m c cc nL s args "SweeperRounds" R cells slots F Lc) (hG : DG A D ac ad s σ H locs) {k : Nat} (hk : kd k = 8) (hdg : decode cc pc = .ok (.getfield 265, 3))
    (kk : W p l e R s m args below meth c H locs cells slots QW (F0 m (pc + 3) ls (.ref (ad (k + 4)) :: rest))) : W p l e R s m args below meth c H locs cells slots QW (F0 m pc ls (.ref (ad k) :: rest)) := mg (j := 8) S hG rfl Fi8 (by decide) wm_200 rfl (by decide) hk rfl hdg kk
theorem gf_8_33 {cc : ByteArray} {pc nL F Lc : Nat} {ls : Array Slot} {rest : List Value} {σ : St} {H : Heap} {locs : List Loc} (S : SC A D ac st p m c cc nL s args "SweeperRounds$World" R cells slots F Lc) (hG : DG A D ac ad s σ H locs) {k : Nat} (hk : kd k = 8) (hdg : decode cc pc = .ok (.getfield 33, 3))
    (kk : W p l e R s m args below meth c H locs cells slots QW (F0 m (pc + 3) ls (.ref (ad (k + 5)) :: rest))) : W p l e R s m args below meth c H locs cells slots QW (F0 m pc ls (.ref (ad k) :: rest)) := mg (j := 9) S hG rfl Fi8 (by decide) wm_201 rfl (by decide) hk rfl hdg kk
theorem gf_5_15 {cc : ByteArray} {pc nL F Lc : Nat} {ls : Array Slot} {rest : List Value} {σ : St} {H : Heap} {locs : List Loc} (S : SC A D ac st p m c cc nL s args "SweeperRounds$Round" R cells slots F Lc) (hG : DG A D ac ad s σ H locs) {k : Nat} (hk : kd k = 8) (hdg : decode cc pc = .ok (.getfield 15, 3))
    (kk : W p l e R s m args below meth c H locs cells slots QW (F0 m (pc + 3) ls (.ref (ad (k + 5)) :: rest))) : W p l e R s m args below meth c H locs cells slots QW (F0 m pc ls (.ref (ad k) :: rest)) := mg (j := 9) S hG rfl Fi8 (by decide) wm_202 rfl (by decide) hk rfl hdg kk
theorem gf_9_211 {cc : ByteArray} {pc nL F Lc : Nat} {ls : Array Slot} {rest : List Value} {σ : St} {H : Heap} {locs : List Loc} (S : SC A D ac st p m c cc nL s args "SweeperRounds" R cells slots F Lc) (hG : DG A D ac ad s σ H locs) {k : Nat} (hk : kd k = 8) (hdg : decode cc pc = .ok (.getfield 211, 3))
    (kk : W p l e R s m args below meth c H locs cells slots QW (F0 m (pc + 3) ls (.ref (ad (k + 5)) :: rest))) : W p l e R s m args below meth c H locs cells slots QW (F0 m pc ls (.ref (ad k) :: rest)) := mg (j := 9) S hG rfl Fi8 (by decide) wm_203 rfl (by decide) hk rfl hdg kk
theorem gf_8_75 {cc : ByteArray} {pc nL F Lc : Nat} {ls : Array Slot} {rest : List Value} {σ : St} {H : Heap} {locs : List Loc} (S : SC A D ac st p m c cc nL s args "SweeperRounds$World" R cells slots F Lc) (hG : DG A D ac ad s σ H locs) {k : Nat} (hk : kd k = 8) (hdg : decode cc pc = .ok (.getfield 75, 3))
    (kk : W p l e R s m args below meth c H locs cells slots QW (F0 m (pc + 3) ls (.int (σ.1 k 10) :: rest))) : W p l e R s m args below meth c H locs cells slots QW (F0 m pc ls (.ref (ad k) :: rest)) := mg (j := 10) S hG rfl Fi8 (by decide) wm_204 rfl (by decide) hk rfl hdg kk
theorem pf_8_75 {cc : ByteArray} {pc nL F Lc : Nat} {ls : Array Slot} {rest : List Value} {σ : St} {H : Heap} {locs : List Loc} (S : SC A D ac st p m c cc nL s args "SweeperRounds$World" R cells slots F Lc) (hG : DG A D ac ad s σ H locs) {k : Nat} {v : Int32} (hk : kd k = 8) (hdg : decode cc pc = .ok (.putfield 75, 3))
    (kk : ∀ (σ1 : St), σ1 = wr σ k 10 v → ∀ (H1 : Heap) (locs1 : List Loc), DG A D ac ad s σ1 H1 locs1 → W p l e R s m args below meth c H1 locs1 cells slots QW (F0 m (pc + 3) ls rest)) : W p l e R s m args below meth c H locs cells slots QW (F0 m pc ls (.int v :: .ref (ad k) :: rest)) := mp (j := 10) S hG rfl Fi8 Ft8 Fy8 Fn8 (by decide) wm_204 rfl rfl (by decide) hk rfl rfl (Nat.le_of_ble_eq_true rfl) (by simp [fsOf, wr, wrA, upd]) hdg kk
theorem gf_5_150 {cc : ByteArray} {pc nL F Lc : Nat} {ls : Array Slot} {rest : List Value} {σ : St} {H : Heap} {locs : List Loc} (S : SC A D ac st p m c cc nL s args "SweeperRounds$Round" R cells slots F Lc) (hG : DG A D ac ad s σ H locs) {k : Nat} (hk : kd k = 8) (hdg : decode cc pc = .ok (.getfield 150, 3))
    (kk : W p l e R s m args below meth c H locs cells slots QW (F0 m (pc + 3) ls (.int (σ.1 k 10) :: rest))) : W p l e R s m args below meth c H locs cells slots QW (F0 m pc ls (.ref (ad k) :: rest)) := mg (j := 10) S hG rfl Fi8 (by decide) wm_205 rfl (by decide) hk rfl hdg kk
theorem pf_5_150 {cc : ByteArray} {pc nL F Lc : Nat} {ls : Array Slot} {rest : List Value} {σ : St} {H : Heap} {locs : List Loc} (S : SC A D ac st p m c cc nL s args "SweeperRounds$Round" R cells slots F Lc) (hG : DG A D ac ad s σ H locs) {k : Nat} {v : Int32} (hk : kd k = 8) (hdg : decode cc pc = .ok (.putfield 150, 3))
    (kk : ∀ (σ1 : St), σ1 = wr σ k 10 v → ∀ (H1 : Heap) (locs1 : List Loc), DG A D ac ad s σ1 H1 locs1 → W p l e R s m args below meth c H1 locs1 cells slots QW (F0 m (pc + 3) ls rest)) : W p l e R s m args below meth c H locs cells slots QW (F0 m pc ls (.int v :: .ref (ad k) :: rest)) := mp (j := 10) S hG rfl Fi8 Ft8 Fy8 Fn8 (by decide) wm_205 rfl rfl (by decide) hk rfl rfl (Nat.le_of_ble_eq_true rfl) (by simp [fsOf, wr, wrA, upd]) hdg kk
theorem gf_9_227 {cc : ByteArray} {pc nL F Lc : Nat} {ls : Array Slot} {rest : List Value} {σ : St} {H : Heap} {locs : List Loc} (S : SC A D ac st p m c cc nL s args "SweeperRounds" R cells slots F Lc) (hG : DG A D ac ad s σ H locs) {k : Nat} (hk : kd k = 8) (hdg : decode cc pc = .ok (.getfield 227, 3))
    (kk : W p l e R s m args below meth c H locs cells slots QW (F0 m (pc + 3) ls (.int (σ.1 k 10) :: rest))) : W p l e R s m args below meth c H locs cells slots QW (F0 m pc ls (.ref (ad k) :: rest)) := mg (j := 10) S hG rfl Fi8 (by decide) wm_206 rfl (by decide) hk rfl hdg kk
theorem pf_9_227 {cc : ByteArray} {pc nL F Lc : Nat} {ls : Array Slot} {rest : List Value} {σ : St} {H : Heap} {locs : List Loc} (S : SC A D ac st p m c cc nL s args "SweeperRounds" R cells slots F Lc) (hG : DG A D ac ad s σ H locs) {k : Nat} {v : Int32} (hk : kd k = 8) (hdg : decode cc pc = .ok (.putfield 227, 3))
    (kk : ∀ (σ1 : St), σ1 = wr σ k 10 v → ∀ (H1 : Heap) (locs1 : List Loc), DG A D ac ad s σ1 H1 locs1 → W p l e R s m args below meth c H1 locs1 cells slots QW (F0 m (pc + 3) ls rest)) : W p l e R s m args below meth c H locs cells slots QW (F0 m pc ls (.int v :: .ref (ad k) :: rest)) := mp (j := 10) S hG rfl Fi8 Ft8 Fy8 Fn8 (by decide) wm_206 rfl rfl (by decide) hk rfl rfl (Nat.le_of_ble_eq_true rfl) (by simp [fsOf, wr, wrA, upd]) hdg kk
theorem gf_8_78 {cc : ByteArray} {pc nL F Lc : Nat} {ls : Array Slot} {rest : List Value} {σ : St} {H : Heap} {locs : List Loc} (S : SC A D ac st p m c cc nL s args "SweeperRounds$World" R cells slots F Lc) (hG : DG A D ac ad s σ H locs) {k : Nat} (hk : kd k = 8) (hdg : decode cc pc = .ok (.getfield 78, 3))
    (kk : W p l e R s m args below meth c H locs cells slots QW (F0 m (pc + 3) ls (.int (σ.1 k 11) :: rest))) : W p l e R s m args below meth c H locs cells slots QW (F0 m pc ls (.ref (ad k) :: rest)) := mg (j := 11) S hG rfl Fi8 (by decide) wm_207 rfl (by decide) hk rfl hdg kk
theorem pf_8_78 {cc : ByteArray} {pc nL F Lc : Nat} {ls : Array Slot} {rest : List Value} {σ : St} {H : Heap} {locs : List Loc} (S : SC A D ac st p m c cc nL s args "SweeperRounds$World" R cells slots F Lc) (hG : DG A D ac ad s σ H locs) {k : Nat} {v : Int32} (hk : kd k = 8) (hdg : decode cc pc = .ok (.putfield 78, 3))
    (kk : ∀ (σ1 : St), σ1 = wr σ k 11 v → ∀ (H1 : Heap) (locs1 : List Loc), DG A D ac ad s σ1 H1 locs1 → W p l e R s m args below meth c H1 locs1 cells slots QW (F0 m (pc + 3) ls rest)) : W p l e R s m args below meth c H locs cells slots QW (F0 m pc ls (.int v :: .ref (ad k) :: rest)) := mp (j := 11) S hG rfl Fi8 Ft8 Fy8 Fn8 (by decide) wm_207 rfl rfl (by decide) hk rfl rfl (Nat.le_of_ble_eq_true rfl) (by simp [fsOf, wr, wrA, upd]) hdg kk
theorem gf_9_280 {cc : ByteArray} {pc nL F Lc : Nat} {ls : Array Slot} {rest : List Value} {σ : St} {H : Heap} {locs : List Loc} (S : SC A D ac st p m c cc nL s args "SweeperRounds" R cells slots F Lc) (hG : DG A D ac ad s σ H locs) {k : Nat} (hk : kd k = 8) (hdg : decode cc pc = .ok (.getfield 280, 3))
    (kk : W p l e R s m args below meth c H locs cells slots QW (F0 m (pc + 3) ls (.int (σ.1 k 11) :: rest))) : W p l e R s m args below meth c H locs cells slots QW (F0 m pc ls (.ref (ad k) :: rest)) := mg (j := 11) S hG rfl Fi8 (by decide) wm_208 rfl (by decide) hk rfl hdg kk
theorem pf_9_280 {cc : ByteArray} {pc nL F Lc : Nat} {ls : Array Slot} {rest : List Value} {σ : St} {H : Heap} {locs : List Loc} (S : SC A D ac st p m c cc nL s args "SweeperRounds" R cells slots F Lc) (hG : DG A D ac ad s σ H locs) {k : Nat} {v : Int32} (hk : kd k = 8) (hdg : decode cc pc = .ok (.putfield 280, 3))
    (kk : ∀ (σ1 : St), σ1 = wr σ k 11 v → ∀ (H1 : Heap) (locs1 : List Loc), DG A D ac ad s σ1 H1 locs1 → W p l e R s m args below meth c H1 locs1 cells slots QW (F0 m (pc + 3) ls rest)) : W p l e R s m args below meth c H locs cells slots QW (F0 m pc ls (.int v :: .ref (ad k) :: rest)) := mp (j := 11) S hG rfl Fi8 Ft8 Fy8 Fn8 (by decide) wm_208 rfl rfl (by decide) hk rfl rfl (Nat.le_of_ble_eq_true rfl) (by simp [fsOf, wr, wrA, upd]) hdg kk
theorem gf_5_9 {cc : ByteArray} {pc nL F Lc : Nat} {ls : Array Slot} {rest : List Value} {σ : St} {H : Heap} {locs : List Loc} (S : SC A D ac st p m c cc nL s args "SweeperRounds$Round" R cells slots F Lc) (hG : DG A D ac ad s σ H locs) {k : Nat} (hk : kd k = 5) (hdg : decode cc pc = .ok (.getfield 9, 3))
    (kk : W p l e R s m args below meth c H locs cells slots QW (F0 m (pc + 3) ls (.ref (ad (rfR k)) :: rest))) : W p l e R s m args below meth c H locs cells slots QW (F0 m pc ls (.ref (ad k) :: rest)) := mg (j := 0) S hG rfl Fi5 (by decide) wm_240 rfl (by decide) hk rfl hdg kk
theorem gf_5_26 {cc : ByteArray} {pc nL F Lc : Nat} {ls : Array Slot} {rest : List Value} {σ : St} {H : Heap} {locs : List Loc} (S : SC A D ac st p m c cc nL s args "SweeperRounds$Round" R cells slots F Lc) (hG : DG A D ac ad s σ H locs) {k : Nat} (hk : kd k = 5) (hdg : decode cc pc = .ok (.getfield 26, 3))
    (kk : W p l e R s m args below meth c H locs cells slots QW (F0 m (pc + 3) ls (.int (σ.1 k 1) :: rest))) : W p l e R s m args below meth c H locs cells slots QW (F0 m pc ls (.ref (ad k) :: rest)) := mg (j := 1) S hG rfl Fi5 (by decide) wm_241 rfl (by decide) hk rfl hdg kk
theorem pf_5_26 {cc : ByteArray} {pc nL F Lc : Nat} {ls : Array Slot} {rest : List Value} {σ : St} {H : Heap} {locs : List Loc} (S : SC A D ac st p m c cc nL s args "SweeperRounds$Round" R cells slots F Lc) (hG : DG A D ac ad s σ H locs) {k : Nat} {v : Int32} (hk : kd k = 5) (hdg : decode cc pc = .ok (.putfield 26, 3))
    (kk : ∀ (σ1 : St), σ1 = wr σ k 1 v → ∀ (H1 : Heap) (locs1 : List Loc), DG A D ac ad s σ1 H1 locs1 → W p l e R s m args below meth c H1 locs1 cells slots QW (F0 m (pc + 3) ls rest)) : W p l e R s m args below meth c H locs cells slots QW (F0 m pc ls (.int v :: .ref (ad k) :: rest)) := mp (j := 1) S hG rfl Fi5 Ft5 Fy5 Fn5 (by decide) wm_241 rfl rfl (by decide) hk rfl rfl (Nat.le_of_ble_eq_true rfl) (by simp [fsOf, wr, wrA, upd]) hdg kk
theorem gf_0_11 {cc : ByteArray} {pc nL F Lc : Nat} {ls : Array Slot} {rest : List Value} {σ : St} {H : Heap} {locs : List Loc} (S : SC A D ac st p m c cc nL s args "SweeperRounds$History" R cells slots F Lc) (hG : DG A D ac ad s σ H locs) {k : Nat} (hk : kd k = 0) (hdg : decode cc pc = .ok (.getfield 11, 3))
    (kk : W p l e R s m args below meth c H locs cells slots QW (F0 m (pc + 3) ls (.ref (ad (k + 1)) :: rest))) : W p l e R s m args below meth c H locs cells slots QW (F0 m pc ls (.ref (ad k) :: rest)) := mg (j := 0) S hG rfl Fi0 (by decide) wm_256 rfl (by decide) hk rfl hdg kk
theorem gf_0_18 {cc : ByteArray} {pc nL F Lc : Nat} {ls : Array Slot} {rest : List Value} {σ : St} {H : Heap} {locs : List Loc} (S : SC A D ac st p m c cc nL s args "SweeperRounds$History" R cells slots F Lc) (hG : DG A D ac ad s σ H locs) {k : Nat} (hk : kd k = 0) (hdg : decode cc pc = .ok (.getfield 18, 3))
    (kk : W p l e R s m args below meth c H locs cells slots QW (F0 m (pc + 3) ls (.int (σ.1 k 1) :: rest))) : W p l e R s m args below meth c H locs cells slots QW (F0 m pc ls (.ref (ad k) :: rest)) := mg (j := 1) S hG rfl Fi0 (by decide) wm_257 rfl (by decide) hk rfl hdg kk
theorem pf_0_18 {cc : ByteArray} {pc nL F Lc : Nat} {ls : Array Slot} {rest : List Value} {σ : St} {H : Heap} {locs : List Loc} (S : SC A D ac st p m c cc nL s args "SweeperRounds$History" R cells slots F Lc) (hG : DG A D ac ad s σ H locs) {k : Nat} {v : Int32} (hk : kd k = 0) (hdg : decode cc pc = .ok (.putfield 18, 3))
    (kk : ∀ (σ1 : St), σ1 = wr σ k 1 v → ∀ (H1 : Heap) (locs1 : List Loc), DG A D ac ad s σ1 H1 locs1 → W p l e R s m args below meth c H1 locs1 cells slots QW (F0 m (pc + 3) ls rest)) : W p l e R s m args below meth c H locs cells slots QW (F0 m pc ls (.int v :: .ref (ad k) :: rest)) := mp (j := 1) S hG rfl Fi0 Ft0 Fy0 Fn0 (by decide) wm_257 rfl rfl (by decide) hk rfl rfl (Nat.le_of_ble_eq_true rfl) (by simp [fsOf, wr, wrA, upd]) hdg kk
theorem gf_0_26 {cc : ByteArray} {pc nL F Lc : Nat} {ls : Array Slot} {rest : List Value} {σ : St} {H : Heap} {locs : List Loc} (S : SC A D ac st p m c cc nL s args "SweeperRounds$History" R cells slots F Lc) (hG : DG A D ac ad s σ H locs) {k : Nat} (hk : kd k = 0) (hdg : decode cc pc = .ok (.getfield 26, 3))
    (kk : W p l e R s m args below meth c H locs cells slots QW (F0 m (pc + 3) ls (.int (σ.1 k 2) :: rest))) : W p l e R s m args below meth c H locs cells slots QW (F0 m pc ls (.ref (ad k) :: rest)) := mg (j := 2) S hG rfl Fi0 (by decide) wm_258 rfl (by decide) hk rfl hdg kk
theorem pf_0_26 {cc : ByteArray} {pc nL F Lc : Nat} {ls : Array Slot} {rest : List Value} {σ : St} {H : Heap} {locs : List Loc} (S : SC A D ac st p m c cc nL s args "SweeperRounds$History" R cells slots F Lc) (hG : DG A D ac ad s σ H locs) {k : Nat} {v : Int32} (hk : kd k = 0) (hdg : decode cc pc = .ok (.putfield 26, 3))
    (kk : ∀ (σ1 : St), σ1 = wr σ k 2 v → ∀ (H1 : Heap) (locs1 : List Loc), DG A D ac ad s σ1 H1 locs1 → W p l e R s m args below meth c H1 locs1 cells slots QW (F0 m (pc + 3) ls rest)) : W p l e R s m args below meth c H locs cells slots QW (F0 m pc ls (.int v :: .ref (ad k) :: rest)) := mp (j := 2) S hG rfl Fi0 Ft0 Fy0 Fn0 (by decide) wm_258 rfl rfl (by decide) hk rfl rfl (Nat.le_of_ble_eq_true rfl) (by simp [fsOf, wr, wrA, upd]) hdg kk
theorem gf_9_268 {cc : ByteArray} {pc nL F Lc : Nat} {ls : Array Slot} {rest : List Value} {σ : St} {H : Heap} {locs : List Loc} (S : SC A D ac st p m c cc nL s args "SweeperRounds" R cells slots F Lc) (hG : DG A D ac ad s σ H locs) {k : Nat} (hk : kd k = 0) (hdg : decode cc pc = .ok (.getfield 268, 3))
    (kk : W p l e R s m args below meth c H locs cells slots QW (F0 m (pc + 3) ls (.int (σ.1 k 2) :: rest))) : W p l e R s m args below meth c H locs cells slots QW (F0 m pc ls (.ref (ad k) :: rest)) := mg (j := 2) S hG rfl Fi0 (by decide) wm_259 rfl (by decide) hk rfl hdg kk
theorem pf_9_268 {cc : ByteArray} {pc nL F Lc : Nat} {ls : Array Slot} {rest : List Value} {σ : St} {H : Heap} {locs : List Loc} (S : SC A D ac st p m c cc nL s args "SweeperRounds" R cells slots F Lc) (hG : DG A D ac ad s σ H locs) {k : Nat} {v : Int32} (hk : kd k = 0) (hdg : decode cc pc = .ok (.putfield 268, 3))
    (kk : ∀ (σ1 : St), σ1 = wr σ k 2 v → ∀ (H1 : Heap) (locs1 : List Loc), DG A D ac ad s σ1 H1 locs1 → W p l e R s m args below meth c H1 locs1 cells slots QW (F0 m (pc + 3) ls rest)) : W p l e R s m args below meth c H locs cells slots QW (F0 m pc ls (.int v :: .ref (ad k) :: rest)) := mp (j := 2) S hG rfl Fi0 Ft0 Fy0 Fn0 (by decide) wm_259 rfl rfl (by decide) hk rfl rfl (Nat.le_of_ble_eq_true rfl) (by simp [fsOf, wr, wrA, upd]) hdg kk
theorem gf_2_9 {cc : ByteArray} {pc nL F Lc : Nat} {ls : Array Slot} {rest : List Value} {σ : St} {H : Heap} {locs : List Loc} (S : SC A D ac st p m c cc nL s args "SweeperRounds$Orders" R cells slots F Lc) (hG : DG A D ac ad s σ H locs) {k : Nat} (hk : kd k = 2) (hdg : decode cc pc = .ok (.getfield 9, 3))
    (kk : W p l e R s m args below meth c H locs cells slots QW (F0 m (pc + 3) ls (.ref (ad (k + 1)) :: rest))) : W p l e R s m args below meth c H locs cells slots QW (F0 m pc ls (.ref (ad k) :: rest)) := mg (j := 0) S hG rfl Fi2 (by decide) wm_273 rfl (by decide) hk rfl hdg kk
theorem gf_2_15 {cc : ByteArray} {pc nL F Lc : Nat} {ls : Array Slot} {rest : List Value} {σ : St} {H : Heap} {locs : List Loc} (S : SC A D ac st p m c cc nL s args "SweeperRounds$Orders" R cells slots F Lc) (hG : DG A D ac ad s σ H locs) {k : Nat} (hk : kd k = 2) (hdg : decode cc pc = .ok (.getfield 15, 3))
    (kk : W p l e R s m args below meth c H locs cells slots QW (F0 m (pc + 3) ls (.ref (ad (k + 2)) :: rest))) : W p l e R s m args below meth c H locs cells slots QW (F0 m pc ls (.ref (ad k) :: rest)) := mg (j := 2) S hG rfl Fi2 (by decide) wm_274 rfl (by decide) hk rfl hdg kk
theorem gf_9_10 {cc : ByteArray} {pc nL F Lc : Nat} {ls : Array Slot} {rest : List Value} {σ : St} {H : Heap} {locs : List Loc} (S : SC A D ac st p m c cc nL s args "SweeperRounds" R cells slots F Lc) (hG : DG A D ac ad s σ H locs) {k : Nat} (hk : kd k = 9) (hdg : decode cc pc = .ok (.getfield 10, 3))
    (kk : W p l e R s m args below meth c H locs cells slots QW (F0 m (pc + 3) ls (.ref (ad (k + 1)) :: rest))) : W p l e R s m args below meth c H locs cells slots QW (F0 m pc ls (.ref (ad k) :: rest)) := mg (j := 0) S hG rfl Fi9 (by decide) wm_284 rfl (by decide) hk rfl hdg kk
theorem gf_9_19 {cc : ByteArray} {pc nL F Lc : Nat} {ls : Array Slot} {rest : List Value} {σ : St} {H : Heap} {locs : List Loc} (S : SC A D ac st p m c cc nL s args "SweeperRounds" R cells slots F Lc) (hG : DG A D ac ad s σ H locs) {k : Nat} (hk : kd k = 9) (hdg : decode cc pc = .ok (.getfield 19, 3))
    (kk : W p l e R s m args below meth c H locs cells slots QW (F0 m (pc + 3) ls (.ref (ad (k + 3)) :: rest))) : W p l e R s m args below meth c H locs cells slots QW (F0 m pc ls (.ref (ad k) :: rest)) := mg (j := 1) S hG rfl Fi9 (by decide) wm_285 rfl (by decide) hk rfl hdg kk
theorem gf_9_26 {cc : ByteArray} {pc nL F Lc : Nat} {ls : Array Slot} {rest : List Value} {σ : St} {H : Heap} {locs : List Loc} (S : SC A D ac st p m c cc nL s args "SweeperRounds" R cells slots F Lc) (hG : DG A D ac ad s σ H locs) {k : Nat} (hk : kd k = 9) (hdg : decode cc pc = .ok (.getfield 26, 3))
    (kk : W p l e R s m args below meth c H locs cells slots QW (F0 m (pc + 3) ls (.ref (ad (k + 7)) :: rest))) : W p l e R s m args below meth c H locs cells slots QW (F0 m pc ls (.ref (ad k) :: rest)) := mg (j := 2) S hG rfl Fi9 (by decide) wm_286 rfl (by decide) hk rfl hdg kk
theorem gf_9_35 {cc : ByteArray} {pc nL F Lc : Nat} {ls : Array Slot} {rest : List Value} {σ : St} {H : Heap} {locs : List Loc} (S : SC A D ac st p m c cc nL s args "SweeperRounds" R cells slots F Lc) (hG : DG A D ac ad s σ H locs) {k : Nat} (hk : kd k = 9) (hdg : decode cc pc = .ok (.getfield 35, 3))
    (kk : W p l e R s m args below meth c H locs cells slots QW (F0 m (pc + 3) ls (.ref (ad (k + 41)) :: rest))) : W p l e R s m args below meth c H locs cells slots QW (F0 m pc ls (.ref (ad k) :: rest)) := mg (j := 3) S hG rfl Fi9 (by decide) wm_287 rfl (by decide) hk rfl hdg kk
theorem gf_9_42 {cc : ByteArray} {pc nL F Lc : Nat} {ls : Array Slot} {rest : List Value} {σ : St} {H : Heap} {locs : List Loc} (S : SC A D ac st p m c cc nL s args "SweeperRounds" R cells slots F Lc) (hG : DG A D ac ad s σ H locs) {k : Nat} (hk : kd k = 9) (hdg : decode cc pc = .ok (.getfield 42, 3))
    (kk : W p l e R s m args below meth c H locs cells slots QW (F0 m (pc + 3) ls (.ref (ad (k + 42)) :: rest))) : W p l e R s m args below meth c H locs cells slots QW (F0 m pc ls (.ref (ad k) :: rest)) := mg (j := 4) S hG rfl Fi9 (by decide) wm_288 rfl (by decide) hk rfl hdg kk
theorem gf_9_46 {cc : ByteArray} {pc nL F Lc : Nat} {ls : Array Slot} {rest : List Value} {σ : St} {H : Heap} {locs : List Loc} (S : SC A D ac st p m c cc nL s args "SweeperRounds" R cells slots F Lc) (hG : DG A D ac ad s σ H locs) {k : Nat} (hk : kd k = 9) (hdg : decode cc pc = .ok (.getfield 46, 3))
    (kk : W p l e R s m args below meth c H locs cells slots QW (F0 m (pc + 3) ls (.ref (ad (k + 316)) :: rest))) : W p l e R s m args below meth c H locs cells slots QW (F0 m pc ls (.ref (ad k) :: rest)) := mg (j := 5) S hG rfl Fi9 (by decide) wm_289 rfl (by decide) hk rfl hdg kk
theorem gf_9_49 {cc : ByteArray} {pc nL F Lc : Nat} {ls : Array Slot} {rest : List Value} {σ : St} {H : Heap} {locs : List Loc} (S : SC A D ac st p m c cc nL s args "SweeperRounds" R cells slots F Lc) (hG : DG A D ac ad s σ H locs) {k : Nat} (hk : kd k = 9) (hdg : decode cc pc = .ok (.getfield 49, 3))
    (kk : W p l e R s m args below meth c H locs cells slots QW (F0 m (pc + 3) ls (.ref (ad (k + 350)) :: rest))) : W p l e R s m args below meth c H locs cells slots QW (F0 m pc ls (.ref (ad k) :: rest)) := mg (j := 6) S hG rfl Fi9 (by decide) wm_290 rfl (by decide) hk rfl hdg kk
theorem gf_9_55 {cc : ByteArray} {pc nL F Lc : Nat} {ls : Array Slot} {rest : List Value} {σ : St} {H : Heap} {locs : List Loc} (S : SC A D ac st p m c cc nL s args "SweeperRounds" R cells slots F Lc) (hG : DG A D ac ad s σ H locs) {k : Nat} (hk : kd k = 9) (hdg : decode cc pc = .ok (.getfield 55, 3))
    (kk : W p l e R s m args below meth c H locs cells slots QW (F0 m (pc + 3) ls (.ref (ad (k + 351)) :: rest))) : W p l e R s m args below meth c H locs cells slots QW (F0 m pc ls (.ref (ad k) :: rest)) := mg (j := 7) S hG rfl Fi9 (by decide) wm_291 rfl (by decide) hk rfl hdg kk
theorem gf_9_59 {cc : ByteArray} {pc nL F Lc : Nat} {ls : Array Slot} {rest : List Value} {σ : St} {H : Heap} {locs : List Loc} (S : SC A D ac st p m c cc nL s args "SweeperRounds" R cells slots F Lc) (hG : DG A D ac ad s σ H locs) {k : Nat} (hk : kd k = 9) (hdg : decode cc pc = .ok (.getfield 59, 3))
    (kk : W p l e R s m args below meth c H locs cells slots QW (F0 m (pc + 3) ls (.int (σ.1 k 8) :: rest))) : W p l e R s m args below meth c H locs cells slots QW (F0 m pc ls (.ref (ad k) :: rest)) := mg (j := 8) S hG rfl Fi9 (by decide) wm_292 rfl (by decide) hk rfl hdg kk
theorem pf_9_59 {cc : ByteArray} {pc nL F Lc : Nat} {ls : Array Slot} {rest : List Value} {σ : St} {H : Heap} {locs : List Loc} (S : SC A D ac st p m c cc nL s args "SweeperRounds" R cells slots F Lc) (hG : DG A D ac ad s σ H locs) {k : Nat} {v : Int32} (hk : kd k = 9) (hdg : decode cc pc = .ok (.putfield 59, 3))
    (kk : ∀ (σ1 : St), σ1 = wr σ k 8 v → ∀ (H1 : Heap) (locs1 : List Loc), DG A D ac ad s σ1 H1 locs1 → W p l e R s m args below meth c H1 locs1 cells slots QW (F0 m (pc + 3) ls rest)) : W p l e R s m args below meth c H locs cells slots QW (F0 m pc ls (.int v :: .ref (ad k) :: rest)) := mp (j := 8) S hG rfl Fi9 Ft9 Fy9 Fn9 (by decide) wm_292 rfl rfl (by decide) hk rfl rfl (Nat.le_of_ble_eq_true rfl) (by simp [fsOf, wr, wrA, upd]) hdg kk
theorem iv_8_72 {cc : ByteArray} {pc nL F Lc : Nat} {ls : Array Slot} {rest : List Value} {σ : St} {H : Heap} {locs : List Loc} {a0 : Nat} {Q : St → Prop} (S : SC A D ac st p m c cc nL s args "SweeperRounds$World" R cells slots F Lc) (hsz : ls.size = nL) (hG : DG A D ac ad s σ H locs) {kb : Nat} (hk : kd kb = 4) (hM : Met l y_4_copyFrom (Cond.code y_4_copyFrom prog_6_method_3_code 2 none :: wA) { frames := 0, cells := 0, slots := 0, locals := 0 } (va_Pc [.ref (ad kb), .ref (ad a0)] (GSt A D ac ad st σ)) (va_Qv Q (GSt A D ac ad st) A) 0 0 A) (hR : 0 + 1 ≤ F ∧ 8 + (2 + 11) + 0 ≤ Lc) (hcat : (rest.map fun v => v.category).sum ≤ 8) (hdg : decode cc pc = .ok (.invokevirtual 72, 3))
    (kk : ∀ (u : St), Q u → ∀ (H1 : Heap) (locs1 : List Loc), DG A D ac ad s u H1 locs1 → W p l e R s m args below meth c H1 locs1 cells slots QW (F0 m (pc + 3) ls (rest))) : W p l e R s m args below meth c H locs cells slots QW (F0 m pc ls (.ref (ad a0) :: .ref (ad kb) :: rest)) :=
  mcVv [.ref (ad a0)] S hsz hG hM (mcw (n := 1) S wm_340 wm_341 wm_342 wm_14 wm_343 (by decide) hR) rfl (by decide) hk rfl hcat hdg kk
theorem iv_8_62 {cc : ByteArray} {pc nL F Lc : Nat} {ls : Array Slot} {rest : List Value} {σ : St} {H : Heap} {locs : List Loc} {a0 : Nat} {Q : St → Prop} (S : SC A D ac st p m c cc nL s args "SweeperRounds$World" R cells slots F Lc) (hsz : ls.size = nL) (hG : DG A D ac ad s σ H locs) {kb : Nat} (hk : kd kb = 1) (hM : Met l y_1_copyFrom (Cond.code y_1_copyFrom prog_3_method_2_code 2 none :: wA) { frames := 0, cells := 0, slots := 0, locals := 0 } (va_Pc [.ref (ad kb), .ref (ad a0)] (GSt A D ac ad st σ)) (va_Qv Q (GSt A D ac ad st) A) 0 0 A) (hR : 0 + 1 ≤ F ∧ 8 + (2 + 11) + 0 ≤ Lc) (hcat : (rest.map fun v => v.category).sum ≤ 8) (hdg : decode cc pc = .ok (.invokevirtual 62, 3))
    (kk : ∀ (u : St), Q u → ∀ (H1 : Heap) (locs1 : List Loc), DG A D ac ad s u H1 locs1 → W p l e R s m args below meth c H1 locs1 cells slots QW (F0 m (pc + 3) ls (rest))) : W p l e R s m args below meth c H locs cells slots QW (F0 m pc ls (.ref (ad a0) :: .ref (ad kb) :: rest)) :=
  mcVv [.ref (ad a0)] S hsz hG hM (mcw (n := 1) S wm_336 wm_337 wm_338 wm_15 wm_339 (by decide) hR) rfl (by decide) hk rfl hcat hdg kk
theorem iv_8_55 {cc : ByteArray} {pc nL F Lc : Nat} {ls : Array Slot} {rest : List Value} {σ : St} {H : Heap} {locs : List Loc} {a0 : Nat} {Q : St → Prop} (S : SC A D ac st p m c cc nL s args "SweeperRounds$World" R cells slots F Lc) (hsz : ls.size = nL) (hG : DG A D ac ad s σ H locs) {kb : Nat} (hk : kd kb = 6) (hM : Met l y_6_copyFrom (Cond.code y_6_copyFrom prog_8_method_3_code 3 none :: wA) { frames := 0, cells := 0, slots := 0, locals := 0 } (va_Pc [.ref (ad kb), .ref (ad a0)] (GSt A D ac ad st σ)) (va_Qv Q (GSt A D ac ad st) A) 0 0 A) (hR : 0 + 1 ≤ F ∧ 8 + (3 + 11) + 0 ≤ Lc) (hcat : (rest.map fun v => v.category).sum ≤ 8) (hdg : decode cc pc = .ok (.invokevirtual 55, 3))
    (kk : ∀ (u : St), Q u → ∀ (H1 : Heap) (locs1 : List Loc), DG A D ac ad s u H1 locs1 → W p l e R s m args below meth c H1 locs1 cells slots QW (F0 m (pc + 3) ls (rest))) : W p l e R s m args below meth c H locs cells slots QW (F0 m pc ls (.ref (ad a0) :: .ref (ad kb) :: rest)) :=
  mcVv [.ref (ad a0)] S hsz hG hM (mcw (n := 1) S wm_332 wm_333 wm_334 wm_12 wm_335 (by decide) hR) rfl (by decide) hk rfl hcat hdg kk
theorem iv_0_22 {cc : ByteArray} {pc nL F Lc : Nat} {ls : Array Slot} {rest : List Value} {σ : St} {H : Heap} {locs : List Loc} {a0 : Nat} {Q : St → Prop} (S : SC A D ac st p m c cc nL s args "SweeperRounds$History" R cells slots F Lc) (hsz : ls.size = nL) (hG : DG A D ac ad s σ H locs) {kb : Nat} (hk : kd kb = 8) (hM : Met l y_8_copyFrom (Cond.code y_8_copyFrom prog_10_method_2_code 3 none :: wA) { frames := 1, cells := 0, slots := 0, locals := 22 } (va_Pc [.ref (ad kb), .ref (ad a0)] (GSt A D ac ad st σ)) (va_Qv Q (GSt A D ac ad st) A) 0 0 A) (hR : 1 + 1 ≤ F ∧ 8 + (3 + 11) + 22 ≤ Lc) (hcat : (rest.map fun v => v.category).sum ≤ 8) (hdg : decode cc pc = .ok (.invokevirtual 22, 3))
    (kk : ∀ (u : St), Q u → ∀ (H1 : Heap) (locs1 : List Loc), DG A D ac ad s u H1 locs1 → W p l e R s m args below meth c H1 locs1 cells slots QW (F0 m (pc + 3) ls (rest))) : W p l e R s m args below meth c H locs cells slots QW (F0 m pc ls (.ref (ad a0) :: .ref (ad kb) :: rest)) :=
  mcVv [.ref (ad a0)] S hsz hG hM (mcw (n := 1) S wm_328 wm_329 wm_330 wm_13 wm_331 (by decide) hR) rfl (by decide) hk rfl hcat hdg kk
theorem iv_8_95 {cc : ByteArray} {pc nL F Lc : Nat} {ls : Array Slot} {rest : List Value} {σ : St} {H : Heap} {locs : List Loc}  {Q : St → Prop} (S : SC A D ac st p m c cc nL s args "SweeperRounds$World" R cells slots F Lc) (hsz : ls.size = nL) (hG : DG A D ac ad s σ H locs) {kb : Nat} (hk : kd kb = 6) (hM : Met l y_6_clear (Cond.code y_6_clear prog_8_method_2_code 2 none :: wA) { frames := 0, cells := 0, slots := 0, locals := 0 } (va_Pc [.ref (ad kb)] (GSt A D ac ad st σ)) (va_Qv Q (GSt A D ac ad st) A) 0 0 A) (hR : 0 + 1 ≤ F ∧ 8 + (2 + 11) + 0 ≤ Lc) (hcat : (rest.map fun v => v.category).sum ≤ 8) (hdg : decode cc pc = .ok (.invokevirtual 95, 3))
    (kk : ∀ (u : St), Q u → ∀ (H1 : Heap) (locs1 : List Loc), DG A D ac ad s u H1 locs1 → W p l e R s m args below meth c H1 locs1 cells slots QW (F0 m (pc + 3) ls (rest))) : W p l e R s m args below meth c H locs cells slots QW (F0 m pc ls (.ref (ad kb) :: rest)) :=
  mcVv [] S hsz hG hM (mcw (n := 0) S wm_489 wm_490 wm_491 wm_12 wm_492 (by decide) hR) rfl (by decide) hk rfl hcat hdg kk
theorem iv_9_80 {cc : ByteArray} {pc nL F Lc : Nat} {ls : Array Slot} {rest : List Value} {σ : St} {H : Heap} {locs : List Loc} {a0 : Nat} {Q : St → Prop} (S : SC A D ac st p m c cc nL s args "SweeperRounds" R cells slots F Lc) (hsz : ls.size = nL) (hG : DG A D ac ad s σ H locs) {kb : Nat} (hk : kd kb = 0) (hM : Met l y_0_remember (Cond.code y_0_remember prog_2_method_2_code 2 none :: wA) { frames := 2, cells := 0, slots := 0, locals := 44 } (va_Pc [.ref (ad kb), .ref (ad a0)] (GSt A D ac ad st σ)) (va_Qv Q (GSt A D ac ad st) A) 0 0 A) (hR : 2 + 1 ≤ F ∧ 8 + (2 + 11) + 44 ≤ Lc) (hcat : (rest.map fun v => v.category).sum ≤ 8) (hdg : decode cc pc = .ok (.invokevirtual 80, 3))
    (kk : ∀ (u : St), Q u → ∀ (H1 : Heap) (locs1 : List Loc), DG A D ac ad s u H1 locs1 → W p l e R s m args below meth c H1 locs1 cells slots QW (F0 m (pc + 3) ls (rest))) : W p l e R s m args below meth c H locs cells slots QW (F0 m pc ls (.ref (ad a0) :: .ref (ad kb) :: rest)) :=
  mcVv [.ref (ad a0)] S hsz hG hM (mcw (n := 1) S wm_324 wm_325 wm_326 wm_18 wm_327 (by decide) hR) rfl (by decide) hk rfl hcat hdg kk
theorem iv_9_96 {cc : ByteArray} {pc nL F Lc : Nat} {ls : Array Slot} {rest : List Value} {σ : St} {H : Heap} {locs : List Loc} {a0 : Int32} {a1 : Int32} {a2 : Int32} {Q : Int32 → St → Prop} (S : SC A D ac st p m c cc nL s args "SweeperRounds" R cells slots F Lc) (hsz : ls.size = nL) (hG : DG A D ac ad s σ H locs) {kb : Nat} (hk : kd kb = 8) (hM : Met l y_8_appendStreet (Cond.code y_8_appendStreet prog_10_method_9_code 5 (some .int) :: wA) { frames := 1, cells := 0, slots := 0, locals := 21 } (va_Pc [.ref (ad kb), .int a0, .int a1, .int a2] (GSt A D ac ad st σ)) (va_Qi Q (GSt A D ac ad st) A) 0 0 A) (hR : 1 + 1 ≤ F ∧ 8 + (5 + 11) + 21 ≤ Lc) (hcat : (rest.map fun v => v.category).sum ≤ 8) (hdg : decode cc pc = .ok (.invokevirtual 96, 3))
    (kk : ∀ (r : Int32) (u : St), Q r u → ∀ (H1 : Heap) (locs1 : List Loc), DG A D ac ad s u H1 locs1 → W p l e R s m args below meth c H1 locs1 cells slots QW (F0 m (pc + 3) ls (.int r :: rest))) : W p l e R s m args below meth c H locs cells slots QW (F0 m pc ls (.int a2 :: .int a1 :: .int a0 :: .ref (ad kb) :: rest)) :=
  mcVi [.int a0, .int a1, .int a2] S hsz hG hM (mcw (n := 3) S wm_485 wm_486 wm_487 wm_13 wm_488 (by decide) hR) rfl (by decide) hk rfl hcat hdg kk
theorem iv_8_81 {cc : ByteArray} {pc nL F Lc : Nat} {ls : Array Slot} {rest : List Value} {σ : St} {H : Heap} {locs : List Loc} {a0 : Int32} {Q : Int32 → St → Prop} (S : SC A D ac st p m c cc nL s args "SweeperRounds$World" R cells slots F Lc) (hsz : ls.size = nL) (hG : DG A D ac ad s σ H locs) {kb : Nat} (hk : kd kb = 8) (hM : Met l y_8_hasStreet (Cond.code y_8_hasStreet prog_10_method_3_code 2 (some .boolean) :: wA) { frames := 0, cells := 0, slots := 0, locals := 0 } (va_Pc [.ref (ad kb), .int a0] (GSt A D ac ad st σ)) (va_Qi Q (GSt A D ac ad st) A) 0 0 A) (hR : 0 + 1 ≤ F ∧ 8 + (2 + 11) + 0 ≤ Lc) (hcat : (rest.map fun v => v.category).sum ≤ 8) (hdg : decode cc pc = .ok (.invokevirtual 81, 3))
    (kk : ∀ (r : Int32) (u : St), Q r u → ∀ (H1 : Heap) (locs1 : List Loc), DG A D ac ad s u H1 locs1 → W p l e R s m args below meth c H1 locs1 cells slots QW (F0 m (pc + 3) ls (.int r :: rest))) : W p l e R s m args below meth c H locs cells slots QW (F0 m pc ls (.int a0 :: .ref (ad kb) :: rest)) :=
  mcVi [.int a0] S hsz hG hM (mcw (n := 1) S wm_320 wm_321 wm_322 wm_13 wm_323 (by decide) hR) rfl (by decide) hk rfl hcat hdg kk
theorem iv_9_111 {cc : ByteArray} {pc nL F Lc : Nat} {ls : Array Slot} {rest : List Value} {σ : St} {H : Heap} {locs : List Loc} {a0 : Int32} {a1 : Int32} {a2 : Int32} {Q : Int32 → St → Prop} (S : SC A D ac st p m c cc nL s args "SweeperRounds" R cells slots F Lc) (hsz : ls.size = nL) (hG : DG A D ac ad s σ H locs) {kb : Nat} (hk : kd kb = 8) (hM : Met l y_8_hasCell (Cond.code y_8_hasCell prog_10_method_4_code 4 (some .boolean) :: wA) { frames := 1, cells := 0, slots := 0, locals := 21 } (va_Pc [.ref (ad kb), .int a0, .int a1, .int a2] (GSt A D ac ad st σ)) (va_Qi Q (GSt A D ac ad st) A) 0 0 A) (hR : 1 + 1 ≤ F ∧ 8 + (4 + 11) + 21 ≤ Lc) (hcat : (rest.map fun v => v.category).sum ≤ 8) (hdg : decode cc pc = .ok (.invokevirtual 111, 3))
    (kk : ∀ (r : Int32) (u : St), Q r u → ∀ (H1 : Heap) (locs1 : List Loc), DG A D ac ad s u H1 locs1 → W p l e R s m args below meth c H1 locs1 cells slots QW (F0 m (pc + 3) ls (.int r :: rest))) : W p l e R s m args below meth c H locs cells slots QW (F0 m pc ls (.int a2 :: .int a1 :: .int a0 :: .ref (ad kb) :: rest)) :=
  mcVi [.int a0, .int a1, .int a2] S hsz hG hM (mcw (n := 3) S wm_316 wm_317 wm_318 wm_13 wm_319 (by decide) hR) rfl (by decide) hk rfl hcat hdg kk
theorem iv_9_115 {cc : ByteArray} {pc nL F Lc : Nat} {ls : Array Slot} {rest : List Value} {σ : St} {H : Heap} {locs : List Loc} {a0 : Int32} {a1 : Int32} {Q : Int32 → St → Prop} (S : SC A D ac st p m c cc nL s args "SweeperRounds" R cells slots F Lc) (hsz : ls.size = nL) (hG : DG A D ac ad s σ H locs) (hM : Met l y_9_placeOf (Cond.code y_9_placeOf prog_1_method_32_code 2 (some .int) :: wA) { frames := 0, cells := 0, slots := 0, locals := 0 } (va_Pc [.int a0, .int a1] (GSt A D ac ad st σ)) (va_Qi Q (GSt A D ac ad st) A) 0 0 A) (hR : 0 + 1 ≤ F ∧ 8 + (2 + 11) + 0 ≤ Lc) (hcat : (rest.map fun v => v.category).sum ≤ 8) (hdg : decode cc pc = .ok (.invokestatic 115, 3))
    (kk : ∀ (r : Int32) (u : St), Q r u → ∀ (H1 : Heap) (locs1 : List Loc), DG A D ac ad s u H1 locs1 → W p l e R s m args below meth c H1 locs1 cells slots QW (F0 m (pc + 3) ls (.int r :: rest))) : W p l e R s m args below meth c H locs cells slots QW (F0 m pc ls (.int a1 :: .int a0 :: rest)) :=
  mcSi [.int a0, .int a1] S hsz hG hM (mcws (n := 2) S wm_347 wm_348 wm_9 wm_349 (by decide) hR) rfl hcat hdg kk
theorem iv_9_119 {cc : ByteArray} {pc nL F Lc : Nat} {ls : Array Slot} {rest : List Value} {σ : St} {H : Heap} {locs : List Loc} {a0 : Int32} {a1 : Int32} {a2 : Int32} {Q : Int32 → St → Prop} (S : SC A D ac st p m c cc nL s args "SweeperRounds" R cells slots F Lc) (hsz : ls.size = nL) (hG : DG A D ac ad s σ H locs) {kb : Nat} (hk : kd kb = 8) (hM : Met l y_8_layDirt (Cond.code y_8_layDirt prog_10_method_14_code 6 (some .int) :: wA) { frames := 1, cells := 0, slots := 0, locals := 16 } (va_Pc [.ref (ad kb), .int a0, .int a1, .int a2] (GSt A D ac ad st σ)) (va_Qi Q (GSt A D ac ad st) A) 0 0 A) (hR : 1 + 1 ≤ F ∧ 8 + (6 + 11) + 16 ≤ Lc) (hcat : (rest.map fun v => v.category).sum ≤ 8) (hdg : decode cc pc = .ok (.invokevirtual 119, 3))
    (kk : ∀ (r : Int32) (u : St), Q r u → ∀ (H1 : Heap) (locs1 : List Loc), DG A D ac ad s u H1 locs1 → W p l e R s m args below meth c H1 locs1 cells slots QW (F0 m (pc + 3) ls (.int r :: rest))) : W p l e R s m args below meth c H locs cells slots QW (F0 m pc ls (.int a2 :: .int a1 :: .int a0 :: .ref (ad kb) :: rest)) :=
  mcVi [.int a0, .int a1, .int a2] S hsz hG hM (mcw (n := 3) S wm_350 wm_351 wm_352 wm_13 wm_353 (by decide) hR) rfl (by decide) hk rfl hcat hdg kk
theorem iv_9_134 {cc : ByteArray} {pc nL F Lc : Nat} {ls : Array Slot} {rest : List Value} {σ : St} {H : Heap} {locs : List Loc}  {Q : Int32 → St → Prop} (S : SC A D ac st p m c cc nL s args "SweeperRounds" R cells slots F Lc) (hsz : ls.size = nL) (hG : DG A D ac ad s σ H locs) {kb : Nat} (hk : kd kb = 8) (hM : Met l y_8_grip (Cond.code y_8_grip prog_10_method_16_code 1 (some .int) :: wA) { frames := 0, cells := 0, slots := 0, locals := 0 } (va_Pc [.ref (ad kb)] (GSt A D ac ad st σ)) (va_Qi Q (GSt A D ac ad st) A) 0 0 A) (hR : 0 + 1 ≤ F ∧ 8 + (1 + 11) + 0 ≤ Lc) (hcat : (rest.map fun v => v.category).sum ≤ 8) (hdg : decode cc pc = .ok (.invokevirtual 134, 3))
    (kk : ∀ (r : Int32) (u : St), Q r u → ∀ (H1 : Heap) (locs1 : List Loc), DG A D ac ad s u H1 locs1 → W p l e R s m args below meth c H1 locs1 cells slots QW (F0 m (pc + 3) ls (.int r :: rest))) : W p l e R s m args below meth c H locs cells slots QW (F0 m pc ls (.ref (ad kb) :: rest)) :=
  mcVi [] S hsz hG hM (mcw (n := 0) S wm_365 wm_366 wm_367 wm_13 wm_368 (by decide) hR) rfl (by decide) hk rfl hcat hdg kk
theorem iv_9_138 {cc : ByteArray} {pc nL F Lc : Nat} {ls : Array Slot} {rest : List Value} {σ : St} {H : Heap} {locs : List Loc} {a0 : Int32} {a1 : Int32} {Q : Int32 → St → Prop} (S : SC A D ac st p m c cc nL s args "SweeperRounds" R cells slots F Lc) (hsz : ls.size = nL) (hG : DG A D ac ad s σ H locs) {kb : Nat} (hk : kd kb = 6) (hM : Met l y_6_couldGive (Cond.code y_6_couldGive prog_8_method_8_code 3 (some .int) :: wA) { frames := 0, cells := 0, slots := 0, locals := 0 } (va_Pc [.ref (ad kb), .int a0, .int a1] (GSt A D ac ad st σ)) (va_Qi Q (GSt A D ac ad st) A) 0 0 A) (hR : 0 + 1 ≤ F ∧ 8 + (3 + 11) + 0 ≤ Lc) (hcat : (rest.map fun v => v.category).sum ≤ 8) (hdg : decode cc pc = .ok (.invokevirtual 138, 3))
    (kk : ∀ (r : Int32) (u : St), Q r u → ∀ (H1 : Heap) (locs1 : List Loc), DG A D ac ad s u H1 locs1 → W p l e R s m args below meth c H1 locs1 cells slots QW (F0 m (pc + 3) ls (.int r :: rest))) : W p l e R s m args below meth c H locs cells slots QW (F0 m pc ls (.int a1 :: .int a0 :: .ref (ad kb) :: rest)) :=
  mcVi [.int a0, .int a1] S hsz hG hM (mcw (n := 2) S wm_369 wm_370 wm_371 wm_12 wm_372 (by decide) hR) rfl (by decide) hk rfl hcat hdg kk
theorem iv_9_141 {cc : ByteArray} {pc nL F Lc : Nat} {ls : Array Slot} {rest : List Value} {σ : St} {H : Heap} {locs : List Loc}  {Q : Int32 → St → Prop} (S : SC A D ac st p m c cc nL s args "SweeperRounds" R cells slots F Lc) (hsz : ls.size = nL) (hG : DG A D ac ad s σ H locs) {kb : Nat} (hk : kd kb = 8) (hM : Met l y_8_room (Cond.code y_8_room prog_10_method_17_code 1 (some .int) :: wA) { frames := 0, cells := 0, slots := 0, locals := 0 } (va_Pc [.ref (ad kb)] (GSt A D ac ad st σ)) (va_Qi Q (GSt A D ac ad st) A) 0 0 A) (hR : 0 + 1 ≤ F ∧ 8 + (1 + 11) + 0 ≤ Lc) (hcat : (rest.map fun v => v.category).sum ≤ 8) (hdg : decode cc pc = .ok (.invokevirtual 141, 3))
    (kk : ∀ (r : Int32) (u : St), Q r u → ∀ (H1 : Heap) (locs1 : List Loc), DG A D ac ad s u H1 locs1 → W p l e R s m args below meth c H1 locs1 cells slots QW (F0 m (pc + 3) ls (.int r :: rest))) : W p l e R s m args below meth c H locs cells slots QW (F0 m pc ls (.ref (ad kb) :: rest)) :=
  mcVi [] S hsz hG hM (mcw (n := 0) S wm_373 wm_374 wm_375 wm_13 wm_376 (by decide) hR) rfl (by decide) hk rfl hcat hdg kk
theorem iv_6_29 {cc : ByteArray} {pc nL F Lc : Nat} {ls : Array Slot} {rest : List Value} {σ : St} {H : Heap} {locs : List Loc} {a0 : Int32} {a1 : Int32} {Q : Int32 → St → Prop} (S : SC A D ac st p m c cc nL s args "SweeperRounds$Street" R cells slots F Lc) (hsz : ls.size = nL) (hG : DG A D ac ad s σ H locs) (hM : Met l y_9_placeOf (Cond.code y_9_placeOf prog_1_method_32_code 2 (some .int) :: wA) { frames := 0, cells := 0, slots := 0, locals := 0 } (va_Pc [.int a0, .int a1] (GSt A D ac ad st σ)) (va_Qi Q (GSt A D ac ad st) A) 0 0 A) (hR : 0 + 1 ≤ F ∧ 8 + (2 + 11) + 0 ≤ Lc) (hcat : (rest.map fun v => v.category).sum ≤ 8) (hdg : decode cc pc = .ok (.invokestatic 29, 3))
    (kk : ∀ (r : Int32) (u : St), Q r u → ∀ (H1 : Heap) (locs1 : List Loc), DG A D ac ad s u H1 locs1 → W p l e R s m args below meth c H1 locs1 cells slots QW (F0 m (pc + 3) ls (.int r :: rest))) : W p l e R s m args below meth c H locs cells slots QW (F0 m pc ls (.int a1 :: .int a0 :: rest)) :=
  mcNi [.int a0, .int a1] S hsz hG hM (mcwn (n := 2) (host := "SweeperRounds") S (by decide +kernel) wm_348 wm_9 wm_349 (by decide) hR) rfl hcat hdg kk
theorem iv_9_100 {cc : ByteArray} {pc nL F Lc : Nat} {ls : Array Slot} {rest : List Value} {σ : St} {H : Heap} {locs : List Loc} {a0 : Int32} {Q : Int32 → St → Prop} (S : SC A D ac st p m c cc nL s args "SweeperRounds" R cells slots F Lc) (hsz : ls.size = nL) (hG : DG A D ac ad s σ H locs) {kb : Nat} (hk : kd kb = 8) (hM : Met l y_8_hasStreet (Cond.code y_8_hasStreet prog_10_method_3_code 2 (some .boolean) :: wA) { frames := 0, cells := 0, slots := 0, locals := 0 } (va_Pc [.ref (ad kb), .int a0] (GSt A D ac ad st σ)) (va_Qi Q (GSt A D ac ad st) A) 0 0 A) (hR : 0 + 1 ≤ F ∧ 8 + (2 + 11) + 0 ≤ Lc) (hcat : (rest.map fun v => v.category).sum ≤ 8) (hdg : decode cc pc = .ok (.invokevirtual 100, 3))
    (kk : ∀ (r : Int32) (u : St), Q r u → ∀ (H1 : Heap) (locs1 : List Loc), DG A D ac ad s u H1 locs1 → W p l e R s m args below meth c H1 locs1 cells slots QW (F0 m (pc + 3) ls (.int r :: rest))) : W p l e R s m args below meth c H locs cells slots QW (F0 m pc ls (.int a0 :: .ref (ad kb) :: rest)) :=
  mcVi [.int a0] S hsz hG hM (mcw (n := 1) S wm_382 wm_321 wm_322 wm_13 wm_323 (by decide) hR) rfl (by decide) hk rfl hcat hdg kk
theorem iv_9_155 {cc : ByteArray} {pc nL F Lc : Nat} {ls : Array Slot} {rest : List Value} {σ : St} {H : Heap} {locs : List Loc} {a0 : Int32} {Q : Int32 → St → Prop} (S : SC A D ac st p m c cc nL s args "SweeperRounds" R cells slots F Lc) (hsz : ls.size = nL) (hG : DG A D ac ad s σ H locs) {kb : Nat} (hk : kd kb = 6) (hM : Met l y_6_dirtOfSide (Cond.code y_6_dirtOfSide prog_8_method_4_code 4 (some .int) :: wA) { frames := 1, cells := 0, slots := 0, locals := 21 } (va_Pc [.ref (ad kb), .int a0] (GSt A D ac ad st σ)) (va_Qi Q (GSt A D ac ad st) A) 0 0 A) (hR : 1 + 1 ≤ F ∧ 8 + (4 + 11) + 21 ≤ Lc) (hcat : (rest.map fun v => v.category).sum ≤ 8) (hdg : decode cc pc = .ok (.invokevirtual 155, 3))
    (kk : ∀ (r : Int32) (u : St), Q r u → ∀ (H1 : Heap) (locs1 : List Loc), DG A D ac ad s u H1 locs1 → W p l e R s m args below meth c H1 locs1 cells slots QW (F0 m (pc + 3) ls (.int r :: rest))) : W p l e R s m args below meth c H locs cells slots QW (F0 m pc ls (.int a0 :: .ref (ad kb) :: rest)) :=
  mcVi [.int a0] S hsz hG hM (mcw (n := 1) S wm_383 wm_384 wm_385 wm_12 wm_386 (by decide) hR) rfl (by decide) hk rfl hcat hdg kk
theorem iv_9_159 {cc : ByteArray} {pc nL F Lc : Nat} {ls : Array Slot} {rest : List Value} {σ : St} {H : Heap} {locs : List Loc}  {Q : Int32 → St → Prop} (S : SC A D ac st p m c cc nL s args "SweeperRounds" R cells slots F Lc) (hsz : ls.size = nL) (hG : DG A D ac ad s σ H locs) {kb : Nat} (hk : kd kb = 6) (hM : Met l y_6_parkedCells (Cond.code y_6_parkedCells prog_8_method_6_code 3 (some .int) :: wA) { frames := 1, cells := 0, slots := 0, locals := 21 } (va_Pc [.ref (ad kb)] (GSt A D ac ad st σ)) (va_Qi Q (GSt A D ac ad st) A) 0 0 A) (hR : 1 + 1 ≤ F ∧ 8 + (3 + 11) + 21 ≤ Lc) (hcat : (rest.map fun v => v.category).sum ≤ 8) (hdg : decode cc pc = .ok (.invokevirtual 159, 3))
    (kk : ∀ (r : Int32) (u : St), Q r u → ∀ (H1 : Heap) (locs1 : List Loc), DG A D ac ad s u H1 locs1 → W p l e R s m args below meth c H1 locs1 cells slots QW (F0 m (pc + 3) ls (.int r :: rest))) : W p l e R s m args below meth c H locs cells slots QW (F0 m pc ls (.ref (ad kb) :: rest)) :=
  mcVi [] S hsz hG hM (mcw (n := 0) S wm_388 wm_389 wm_390 wm_12 wm_391 (by decide) hR) rfl (by decide) hk rfl hcat hdg kk
theorem iv_9_162 {cc : ByteArray} {pc nL F Lc : Nat} {ls : Array Slot} {rest : List Value} {σ : St} {H : Heap} {locs : List Loc}  {Q : Int32 → St → Prop} (S : SC A D ac st p m c cc nL s args "SweeperRounds" R cells slots F Lc) (hsz : ls.size = nL) (hG : DG A D ac ad s σ H locs) {kb : Nat} (hk : kd kb = 6) (hM : Met l y_6_greatestDirt (Cond.code y_6_greatestDirt prog_8_method_7_code 3 (some .int) :: wA) { frames := 1, cells := 0, slots := 0, locals := 21 } (va_Pc [.ref (ad kb)] (GSt A D ac ad st σ)) (va_Qi Q (GSt A D ac ad st) A) 0 0 A) (hR : 1 + 1 ≤ F ∧ 8 + (3 + 11) + 21 ≤ Lc) (hcat : (rest.map fun v => v.category).sum ≤ 8) (hdg : decode cc pc = .ok (.invokevirtual 162, 3))
    (kk : ∀ (r : Int32) (u : St), Q r u → ∀ (H1 : Heap) (locs1 : List Loc), DG A D ac ad s u H1 locs1 → W p l e R s m args below meth c H1 locs1 cells slots QW (F0 m (pc + 3) ls (.int r :: rest))) : W p l e R s m args below meth c H locs cells slots QW (F0 m pc ls (.ref (ad kb) :: rest)) :=
  mcVi [] S hsz hG hM (mcw (n := 0) S wm_392 wm_393 wm_394 wm_12 wm_395 (by decide) hR) rfl (by decide) hk rfl hcat hdg kk
theorem iv_9_165 {cc : ByteArray} {pc nL F Lc : Nat} {ls : Array Slot} {rest : List Value} {σ : St} {H : Heap} {locs : List Loc} {a0 : Int32} {Q : Int32 → St → Prop} (S : SC A D ac st p m c cc nL s args "SweeperRounds" R cells slots F Lc) (hsz : ls.size = nL) (hG : DG A D ac ad s σ H locs) {kb : Nat} (hk : kd kb = 8) (hM : Met l y_8_legsIn (Cond.code y_8_legsIn prog_10_method_7_code 4 (some .int) :: wA) { frames := 0, cells := 0, slots := 0, locals := 0 } (va_Pc [.ref (ad kb), .int a0] (GSt A D ac ad st σ)) (va_Qi Q (GSt A D ac ad st) A) 0 0 A) (hR : 0 + 1 ≤ F ∧ 8 + (4 + 11) + 0 ≤ Lc) (hcat : (rest.map fun v => v.category).sum ≤ 8) (hdg : decode cc pc = .ok (.invokevirtual 165, 3))
    (kk : ∀ (r : Int32) (u : St), Q r u → ∀ (H1 : Heap) (locs1 : List Loc), DG A D ac ad s u H1 locs1 → W p l e R s m args below meth c H1 locs1 cells slots QW (F0 m (pc + 3) ls (.int r :: rest))) : W p l e R s m args below meth c H locs cells slots QW (F0 m pc ls (.int a0 :: .ref (ad kb) :: rest)) :=
  mcVi [.int a0] S hsz hG hM (mcw (n := 1) S wm_397 wm_398 wm_399 wm_13 wm_400 (by decide) hR) rfl (by decide) hk rfl hcat hdg kk
theorem iv_9_168 {cc : ByteArray} {pc nL F Lc : Nat} {ls : Array Slot} {rest : List Value} {σ : St} {H : Heap} {locs : List Loc} {a0 : Int32} {Q : Int32 → St → Prop} (S : SC A D ac st p m c cc nL s args "SweeperRounds" R cells slots F Lc) (hsz : ls.size = nL) (hG : DG A D ac ad s σ H locs) {kb : Nat} (hk : kd kb = 8) (hM : Met l y_8_leastSetting (Cond.code y_8_leastSetting prog_10_method_15_code 2 (some .int) :: wA) { frames := 1, cells := 0, slots := 0, locals := 13 } (va_Pc [.ref (ad kb), .int a0] (GSt A D ac ad st σ)) (va_Qi Q (GSt A D ac ad st) A) 0 0 A) (hR : 1 + 1 ≤ F ∧ 8 + (2 + 11) + 13 ≤ Lc) (hcat : (rest.map fun v => v.category).sum ≤ 8) (hdg : decode cc pc = .ok (.invokevirtual 168, 3))
    (kk : ∀ (r : Int32) (u : St), Q r u → ∀ (H1 : Heap) (locs1 : List Loc), DG A D ac ad s u H1 locs1 → W p l e R s m args below meth c H1 locs1 cells slots QW (F0 m (pc + 3) ls (.int r :: rest))) : W p l e R s m args below meth c H locs cells slots QW (F0 m pc ls (.int a0 :: .ref (ad kb) :: rest)) :=
  mcVi [.int a0] S hsz hG hM (mcw (n := 1) S wm_405 wm_406 wm_407 wm_13 wm_408 (by decide) hR) rfl (by decide) hk rfl hcat hdg kk
theorem iv_9_177 {cc : ByteArray} {pc nL F Lc : Nat} {ls : Array Slot} {rest : List Value} {σ : St} {H : Heap} {locs : List Loc} {a0 : Int32} {a1 : Int32} {Q : Int32 → St → Prop} (S : SC A D ac st p m c cc nL s args "SweeperRounds" R cells slots F Lc) (hsz : ls.size = nL) (hG : DG A D ac ad s σ H locs) {kb : Nat} (hk : kd kb = 8) (hM : Met l y_8_appendLeg (Cond.code y_8_appendLeg prog_10_method_12_code 4 (some .int) :: wA) { frames := 0, cells := 0, slots := 0, locals := 0 } (va_Pc [.ref (ad kb), .int a0, .int a1] (GSt A D ac ad st σ)) (va_Qi Q (GSt A D ac ad st) A) 0 0 A) (hR : 0 + 1 ≤ F ∧ 8 + (4 + 11) + 0 ≤ Lc) (hcat : (rest.map fun v => v.category).sum ≤ 8) (hdg : decode cc pc = .ok (.invokevirtual 177, 3))
    (kk : ∀ (r : Int32) (u : St), Q r u → ∀ (H1 : Heap) (locs1 : List Loc), DG A D ac ad s u H1 locs1 → W p l e R s m args below meth c H1 locs1 cells slots QW (F0 m (pc + 3) ls (.int r :: rest))) : W p l e R s m args below meth c H locs cells slots QW (F0 m pc ls (.int a1 :: .int a0 :: .ref (ad kb) :: rest)) :=
  mcVi [.int a0, .int a1] S hsz hG hM (mcw (n := 2) S wm_497 wm_498 wm_499 wm_13 wm_500 (by decide) hR) rfl (by decide) hk rfl hcat hdg kk
theorem iv_9_180 {cc : ByteArray} {pc nL F Lc : Nat} {ls : Array Slot} {rest : List Value} {σ : St} {H : Heap} {locs : List Loc} {a0 : Int32} {Q : Int32 → St → Prop} (S : SC A D ac st p m c cc nL s args "SweeperRounds" R cells slots F Lc) (hsz : ls.size = nL) (hG : DG A D ac ad s σ H locs) {kb : Nat} (hk : kd kb = 8) (hM : Met l y_8_hasLeg (Cond.code y_8_hasLeg prog_10_method_5_code 2 (some .boolean) :: wA) { frames := 0, cells := 0, slots := 0, locals := 0 } (va_Pc [.ref (ad kb), .int a0] (GSt A D ac ad st σ)) (va_Qi Q (GSt A D ac ad st) A) 0 0 A) (hR : 0 + 1 ≤ F ∧ 8 + (2 + 11) + 0 ≤ Lc) (hcat : (rest.map fun v => v.category).sum ≤ 8) (hdg : decode cc pc = .ok (.invokevirtual 180, 3))
    (kk : ∀ (r : Int32) (u : St), Q r u → ∀ (H1 : Heap) (locs1 : List Loc), DG A D ac ad s u H1 locs1 → W p l e R s m args below meth c H1 locs1 cells slots QW (F0 m (pc + 3) ls (.int r :: rest))) : W p l e R s m args below meth c H locs cells slots QW (F0 m pc ls (.int a0 :: .ref (ad kb) :: rest)) :=
  mcVi [.int a0] S hsz hG hM (mcw (n := 1) S wm_417 wm_418 wm_419 wm_13 wm_420 (by decide) hR) rfl (by decide) hk rfl hcat hdg kk
theorem iv_5_100 {cc : ByteArray} {pc nL F Lc : Nat} {ls : Array Slot} {rest : List Value} {σ : St} {H : Heap} {locs : List Loc}  {Q : Int32 → St → Prop} (S : SC A D ac st p m c cc nL s args "SweeperRounds$Round" R cells slots F Lc) (hsz : ls.size = nL) (hG : DG A D ac ad s σ H locs) {kb : Nat} (hk : kd kb = 6) (hM : Met l y_6_driveToDump (Cond.code y_6_driveToDump prog_8_method_11_code 1 (some .int) :: wA) { frames := 0, cells := 0, slots := 0, locals := 0 } (va_Pc [.ref (ad kb)] (GSt A D ac ad st σ)) (va_Qi Q (GSt A D ac ad st) A) 0 0 A) (hR : 0 + 1 ≤ F ∧ 8 + (1 + 11) + 0 ≤ Lc) (hcat : (rest.map fun v => v.category).sum ≤ 8) (hdg : decode cc pc = .ok (.invokevirtual 100, 3))
    (kk : ∀ (r : Int32) (u : St), Q r u → ∀ (H1 : Heap) (locs1 : List Loc), DG A D ac ad s u H1 locs1 → W p l e R s m args below meth c H1 locs1 cells slots QW (F0 m (pc + 3) ls (.int r :: rest))) : W p l e R s m args below meth c H locs cells slots QW (F0 m pc ls (.ref (ad kb) :: rest)) :=
  mcVi [] S hsz hG hM (mcw (n := 0) S wm_543 wm_544 wm_545 wm_12 wm_546 (by decide) hR) rfl (by decide) hk rfl hcat hdg kk
theorem iv_5_81 {cc : ByteArray} {pc nL F Lc : Nat} {ls : Array Slot} {rest : List Value} {σ : St} {H : Heap} {locs : List Loc} {a0 : Int32} {Q : Int32 → St → Prop} (S : SC A D ac st p m c cc nL s args "SweeperRounds$Round" R cells slots F Lc) (hsz : ls.size = nL) (hG : DG A D ac ad s σ H locs) {kb : Nat} (hk : kd kb = 5) (hM : Met l y_5_driveTo (Cond.code y_5_driveTo prog_7_method_4_code 4 (some .int) :: wA) { frames := 1, cells := 0, slots := 0, locals := 13 } (va_Pc [.ref (ad kb), .int a0] (GSt A D ac ad st σ)) (va_Qi Q (GSt A D ac ad st) A) 0 0 A) (hR : 1 + 1 ≤ F ∧ 8 + (4 + 11) + 13 ≤ Lc) (hcat : (rest.map fun v => v.category).sum ≤ 8) (hdg : decode cc pc = .ok (.invokevirtual 81, 3))
    (kk : ∀ (r : Int32) (u : St), Q r u → ∀ (H1 : Heap) (locs1 : List Loc), DG A D ac ad s u H1 locs1 → W p l e R s m args below meth c H1 locs1 cells slots QW (F0 m (pc + 3) ls (.int r :: rest))) : W p l e R s m args below meth c H locs cells slots QW (F0 m pc ls (.int a0 :: .ref (ad kb) :: rest)) :=
  mcVi [.int a0] S hsz hG hM (mcw (n := 1) S wm_532 wm_534 wm_2 wm_17 wm_535 (by decide) hR) rfl (by decide) hk rfl hcat hdg kk
theorem iv_5_85 {cc : ByteArray} {pc nL F Lc : Nat} {ls : Array Slot} {rest : List Value} {σ : St} {H : Heap} {locs : List Loc} {a0 : Int32} {a1 : Nat} {Q : Int32 → St → Prop} (S : SC A D ac st p m c cc nL s args "SweeperRounds$Round" R cells slots F Lc) (hsz : ls.size = nL) (hG : DG A D ac ad s σ H locs) {kb : Nat} (hk : kd kb = 5) (hM : Met l y_5_fits (Cond.code y_5_fits prog_7_method_5_code 3 (some .boolean) :: wA) { frames := 1, cells := 0, slots := 0, locals := 20 } (va_Pc [.ref (ad kb), .int a0, .ref (ad a1)] (GSt A D ac ad st σ)) (va_Qi Q (GSt A D ac ad st) A) 0 0 A) (hR : 1 + 1 ≤ F ∧ 8 + (3 + 11) + 20 ≤ Lc) (hcat : (rest.map fun v => v.category).sum ≤ 8) (hdg : decode cc pc = .ok (.invokevirtual 85, 3))
    (kk : ∀ (r : Int32) (u : St), Q r u → ∀ (H1 : Heap) (locs1 : List Loc), DG A D ac ad s u H1 locs1 → W p l e R s m args below meth c H1 locs1 cells slots QW (F0 m (pc + 3) ls (.int r :: rest))) : W p l e R s m args below meth c H locs cells slots QW (F0 m pc ls (.ref (ad a1) :: .int a0 :: .ref (ad kb) :: rest)) :=
  mcVi [.int a0, .ref (ad a1)] S hsz hG hM (mcw (n := 2) S wm_539 wm_541 wm_3 wm_17 wm_542 (by decide) hR) rfl (by decide) hk rfl hcat hdg kk
theorem iv_5_128 {cc : ByteArray} {pc nL F Lc : Nat} {ls : Array Slot} {rest : List Value} {σ : St} {H : Heap} {locs : List Loc}  {Q : Int32 → St → Prop} (S : SC A D ac st p m c cc nL s args "SweeperRounds$Round" R cells slots F Lc) (hsz : ls.size = nL) (hG : DG A D ac ad s σ H locs) {kb : Nat} (hk : kd kb = 8) (hM : Met l y_8_grip (Cond.code y_8_grip prog_10_method_16_code 1 (some .int) :: wA) { frames := 0, cells := 0, slots := 0, locals := 0 } (va_Pc [.ref (ad kb)] (GSt A D ac ad st σ)) (va_Qi Q (GSt A D ac ad st) A) 0 0 A) (hR : 0 + 1 ≤ F ∧ 8 + (1 + 11) + 0 ≤ Lc) (hcat : (rest.map fun v => v.category).sum ≤ 8) (hdg : decode cc pc = .ok (.invokevirtual 128, 3))
    (kk : ∀ (r : Int32) (u : St), Q r u → ∀ (H1 : Heap) (locs1 : List Loc), DG A D ac ad s u H1 locs1 → W p l e R s m args below meth c H1 locs1 cells slots QW (F0 m (pc + 3) ls (.int r :: rest))) : W p l e R s m args below meth c H locs cells slots QW (F0 m pc ls (.ref (ad kb) :: rest)) :=
  mcVi [] S hsz hG hM (mcw (n := 0) S wm_562 wm_366 wm_367 wm_13 wm_368 (by decide) hR) rfl (by decide) hk rfl hcat hdg kk
theorem iv_5_131 {cc : ByteArray} {pc nL F Lc : Nat} {ls : Array Slot} {rest : List Value} {σ : St} {H : Heap} {locs : List Loc} {a0 : Int32} {a1 : Int32} {Q : Int32 → St → Prop} (S : SC A D ac st p m c cc nL s args "SweeperRounds$Round" R cells slots F Lc) (hsz : ls.size = nL) (hG : DG A D ac ad s σ H locs) {kb : Nat} (hk : kd kb = 6) (hM : Met l y_6_couldGive (Cond.code y_6_couldGive prog_8_method_8_code 3 (some .int) :: wA) { frames := 0, cells := 0, slots := 0, locals := 0 } (va_Pc [.ref (ad kb), .int a0, .int a1] (GSt A D ac ad st σ)) (va_Qi Q (GSt A D ac ad st) A) 0 0 A) (hR : 0 + 1 ≤ F ∧ 8 + (3 + 11) + 0 ≤ Lc) (hcat : (rest.map fun v => v.category).sum ≤ 8) (hdg : decode cc pc = .ok (.invokevirtual 131, 3))
    (kk : ∀ (r : Int32) (u : St), Q r u → ∀ (H1 : Heap) (locs1 : List Loc), DG A D ac ad s u H1 locs1 → W p l e R s m args below meth c H1 locs1 cells slots QW (F0 m (pc + 3) ls (.int r :: rest))) : W p l e R s m args below meth c H locs cells slots QW (F0 m pc ls (.int a1 :: .int a0 :: .ref (ad kb) :: rest)) :=
  mcVi [.int a0, .int a1] S hsz hG hM (mcw (n := 2) S wm_563 wm_370 wm_371 wm_12 wm_372 (by decide) hR) rfl (by decide) hk rfl hcat hdg kk
theorem iv_5_116 {cc : ByteArray} {pc nL F Lc : Nat} {ls : Array Slot} {rest : List Value} {σ : St} {H : Heap} {locs : List Loc}  {Q : Int32 → St → Prop} (S : SC A D ac st p m c cc nL s args "SweeperRounds$Round" R cells slots F Lc) (hsz : ls.size = nL) (hG : DG A D ac ad s σ H locs) {kb : Nat} (hk : kd kb = 8) (hM : Met l y_8_room (Cond.code y_8_room prog_10_method_17_code 1 (some .int) :: wA) { frames := 0, cells := 0, slots := 0, locals := 0 } (va_Pc [.ref (ad kb)] (GSt A D ac ad st σ)) (va_Qi Q (GSt A D ac ad st) A) 0 0 A) (hR : 0 + 1 ≤ F ∧ 8 + (1 + 11) + 0 ≤ Lc) (hcat : (rest.map fun v => v.category).sum ≤ 8) (hdg : decode cc pc = .ok (.invokevirtual 116, 3))
    (kk : ∀ (r : Int32) (u : St), Q r u → ∀ (H1 : Heap) (locs1 : List Loc), DG A D ac ad s u H1 locs1 → W p l e R s m args below meth c H1 locs1 cells slots QW (F0 m (pc + 3) ls (.int r :: rest))) : W p l e R s m args below meth c H locs cells slots QW (F0 m pc ls (.ref (ad kb) :: rest)) :=
  mcVi [] S hsz hG hM (mcw (n := 0) S wm_564 wm_374 wm_375 wm_13 wm_376 (by decide) hR) rfl (by decide) hk rfl hcat hdg kk
theorem iv_5_122 {cc : ByteArray} {pc nL F Lc : Nat} {ls : Array Slot} {rest : List Value} {σ : St} {H : Heap} {locs : List Loc}  {Q : St → Prop} (S : SC A D ac st p m c cc nL s args "SweeperRounds$Round" R cells slots F Lc) (hsz : ls.size = nL) (hG : DG A D ac ad s σ H locs) {kb : Nat} (hk : kd kb = 8) (hM : Met l y_8_emptyHopper (Cond.code y_8_emptyHopper prog_10_method_18_code 1 none :: wA) { frames := 0, cells := 0, slots := 0, locals := 0 } (va_Pc [.ref (ad kb)] (GSt A D ac ad st σ)) (va_Qv Q (GSt A D ac ad st) A) 0 0 A) (hR : 0 + 1 ≤ F ∧ 8 + (1 + 11) + 0 ≤ Lc) (hcat : (rest.map fun v => v.category).sum ≤ 8) (hdg : decode cc pc = .ok (.invokevirtual 122, 3))
    (kk : ∀ (u : St), Q u → ∀ (H1 : Heap) (locs1 : List Loc), DG A D ac ad s u H1 locs1 → W p l e R s m args below meth c H1 locs1 cells slots QW (F0 m (pc + 3) ls (rest))) : W p l e R s m args below meth c H locs cells slots QW (F0 m pc ls (.ref (ad kb) :: rest)) :=
  mcVv [] S hsz hG hM (mcw (n := 0) S wm_566 wm_567 wm_568 wm_13 wm_569 (by decide) hR) rfl (by decide) hk rfl hcat hdg kk
theorem iv_5_112 {cc : ByteArray} {pc nL F Lc : Nat} {ls : Array Slot} {rest : List Value} {σ : St} {H : Heap} {locs : List Loc} {a0 : Nat} {a1 : Nat} {a2 : Int32} {Q : Int32 → St → Prop} (S : SC A D ac st p m c cc nL s args "SweeperRounds$Round" R cells slots F Lc) (hsz : ls.size = nL) (hG : DG A D ac ad s σ H locs) {kb : Nat} (hk : kd kb = 5) (hM : Met l y_5_sweepOnce (Cond.code y_5_sweepOnce prog_7_method_8_code 7 (some .boolean) :: wA) { frames := 1, cells := 0, slots := 0, locals := 22 } (va_Pc [.ref (ad kb), .ref (ad a0), .ref (ad a1), .int a2] (GSt A D ac ad st σ)) (va_Qi Q (GSt A D ac ad st) A) 0 0 A) (hR : 1 + 1 ≤ F ∧ 8 + (7 + 11) + 22 ≤ Lc) (hcat : (rest.map fun v => v.category).sum ≤ 8) (hdg : decode cc pc = .ok (.invokevirtual 112, 3))
    (kk : ∀ (r : Int32) (u : St), Q r u → ∀ (H1 : Heap) (locs1 : List Loc), DG A D ac ad s u H1 locs1 → W p l e R s m args below meth c H1 locs1 cells slots QW (F0 m (pc + 3) ls (.int r :: rest))) : W p l e R s m args below meth c H locs cells slots QW (F0 m pc ls (.int a2 :: .ref (ad a1) :: .ref (ad a0) :: .ref (ad kb) :: rest)) :=
  mcVi [.ref (ad a0), .ref (ad a1), .int a2] S hsz hG hM (mcw (n := 3) S wm_558 wm_560 wm_6 wm_17 wm_561 (by decide) hR) rfl (by decide) hk rfl hcat hdg kk
theorem iv_5_108 {cc : ByteArray} {pc nL F Lc : Nat} {ls : Array Slot} {rest : List Value} {σ : St} {H : Heap} {locs : List Loc}  {Q : Int32 → St → Prop} (S : SC A D ac st p m c cc nL s args "SweeperRounds$Round" R cells slots F Lc) (hsz : ls.size = nL) (hG : DG A D ac ad s σ H locs) {kb : Nat} (hk : kd kb = 5) (hM : Met l y_5_unitsForCell (Cond.code y_5_unitsForCell prog_7_method_7_code 1 (some .int) :: wA) { frames := 1, cells := 0, slots := 0, locals := 14 } (va_Pc [.ref (ad kb)] (GSt A D ac ad st σ)) (va_Qi Q (GSt A D ac ad st) A) 0 0 A) (hR : 1 + 1 ≤ F ∧ 8 + (1 + 11) + 14 ≤ Lc) (hcat : (rest.map fun v => v.category).sum ≤ 8) (hdg : decode cc pc = .ok (.invokevirtual 108, 3))
    (kk : ∀ (r : Int32) (u : St), Q r u → ∀ (H1 : Heap) (locs1 : List Loc), DG A D ac ad s u H1 locs1 → W p l e R s m args below meth c H1 locs1 cells slots QW (F0 m (pc + 3) ls (.int r :: rest))) : W p l e R s m args below meth c H locs cells slots QW (F0 m pc ls (.ref (ad kb) :: rest)) :=
  mcVi [] S hsz hG hM (mcw (n := 0) S wm_552 wm_554 wm_5 wm_17 wm_555 (by decide) hR) rfl (by decide) hk rfl hcat hdg kk
theorem iv_5_78 {cc : ByteArray} {pc nL F Lc : Nat} {ls : Array Slot} {rest : List Value} {σ : St} {H : Heap} {locs : List Loc}  {Q : St → Prop} (S : SC A D ac st p m c cc nL s args "SweeperRounds$Round" R cells slots F Lc) (hsz : ls.size = nL) (hG : DG A D ac ad s σ H locs) {kb : Nat} (hk : kd kb = 5) (hM : Met l y_5_endShift (Cond.code y_5_endShift prog_7_method_9_code 1 none :: wA) { frames := 1, cells := 0, slots := 0, locals := 20 } (va_Pc [.ref (ad kb)] (GSt A D ac ad st σ)) (va_Qv Q (GSt A D ac ad st) A) 0 0 A) (hR : 1 + 1 ≤ F ∧ 8 + (1 + 11) + 20 ≤ Lc) (hcat : (rest.map fun v => v.category).sum ≤ 8) (hdg : decode cc pc = .ok (.invokevirtual 78, 3))
    (kk : ∀ (u : St), Q u → ∀ (H1 : Heap) (locs1 : List Loc), DG A D ac ad s u H1 locs1 → W p l e R s m args below meth c H1 locs1 cells slots QW (F0 m (pc + 3) ls (rest))) : W p l e R s m args below meth c H locs cells slots QW (F0 m pc ls (.ref (ad kb) :: rest)) :=
  mcVv [] S hsz hG hM (mcw (n := 0) S wm_570 wm_572 wm_7 wm_17 wm_573 (by decide) hR) rfl (by decide) hk rfl hcat hdg kk
theorem iv_5_67 {cc : ByteArray} {pc nL F Lc : Nat} {ls : Array Slot} {rest : List Value} {σ : St} {H : Heap} {locs : List Loc} {a0 : Int32} {a1 : Int32} {Q : Int32 → St → Prop} (S : SC A D ac st p m c cc nL s args "SweeperRounds$Round" R cells slots F Lc) (hsz : ls.size = nL) (hG : DG A D ac ad s σ H locs) (hM : Met l y_9_placeOf (Cond.code y_9_placeOf prog_1_method_32_code 2 (some .int) :: wA) { frames := 0, cells := 0, slots := 0, locals := 0 } (va_Pc [.int a0, .int a1] (GSt A D ac ad st σ)) (va_Qi Q (GSt A D ac ad st) A) 0 0 A) (hR : 0 + 1 ≤ F ∧ 8 + (2 + 11) + 0 ≤ Lc) (hcat : (rest.map fun v => v.category).sum ≤ 8) (hdg : decode cc pc = .ok (.invokestatic 67, 3))
    (kk : ∀ (r : Int32) (u : St), Q r u → ∀ (H1 : Heap) (locs1 : List Loc), DG A D ac ad s u H1 locs1 → W p l e R s m args below meth c H1 locs1 cells slots QW (F0 m (pc + 3) ls (.int r :: rest))) : W p l e R s m args below meth c H locs cells slots QW (F0 m pc ls (.int a1 :: .int a0 :: rest)) :=
  mcNi [.int a0, .int a1] S hsz hG hM (mcwn (n := 2) (host := "SweeperRounds") S (by decide +kernel) wm_348 wm_9 wm_349 (by decide) hR) rfl hcat hdg kk
theorem iv_5_71 {cc : ByteArray} {pc nL F Lc : Nat} {ls : Array Slot} {rest : List Value} {σ : St} {H : Heap} {locs : List Loc} {a0 : Nat} {a1 : Nat} {a2 : Int32} {Q : Int32 → St → Prop} (S : SC A D ac st p m c cc nL s args "SweeperRounds$Round" R cells slots F Lc) (hsz : ls.size = nL) (hG : DG A D ac ad s σ H locs) {kb : Nat} (hk : kd kb = 5) (hM : Met l y_5_finishCell (Cond.code y_5_finishCell prog_7_method_6_code 8 (some .int) :: wA) { frames := 2, cells := 0, slots := 0, locals := 48 } (va_Pc [.ref (ad kb), .ref (ad a0), .ref (ad a1), .int a2] (GSt A D ac ad st σ)) (va_Qi Q (GSt A D ac ad st) A) 0 0 A) (hR : 2 + 1 ≤ F ∧ 8 + (8 + 11) + 48 ≤ Lc) (hcat : (rest.map fun v => v.category).sum ≤ 8) (hdg : decode cc pc = .ok (.invokevirtual 71, 3))
    (kk : ∀ (r : Int32) (u : St), Q r u → ∀ (H1 : Heap) (locs1 : List Loc), DG A D ac ad s u H1 locs1 → W p l e R s m args below meth c H1 locs1 cells slots QW (F0 m (pc + 3) ls (.int r :: rest))) : W p l e R s m args below meth c H locs cells slots QW (F0 m pc ls (.int a2 :: .ref (ad a1) :: .ref (ad a0) :: .ref (ad kb) :: rest)) :=
  mcVi [.ref (ad a0), .ref (ad a1), .int a2] S hsz hG hM (mcw (n := 3) S wm_548 wm_550 wm_4 wm_17 wm_551 (by decide) hR) rfl (by decide) hk rfl hcat hdg kk
theorem iv_5_55 {cc : ByteArray} {pc nL F Lc : Nat} {ls : Array Slot} {rest : List Value} {σ : St} {H : Heap} {locs : List Loc} {a0 : Nat} {a1 : Nat} {Q : Int32 → St → Prop} (S : SC A D ac st p m c cc nL s args "SweeperRounds$Round" R cells slots F Lc) (hsz : ls.size = nL) (hG : DG A D ac ad s σ H locs) {kb : Nat} (hk : kd kb = 5) (hM : Met l y_5_driveToLeg (Cond.code y_5_driveToLeg prog_7_method_3_code 4 (some .int) :: wA) { frames := 2, cells := 0, slots := 0, locals := 42 } (va_Pc [.ref (ad kb), .ref (ad a0), .ref (ad a1)] (GSt A D ac ad st σ)) (va_Qi Q (GSt A D ac ad st) A) 0 0 A) (hR : 2 + 1 ≤ F ∧ 8 + (4 + 11) + 42 ≤ Lc) (hcat : (rest.map fun v => v.category).sum ≤ 8) (hdg : decode cc pc = .ok (.invokevirtual 55, 3))
    (kk : ∀ (r : Int32) (u : St), Q r u → ∀ (H1 : Heap) (locs1 : List Loc), DG A D ac ad s u H1 locs1 → W p l e R s m args below meth c H1 locs1 cells slots QW (F0 m (pc + 3) ls (.int r :: rest))) : W p l e R s m args below meth c H locs cells slots QW (F0 m pc ls (.ref (ad a1) :: .ref (ad a0) :: .ref (ad kb) :: rest)) :=
  mcVi [.ref (ad a0), .ref (ad a1)] S hsz hG hM (mcw (n := 2) S wm_528 wm_530 wm_1 wm_17 wm_531 (by decide) hR) rfl (by decide) hk rfl hcat hdg kk
theorem iv_5_21 {cc : ByteArray} {pc nL F Lc : Nat} {ls : Array Slot} {rest : List Value} {σ : St} {H : Heap} {locs : List Loc}  {Q : St → Prop} (S : SC A D ac st p m c cc nL s args "SweeperRounds$Round" R cells slots F Lc) (hsz : ls.size = nL) (hG : DG A D ac ad s σ H locs) {kb : Nat} (hk : kd kb = 4) (hM : Met l y_4_clear (Cond.code y_4_clear prog_6_method_2_code 1 none :: wA) { frames := 0, cells := 0, slots := 0, locals := 0 } (va_Pc [.ref (ad kb)] (GSt A D ac ad st σ)) (va_Qv Q (GSt A D ac ad st) A) 0 0 A) (hR : 0 + 1 ≤ F ∧ 8 + (1 + 11) + 0 ≤ Lc) (hcat : (rest.map fun v => v.category).sum ≤ 8) (hdg : decode cc pc = .ok (.invokevirtual 21, 3))
    (kk : ∀ (u : St), Q u → ∀ (H1 : Heap) (locs1 : List Loc), DG A D ac ad s u H1 locs1 → W p l e R s m args below meth c H1 locs1 cells slots QW (F0 m (pc + 3) ls (rest))) : W p l e R s m args below meth c H locs cells slots QW (F0 m pc ls (.ref (ad kb) :: rest)) :=
  mcVv [] S hsz hG hM (mcw (n := 0) S wm_524 wm_525 wm_526 wm_14 wm_527 (by decide) hR) rfl (by decide) hk rfl hcat hdg kk
theorem iv_9_208 {cc : ByteArray} {pc nL F Lc : Nat} {ls : Array Slot} {rest : List Value} {σ : St} {H : Heap} {locs : List Loc}  {Q : St → Prop} (S : SC A D ac st p m c cc nL s args "SweeperRounds" R cells slots F Lc) (hsz : ls.size = nL) (hG : DG A D ac ad s σ H locs) {kb : Nat} (hk : kd kb = 5) (hM : Met l y_5_carryOut (Cond.code y_5_carryOut prog_7_method_2_code 6 none :: wA) { frames := 3, cells := 0, slots := 0, locals := 75 } (va_Pc [.ref (ad kb)] (GSt A D ac ad st σ)) (va_Qv Q (GSt A D ac ad st) A) 0 0 A) (hR : 3 + 1 ≤ F ∧ 8 + (6 + 11) + 75 ≤ Lc) (hcat : (rest.map fun v => v.category).sum ≤ 8) (hdg : decode cc pc = .ok (.invokevirtual 208, 3))
    (kk : ∀ (u : St), Q u → ∀ (H1 : Heap) (locs1 : List Loc), DG A D ac ad s u H1 locs1 → W p l e R s m args below meth c H1 locs1 cells slots QW (F0 m (pc + 3) ls (rest))) : W p l e R s m args below meth c H locs cells slots QW (F0 m pc ls (.ref (ad kb) :: rest)) :=
  mcVv [] S hsz hG hM (mcw (n := 0) S wm_520 wm_521 wm_522 wm_17 wm_523 (by decide) hR) rfl (by decide) hk rfl hcat hdg kk
theorem iv_8_127 {cc : ByteArray} {pc nL F Lc : Nat} {ls : Array Slot} {rest : List Value} {σ : St} {H : Heap} {locs : List Loc} {a0 : Int32} {a1 : Int32} {Q : Int32 → St → Prop} (S : SC A D ac st p m c cc nL s args "SweeperRounds$World" R cells slots F Lc) (hsz : ls.size = nL) (hG : DG A D ac ad s σ H locs) (hM : Met l y_9_placeOf (Cond.code y_9_placeOf prog_1_method_32_code 2 (some .int) :: wA) { frames := 0, cells := 0, slots := 0, locals := 0 } (va_Pc [.int a0, .int a1] (GSt A D ac ad st σ)) (va_Qi Q (GSt A D ac ad st) A) 0 0 A) (hR : 0 + 1 ≤ F ∧ 8 + (2 + 11) + 0 ≤ Lc) (hcat : (rest.map fun v => v.category).sum ≤ 8) (hdg : decode cc pc = .ok (.invokestatic 127, 3))
    (kk : ∀ (r : Int32) (u : St), Q r u → ∀ (H1 : Heap) (locs1 : List Loc), DG A D ac ad s u H1 locs1 → W p l e R s m args below meth c H1 locs1 cells slots QW (F0 m (pc + 3) ls (.int r :: rest))) : W p l e R s m args below meth c H locs cells slots QW (F0 m pc ls (.int a1 :: .int a0 :: rest)) :=
  mcNi [.int a0, .int a1] S hsz hG hM (mcwn (n := 2) (host := "SweeperRounds") S (by decide +kernel) wm_348 wm_9 wm_349 (by decide) hR) rfl hcat hdg kk
theorem iv_8_130 {cc : ByteArray} {pc nL F Lc : Nat} {ls : Array Slot} {rest : List Value} {σ : St} {H : Heap} {locs : List Loc} {a0 : Int32} {a1 : Int32} {Q : Int32 → St → Prop} (S : SC A D ac st p m c cc nL s args "SweeperRounds$World" R cells slots F Lc) (hsz : ls.size = nL) (hG : DG A D ac ad s σ H locs) {kb : Nat} (hk : kd kb = 6) (hM : Met l y_6_putDirt (Cond.code y_6_putDirt prog_8_method_9_code 4 (some .int) :: wA) { frames := 1, cells := 0, slots := 0, locals := 15 } (va_Pc [.ref (ad kb), .int a0, .int a1] (GSt A D ac ad st σ)) (va_Qi Q (GSt A D ac ad st) A) 0 0 A) (hR : 1 + 1 ≤ F ∧ 8 + (4 + 11) + 15 ≤ Lc) (hcat : (rest.map fun v => v.category).sum ≤ 8) (hdg : decode cc pc = .ok (.invokevirtual 130, 3))
    (kk : ∀ (r : Int32) (u : St), Q r u → ∀ (H1 : Heap) (locs1 : List Loc), DG A D ac ad s u H1 locs1 → W p l e R s m args below meth c H1 locs1 cells slots QW (F0 m (pc + 3) ls (.int r :: rest))) : W p l e R s m args below meth c H locs cells slots QW (F0 m pc ls (.int a1 :: .int a0 :: .ref (ad kb) :: rest)) :=
  mcVi [.int a0, .int a1] S hsz hG hM (mcw (n := 2) S wm_434 wm_435 wm_436 wm_12 wm_437 (by decide) hR) rfl (by decide) hk rfl hcat hdg kk
theorem iv_8_123 {cc : ByteArray} {pc nL F Lc : Nat} {ls : Array Slot} {rest : List Value} {σ : St} {H : Heap} {locs : List Loc} {a0 : Nat} {Q : Int32 → St → Prop} (S : SC A D ac st p m c cc nL s args "SweeperRounds$World" R cells slots F Lc) (hsz : ls.size = nL) (hG : DG A D ac ad s σ H locs) {kb : Nat} (hk : kd kb = 8) (hM : Met l y_8_fallOn (Cond.code y_8_fallOn prog_10_method_19_code 2 (some .int) :: wA) { frames := 0, cells := 0, slots := 0, locals := 0 } (va_Pc [.ref (ad kb), .ref (ad a0)] (GSt A D ac ad st σ)) (va_Qi Q (GSt A D ac ad st) A) 0 0 A) (hR : 0 + 1 ≤ F ∧ 8 + (2 + 11) + 0 ≤ Lc) (hcat : (rest.map fun v => v.category).sum ≤ 8) (hdg : decode cc pc = .ok (.invokevirtual 123, 3))
    (kk : ∀ (r : Int32) (u : St), Q r u → ∀ (H1 : Heap) (locs1 : List Loc), DG A D ac ad s u H1 locs1 → W p l e R s m args below meth c H1 locs1 cells slots QW (F0 m (pc + 3) ls (.int r :: rest))) : W p l e R s m args below meth c H locs cells slots QW (F0 m pc ls (.ref (ad a0) :: .ref (ad kb) :: rest)) :=
  mcVi [.ref (ad a0)] S hsz hG hM (mcw (n := 1) S wm_429 wm_430 wm_431 wm_13 wm_432 (by decide) hR) rfl (by decide) hk rfl hcat hdg kk
theorem iv_6_33 {cc : ByteArray} {pc nL F Lc : Nat} {ls : Array Slot} {rest : List Value} {σ : St} {H : Heap} {locs : List Loc} {a0 : Int32} {Q : Int32 → St → Prop} (S : SC A D ac st p m c cc nL s args "SweeperRounds$Street" R cells slots F Lc) (hsz : ls.size = nL) (hG : DG A D ac ad s σ H locs) {kb : Nat} (hk : kd kb = 6) (hM : Met l y_6_dirtOfSide (Cond.code y_6_dirtOfSide prog_8_method_4_code 4 (some .int) :: wA) { frames := 1, cells := 0, slots := 0, locals := 21 } (va_Pc [.ref (ad kb), .int a0] (GSt A D ac ad st σ)) (va_Qi Q (GSt A D ac ad st) A) 0 0 A) (hR : 1 + 1 ≤ F ∧ 8 + (4 + 11) + 21 ≤ Lc) (hcat : (rest.map fun v => v.category).sum ≤ 8) (hdg : decode cc pc = .ok (.invokevirtual 33, 3))
    (kk : ∀ (r : Int32) (u : St), Q r u → ∀ (H1 : Heap) (locs1 : List Loc), DG A D ac ad s u H1 locs1 → W p l e R s m args below meth c H1 locs1 cells slots QW (F0 m (pc + 3) ls (.int r :: rest))) : W p l e R s m args below meth c H locs cells slots QW (F0 m pc ls (.int a0 :: .ref (ad kb) :: rest)) :=
  mcVi [.int a0] S hsz hG hM (mcw (n := 1) S wm_447 wm_384 wm_385 wm_12 wm_386 (by decide) hR) rfl (by decide) hk rfl hcat hdg kk
theorem iv_8_88 {cc : ByteArray} {pc nL F Lc : Nat} {ls : Array Slot} {rest : List Value} {σ : St} {H : Heap} {locs : List Loc}  {Q : Int32 → St → Prop} (S : SC A D ac st p m c cc nL s args "SweeperRounds$World" R cells slots F Lc) (hsz : ls.size = nL) (hG : DG A D ac ad s σ H locs) {kb : Nat} (hk : kd kb = 6) (hM : Met l y_6_allDirt (Cond.code y_6_allDirt prog_8_method_5_code 1 (some .int) :: wA) { frames := 2, cells := 0, slots := 0, locals := 44 } (va_Pc [.ref (ad kb)] (GSt A D ac ad st σ)) (va_Qi Q (GSt A D ac ad st) A) 0 0 A) (hR : 2 + 1 ≤ F ∧ 8 + (1 + 11) + 44 ≤ Lc) (hcat : (rest.map fun v => v.category).sum ≤ 8) (hdg : decode cc pc = .ok (.invokevirtual 88, 3))
    (kk : ∀ (r : Int32) (u : St), Q r u → ∀ (H1 : Heap) (locs1 : List Loc), DG A D ac ad s u H1 locs1 → W p l e R s m args below meth c H1 locs1 cells slots QW (F0 m (pc + 3) ls (.int r :: rest))) : W p l e R s m args below meth c H locs cells slots QW (F0 m pc ls (.ref (ad kb) :: rest)) :=
  mcVi [] S hsz hG hM (mcw (n := 0) S wm_443 wm_444 wm_445 wm_12 wm_446 (by decide) hR) rfl (by decide) hk rfl hcat hdg kk
theorem iv_9_218 {cc : ByteArray} {pc nL F Lc : Nat} {ls : Array Slot} {rest : List Value} {σ : St} {H : Heap} {locs : List Loc} {a0 : Int32} {Q : St → Prop} (S : SC A D ac st p m c cc nL s args "SweeperRounds" R cells slots F Lc) (hsz : ls.size = nL) (hG : DG A D ac ad s σ H locs) {kb : Nat} (hk : kd kb = 8) (hM : Met l y_8_passNights (Cond.code y_8_passNights prog_10_method_20_code 6 none :: wA) { frames := 2, cells := 0, slots := 0, locals := 38 } (va_Pc [.ref (ad kb), .int a0] (GSt A D ac ad st σ)) (va_Qv Q (GSt A D ac ad st) A) 0 0 A) (hR : 2 + 1 ≤ F ∧ 8 + (6 + 11) + 38 ≤ Lc) (hcat : (rest.map fun v => v.category).sum ≤ 8) (hdg : decode cc pc = .ok (.invokevirtual 218, 3))
    (kk : ∀ (u : St), Q u → ∀ (H1 : Heap) (locs1 : List Loc), DG A D ac ad s u H1 locs1 → W p l e R s m args below meth c H1 locs1 cells slots QW (F0 m (pc + 3) ls (rest))) : W p l e R s m args below meth c H locs cells slots QW (F0 m pc ls (.int a0 :: .ref (ad kb) :: rest)) :=
  mcVv [.int a0] S hsz hG hM (mcw (n := 1) S wm_425 wm_426 wm_427 wm_13 wm_428 (by decide) hR) rfl (by decide) hk rfl hcat hdg kk
theorem iv_9_221 {cc : ByteArray} {pc nL F Lc : Nat} {ls : Array Slot} {rest : List Value} {σ : St} {H : Heap} {locs : List Loc}  {Q : Int32 → St → Prop} (S : SC A D ac st p m c cc nL s args "SweeperRounds" R cells slots F Lc) (hsz : ls.size = nL) (hG : DG A D ac ad s σ H locs) {kb : Nat} (hk : kd kb = 8) (hM : Met l y_8_dirtOnStreets (Cond.code y_8_dirtOnStreets prog_10_method_6_code 3 (some .int) :: wA) { frames := 3, cells := 0, slots := 0, locals := 64 } (va_Pc [.ref (ad kb)] (GSt A D ac ad st σ)) (va_Qi Q (GSt A D ac ad st) A) 0 0 A) (hR : 3 + 1 ≤ F ∧ 8 + (3 + 11) + 64 ≤ Lc) (hcat : (rest.map fun v => v.category).sum ≤ 8) (hdg : decode cc pc = .ok (.invokevirtual 221, 3))
    (kk : ∀ (r : Int32) (u : St), Q r u → ∀ (H1 : Heap) (locs1 : List Loc), DG A D ac ad s u H1 locs1 → W p l e R s m args below meth c H1 locs1 cells slots QW (F0 m (pc + 3) ls (.int r :: rest))) : W p l e R s m args below meth c H locs cells slots QW (F0 m pc ls (.ref (ad kb) :: rest)) :=
  mcVi [] S hsz hG hM (mcw (n := 0) S wm_439 wm_440 wm_441 wm_13 wm_442 (by decide) hR) rfl (by decide) hk rfl hcat hdg kk
theorem iv_6_45 {cc : ByteArray} {pc nL F Lc : Nat} {ls : Array Slot} {rest : List Value} {σ : St} {H : Heap} {locs : List Loc} {a0 : Int32} {a1 : Int32} {Q : Int32 → St → Prop} (S : SC A D ac st p m c cc nL s args "SweeperRounds$Street" R cells slots F Lc) (hsz : ls.size = nL) (hG : DG A D ac ad s σ H locs) {kb : Nat} (hk : kd kb = 6) (hM : Met l y_6_putDirt (Cond.code y_6_putDirt prog_8_method_9_code 4 (some .int) :: wA) { frames := 1, cells := 0, slots := 0, locals := 15 } (va_Pc [.ref (ad kb), .int a0, .int a1] (GSt A D ac ad st σ)) (va_Qi Q (GSt A D ac ad st) A) 0 0 A) (hR : 1 + 1 ≤ F ∧ 8 + (4 + 11) + 15 ≤ Lc) (hcat : (rest.map fun v => v.category).sum ≤ 8) (hdg : decode cc pc = .ok (.invokevirtual 45, 3))
    (kk : ∀ (r : Int32) (u : St), Q r u → ∀ (H1 : Heap) (locs1 : List Loc), DG A D ac ad s u H1 locs1 → W p l e R s m args below meth c H1 locs1 cells slots QW (F0 m (pc + 3) ls (.int r :: rest))) : W p l e R s m args below meth c H locs cells slots QW (F0 m pc ls (.int a1 :: .int a0 :: .ref (ad kb) :: rest)) :=
  mcVi [.int a0, .int a1] S hsz hG hM (mcw (n := 2) S wm_460 wm_435 wm_436 wm_12 wm_437 (by decide) hR) rfl (by decide) hk rfl hcat hdg kk
theorem iv_8_133 {cc : ByteArray} {pc nL F Lc : Nat} {ls : Array Slot} {rest : List Value} {σ : St} {H : Heap} {locs : List Loc} {a0 : Int32} {a1 : Int32} {Q : Int32 → St → Prop} (S : SC A D ac st p m c cc nL s args "SweeperRounds$World" R cells slots F Lc) (hsz : ls.size = nL) (hG : DG A D ac ad s σ H locs) {kb : Nat} (hk : kd kb = 6) (hM : Met l y_6_washSide (Cond.code y_6_washSide prog_8_method_10_code 7 (some .int) :: wA) { frames := 2, cells := 0, slots := 0, locals := 38 } (va_Pc [.ref (ad kb), .int a0, .int a1] (GSt A D ac ad st σ)) (va_Qi Q (GSt A D ac ad st) A) 0 0 A) (hR : 2 + 1 ≤ F ∧ 8 + (7 + 11) + 38 ≤ Lc) (hcat : (rest.map fun v => v.category).sum ≤ 8) (hdg : decode cc pc = .ok (.invokevirtual 133, 3))
    (kk : ∀ (r : Int32) (u : St), Q r u → ∀ (H1 : Heap) (locs1 : List Loc), DG A D ac ad s u H1 locs1 → W p l e R s m args below meth c H1 locs1 cells slots QW (F0 m (pc + 3) ls (.int r :: rest))) : W p l e R s m args below meth c H locs cells slots QW (F0 m pc ls (.int a1 :: .int a0 :: .ref (ad kb) :: rest)) :=
  mcVi [.int a0, .int a1] S hsz hG hM (mcw (n := 2) S wm_456 wm_457 wm_458 wm_12 wm_459 (by decide) hR) rfl (by decide) hk rfl hcat hdg kk
theorem iv_9_224 {cc : ByteArray} {pc nL F Lc : Nat} {ls : Array Slot} {rest : List Value} {σ : St} {H : Heap} {locs : List Loc} {a0 : Int32} {Q : Int32 → St → Prop} (S : SC A D ac st p m c cc nL s args "SweeperRounds" R cells slots F Lc) (hsz : ls.size = nL) (hG : DG A D ac ad s σ H locs) {kb : Nat} (hk : kd kb = 8) (hM : Met l y_8_washStreets (Cond.code y_8_washStreets prog_10_method_21_code 4 (some .int) :: wA) { frames := 3, cells := 0, slots := 0, locals := 64 } (va_Pc [.ref (ad kb), .int a0] (GSt A D ac ad st σ)) (va_Qi Q (GSt A D ac ad st) A) 0 0 A) (hR : 3 + 1 ≤ F ∧ 8 + (4 + 11) + 64 ≤ Lc) (hcat : (rest.map fun v => v.category).sum ≤ 8) (hdg : decode cc pc = .ok (.invokevirtual 224, 3))
    (kk : ∀ (r : Int32) (u : St), Q r u → ∀ (H1 : Heap) (locs1 : List Loc), DG A D ac ad s u H1 locs1 → W p l e R s m args below meth c H1 locs1 cells slots QW (F0 m (pc + 3) ls (.int r :: rest))) : W p l e R s m args below meth c H locs cells slots QW (F0 m pc ls (.int a0 :: .ref (ad kb) :: rest)) :=
  mcVi [.int a0] S hsz hG hM (mcw (n := 1) S wm_452 wm_453 wm_454 wm_13 wm_455 (by decide) hR) rfl (by decide) hk rfl hcat hdg kk
theorem iv_9_317 {cc : ByteArray} {pc nL F Lc : Nat} {ls : Array Slot} {rest : List Value} {σ : St} {H : Heap} {locs : List Loc} {a0 : Nat} {Q : St → Prop} (S : SC A D ac st p m c cc nL s args "SweeperRounds" R cells slots F Lc) (hsz : ls.size = nL) (hG : DG A D ac ad s σ H locs) {kb : Nat} (hk : kd kb = 8) (hM : Met l y_8_copyFrom (Cond.code y_8_copyFrom prog_10_method_2_code 3 none :: wA) { frames := 1, cells := 0, slots := 0, locals := 22 } (va_Pc [.ref (ad kb), .ref (ad a0)] (GSt A D ac ad st σ)) (va_Qv Q (GSt A D ac ad st) A) 0 0 A) (hR : 1 + 1 ≤ F ∧ 8 + (3 + 11) + 22 ≤ Lc) (hcat : (rest.map fun v => v.category).sum ≤ 8) (hdg : decode cc pc = .ok (.invokevirtual 317, 3))
    (kk : ∀ (u : St), Q u → ∀ (H1 : Heap) (locs1 : List Loc), DG A D ac ad s u H1 locs1 → W p l e R s m args below meth c H1 locs1 cells slots QW (F0 m (pc + 3) ls (rest))) : W p l e R s m args below meth c H locs cells slots QW (F0 m pc ls (.ref (ad a0) :: .ref (ad kb) :: rest)) :=
  mcVv [.ref (ad a0)] S hsz hG hM (mcw (n := 1) S wm_519 wm_329 wm_330 wm_13 wm_331 (by decide) hR) rfl (by decide) hk rfl hcat hdg kk
theorem iv_9_245 {cc : ByteArray} {pc nL F Lc : Nat} {ls : Array Slot} {rest : List Value} {σ : St} {H : Heap} {locs : List Loc} {a0 : Int32} {Q : St → Prop} (S : SC A D ac st p m c cc nL s args "SweeperRounds" R cells slots F Lc) (hsz : ls.size = nL) (hG : DG A D ac ad s σ H locs) {kb : Nat} (hk : kd kb = 9) (hM : Met l y_9_trySpeed (Cond.code y_9_trySpeed prog_1_method_30_code 2 none :: wA) { frames := 4, cells := 0, slots := 0, locals := 100 } (va_Pc [.ref (ad kb), .int a0] (GSt A D ac ad st σ)) (va_Qv Q (GSt A D ac ad st) A) 0 0 A) (hR : 4 + 1 ≤ F ∧ 8 + (2 + 11) + 100 ≤ Lc) (hcat : (rest.map fun v => v.category).sum ≤ 8) (hdg : decode cc pc = .ok (.invokevirtual 245, 3))
    (kk : ∀ (u : St), Q u → ∀ (H1 : Heap) (locs1 : List Loc), DG A D ac ad s u H1 locs1 → W p l e R s m args below meth c H1 locs1 cells slots QW (F0 m (pc + 3) ls (rest))) : W p l e R s m args below meth c H locs cells slots QW (F0 m pc ls (.int a0 :: .ref (ad kb) :: rest)) :=
  mcVv [.int a0] S hsz hG hM (mcw (n := 1) S wm_515 wm_517 wm_0 wm_9 wm_518 (by decide) hR) rfl (by decide) hk rfl hcat hdg kk
theorem iv_L_16 {cc : ByteArray} {pc nL F Lc : Nat} {ls : Array Slot} {rest : List Value} {σ : St} {H : Heap} {locs : List Loc} {a0 : Int32} {a1 : Int32} {Q : Int32 → St → Prop} (S : SC A D ac st p m c cc nL s args "SweeperRoundsLaw" R cells slots F Lc) (hsz : ls.size = nL) (hG : DG A D ac ad s σ H locs) (hM : Met l y_L_low (Cond.code y_L_low method_3_code 2 (some .int) :: wA) { frames := 0, cells := 0, slots := 0, locals := 0 } (va_Pc [.int a0, .int a1] (GSt A D ac ad st σ)) (va_Qi Q (GSt A D ac ad st) A) 0 0 A) (hR : 0 + 1 ≤ F ∧ 8 + (2 + 11) + 0 ≤ Lc) (hcat : (rest.map fun v => v.category).sum ≤ 8) (hdg : decode cc pc = .ok (.invokestatic 16, 3))
    (kk : ∀ (r : Int32) (u : St), Q r u → ∀ (H1 : Heap) (locs1 : List Loc), DG A D ac ad s u H1 locs1 → W p l e R s m args below meth c H1 locs1 cells slots QW (F0 m (pc + 3) ls (.int r :: rest))) : W p l e R s m args below meth c H locs cells slots QW (F0 m pc ls (.int a1 :: .int a0 :: rest)) :=
  mcSi [.int a0, .int a1] S hsz hG hM (mcws (n := 2) S wm_474 wm_475 wm_8 wm_476 (by decide) hR) rfl hcat hdg kk
theorem iv_L_37 {cc : ByteArray} {pc nL F Lc : Nat} {ls : Array Slot} {rest : List Value} {σ : St} {H : Heap} {locs : List Loc} {a0 : Int32} {a1 : Int32} {Q : Int32 → St → Prop} (S : SC A D ac st p m c cc nL s args "SweeperRoundsLaw" R cells slots F Lc) (hsz : ls.size = nL) (hG : DG A D ac ad s σ H locs) {kb : Nat} (hk : kd kb = 9) (hM : Met l y_9_set (Cond.code y_9_set prog_1_method_12_code 4 (some .int) :: wA) { frames := 3, cells := 0, slots := 0, locals := 65 } (va_Pc [.ref (ad kb), .int a0, .int a1] (GSt A D ac ad st σ)) (va_Qi Q (GSt A D ac ad st) A) 0 0 A) (hR : 3 + 1 ≤ F ∧ 8 + (4 + 11) + 65 ≤ Lc) (hcat : (rest.map fun v => v.category).sum ≤ 8) (hdg : decode cc pc = .ok (.invokevirtual 37, 3))
    (kk : ∀ (r : Int32) (u : St), Q r u → ∀ (H1 : Heap) (locs1 : List Loc), DG A D ac ad s u H1 locs1 → W p l e R s m args below meth c H1 locs1 cells slots QW (F0 m (pc + 3) ls (.int r :: rest))) : W p l e R s m args below meth c H locs cells slots QW (F0 m pc ls (.int a1 :: .int a0 :: .ref (ad kb) :: rest)) :=
  mcVi [.int a0, .int a1] S hsz hG hM (mcw (n := 2) S wm_401 wm_402 wm_403 wm_9 wm_404 (by decide) hR) rfl (by decide) hk rfl hcat hdg kk
theorem iv_L_10 {cc : ByteArray} {pc nL F Lc : Nat} {ls : Array Slot} {rest : List Value} {σ : St} {H : Heap} {locs : List Loc} {a1 : Int32} {Q : Int32 → St → Prop} (S : SC A D ac st p m c cc nL s args "SweeperRoundsLaw" R cells slots F Lc) (hsz : ls.size = nL) (hG : DG A D ac ad s σ H locs) (hM : Met l y_L_cell (Cond.code y_L_cell method_2_code 2 (some .int) :: wA) { frames := 0, cells := 0, slots := 0, locals := 0 } (va_Pc [.ref (st.1 3), .int a1] (GSt A D ac ad st σ)) (va_Qi Q (GSt A D ac ad st) A) 0 0 A) (hR : 0 + 1 ≤ F ∧ 8 + (2 + 11) + 0 ≤ Lc) (hcat : (rest.map fun v => v.category).sum ≤ 8) (hdg : decode cc pc = .ok (.invokestatic 10, 3))
    (kk : ∀ (r : Int32) (u : St), Q r u → ∀ (H1 : Heap) (locs1 : List Loc), DG A D ac ad s u H1 locs1 → W p l e R s m args below meth c H1 locs1 cells slots QW (F0 m (pc + 3) ls (.int r :: rest))) : W p l e R s m args below meth c H locs cells slots QW (F0 m pc ls (.int a1 :: .ref (st.1 3) :: rest)) :=
  mcSi [.ref (st.1 3), .int a1] S hsz hG hM (mcws (n := 2) S wm_469 wm_470 wm_8 wm_471 (by decide) hR) rfl hcat hdg kk
theorem iv_L_34 {cc : ByteArray} {pc nL F Lc : Nat} {ls : Array Slot} {rest : List Value} {σ : St} {H : Heap} {locs : List Loc} {a0 : Int32} {a1 : Int32} {Q : Int32 → St → Prop} (S : SC A D ac st p m c cc nL s args "SweeperRoundsLaw" R cells slots F Lc) (hsz : ls.size = nL) (hG : DG A D ac ad s σ H locs) {kb : Nat} (hk : kd kb = 9) (hM : Met l y_9_addLeg (Cond.code y_9_addLeg prog_1_method_13_code 3 (some .int) :: wA) { frames := 3, cells := 0, slots := 0, locals := 65 } (va_Pc [.ref (ad kb), .int a0, .int a1] (GSt A D ac ad st σ)) (va_Qi Q (GSt A D ac ad st) A) 0 0 A) (hR : 3 + 1 ≤ F ∧ 8 + (3 + 11) + 65 ≤ Lc) (hcat : (rest.map fun v => v.category).sum ≤ 8) (hdg : decode cc pc = .ok (.invokevirtual 34, 3))
    (kk : ∀ (r : Int32) (u : St), Q r u → ∀ (H1 : Heap) (locs1 : List Loc), DG A D ac ad s u H1 locs1 → W p l e R s m args below meth c H1 locs1 cells slots QW (F0 m (pc + 3) ls (.int r :: rest))) : W p l e R s m args below meth c H locs cells slots QW (F0 m pc ls (.int a1 :: .int a0 :: .ref (ad kb) :: rest)) :=
  mcVi [.int a0, .int a1] S hsz hG hM (mcw (n := 2) S wm_493 wm_494 wm_495 wm_9 wm_496 (by decide) hR) rfl (by decide) hk rfl hcat hdg kk
theorem iv_L_26 {cc : ByteArray} {pc nL F Lc : Nat} {ls : Array Slot} {rest : List Value} {σ : St} {H : Heap} {locs : List Loc} {a0 : Int32} {a1 : Int32} {a2 : Int32} {a3 : Int32} {Q : Int32 → St → Prop} (S : SC A D ac st p m c cc nL s args "SweeperRoundsLaw" R cells slots F Lc) (hsz : ls.size = nL) (hG : DG A D ac ad s σ H locs) {kb : Nat} (hk : kd kb = 9) (hM : Met l y_9_lay (Cond.code y_9_lay prog_1_method_8_code 5 (some .int) :: wA) { frames := 3, cells := 0, slots := 0, locals := 65 } (va_Pc [.ref (ad kb), .int a0, .int a1, .int a2, .int a3] (GSt A D ac ad st σ)) (va_Qi Q (GSt A D ac ad st) A) 0 0 A) (hR : 3 + 1 ≤ F ∧ 8 + (5 + 11) + 65 ≤ Lc) (hcat : (rest.map fun v => v.category).sum ≤ 8) (hdg : decode cc pc = .ok (.invokevirtual 26, 3))
    (kk : ∀ (r : Int32) (u : St), Q r u → ∀ (H1 : Heap) (locs1 : List Loc), DG A D ac ad s u H1 locs1 → W p l e R s m args below meth c H1 locs1 cells slots QW (F0 m (pc + 3) ls (.int r :: rest))) : W p l e R s m args below meth c H locs cells slots QW (F0 m pc ls (.int a3 :: .int a2 :: .int a1 :: .int a0 :: .ref (ad kb) :: rest)) :=
  mcVi [.int a0, .int a1, .int a2, .int a3] S hsz hG hM (mcw (n := 4) S wm_312 wm_313 wm_314 wm_9 wm_315 (by decide) hR) rfl (by decide) hk rfl hcat hdg kk
theorem iv_L_30 {cc : ByteArray} {pc nL F Lc : Nat} {ls : Array Slot} {rest : List Value} {σ : St} {H : Heap} {locs : List Loc} {a0 : Int32} {a1 : Int32} {a2 : Int32} {a3 : Int32} {Q : Int32 → St → Prop} (S : SC A D ac st p m c cc nL s args "SweeperRoundsLaw" R cells slots F Lc) (hsz : ls.size = nL) (hG : DG A D ac ad s σ H locs) {kb : Nat} (hk : kd kb = 9) (hM : Met l y_9_park (Cond.code y_9_park prog_1_method_9_code 8 (some .int) :: wA) { frames := 3, cells := 0, slots := 0, locals := 65 } (va_Pc [.ref (ad kb), .int a0, .int a1, .int a2, .int a3] (GSt A D ac ad st σ)) (va_Qi Q (GSt A D ac ad st) A) 0 0 A) (hR : 3 + 1 ≤ F ∧ 8 + (8 + 11) + 65 ≤ Lc) (hcat : (rest.map fun v => v.category).sum ≤ 8) (hdg : decode cc pc = .ok (.invokevirtual 30, 3))
    (kk : ∀ (r : Int32) (u : St), Q r u → ∀ (H1 : Heap) (locs1 : List Loc), DG A D ac ad s u H1 locs1 → W p l e R s m args below meth c H1 locs1 cells slots QW (F0 m (pc + 3) ls (.int r :: rest))) : W p l e R s m args below meth c H locs cells slots QW (F0 m pc ls (.int a3 :: .int a2 :: .int a1 :: .int a0 :: .ref (ad kb) :: rest)) :=
  mcVi [.int a0, .int a1, .int a2, .int a3] S hsz hG hM (mcw (n := 4) S wm_357 wm_358 wm_359 wm_9 wm_360 (by decide) hR) rfl (by decide) hk rfl hcat hdg kk
theorem iv_L_20 {cc : ByteArray} {pc nL F Lc : Nat} {ls : Array Slot} {rest : List Value} {σ : St} {H : Heap} {locs : List Loc} {a0 : Int32} {a1 : Int32} {a2 : Int32} {Q : Int32 → St → Prop} (S : SC A D ac st p m c cc nL s args "SweeperRoundsLaw" R cells slots F Lc) (hsz : ls.size = nL) (hG : DG A D ac ad s σ H locs) {kb : Nat} (hk : kd kb = 9) (hM : Met l y_9_addStreet (Cond.code y_9_addStreet prog_1_method_6_code 4 (some .int) :: wA) { frames := 3, cells := 0, slots := 0, locals := 65 } (va_Pc [.ref (ad kb), .int a0, .int a1, .int a2] (GSt A D ac ad st σ)) (va_Qi Q (GSt A D ac ad st) A) 0 0 A) (hR : 3 + 1 ≤ F ∧ 8 + (4 + 11) + 65 ≤ Lc) (hcat : (rest.map fun v => v.category).sum ≤ 8) (hdg : decode cc pc = .ok (.invokevirtual 20, 3))
    (kk : ∀ (r : Int32) (u : St), Q r u → ∀ (H1 : Heap) (locs1 : List Loc), DG A D ac ad s u H1 locs1 → W p l e R s m args below meth c H1 locs1 cells slots QW (F0 m (pc + 3) ls (.int r :: rest))) : W p l e R s m args below meth c H locs cells slots QW (F0 m pc ls (.int a2 :: .int a1 :: .int a0 :: .ref (ad kb) :: rest)) :=
  mcVi [.int a0, .int a1, .int a2] S hsz hG hM (mcw (n := 3) S wm_481 wm_482 wm_483 wm_9 wm_484 (by decide) hR) rfl (by decide) hk rfl hcat hdg kk
theorem iv_L_40 {cc : ByteArray} {pc nL F Lc : Nat} {ls : Array Slot} {rest : List Value} {σ : St} {H : Heap} {locs : List Loc} {a0 : Int32} {Q : Int32 → St → Prop} (S : SC A D ac st p m c cc nL s args "SweeperRoundsLaw" R cells slots F Lc) (hsz : ls.size = nL) (hG : DG A D ac ad s σ H locs) {kb : Nat} (hk : kd kb = 9) (hM : Met l y_9_account (Cond.code y_9_account prog_1_method_24_code 2 (some .int) :: wA) { frames := 4, cells := 0, slots := 0, locals := 86 } (va_Pc [.ref (ad kb), .int a0] (GSt A D ac ad st σ)) (va_Qi Q (GSt A D ac ad st) A) 0 0 A) (hR : 4 + 1 ≤ F ∧ 8 + (2 + 11) + 86 ≤ Lc) (hcat : (rest.map fun v => v.category).sum ≤ 8) (hdg : decode cc pc = .ok (.invokevirtual 40, 3))
    (kk : ∀ (r : Int32) (u : St), Q r u → ∀ (H1 : Heap) (locs1 : List Loc), DG A D ac ad s u H1 locs1 → W p l e R s m args below meth c H1 locs1 cells slots QW (F0 m (pc + 3) ls (.int r :: rest))) : W p l e R s m args below meth c H locs cells slots QW (F0 m pc ls (.int a0 :: .ref (ad kb) :: rest)) :=
  mcVi [.int a0] S hsz hG hM (mcw (n := 1) S wm_504 wm_505 wm_506 wm_9 wm_507 (by decide) hR) rfl (by decide) hk rfl hcat hdg kk
theorem iv_L_44 {cc : ByteArray} {pc nL F Lc : Nat} {ls : Array Slot} {rest : List Value} {σ : St} {H : Heap} {locs : List Loc} {a0 : Int32} {Q : Int32 → St → Prop} (S : SC A D ac st p m c cc nL s args "SweeperRoundsLaw" R cells slots F Lc) (hsz : ls.size = nL) (hG : DG A D ac ad s σ H locs) {kb : Nat} (hk : kd kb = 9) (hM : Met l y_9_count (Cond.code y_9_count prog_1_method_26_code 2 (some .int) :: wA) { frames := 1, cells := 0, slots := 0, locals := 20 } (va_Pc [.ref (ad kb), .int a0] (GSt A D ac ad st σ)) (va_Qi Q (GSt A D ac ad st) A) 0 0 A) (hR : 1 + 1 ≤ F ∧ 8 + (2 + 11) + 20 ≤ Lc) (hcat : (rest.map fun v => v.category).sum ≤ 8) (hdg : decode cc pc = .ok (.invokevirtual 44, 3))
    (kk : ∀ (r : Int32) (u : St), Q r u → ∀ (H1 : Heap) (locs1 : List Loc), DG A D ac ad s u H1 locs1 → W p l e R s m args below meth c H1 locs1 cells slots QW (F0 m (pc + 3) ls (.int r :: rest))) : W p l e R s m args below meth c H locs cells slots QW (F0 m pc ls (.int a0 :: .ref (ad kb) :: rest)) :=
  mcVi [.int a0] S hsz hG hM (mcw (n := 1) S wm_465 wm_466 wm_467 wm_9 wm_468 (by decide) hR) rfl (by decide) hk rfl hcat hdg kk
theorem iv_L_65 {cc : ByteArray} {pc nL F Lc : Nat} {ls : Array Slot} {rest : List Value} {σ : St} {H : Heap} {locs : List Loc} {a0 : Nat} {Q : Int32 → St → Prop} (S : SC A D ac st p m c cc nL s args "SweeperRoundsLaw" R cells slots F Lc) (hsz : ls.size = nL) (hG : DG A D ac ad s σ H locs) (hM : Met l y_L_balanced (Cond.code y_L_balanced method_5_code 1 (some .boolean) :: wA) { frames := 5, cells := 0, slots := 0, locals := 107 } (va_Pc [.ref (ad a0)] (GSt A D ac ad st σ)) (va_Qi Q (GSt A D ac ad st) A) 0 0 A) (hR : 5 + 1 ≤ F ∧ 8 + (1 + 11) + 107 ≤ Lc) (hcat : (rest.map fun v => v.category).sum ≤ 8) (hdg : decode cc pc = .ok (.invokestatic 65, 3))
    (kk : ∀ (r : Int32) (u : St), Q r u → ∀ (H1 : Heap) (locs1 : List Loc), DG A D ac ad s u H1 locs1 → W p l e R s m args below meth c H1 locs1 cells slots QW (F0 m (pc + 3) ls (.int r :: rest))) : W p l e R s m args below meth c H locs cells slots QW (F0 m pc ls (.ref (ad a0) :: rest)) :=
  mcSi [.ref (ad a0)] S hsz hG hM (mcws (n := 1) S wm_501 wm_502 wm_8 wm_503 (by decide) hR) rfl hcat hdg kk
theorem iv_L_47 {cc : ByteArray} {pc nL F Lc : Nat} {ls : Array Slot} {rest : List Value} {σ : St} {H : Heap} {locs : List Loc} {a0 : Int32} {a1 : Int32} {Q : Int32 → St → Prop} (S : SC A D ac st p m c cc nL s args "SweeperRoundsLaw" R cells slots F Lc) (hsz : ls.size = nL) (hG : DG A D ac ad s σ H locs) {kb : Nat} (hk : kd kb = 9) (hM : Met l y_9_street (Cond.code y_9_street prog_1_method_11_code 4 (some .int) :: wA) { frames := 2, cells := 0, slots := 0, locals := 44 } (va_Pc [.ref (ad kb), .int a0, .int a1] (GSt A D ac ad st σ)) (va_Qi Q (GSt A D ac ad st) A) 0 0 A) (hR : 2 + 1 ≤ F ∧ 8 + (4 + 11) + 44 ≤ Lc) (hcat : (rest.map fun v => v.category).sum ≤ 8) (hdg : decode cc pc = .ok (.invokevirtual 47, 3))
    (kk : ∀ (r : Int32) (u : St), Q r u → ∀ (H1 : Heap) (locs1 : List Loc), DG A D ac ad s u H1 locs1 → W p l e R s m args below meth c H1 locs1 cells slots QW (F0 m (pc + 3) ls (.int r :: rest))) : W p l e R s m args below meth c H locs cells slots QW (F0 m pc ls (.int a1 :: .int a0 :: .ref (ad kb) :: rest)) :=
  mcVi [.int a0, .int a1] S hsz hG hM (mcw (n := 2) S wm_378 wm_379 wm_380 wm_9 wm_381 (by decide) hR) rfl (by decide) hk rfl hcat hdg kk
theorem iv_L_50 {cc : ByteArray} {pc nL F Lc : Nat} {ls : Array Slot} {rest : List Value} {σ : St} {H : Heap} {locs : List Loc} {a0 : Int32} {a1 : Int32} {a2 : Int32} {a3 : Int32} {Q : Int32 → St → Prop} (S : SC A D ac st p m c cc nL s args "SweeperRoundsLaw" R cells slots F Lc) (hsz : ls.size = nL) (hG : DG A D ac ad s σ H locs) {kb : Nat} (hk : kd kb = 9) (hM : Met l y_9_cell (Cond.code y_9_cell prog_1_method_10_code 7 (some .int) :: wA) { frames := 2, cells := 0, slots := 0, locals := 44 } (va_Pc [.ref (ad kb), .int a0, .int a1, .int a2, .int a3] (GSt A D ac ad st σ)) (va_Qi Q (GSt A D ac ad st) A) 0 0 A) (hR : 2 + 1 ≤ F ∧ 8 + (7 + 11) + 44 ≤ Lc) (hcat : (rest.map fun v => v.category).sum ≤ 8) (hdg : decode cc pc = .ok (.invokevirtual 50, 3))
    (kk : ∀ (r : Int32) (u : St), Q r u → ∀ (H1 : Heap) (locs1 : List Loc), DG A D ac ad s u H1 locs1 → W p l e R s m args below meth c H1 locs1 cells slots QW (F0 m (pc + 3) ls (.int r :: rest))) : W p l e R s m args below meth c H locs cells slots QW (F0 m pc ls (.int a3 :: .int a2 :: .int a1 :: .int a0 :: .ref (ad kb) :: rest)) :=
  mcVi [.int a0, .int a1, .int a2, .int a3] S hsz hG hM (mcw (n := 4) S wm_361 wm_362 wm_363 wm_9 wm_364 (by decide) hR) rfl (by decide) hk rfl hcat hdg kk
theorem iv_L_52 {cc : ByteArray} {pc nL F Lc : Nat} {ls : Array Slot} {rest : List Value} {σ : St} {H : Heap} {locs : List Loc} {a0 : Int32} {a1 : Int32} {Q : Int32 → St → Prop} (S : SC A D ac st p m c cc nL s args "SweeperRoundsLaw" R cells slots F Lc) (hsz : ls.size = nL) (hG : DG A D ac ad s σ H locs) {kb : Nat} (hk : kd kb = 9) (hM : Met l y_9_leg (Cond.code y_9_leg prog_1_method_15_code 4 (some .int) :: wA) { frames := 1, cells := 0, slots := 0, locals := 21 } (va_Pc [.ref (ad kb), .int a0, .int a1] (GSt A D ac ad st σ)) (va_Qi Q (GSt A D ac ad st) A) 0 0 A) (hR : 1 + 1 ≤ F ∧ 8 + (4 + 11) + 21 ≤ Lc) (hcat : (rest.map fun v => v.category).sum ≤ 8) (hdg : decode cc pc = .ok (.invokevirtual 52, 3))
    (kk : ∀ (r : Int32) (u : St), Q r u → ∀ (H1 : Heap) (locs1 : List Loc), DG A D ac ad s u H1 locs1 → W p l e R s m args below meth c H1 locs1 cells slots QW (F0 m (pc + 3) ls (.int r :: rest))) : W p l e R s m args below meth c H locs cells slots QW (F0 m pc ls (.int a1 :: .int a0 :: .ref (ad kb) :: rest)) :=
  mcVi [.int a0, .int a1] S hsz hG hM (mcw (n := 2) S wm_413 wm_414 wm_415 wm_9 wm_416 (by decide) hR) rfl (by decide) hk rfl hcat hdg kk
theorem iv_L_62 {cc : ByteArray} {pc nL F Lc : Nat} {ls : Array Slot} {rest : List Value} {σ : St} {H : Heap} {locs : List Loc} {a0 : Int32} {Q : Int32 → St → Prop} (S : SC A D ac st p m c cc nL s args "SweeperRoundsLaw" R cells slots F Lc) (hsz : ls.size = nL) (hG : DG A D ac ad s σ H locs) {kb : Nat} (hk : kd kb = 9) (hM : Met l y_9_latest (Cond.code y_9_latest prog_1_method_19_code 2 (some .int) :: wA) { frames := 0, cells := 0, slots := 0, locals := 0 } (va_Pc [.ref (ad kb), .int a0] (GSt A D ac ad st σ)) (va_Qi Q (GSt A D ac ad st) A) 0 0 A) (hR : 0 + 1 ≤ F ∧ 8 + (2 + 11) + 0 ≤ Lc) (hcat : (rest.map fun v => v.category).sum ≤ 8) (hdg : decode cc pc = .ok (.invokevirtual 62, 3))
    (kk : ∀ (r : Int32) (u : St), Q r u → ∀ (H1 : Heap) (locs1 : List Loc), DG A D ac ad s u H1 locs1 → W p l e R s m args below meth c H1 locs1 cells slots QW (F0 m (pc + 3) ls (.int r :: rest))) : W p l e R s m args below meth c H locs cells slots QW (F0 m pc ls (.int a0 :: .ref (ad kb) :: rest)) :=
  mcVi [.int a0] S hsz hG hM (mcw (n := 1) S wm_461 wm_462 wm_463 wm_9 wm_464 (by decide) hR) rfl (by decide) hk rfl hcat hdg kk
theorem iv_L_55 {cc : ByteArray} {pc nL F Lc : Nat} {ls : Array Slot} {rest : List Value} {σ : St} {H : Heap} {locs : List Loc} {a0 : Int32} {Q : Int32 → St → Prop} (S : SC A D ac st p m c cc nL s args "SweeperRoundsLaw" R cells slots F Lc) (hsz : ls.size = nL) (hG : DG A D ac ad s σ H locs) {kb : Nat} (hk : kd kb = 9) (hM : Met l y_9_ifSpeed (Cond.code y_9_ifSpeed prog_1_method_20_code 2 (some .int) :: wA) { frames := 5, cells := 0, slots := 0, locals := 121 } (va_Pc [.ref (ad kb), .int a0] (GSt A D ac ad st σ)) (va_Qi Q (GSt A D ac ad st) A) 0 0 A) (hR : 5 + 1 ≤ F ∧ 8 + (2 + 11) + 121 ≤ Lc) (hcat : (rest.map fun v => v.category).sum ≤ 8) (hdg : decode cc pc = .ok (.invokevirtual 55, 3))
    (kk : ∀ (r : Int32) (u : St), Q r u → ∀ (H1 : Heap) (locs1 : List Loc), DG A D ac ad s u H1 locs1 → W p l e R s m args below meth c H1 locs1 cells slots QW (F0 m (pc + 3) ls (.int r :: rest))) : W p l e R s m args below meth c H locs cells slots QW (F0 m pc ls (.int a0 :: .ref (ad kb) :: rest)) :=
  mcVi [.int a0] S hsz hG hM (mcw (n := 1) S wm_511 wm_512 wm_513 wm_9 wm_514 (by decide) hR) rfl (by decide) hk rfl hcat hdg kk
theorem iv_L_58 {cc : ByteArray} {pc nL F Lc : Nat} {ls : Array Slot} {rest : List Value} {σ : St} {H : Heap} {locs : List Loc}  {Q : Int32 → St → Prop} (S : SC A D ac st p m c cc nL s args "SweeperRoundsLaw" R cells slots F Lc) (hsz : ls.size = nL) (hG : DG A D ac ad s σ H locs) {kb : Nat} (hk : kd kb = 9) (hM : Met l y_9_shift (Cond.code y_9_shift prog_1_method_16_code 1 (some .int) :: wA) { frames := 4, cells := 0, slots := 0, locals := 100 } (va_Pc [.ref (ad kb)] (GSt A D ac ad st σ)) (va_Qi Q (GSt A D ac ad st) A) 0 0 A) (hR : 4 + 1 ≤ F ∧ 8 + (1 + 11) + 100 ≤ Lc) (hcat : (rest.map fun v => v.category).sum ≤ 8) (hdg : decode cc pc = .ok (.invokevirtual 58, 3))
    (kk : ∀ (r : Int32) (u : St), Q r u → ∀ (H1 : Heap) (locs1 : List Loc), DG A D ac ad s u H1 locs1 → W p l e R s m args below meth c H1 locs1 cells slots QW (F0 m (pc + 3) ls (.int r :: rest))) : W p l e R s m args below meth c H locs cells slots QW (F0 m pc ls (.ref (ad kb) :: rest)) :=
  mcVi [] S hsz hG hM (mcw (n := 0) S wm_574 wm_575 wm_576 wm_9 wm_577 (by decide) hR) rfl (by decide) hk rfl hcat hdg kk
theorem iv_L_79 {cc : ByteArray} {pc nL F Lc : Nat} {ls : Array Slot} {rest : List Value} {σ : St} {H : Heap} {locs : List Loc} {a0 : Int32} {Q : Int32 → St → Prop} (S : SC A D ac st p m c cc nL s args "SweeperRoundsLaw" R cells slots F Lc) (hsz : ls.size = nL) (hG : DG A D ac ad s σ H locs) {kb : Nat} (hk : kd kb = 9) (hM : Met l y_9_rain (Cond.code y_9_rain prog_1_method_18_code 2 (some .int) :: wA) { frames := 4, cells := 0, slots := 0, locals := 87 } (va_Pc [.ref (ad kb), .int a0] (GSt A D ac ad st σ)) (va_Qi Q (GSt A D ac ad st) A) 0 0 A) (hR : 4 + 1 ≤ F ∧ 8 + (2 + 11) + 87 ≤ Lc) (hcat : (rest.map fun v => v.category).sum ≤ 8) (hdg : decode cc pc = .ok (.invokevirtual 79, 3))
    (kk : ∀ (r : Int32) (u : St), Q r u → ∀ (H1 : Heap) (locs1 : List Loc), DG A D ac ad s u H1 locs1 → W p l e R s m args below meth c H1 locs1 cells slots QW (F0 m (pc + 3) ls (.int r :: rest))) : W p l e R s m args below meth c H locs cells slots QW (F0 m pc ls (.int a0 :: .ref (ad kb) :: rest)) :=
  mcVi [.int a0] S hsz hG hM (mcw (n := 1) S wm_448 wm_449 wm_450 wm_9 wm_451 (by decide) hR) rfl (by decide) hk rfl hcat hdg kk
theorem iv_L_76 {cc : ByteArray} {pc nL F Lc : Nat} {ls : Array Slot} {rest : List Value} {σ : St} {H : Heap} {locs : List Loc} {a0 : Int32} {Q : Int32 → St → Prop} (S : SC A D ac st p m c cc nL s args "SweeperRoundsLaw" R cells slots F Lc) (hsz : ls.size = nL) (hG : DG A D ac ad s σ H locs) {kb : Nat} (hk : kd kb = 9) (hM : Met l y_9_night (Cond.code y_9_night prog_1_method_17_code 2 (some .int) :: wA) { frames := 4, cells := 0, slots := 0, locals := 86 } (va_Pc [.ref (ad kb), .int a0] (GSt A D ac ad st σ)) (va_Qi Q (GSt A D ac ad st) A) 0 0 A) (hR : 4 + 1 ≤ F ∧ 8 + (2 + 11) + 86 ≤ Lc) (hcat : (rest.map fun v => v.category).sum ≤ 8) (hdg : decode cc pc = .ok (.invokevirtual 76, 3))
    (kk : ∀ (r : Int32) (u : St), Q r u → ∀ (H1 : Heap) (locs1 : List Loc), DG A D ac ad s u H1 locs1 → W p l e R s m args below meth c H1 locs1 cells slots QW (F0 m (pc + 3) ls (.int r :: rest))) : W p l e R s m args below meth c H locs cells slots QW (F0 m pc ls (.int a0 :: .ref (ad kb) :: rest)) :=
  mcVi [.int a0] S hsz hG hM (mcw (n := 1) S wm_421 wm_422 wm_423 wm_9 wm_424 (by decide) hR) rfl (by decide) hk rfl hcat hdg kk
theorem iv_L_70 {cc : ByteArray} {pc nL F Lc : Nat} {ls : Array Slot} {rest : List Value} {σ : St} {H : Heap} {locs : List Loc} {a0 : Nat} {a2 : Int32} {a3 : Int32} {a4 : Int32} {Q : Int32 → St → Prop} (S : SC A D ac st p m c cc nL s args "SweeperRoundsLaw" R cells slots F Lc) (hsz : ls.size = nL) (hG : DG A D ac ad s σ H locs) (hM : Met l y_L_town (Cond.code y_L_town method_4_code 11 (some .boolean) :: wA) { frames := 4, cells := 0, slots := 0, locals := 92 } (va_Pc [.ref (ad a0), .ref (st.1 3), .int a2, .int a3, .int a4] (GSt A D ac ad st σ)) (va_Qi Q (GSt A D ac ad st) A) 0 0 A) (hR : 4 + 1 ≤ F ∧ 8 + (11 + 11) + 92 ≤ Lc) (hcat : (rest.map fun v => v.category).sum ≤ 8) (hdg : decode cc pc = .ok (.invokestatic 70, 3))
    (kk : ∀ (r : Int32) (u : St), Q r u → ∀ (H1 : Heap) (locs1 : List Loc), DG A D ac ad s u H1 locs1 → W p l e R s m args below meth c H1 locs1 cells slots QW (F0 m (pc + 3) ls (.int r :: rest))) : W p l e R s m args below meth c H locs cells slots QW (F0 m pc ls (.int a4 :: .int a3 :: .int a2 :: .ref (st.1 3) :: .ref (ad a0) :: rest)) :=
  mcSi [.ref (ad a0), .ref (st.1 3), .int a2, .int a3, .int a4] S hsz hG hM (mcws (n := 5) S wm_478 wm_479 wm_8 wm_480 (by decide) hR) rfl hcat hdg kk
end LK
end
section
theorem d_6_copyFrom_0 : decode prog_8_method_3_code 0 = .ok (.aload_n 0, 1) := by decide +kernel
theorem d_6_copyFrom_1 : decode prog_8_method_3_code 1 = .ok (.aload_n 1, 1) := by decide +kernel
theorem d_6_copyFrom_2 : decode prog_8_method_3_code 2 = .ok (.getfield 19, 3) := by decide +kernel
theorem d_6_copyFrom_5 : decode prog_8_method_3_code 5 = .ok (.putfield 19, 3) := by decide +kernel
theorem d_6_copyFrom_8 : decode prog_8_method_3_code 8 = .ok (.aload_n 0, 1) := by decide +kernel
theorem d_6_copyFrom_9 : decode prog_8_method_3_code 9 = .ok (.aload_n 1, 1) := by decide +kernel
theorem d_6_copyFrom_10 : decode prog_8_method_3_code 10 = .ok (.getfield 23, 3) := by decide +kernel
theorem d_6_copyFrom_13 : decode prog_8_method_3_code 13 = .ok (.putfield 23, 3) := by decide +kernel
theorem d_6_copyFrom_16 : decode prog_8_method_3_code 16 = .ok (.aload_n 0, 1) := by decide +kernel
theorem d_6_copyFrom_17 : decode prog_8_method_3_code 17 = .ok (.aload_n 1, 1) := by decide +kernel
theorem d_6_copyFrom_18 : decode prog_8_method_3_code 18 = .ok (.getfield 26, 3) := by decide +kernel
theorem d_6_copyFrom_21 : decode prog_8_method_3_code 21 = .ok (.putfield 26, 3) := by decide +kernel
theorem d_6_copyFrom_24 : decode prog_8_method_3_code 24 = .ok (.iconst 0, 1) := by decide +kernel
theorem d_6_copyFrom_25 : decode prog_8_method_3_code 25 = .ok (.istore_n 2, 1) := by decide +kernel
theorem d_6_copyFrom_26 : decode prog_8_method_3_code 26 = .ok (.iload_n 2, 1) := by decide +kernel
theorem d_6_copyFrom_27 : decode prog_8_method_3_code 27 = .ok (.bipush 40, 2) := by decide +kernel
theorem d_6_copyFrom_29 : decode prog_8_method_3_code 29 = .ok (.if_icmp .ge 33, 3) := by decide +kernel
theorem d_6_copyFrom_32 : decode prog_8_method_3_code 32 = .ok (.aload_n 0, 1) := by decide +kernel
theorem d_6_copyFrom_33 : decode prog_8_method_3_code 33 = .ok (.getfield 9, 3) := by decide +kernel
theorem d_6_copyFrom_36 : decode prog_8_method_3_code 36 = .ok (.iload_n 2, 1) := by decide +kernel
theorem d_6_copyFrom_37 : decode prog_8_method_3_code 37 = .ok (.aload_n 1, 1) := by decide +kernel
theorem d_6_copyFrom_38 : decode prog_8_method_3_code 38 = .ok (.getfield 9, 3) := by decide +kernel
theorem d_6_copyFrom_41 : decode prog_8_method_3_code 41 = .ok (.iload_n 2, 1) := by decide +kernel
theorem d_6_copyFrom_42 : decode prog_8_method_3_code 42 = .ok (.iaload, 1) := by decide +kernel
theorem d_6_copyFrom_43 : decode prog_8_method_3_code 43 = .ok (.iastore, 1) := by decide +kernel
theorem d_6_copyFrom_44 : decode prog_8_method_3_code 44 = .ok (.aload_n 0, 1) := by decide +kernel
theorem d_6_copyFrom_45 : decode prog_8_method_3_code 45 = .ok (.getfield 15, 3) := by decide +kernel
theorem d_6_copyFrom_48 : decode prog_8_method_3_code 48 = .ok (.iload_n 2, 1) := by decide +kernel
theorem d_6_copyFrom_49 : decode prog_8_method_3_code 49 = .ok (.aload_n 1, 1) := by decide +kernel
theorem d_6_copyFrom_50 : decode prog_8_method_3_code 50 = .ok (.getfield 15, 3) := by decide +kernel
theorem d_6_copyFrom_53 : decode prog_8_method_3_code 53 = .ok (.iload_n 2, 1) := by decide +kernel
theorem d_6_copyFrom_54 : decode prog_8_method_3_code 54 = .ok (.baload, 1) := by decide +kernel
theorem d_6_copyFrom_55 : decode prog_8_method_3_code 55 = .ok (.bastore, 1) := by decide +kernel
theorem d_6_copyFrom_56 : decode prog_8_method_3_code 56 = .ok (.iinc 2 1, 3) := by decide +kernel
theorem d_6_copyFrom_59 : decode prog_8_method_3_code 59 = .ok (.goto (-33), 3) := by decide +kernel
theorem d_6_copyFrom_62 : decode prog_8_method_3_code 62 = .ok (.return_, 1) := by decide +kernel
def m_6_copyFrom_26 (r0 : Nat) (r1 : Nat) (Q : St → Prop) (B26 : Int32 → St → Prop) (x2 : Int32) (σ : St) : Prop :=
  (((40 : Int32) ≤ x2 → Q σ) ∧ (¬ (40 : Int32) ≤ x2 → vp_in x2 40 ∧ vp_in x2 40 ∧ ∀ σ_1 : St, σ_1 = wr σ (r0 + 1) (x2).toNatClampNeg (σ.1 (r1 + 1) (x2).toNatClampNeg) → vp_in x2 40 ∧ vp_in x2 40 ∧ ∀ σ_2 : St, σ_2 = wr σ_1 (r0 + 2) (x2).toNatClampNeg (vp_nar .boolean (σ_1.1 (r1 + 2) (x2).toNatClampNeg)) → ∀ x2_3 : Int32, x2_3 = x2 + 1 → B26 x2_3 σ_2))
def m_6_copyFrom (r0 : Nat) (r1 : Nat) (Q : St → Prop) (σ : St) : Prop :=
  ∀ σ_1 : St, σ_1 = wr σ r0 0 (σ.1 r1 0) → ∀ σ_2 : St, σ_2 = wr σ_1 r0 1 (σ_1.1 r1 1) → ∀ σ_3 : St, σ_3 = wr σ_2 r0 2 (σ_2.1 r1 2) → itN (m_6_copyFrom_26 r0 r1 Q) (fun _ _ => False) FU (0 : Int32) σ_3
theorem d_1_copyFrom_0 : decode prog_3_method_2_code 0 = .ok (.aload_n 0, 1) := by decide +kernel
theorem d_1_copyFrom_1 : decode prog_3_method_2_code 1 = .ok (.aload_n 1, 1) := by decide +kernel
theorem d_1_copyFrom_2 : decode prog_3_method_2_code 2 = .ok (.getfield 7, 3) := by decide +kernel
theorem d_1_copyFrom_5 : decode prog_3_method_2_code 5 = .ok (.putfield 7, 3) := by decide +kernel
theorem d_1_copyFrom_8 : decode prog_3_method_2_code 8 = .ok (.aload_n 0, 1) := by decide +kernel
theorem d_1_copyFrom_9 : decode prog_3_method_2_code 9 = .ok (.aload_n 1, 1) := by decide +kernel
theorem d_1_copyFrom_10 : decode prog_3_method_2_code 10 = .ok (.getfield 13, 3) := by decide +kernel
theorem d_1_copyFrom_13 : decode prog_3_method_2_code 13 = .ok (.putfield 13, 3) := by decide +kernel
theorem d_1_copyFrom_16 : decode prog_3_method_2_code 16 = .ok (.aload_n 0, 1) := by decide +kernel
theorem d_1_copyFrom_17 : decode prog_3_method_2_code 17 = .ok (.aload_n 1, 1) := by decide +kernel
theorem d_1_copyFrom_18 : decode prog_3_method_2_code 18 = .ok (.getfield 16, 3) := by decide +kernel
theorem d_1_copyFrom_21 : decode prog_3_method_2_code 21 = .ok (.putfield 16, 3) := by decide +kernel
theorem d_1_copyFrom_24 : decode prog_3_method_2_code 24 = .ok (.aload_n 0, 1) := by decide +kernel
theorem d_1_copyFrom_25 : decode prog_3_method_2_code 25 = .ok (.aload_n 1, 1) := by decide +kernel
theorem d_1_copyFrom_26 : decode prog_3_method_2_code 26 = .ok (.getfield 19, 3) := by decide +kernel
theorem d_1_copyFrom_29 : decode prog_3_method_2_code 29 = .ok (.putfield 19, 3) := by decide +kernel
theorem d_1_copyFrom_32 : decode prog_3_method_2_code 32 = .ok (.return_, 1) := by decide +kernel
def m_1_copyFrom (r0 : Nat) (r1 : Nat) (Q : St → Prop) (σ : St) : Prop :=
  ∀ σ_1 : St, σ_1 = wr σ r0 0 (σ.1 r1 0) → ∀ σ_2 : St, σ_2 = wr σ_1 r0 1 (σ_1.1 r1 1) → ∀ σ_3 : St, σ_3 = wr σ_2 r0 2 (σ_2.1 r1 2) → ∀ σ_4 : St, σ_4 = wr σ_3 r0 3 (σ_3.1 r1 3) → Q σ_4
theorem d_4_copyFrom_0 : decode prog_6_method_3_code 0 = .ok (.aload_n 0, 1) := by decide +kernel
theorem d_4_copyFrom_1 : decode prog_6_method_3_code 1 = .ok (.aload_n 1, 1) := by decide +kernel
theorem d_4_copyFrom_2 : decode prog_6_method_3_code 2 = .ok (.getfield 9, 3) := by decide +kernel
theorem d_4_copyFrom_5 : decode prog_6_method_3_code 5 = .ok (.putfield 9, 3) := by decide +kernel
theorem d_4_copyFrom_8 : decode prog_6_method_3_code 8 = .ok (.aload_n 0, 1) := by decide +kernel
theorem d_4_copyFrom_9 : decode prog_6_method_3_code 9 = .ok (.aload_n 1, 1) := by decide +kernel
theorem d_4_copyFrom_10 : decode prog_6_method_3_code 10 = .ok (.getfield 15, 3) := by decide +kernel
theorem d_4_copyFrom_13 : decode prog_6_method_3_code 13 = .ok (.putfield 15, 3) := by decide +kernel
theorem d_4_copyFrom_16 : decode prog_6_method_3_code 16 = .ok (.aload_n 0, 1) := by decide +kernel
theorem d_4_copyFrom_17 : decode prog_6_method_3_code 17 = .ok (.aload_n 1, 1) := by decide +kernel
theorem d_4_copyFrom_18 : decode prog_6_method_3_code 18 = .ok (.getfield 18, 3) := by decide +kernel
theorem d_4_copyFrom_21 : decode prog_6_method_3_code 21 = .ok (.putfield 18, 3) := by decide +kernel
theorem d_4_copyFrom_24 : decode prog_6_method_3_code 24 = .ok (.aload_n 0, 1) := by decide +kernel
theorem d_4_copyFrom_25 : decode prog_6_method_3_code 25 = .ok (.aload_n 1, 1) := by decide +kernel
theorem d_4_copyFrom_26 : decode prog_6_method_3_code 26 = .ok (.getfield 21, 3) := by decide +kernel
theorem d_4_copyFrom_29 : decode prog_6_method_3_code 29 = .ok (.putfield 21, 3) := by decide +kernel
theorem d_4_copyFrom_32 : decode prog_6_method_3_code 32 = .ok (.aload_n 0, 1) := by decide +kernel
theorem d_4_copyFrom_33 : decode prog_6_method_3_code 33 = .ok (.aload_n 1, 1) := by decide +kernel
theorem d_4_copyFrom_34 : decode prog_6_method_3_code 34 = .ok (.getfield 24, 3) := by decide +kernel
theorem d_4_copyFrom_37 : decode prog_6_method_3_code 37 = .ok (.putfield 24, 3) := by decide +kernel
theorem d_4_copyFrom_40 : decode prog_6_method_3_code 40 = .ok (.aload_n 0, 1) := by decide +kernel
theorem d_4_copyFrom_41 : decode prog_6_method_3_code 41 = .ok (.aload_n 1, 1) := by decide +kernel
theorem d_4_copyFrom_42 : decode prog_6_method_3_code 42 = .ok (.getfield 27, 3) := by decide +kernel
theorem d_4_copyFrom_45 : decode prog_6_method_3_code 45 = .ok (.putfield 27, 3) := by decide +kernel
theorem d_4_copyFrom_48 : decode prog_6_method_3_code 48 = .ok (.return_, 1) := by decide +kernel
def m_4_copyFrom (r0 : Nat) (r1 : Nat) (Q : St → Prop) (σ : St) : Prop :=
  ∀ σ_1 : St, σ_1 = wr σ r0 0 (σ.1 r1 0) → ∀ σ_2 : St, σ_2 = wr σ_1 r0 1 (σ_1.1 r1 1) → ∀ σ_3 : St, σ_3 = wr σ_2 r0 2 (σ_2.1 r1 2) → ∀ σ_4 : St, σ_4 = wr σ_3 r0 3 (σ_3.1 r1 3) → ∀ σ_5 : St, σ_5 = wr σ_4 r0 4 (σ_4.1 r1 4) → ∀ σ_6 : St, σ_6 = wr σ_5 r0 5 (σ_5.1 r1 5) → Q σ_6
theorem d_8_copyFrom_0 : decode prog_10_method_2_code 0 = .ok (.aload_n 0, 1) := by decide +kernel
theorem d_8_copyFrom_1 : decode prog_10_method_2_code 1 = .ok (.aload_n 1, 1) := by decide +kernel
theorem d_8_copyFrom_2 : decode prog_10_method_2_code 2 = .ok (.getfield 52, 3) := by decide +kernel
theorem d_8_copyFrom_5 : decode prog_10_method_2_code 5 = .ok (.putfield 52, 3) := by decide +kernel
theorem d_8_copyFrom_8 : decode prog_10_method_2_code 8 = .ok (.iconst 0, 1) := by decide +kernel
theorem d_8_copyFrom_9 : decode prog_10_method_2_code 9 = .ok (.istore_n 2, 1) := by decide +kernel
theorem d_8_copyFrom_10 : decode prog_10_method_2_code 10 = .ok (.iload_n 2, 1) := by decide +kernel
theorem d_8_copyFrom_11 : decode prog_10_method_2_code 11 = .ok (.aload_n 0, 1) := by decide +kernel
theorem d_8_copyFrom_12 : decode prog_10_method_2_code 12 = .ok (.getfield 52, 3) := by decide +kernel
theorem d_8_copyFrom_15 : decode prog_10_method_2_code 15 = .ok (.if_icmp .ge 24, 3) := by decide +kernel
theorem d_8_copyFrom_18 : decode prog_10_method_2_code 18 = .ok (.aload_n 0, 1) := by decide +kernel
theorem d_8_copyFrom_19 : decode prog_10_method_2_code 19 = .ok (.getfield 11, 3) := by decide +kernel
theorem d_8_copyFrom_22 : decode prog_10_method_2_code 22 = .ok (.iload_n 2, 1) := by decide +kernel
theorem d_8_copyFrom_23 : decode prog_10_method_2_code 23 = .ok (.aaload, 1) := by decide +kernel
theorem d_8_copyFrom_24 : decode prog_10_method_2_code 24 = .ok (.aload_n 1, 1) := by decide +kernel
theorem d_8_copyFrom_25 : decode prog_10_method_2_code 25 = .ok (.getfield 11, 3) := by decide +kernel
theorem d_8_copyFrom_28 : decode prog_10_method_2_code 28 = .ok (.iload_n 2, 1) := by decide +kernel
theorem d_8_copyFrom_29 : decode prog_10_method_2_code 29 = .ok (.aaload, 1) := by decide +kernel
theorem d_8_copyFrom_30 : decode prog_10_method_2_code 30 = .ok (.invokevirtual 55, 3) := by decide +kernel
theorem d_8_copyFrom_33 : decode prog_10_method_2_code 33 = .ok (.iinc 2 1, 3) := by decide +kernel
theorem d_8_copyFrom_36 : decode prog_10_method_2_code 36 = .ok (.goto (-26), 3) := by decide +kernel
theorem d_8_copyFrom_39 : decode prog_10_method_2_code 39 = .ok (.aload_n 0, 1) := by decide +kernel
theorem d_8_copyFrom_40 : decode prog_10_method_2_code 40 = .ok (.aload_n 1, 1) := by decide +kernel
theorem d_8_copyFrom_41 : decode prog_10_method_2_code 41 = .ok (.getfield 59, 3) := by decide +kernel
theorem d_8_copyFrom_44 : decode prog_10_method_2_code 44 = .ok (.putfield 59, 3) := by decide +kernel
theorem d_8_copyFrom_47 : decode prog_10_method_2_code 47 = .ok (.iconst 0, 1) := by decide +kernel
theorem d_8_copyFrom_48 : decode prog_10_method_2_code 48 = .ok (.istore_n 2, 1) := by decide +kernel
theorem d_8_copyFrom_49 : decode prog_10_method_2_code 49 = .ok (.iload_n 2, 1) := by decide +kernel
theorem d_8_copyFrom_50 : decode prog_10_method_2_code 50 = .ok (.aload_n 0, 1) := by decide +kernel
theorem d_8_copyFrom_51 : decode prog_10_method_2_code 51 = .ok (.getfield 59, 3) := by decide +kernel
theorem d_8_copyFrom_54 : decode prog_10_method_2_code 54 = .ok (.if_icmp .ge 24, 3) := by decide +kernel
theorem d_8_copyFrom_57 : decode prog_10_method_2_code 57 = .ok (.aload_n 0, 1) := by decide +kernel
theorem d_8_copyFrom_58 : decode prog_10_method_2_code 58 = .ok (.getfield 19, 3) := by decide +kernel
theorem d_8_copyFrom_61 : decode prog_10_method_2_code 61 = .ok (.iload_n 2, 1) := by decide +kernel
theorem d_8_copyFrom_62 : decode prog_10_method_2_code 62 = .ok (.aaload, 1) := by decide +kernel
theorem d_8_copyFrom_63 : decode prog_10_method_2_code 63 = .ok (.aload_n 1, 1) := by decide +kernel
theorem d_8_copyFrom_64 : decode prog_10_method_2_code 64 = .ok (.getfield 19, 3) := by decide +kernel
theorem d_8_copyFrom_67 : decode prog_10_method_2_code 67 = .ok (.iload_n 2, 1) := by decide +kernel
theorem d_8_copyFrom_68 : decode prog_10_method_2_code 68 = .ok (.aaload, 1) := by decide +kernel
theorem d_8_copyFrom_69 : decode prog_10_method_2_code 69 = .ok (.invokevirtual 62, 3) := by decide +kernel
theorem d_8_copyFrom_72 : decode prog_10_method_2_code 72 = .ok (.iinc 2 1, 3) := by decide +kernel
theorem d_8_copyFrom_75 : decode prog_10_method_2_code 75 = .ok (.goto (-26), 3) := by decide +kernel
theorem d_8_copyFrom_78 : decode prog_10_method_2_code 78 = .ok (.aload_n 0, 1) := by decide +kernel
theorem d_8_copyFrom_79 : decode prog_10_method_2_code 79 = .ok (.aload_n 1, 1) := by decide +kernel
theorem d_8_copyFrom_80 : decode prog_10_method_2_code 80 = .ok (.getfield 65, 3) := by decide +kernel
theorem d_8_copyFrom_83 : decode prog_10_method_2_code 83 = .ok (.putfield 65, 3) := by decide +kernel
theorem d_8_copyFrom_86 : decode prog_10_method_2_code 86 = .ok (.aload_n 1, 1) := by decide +kernel
theorem d_8_copyFrom_87 : decode prog_10_method_2_code 87 = .ok (.getfield 23, 3) := by decide +kernel
theorem d_8_copyFrom_90 : decode prog_10_method_2_code 90 = .ok (.iconst 0, 1) := by decide +kernel
theorem d_8_copyFrom_91 : decode prog_10_method_2_code 91 = .ok (.aload_n 0, 1) := by decide +kernel
theorem d_8_copyFrom_92 : decode prog_10_method_2_code 92 = .ok (.getfield 23, 3) := by decide +kernel
theorem d_8_copyFrom_95 : decode prog_10_method_2_code 95 = .ok (.iconst 0, 1) := by decide +kernel
theorem d_8_copyFrom_96 : decode prog_10_method_2_code 96 = .ok (.bipush 6, 2) := by decide +kernel
theorem d_8_copyFrom_98 : decode prog_10_method_2_code 98 = .ok (.invokestatic 42, 3) := by decide +kernel
theorem d_8_copyFrom_101 : decode prog_10_method_2_code 101 = .ok (.aload_n 0, 1) := by decide +kernel
theorem d_8_copyFrom_102 : decode prog_10_method_2_code 102 = .ok (.aload_n 1, 1) := by decide +kernel
theorem d_8_copyFrom_103 : decode prog_10_method_2_code 103 = .ok (.getfield 48, 3) := by decide +kernel
theorem d_8_copyFrom_106 : decode prog_10_method_2_code 106 = .ok (.putfield 48, 3) := by decide +kernel
theorem d_8_copyFrom_109 : decode prog_10_method_2_code 109 = .ok (.aload_n 0, 1) := by decide +kernel
theorem d_8_copyFrom_110 : decode prog_10_method_2_code 110 = .ok (.aload_n 1, 1) := by decide +kernel
theorem d_8_copyFrom_111 : decode prog_10_method_2_code 111 = .ok (.getfield 69, 3) := by decide +kernel
theorem d_8_copyFrom_114 : decode prog_10_method_2_code 114 = .ok (.putfield 69, 3) := by decide +kernel
theorem d_8_copyFrom_117 : decode prog_10_method_2_code 117 = .ok (.aload_n 1, 1) := by decide +kernel
theorem d_8_copyFrom_118 : decode prog_10_method_2_code 118 = .ok (.getfield 27, 3) := by decide +kernel
theorem d_8_copyFrom_121 : decode prog_10_method_2_code 121 = .ok (.iconst 0, 1) := by decide +kernel
theorem d_8_copyFrom_122 : decode prog_10_method_2_code 122 = .ok (.aload_n 0, 1) := by decide +kernel
theorem d_8_copyFrom_123 : decode prog_10_method_2_code 123 = .ok (.getfield 27, 3) := by decide +kernel
theorem d_8_copyFrom_126 : decode prog_10_method_2_code 126 = .ok (.iconst 0, 1) := by decide +kernel
theorem d_8_copyFrom_127 : decode prog_10_method_2_code 127 = .ok (.bipush 6, 2) := by decide +kernel
theorem d_8_copyFrom_129 : decode prog_10_method_2_code 129 = .ok (.invokestatic 42, 3) := by decide +kernel
theorem d_8_copyFrom_132 : decode prog_10_method_2_code 132 = .ok (.aload_n 0, 1) := by decide +kernel
theorem d_8_copyFrom_133 : decode prog_10_method_2_code 133 = .ok (.getfield 33, 3) := by decide +kernel
theorem d_8_copyFrom_136 : decode prog_10_method_2_code 136 = .ok (.aload_n 1, 1) := by decide +kernel
theorem d_8_copyFrom_137 : decode prog_10_method_2_code 137 = .ok (.getfield 33, 3) := by decide +kernel
theorem d_8_copyFrom_140 : decode prog_10_method_2_code 140 = .ok (.invokevirtual 72, 3) := by decide +kernel
theorem d_8_copyFrom_143 : decode prog_10_method_2_code 143 = .ok (.aload_n 0, 1) := by decide +kernel
theorem d_8_copyFrom_144 : decode prog_10_method_2_code 144 = .ok (.aload_n 1, 1) := by decide +kernel
theorem d_8_copyFrom_145 : decode prog_10_method_2_code 145 = .ok (.getfield 75, 3) := by decide +kernel
theorem d_8_copyFrom_148 : decode prog_10_method_2_code 148 = .ok (.putfield 75, 3) := by decide +kernel
theorem d_8_copyFrom_151 : decode prog_10_method_2_code 151 = .ok (.aload_n 0, 1) := by decide +kernel
theorem d_8_copyFrom_152 : decode prog_10_method_2_code 152 = .ok (.aload_n 1, 1) := by decide +kernel
theorem d_8_copyFrom_153 : decode prog_10_method_2_code 153 = .ok (.getfield 78, 3) := by decide +kernel
theorem d_8_copyFrom_156 : decode prog_10_method_2_code 156 = .ok (.putfield 78, 3) := by decide +kernel
theorem d_8_copyFrom_159 : decode prog_10_method_2_code 159 = .ok (.return_, 1) := by decide +kernel
def m_8_copyFrom_49 (r0 : Nat) (r1 : Nat) (Q : St → Prop) (B49 : Int32 → St → Prop) (x2 : Int32) (σ : St) : Prop :=
  (((σ.1 r0 3) ≤ x2 → isB (σ.1 r1 4) ∧ ∀ σ_1 : St, σ_1 = wr σ r0 4 (σ.1 r1 4) → ¬ (6 : Int32) < 0 ∧ ((6 : Int32)).toNatClampNeg ≤ 6 ∧ ((6 : Int32)).toNatClampNeg ≤ 6 ∧ ∀ σ_2 : St, σ_2 = wrA σ_1 (r0 + 3) (va_cpy (σ_1.1 (r1 + 3)) (σ_1.1 (r0 + 3)) 0 0 ((6 : Int32)).toNatClampNeg) → ∀ σ_3 : St, σ_3 = wr σ_2 r0 6 (σ_2.1 r1 6) → ∀ σ_4 : St, σ_4 = wr σ_3 r0 7 (σ_3.1 r1 7) → ¬ (6 : Int32) < 0 ∧ ((6 : Int32)).toNatClampNeg ≤ 6 ∧ ((6 : Int32)).toNatClampNeg ≤ 6 ∧ ∀ σ_5 : St, σ_5 = wrA σ_4 (r0 + 4) (va_cpy (σ_4.1 (r1 + 4)) (σ_4.1 (r0 + 4)) 0 0 ((6 : Int32)).toNatClampNeg) → m_4_copyFrom (r0 + 5) (r1 + 5) (fun (σ_6 : St) => ∀ σ_8 : St, σ_8 = wr σ_6 r0 10 (σ_6.1 r1 10) → ∀ σ_9 : St, σ_9 = wr σ_8 r0 11 (σ_8.1 r1 11) → Q σ_9) σ_5) ∧ (¬ (σ.1 r0 3) ≤ x2 → vp_in x2 10 ∧ vp_in x2 10 ∧ m_1_copyFrom ((r0 + 2) + 22 + (x2).toNatClampNeg) ((r1 + 2) + 22 + (x2).toNatClampNeg) (fun (σ_12 : St) => ∀ x2_14 : Int32, x2_14 = x2 + 1 → B49 x2_14 σ_12) σ))
def m_8_copyFrom_10 (r0 : Nat) (r1 : Nat) (Q : St → Prop) (B10 : Int32 → St → Prop) (x2 : Int32) (σ : St) : Prop :=
  (((σ.1 r0 1) ≤ x2 → ∀ σ_1 : St, σ_1 = wr σ r0 3 (σ.1 r1 3) → itN (m_8_copyFrom_49 r0 r1 Q) (fun _ _ => False) FU (0 : Int32) σ_1) ∧ (¬ (σ.1 r0 1) ≤ x2 → vp_in x2 6 ∧ vp_in x2 6 ∧ m_6_copyFrom ((r0 + 1) + 5 + 3 * (x2).toNatClampNeg) ((r1 + 1) + 5 + 3 * (x2).toNatClampNeg) (fun (σ_4 : St) => ∀ x2_6 : Int32, x2_6 = x2 + 1 → B10 x2_6 σ_4) σ))
def m_8_copyFrom (r0 : Nat) (r1 : Nat) (Q : St → Prop) (σ : St) : Prop :=
  ∀ σ_1 : St, σ_1 = wr σ r0 1 (σ.1 r1 1) → itN (m_8_copyFrom_10 r0 r1 Q) (fun _ _ => False) FU (0 : Int32) σ_1
theorem d_0_remember_0 : decode prog_2_method_2_code 0 = .ok (.aload_n 0, 1) := by decide +kernel
theorem d_0_remember_1 : decode prog_2_method_2_code 1 = .ok (.getfield 11, 3) := by decide +kernel
theorem d_0_remember_4 : decode prog_2_method_2_code 4 = .ok (.aload_n 0, 1) := by decide +kernel
theorem d_0_remember_5 : decode prog_2_method_2_code 5 = .ok (.getfield 18, 3) := by decide +kernel
theorem d_0_remember_8 : decode prog_2_method_2_code 8 = .ok (.aaload, 1) := by decide +kernel
theorem d_0_remember_9 : decode prog_2_method_2_code 9 = .ok (.aload_n 1, 1) := by decide +kernel
theorem d_0_remember_10 : decode prog_2_method_2_code 10 = .ok (.invokevirtual 22, 3) := by decide +kernel
theorem d_0_remember_13 : decode prog_2_method_2_code 13 = .ok (.aload_n 0, 1) := by decide +kernel
theorem d_0_remember_14 : decode prog_2_method_2_code 14 = .ok (.aload_n 0, 1) := by decide +kernel
theorem d_0_remember_15 : decode prog_2_method_2_code 15 = .ok (.getfield 18, 3) := by decide +kernel
theorem d_0_remember_18 : decode prog_2_method_2_code 18 = .ok (.iconst 1, 1) := by decide +kernel
theorem d_0_remember_19 : decode prog_2_method_2_code 19 = .ok (.iadd, 1) := by decide +kernel
theorem d_0_remember_20 : decode prog_2_method_2_code 20 = .ok (.bipush 8, 2) := by decide +kernel
theorem d_0_remember_22 : decode prog_2_method_2_code 22 = .ok (.irem, 1) := by decide +kernel
theorem d_0_remember_23 : decode prog_2_method_2_code 23 = .ok (.putfield 18, 3) := by decide +kernel
theorem d_0_remember_26 : decode prog_2_method_2_code 26 = .ok (.aload_n 0, 1) := by decide +kernel
theorem d_0_remember_27 : decode prog_2_method_2_code 27 = .ok (.aload_n 0, 1) := by decide +kernel
theorem d_0_remember_28 : decode prog_2_method_2_code 28 = .ok (.getfield 26, 3) := by decide +kernel
theorem d_0_remember_31 : decode prog_2_method_2_code 31 = .ok (.iconst 1, 1) := by decide +kernel
theorem d_0_remember_32 : decode prog_2_method_2_code 32 = .ok (.iadd, 1) := by decide +kernel
theorem d_0_remember_33 : decode prog_2_method_2_code 33 = .ok (.bipush 8, 2) := by decide +kernel
theorem d_0_remember_35 : decode prog_2_method_2_code 35 = .ok (.invokestatic 29, 3) := by decide +kernel
theorem d_0_remember_38 : decode prog_2_method_2_code 38 = .ok (.putfield 26, 3) := by decide +kernel
theorem d_0_remember_41 : decode prog_2_method_2_code 41 = .ok (.return_, 1) := by decide +kernel
def m_0_remember (r0 : Nat) (r1 : Nat) (Q : St → Prop) (σ : St) : Prop :=
  vp_in (σ.1 r0 1) 8 ∧ m_8_copyFrom ((r0 + 1) + 1 + 34 * ((σ.1 r0 1)).toNatClampNeg) r1 (fun (σ_2 : St) => ∀ σ_4 : St, σ_4 = wr σ_2 r0 1 (((σ_2.1 r0 1) + (1 : Int32)) - ((σ_2.1 r0 1) + (1 : Int32)) / (8 : Int32) * (8 : Int32)) → ∀ σ_5 : St, σ_5 = wr σ_4 r0 2 (if (8 : Int32) < ((σ_4.1 r0 2) + (1 : Int32)) then (8 : Int32) else ((σ_4.1 r0 2) + (1 : Int32))) → Q σ_5) σ
theorem d_6_clear_0 : decode prog_8_method_2_code 0 = .ok (.aload_n 0, 1) := by decide +kernel
theorem d_6_clear_1 : decode prog_8_method_2_code 1 = .ok (.iconst 0, 1) := by decide +kernel
theorem d_6_clear_2 : decode prog_8_method_2_code 2 = .ok (.putfield 19, 3) := by decide +kernel
theorem d_6_clear_5 : decode prog_8_method_2_code 5 = .ok (.aload_n 0, 1) := by decide +kernel
theorem d_6_clear_6 : decode prog_8_method_2_code 6 = .ok (.iconst 0, 1) := by decide +kernel
theorem d_6_clear_7 : decode prog_8_method_2_code 7 = .ok (.putfield 23, 3) := by decide +kernel
theorem d_6_clear_10 : decode prog_8_method_2_code 10 = .ok (.aload_n 0, 1) := by decide +kernel
theorem d_6_clear_11 : decode prog_8_method_2_code 11 = .ok (.iconst 0, 1) := by decide +kernel
theorem d_6_clear_12 : decode prog_8_method_2_code 12 = .ok (.putfield 26, 3) := by decide +kernel
theorem d_6_clear_15 : decode prog_8_method_2_code 15 = .ok (.iconst 0, 1) := by decide +kernel
theorem d_6_clear_16 : decode prog_8_method_2_code 16 = .ok (.istore_n 1, 1) := by decide +kernel
theorem d_6_clear_17 : decode prog_8_method_2_code 17 = .ok (.iload_n 1, 1) := by decide +kernel
theorem d_6_clear_18 : decode prog_8_method_2_code 18 = .ok (.bipush 40, 2) := by decide +kernel
theorem d_6_clear_20 : decode prog_8_method_2_code 20 = .ok (.if_icmp .ge 23, 3) := by decide +kernel
theorem d_6_clear_23 : decode prog_8_method_2_code 23 = .ok (.aload_n 0, 1) := by decide +kernel
theorem d_6_clear_24 : decode prog_8_method_2_code 24 = .ok (.getfield 9, 3) := by decide +kernel
theorem d_6_clear_27 : decode prog_8_method_2_code 27 = .ok (.iload_n 1, 1) := by decide +kernel
theorem d_6_clear_28 : decode prog_8_method_2_code 28 = .ok (.iconst 0, 1) := by decide +kernel
theorem d_6_clear_29 : decode prog_8_method_2_code 29 = .ok (.iastore, 1) := by decide +kernel
theorem d_6_clear_30 : decode prog_8_method_2_code 30 = .ok (.aload_n 0, 1) := by decide +kernel
theorem d_6_clear_31 : decode prog_8_method_2_code 31 = .ok (.getfield 15, 3) := by decide +kernel
theorem d_6_clear_34 : decode prog_8_method_2_code 34 = .ok (.iload_n 1, 1) := by decide +kernel
theorem d_6_clear_35 : decode prog_8_method_2_code 35 = .ok (.iconst 0, 1) := by decide +kernel
theorem d_6_clear_36 : decode prog_8_method_2_code 36 = .ok (.bastore, 1) := by decide +kernel
theorem d_6_clear_37 : decode prog_8_method_2_code 37 = .ok (.iinc 1 1, 3) := by decide +kernel
theorem d_6_clear_40 : decode prog_8_method_2_code 40 = .ok (.goto (-23), 3) := by decide +kernel
theorem d_6_clear_43 : decode prog_8_method_2_code 43 = .ok (.return_, 1) := by decide +kernel
def m_6_clear_17 (r0 : Nat) (Q : St → Prop) (B17 : Int32 → St → Prop) (x1 : Int32) (σ : St) : Prop :=
  (((40 : Int32) ≤ x1 → Q σ) ∧ (¬ (40 : Int32) ≤ x1 → vp_in x1 40 ∧ ∀ σ_1 : St, σ_1 = wr σ (r0 + 1) (x1).toNatClampNeg (0 : Int32) → vp_in x1 40 ∧ ∀ σ_2 : St, σ_2 = wr σ_1 (r0 + 2) (x1).toNatClampNeg (vp_nar .boolean (0 : Int32)) → ∀ x1_3 : Int32, x1_3 = x1 + 1 → B17 x1_3 σ_2))
def m_6_clear (r0 : Nat) (Q : St → Prop) (σ : St) : Prop :=
  ∀ σ_1 : St, σ_1 = wr σ r0 0 (0 : Int32) → ∀ σ_2 : St, σ_2 = wr σ_1 r0 1 (0 : Int32) → ∀ σ_3 : St, σ_3 = wr σ_2 r0 2 (0 : Int32) → itN (m_6_clear_17 r0 Q) (fun _ _ => False) FU (0 : Int32) σ_3
theorem d_8_appendStreet_0 : decode prog_10_method_9_code 0 = .ok (.aload_n 0, 1) := by decide +kernel
theorem d_8_appendStreet_1 : decode prog_10_method_9_code 1 = .ok (.getfield 11, 3) := by decide +kernel
theorem d_8_appendStreet_4 : decode prog_10_method_9_code 4 = .ok (.aload_n 0, 1) := by decide +kernel
theorem d_8_appendStreet_5 : decode prog_10_method_9_code 5 = .ok (.getfield 52, 3) := by decide +kernel
theorem d_8_appendStreet_8 : decode prog_10_method_9_code 8 = .ok (.aaload, 1) := by decide +kernel
theorem d_8_appendStreet_9 : decode prog_10_method_9_code 9 = .ok (.astore 4, 2) := by decide +kernel
theorem d_8_appendStreet_11 : decode prog_10_method_9_code 11 = .ok (.aload 4, 2) := by decide +kernel
theorem d_8_appendStreet_13 : decode prog_10_method_9_code 13 = .ok (.invokevirtual 95, 3) := by decide +kernel
theorem d_8_appendStreet_16 : decode prog_10_method_9_code 16 = .ok (.aload 4, 2) := by decide +kernel
theorem d_8_appendStreet_18 : decode prog_10_method_9_code 18 = .ok (.iload_n 1, 1) := by decide +kernel
theorem d_8_appendStreet_19 : decode prog_10_method_9_code 19 = .ok (.putfield 85, 3) := by decide +kernel
theorem d_8_appendStreet_22 : decode prog_10_method_9_code 22 = .ok (.aload 4, 2) := by decide +kernel
theorem d_8_appendStreet_24 : decode prog_10_method_9_code 24 = .ok (.iload_n 2, 1) := by decide +kernel
theorem d_8_appendStreet_25 : decode prog_10_method_9_code 25 = .ok (.putfield 98, 3) := by decide +kernel
theorem d_8_appendStreet_28 : decode prog_10_method_9_code 28 = .ok (.aload 4, 2) := by decide +kernel
theorem d_8_appendStreet_30 : decode prog_10_method_9_code 30 = .ok (.iload_n 3, 1) := by decide +kernel
theorem d_8_appendStreet_31 : decode prog_10_method_9_code 31 = .ok (.putfield 101, 3) := by decide +kernel
theorem d_8_appendStreet_34 : decode prog_10_method_9_code 34 = .ok (.aload_n 0, 1) := by decide +kernel
theorem d_8_appendStreet_35 : decode prog_10_method_9_code 35 = .ok (.dup, 1) := by decide +kernel
theorem d_8_appendStreet_36 : decode prog_10_method_9_code 36 = .ok (.getfield 52, 3) := by decide +kernel
theorem d_8_appendStreet_39 : decode prog_10_method_9_code 39 = .ok (.iconst 1, 1) := by decide +kernel
theorem d_8_appendStreet_40 : decode prog_10_method_9_code 40 = .ok (.iadd, 1) := by decide +kernel
theorem d_8_appendStreet_41 : decode prog_10_method_9_code 41 = .ok (.putfield 52, 3) := by decide +kernel
theorem d_8_appendStreet_44 : decode prog_10_method_9_code 44 = .ok (.aload_n 0, 1) := by decide +kernel
theorem d_8_appendStreet_45 : decode prog_10_method_9_code 45 = .ok (.iconst 0, 1) := by decide +kernel
theorem d_8_appendStreet_46 : decode prog_10_method_9_code 46 = .ok (.putfield 65, 3) := by decide +kernel
theorem d_8_appendStreet_49 : decode prog_10_method_9_code 49 = .ok (.aload_n 0, 1) := by decide +kernel
theorem d_8_appendStreet_50 : decode prog_10_method_9_code 50 = .ok (.getfield 52, 3) := by decide +kernel
theorem d_8_appendStreet_53 : decode prog_10_method_9_code 53 = .ok (.iconst 1, 1) := by decide +kernel
theorem d_8_appendStreet_54 : decode prog_10_method_9_code 54 = .ok (.isub, 1) := by decide +kernel
theorem d_8_appendStreet_55 : decode prog_10_method_9_code 55 = .ok (.ireturn, 1) := by decide +kernel
def m_8_appendStreet (r0 : Nat) (x1 : Int32) (x2 : Int32) (x3 : Int32) (Q : Int32 → St → Prop) (σ : St) : Prop :=
  vp_in (σ.1 r0 1) 6 ∧ ∀ r4_2 : Nat, r4_2 = ((r0 + 1) + 5 + 3 * ((σ.1 r0 1)).toNatClampNeg) → m_6_clear r4_2 (fun (σ_3 : St) => ∀ σ_5 : St, σ_5 = wr σ_3 r4_2 0 x1 → ∀ σ_6 : St, σ_6 = wr σ_5 r4_2 1 x2 → ∀ σ_7 : St, σ_7 = wr σ_6 r4_2 2 x3 → ∀ σ_8 : St, σ_8 = wr σ_7 r0 1 ((σ_7.1 r0 1) + (1 : Int32)) → ∀ σ_9 : St, σ_9 = wr σ_8 r0 4 (0 : Int32) → Q ((σ_9.1 r0 1) - (1 : Int32)) σ_9) σ
theorem d_9_addStreet_0 : decode prog_1_method_6_code 0 = .ok (.iload_n 1, 1) := by decide +kernel
theorem d_9_addStreet_1 : decode prog_1_method_6_code 1 = .ok (.iconst 1, 1) := by decide +kernel
theorem d_9_addStreet_2 : decode prog_1_method_6_code 2 = .ok (.if_icmp .lt 29, 3) := by decide +kernel
theorem d_9_addStreet_5 : decode prog_1_method_6_code 5 = .ok (.iload_n 1, 1) := by decide +kernel
theorem d_9_addStreet_6 : decode prog_1_method_6_code 6 = .ok (.bipush 20, 2) := by decide +kernel
theorem d_9_addStreet_8 : decode prog_1_method_6_code 8 = .ok (.if_icmp .gt 23, 3) := by decide +kernel
theorem d_9_addStreet_11 : decode prog_1_method_6_code 11 = .ok (.iload_n 2, 1) := by decide +kernel
theorem d_9_addStreet_12 : decode prog_1_method_6_code 12 = .ok (.ifCond .lt 19, 3) := by decide +kernel
theorem d_9_addStreet_15 : decode prog_1_method_6_code 15 = .ok (.iload_n 2, 1) := by decide +kernel
theorem d_9_addStreet_16 : decode prog_1_method_6_code 16 = .ok (.bipush 60, 2) := by decide +kernel
theorem d_9_addStreet_18 : decode prog_1_method_6_code 18 = .ok (.if_icmp .gt 13, 3) := by decide +kernel
theorem d_9_addStreet_21 : decode prog_1_method_6_code 21 = .ok (.iload_n 3, 1) := by decide +kernel
theorem d_9_addStreet_22 : decode prog_1_method_6_code 22 = .ok (.ifCond .lt 9, 3) := by decide +kernel
theorem d_9_addStreet_25 : decode prog_1_method_6_code 25 = .ok (.iload_n 3, 1) := by decide +kernel
theorem d_9_addStreet_26 : decode prog_1_method_6_code 26 = .ok (.bipush 9, 2) := by decide +kernel
theorem d_9_addStreet_28 : decode prog_1_method_6_code 28 = .ok (.if_icmp .le 5, 3) := by decide +kernel
theorem d_9_addStreet_31 : decode prog_1_method_6_code 31 = .ok (.iconst (-1), 1) := by decide +kernel
theorem d_9_addStreet_32 : decode prog_1_method_6_code 32 = .ok (.ireturn, 1) := by decide +kernel
theorem d_9_addStreet_33 : decode prog_1_method_6_code 33 = .ok (.aload_n 0, 1) := by decide +kernel
theorem d_9_addStreet_34 : decode prog_1_method_6_code 34 = .ok (.getfield 26, 3) := by decide +kernel
theorem d_9_addStreet_37 : decode prog_1_method_6_code 37 = .ok (.getfield 70, 3) := by decide +kernel
theorem d_9_addStreet_40 : decode prog_1_method_6_code 40 = .ok (.bipush 6, 2) := by decide +kernel
theorem d_9_addStreet_42 : decode prog_1_method_6_code 42 = .ok (.if_icmp .lt 6, 3) := by decide +kernel
theorem d_9_addStreet_45 : decode prog_1_method_6_code 45 = .ok (.bipush (-3), 2) := by decide +kernel
theorem d_9_addStreet_47 : decode prog_1_method_6_code 47 = .ok (.ireturn, 1) := by decide +kernel
theorem d_9_addStreet_48 : decode prog_1_method_6_code 48 = .ok (.aload_n 0, 1) := by decide +kernel
theorem d_9_addStreet_49 : decode prog_1_method_6_code 49 = .ok (.getfield 42, 3) := by decide +kernel
theorem d_9_addStreet_52 : decode prog_1_method_6_code 52 = .ok (.aload_n 0, 1) := by decide +kernel
theorem d_9_addStreet_53 : decode prog_1_method_6_code 53 = .ok (.getfield 26, 3) := by decide +kernel
theorem d_9_addStreet_56 : decode prog_1_method_6_code 56 = .ok (.invokevirtual 80, 3) := by decide +kernel
theorem d_9_addStreet_59 : decode prog_1_method_6_code 59 = .ok (.aload_n 0, 1) := by decide +kernel
theorem d_9_addStreet_60 : decode prog_1_method_6_code 60 = .ok (.getfield 26, 3) := by decide +kernel
theorem d_9_addStreet_63 : decode prog_1_method_6_code 63 = .ok (.iload_n 1, 1) := by decide +kernel
theorem d_9_addStreet_64 : decode prog_1_method_6_code 64 = .ok (.iload_n 2, 1) := by decide +kernel
theorem d_9_addStreet_65 : decode prog_1_method_6_code 65 = .ok (.iload_n 3, 1) := by decide +kernel
theorem d_9_addStreet_66 : decode prog_1_method_6_code 66 = .ok (.invokevirtual 96, 3) := by decide +kernel
theorem d_9_addStreet_69 : decode prog_1_method_6_code 69 = .ok (.ireturn, 1) := by decide +kernel
def m_9_addStreet (r0 : Nat) (x1 : Int32) (x2 : Int32) (x3 : Int32) (Q : Int32 → St → Prop) (σ : St) : Prop :=
  ((x1 < (1 : Int32) → Q (-1 : Int32) σ) ∧ (¬ x1 < (1 : Int32) → (((20 : Int32) < x1 → Q (-1 : Int32) σ) ∧ (¬ (20 : Int32) < x1 → ((x2 < 0 → Q (-1 : Int32) σ) ∧ (¬ x2 < 0 → (((60 : Int32) < x2 → Q (-1 : Int32) σ) ∧ (¬ (60 : Int32) < x2 → ((x3 < 0 → Q (-1 : Int32) σ) ∧ (¬ x3 < 0 → ((x3 ≤ (9 : Int32) → (((σ.1 (r0 + 7) 1) < (6 : Int32) → m_0_remember (r0 + 42) (r0 + 7) (fun (σ_1 : St) => m_8_appendStreet (r0 + 7) x1 x2 x3 (fun (v_4 : Int32) (σ_3 : St) => Q v_4 σ_3) σ_1) σ) ∧ (¬ (σ.1 (r0 + 7) 1) < (6 : Int32) → Q (-3 : Int32) σ))) ∧ (¬ x3 ≤ (9 : Int32) → Q (-1 : Int32) σ))))))))))))
theorem d_8_hasStreet_0 : decode prog_10_method_3_code 0 = .ok (.iload_n 1, 1) := by decide +kernel
theorem d_8_hasStreet_1 : decode prog_10_method_3_code 1 = .ok (.ifCond .lt 15, 3) := by decide +kernel
theorem d_8_hasStreet_4 : decode prog_10_method_3_code 4 = .ok (.iload_n 1, 1) := by decide +kernel
theorem d_8_hasStreet_5 : decode prog_10_method_3_code 5 = .ok (.aload_n 0, 1) := by decide +kernel
theorem d_8_hasStreet_6 : decode prog_10_method_3_code 6 = .ok (.getfield 52, 3) := by decide +kernel
theorem d_8_hasStreet_9 : decode prog_10_method_3_code 9 = .ok (.if_icmp .ge 7, 3) := by decide +kernel
theorem d_8_hasStreet_12 : decode prog_10_method_3_code 12 = .ok (.iconst 1, 1) := by decide +kernel
theorem d_8_hasStreet_13 : decode prog_10_method_3_code 13 = .ok (.goto 4, 3) := by decide +kernel
theorem d_8_hasStreet_16 : decode prog_10_method_3_code 16 = .ok (.iconst 0, 1) := by decide +kernel
theorem d_8_hasStreet_17 : decode prog_10_method_3_code 17 = .ok (.ireturn, 1) := by decide +kernel
def m_8_hasStreet (r0 : Nat) (x1 : Int32) (Q : Int32 → St → Prop) (σ : St) : Prop :=
  ((x1 < 0 → Q (0 : Int32) σ) ∧ (¬ x1 < 0 → (((σ.1 r0 1) ≤ x1 → Q (0 : Int32) σ) ∧ (¬ (σ.1 r0 1) ≤ x1 → Q (1 : Int32) σ))))
theorem d_8_hasCell_0 : decode prog_10_method_4_code 0 = .ok (.aload_n 0, 1) := by decide +kernel
theorem d_8_hasCell_1 : decode prog_10_method_4_code 1 = .ok (.iload_n 1, 1) := by decide +kernel
theorem d_8_hasCell_2 : decode prog_10_method_4_code 2 = .ok (.invokevirtual 81, 3) := by decide +kernel
theorem d_8_hasCell_5 : decode prog_10_method_4_code 5 = .ok (.ifCond .eq 33, 3) := by decide +kernel
theorem d_8_hasCell_8 : decode prog_10_method_4_code 8 = .ok (.iload_n 2, 1) := by decide +kernel
theorem d_8_hasCell_9 : decode prog_10_method_4_code 9 = .ok (.ifCond .lt 29, 3) := by decide +kernel
theorem d_8_hasCell_12 : decode prog_10_method_4_code 12 = .ok (.iload_n 2, 1) := by decide +kernel
theorem d_8_hasCell_13 : decode prog_10_method_4_code 13 = .ok (.iconst 2, 1) := by decide +kernel
theorem d_8_hasCell_14 : decode prog_10_method_4_code 14 = .ok (.if_icmp .ge 24, 3) := by decide +kernel
theorem d_8_hasCell_17 : decode prog_10_method_4_code 17 = .ok (.iload_n 3, 1) := by decide +kernel
theorem d_8_hasCell_18 : decode prog_10_method_4_code 18 = .ok (.ifCond .lt 20, 3) := by decide +kernel
theorem d_8_hasCell_21 : decode prog_10_method_4_code 21 = .ok (.iload_n 3, 1) := by decide +kernel
theorem d_8_hasCell_22 : decode prog_10_method_4_code 22 = .ok (.aload_n 0, 1) := by decide +kernel
theorem d_8_hasCell_23 : decode prog_10_method_4_code 23 = .ok (.getfield 11, 3) := by decide +kernel
theorem d_8_hasCell_26 : decode prog_10_method_4_code 26 = .ok (.iload_n 1, 1) := by decide +kernel
theorem d_8_hasCell_27 : decode prog_10_method_4_code 27 = .ok (.aaload, 1) := by decide +kernel
theorem d_8_hasCell_28 : decode prog_10_method_4_code 28 = .ok (.getfield 85, 3) := by decide +kernel
theorem d_8_hasCell_31 : decode prog_10_method_4_code 31 = .ok (.if_icmp .ge 7, 3) := by decide +kernel
theorem d_8_hasCell_34 : decode prog_10_method_4_code 34 = .ok (.iconst 1, 1) := by decide +kernel
theorem d_8_hasCell_35 : decode prog_10_method_4_code 35 = .ok (.goto 4, 3) := by decide +kernel
theorem d_8_hasCell_38 : decode prog_10_method_4_code 38 = .ok (.iconst 0, 1) := by decide +kernel
theorem d_8_hasCell_39 : decode prog_10_method_4_code 39 = .ok (.ireturn, 1) := by decide +kernel
def m_8_hasCell (r0 : Nat) (x1 : Int32) (x2 : Int32) (x3 : Int32) (Q : Int32 → St → Prop) (σ : St) : Prop :=
  m_8_hasStreet r0 x1 (fun (v_2 : Int32) (σ_1 : St) => ((v_2 = 0 → Q (0 : Int32) σ_1) ∧ (¬ v_2 = 0 → ((x2 < 0 → Q (0 : Int32) σ_1) ∧ (¬ x2 < 0 → (((2 : Int32) ≤ x2 → Q (0 : Int32) σ_1) ∧ (¬ (2 : Int32) ≤ x2 → ((x3 < 0 → Q (0 : Int32) σ_1) ∧ (¬ x3 < 0 → vp_in x1 6 ∧ (((σ_1.1 ((r0 + 1) + 5 + 3 * (x1).toNatClampNeg) 0) ≤ x3 → Q (0 : Int32) σ_1) ∧ (¬ (σ_1.1 ((r0 + 1) + 5 + 3 * (x1).toNatClampNeg) 0) ≤ x3 → Q (1 : Int32) σ_1))))))))))) σ
theorem d_9_placeOf_0 : decode prog_1_method_32_code 0 = .ok (.iload_n 0, 1) := by decide +kernel
theorem d_9_placeOf_1 : decode prog_1_method_32_code 1 = .ok (.bipush 20, 2) := by decide +kernel
theorem d_9_placeOf_3 : decode prog_1_method_32_code 3 = .ok (.imul, 1) := by decide +kernel
theorem d_9_placeOf_4 : decode prog_1_method_32_code 4 = .ok (.iload_n 1, 1) := by decide +kernel
theorem d_9_placeOf_5 : decode prog_1_method_32_code 5 = .ok (.iadd, 1) := by decide +kernel
theorem d_9_placeOf_6 : decode prog_1_method_32_code 6 = .ok (.ireturn, 1) := by decide +kernel
def m_9_placeOf (x0 : Int32) (x1 : Int32) (Q : Int32 → St → Prop) (σ : St) : Prop :=
  Q ((x0 * (20 : Int32)) + x1) σ
theorem d_8_layDirt_0 : decode prog_10_method_14_code 0 = .ok (.aload_n 0, 1) := by decide +kernel
theorem d_8_layDirt_1 : decode prog_10_method_14_code 1 = .ok (.getfield 11, 3) := by decide +kernel
theorem d_8_layDirt_4 : decode prog_10_method_14_code 4 = .ok (.iload_n 1, 1) := by decide +kernel
theorem d_8_layDirt_5 : decode prog_10_method_14_code 5 = .ok (.aaload, 1) := by decide +kernel
theorem d_8_layDirt_6 : decode prog_10_method_14_code 6 = .ok (.getfield 111, 3) := by decide +kernel
theorem d_8_layDirt_9 : decode prog_10_method_14_code 9 = .ok (.astore 4, 2) := by decide +kernel
theorem d_8_layDirt_11 : decode prog_10_method_14_code 11 = .ok (.aload 4, 2) := by decide +kernel
theorem d_8_layDirt_13 : decode prog_10_method_14_code 13 = .ok (.iload_n 2, 1) := by decide +kernel
theorem d_8_layDirt_14 : decode prog_10_method_14_code 14 = .ok (.iaload, 1) := by decide +kernel
theorem d_8_layDirt_15 : decode prog_10_method_14_code 15 = .ok (.istore 5, 2) := by decide +kernel
theorem d_8_layDirt_17 : decode prog_10_method_14_code 17 = .ok (.aload 4, 2) := by decide +kernel
theorem d_8_layDirt_19 : decode prog_10_method_14_code 19 = .ok (.iload_n 2, 1) := by decide +kernel
theorem d_8_layDirt_20 : decode prog_10_method_14_code 20 = .ok (.iload_n 3, 1) := by decide +kernel
theorem d_8_layDirt_21 : decode prog_10_method_14_code 21 = .ok (.iastore, 1) := by decide +kernel
theorem d_8_layDirt_22 : decode prog_10_method_14_code 22 = .ok (.aload_n 0, 1) := by decide +kernel
theorem d_8_layDirt_23 : decode prog_10_method_14_code 23 = .ok (.getfield 27, 3) := by decide +kernel
theorem d_8_layDirt_26 : decode prog_10_method_14_code 26 = .ok (.iconst 0, 1) := by decide +kernel
theorem d_8_layDirt_27 : decode prog_10_method_14_code 27 = .ok (.dup2, 1) := by decide +kernel
theorem d_8_layDirt_28 : decode prog_10_method_14_code 28 = .ok (.iaload, 1) := by decide +kernel
theorem d_8_layDirt_29 : decode prog_10_method_14_code 29 = .ok (.iconst 0, 1) := by decide +kernel
theorem d_8_layDirt_30 : decode prog_10_method_14_code 30 = .ok (.iload_n 3, 1) := by decide +kernel
theorem d_8_layDirt_31 : decode prog_10_method_14_code 31 = .ok (.iload 5, 2) := by decide +kernel
theorem d_8_layDirt_33 : decode prog_10_method_14_code 33 = .ok (.isub, 1) := by decide +kernel
theorem d_8_layDirt_34 : decode prog_10_method_14_code 34 = .ok (.invokestatic 114, 3) := by decide +kernel
theorem d_8_layDirt_37 : decode prog_10_method_14_code 37 = .ok (.iadd, 1) := by decide +kernel
theorem d_8_layDirt_38 : decode prog_10_method_14_code 38 = .ok (.iastore, 1) := by decide +kernel
theorem d_8_layDirt_39 : decode prog_10_method_14_code 39 = .ok (.aload_n 0, 1) := by decide +kernel
theorem d_8_layDirt_40 : decode prog_10_method_14_code 40 = .ok (.getfield 27, 3) := by decide +kernel
theorem d_8_layDirt_43 : decode prog_10_method_14_code 43 = .ok (.iconst 2, 1) := by decide +kernel
theorem d_8_layDirt_44 : decode prog_10_method_14_code 44 = .ok (.dup2, 1) := by decide +kernel
theorem d_8_layDirt_45 : decode prog_10_method_14_code 45 = .ok (.iaload, 1) := by decide +kernel
theorem d_8_layDirt_46 : decode prog_10_method_14_code 46 = .ok (.iconst 0, 1) := by decide +kernel
theorem d_8_layDirt_47 : decode prog_10_method_14_code 47 = .ok (.iload 5, 2) := by decide +kernel
theorem d_8_layDirt_49 : decode prog_10_method_14_code 49 = .ok (.iload_n 3, 1) := by decide +kernel
theorem d_8_layDirt_50 : decode prog_10_method_14_code 50 = .ok (.isub, 1) := by decide +kernel
theorem d_8_layDirt_51 : decode prog_10_method_14_code 51 = .ok (.invokestatic 114, 3) := by decide +kernel
theorem d_8_layDirt_54 : decode prog_10_method_14_code 54 = .ok (.iadd, 1) := by decide +kernel
theorem d_8_layDirt_55 : decode prog_10_method_14_code 55 = .ok (.iastore, 1) := by decide +kernel
theorem d_8_layDirt_56 : decode prog_10_method_14_code 56 = .ok (.iload 5, 2) := by decide +kernel
theorem d_8_layDirt_58 : decode prog_10_method_14_code 58 = .ok (.ireturn, 1) := by decide +kernel
def m_8_layDirt (r0 : Nat) (x1 : Int32) (x2 : Int32) (x3 : Int32) (Q : Int32 → St → Prop) (σ : St) : Prop :=
  vp_in x1 6 ∧ ∀ r4_2 : Nat, r4_2 = (((r0 + 1) + 5 + 3 * (x1).toNatClampNeg) + 1) → vp_in x2 40 ∧ ∀ x5_3 : Int32, x5_3 = (σ.1 r4_2 (x2).toNatClampNeg) → vp_in x2 40 ∧ ∀ σ_4 : St, σ_4 = wr σ r4_2 (x2).toNatClampNeg x3 → vp_in (0 : Int32) 6 ∧ vp_in (0 : Int32) 6 ∧ ∀ σ_5 : St, σ_5 = wr σ_4 (r0 + 4) ((0 : Int32)).toNatClampNeg ((σ_4.1 (r0 + 4) ((0 : Int32)).toNatClampNeg) + (if (0 : Int32) < (x3 - x5_3) then (x3 - x5_3) else (0 : Int32))) → vp_in (2 : Int32) 6 ∧ vp_in (2 : Int32) 6 ∧ ∀ σ_6 : St, σ_6 = wr σ_5 (r0 + 4) ((2 : Int32)).toNatClampNeg ((σ_5.1 (r0 + 4) ((2 : Int32)).toNatClampNeg) + (if (0 : Int32) < (x5_3 - x3) then (x5_3 - x3) else (0 : Int32))) → Q x5_3 σ_6
theorem d_9_lay_0 : decode prog_1_method_8_code 0 = .ok (.aload_n 0, 1) := by decide +kernel
theorem d_9_lay_1 : decode prog_1_method_8_code 1 = .ok (.getfield 26, 3) := by decide +kernel
theorem d_9_lay_4 : decode prog_1_method_8_code 4 = .ok (.iload_n 1, 1) := by decide +kernel
theorem d_9_lay_5 : decode prog_1_method_8_code 5 = .ok (.iload_n 2, 1) := by decide +kernel
theorem d_9_lay_6 : decode prog_1_method_8_code 6 = .ok (.iload_n 3, 1) := by decide +kernel
theorem d_9_lay_7 : decode prog_1_method_8_code 7 = .ok (.invokevirtual 111, 3) := by decide +kernel
theorem d_9_lay_10 : decode prog_1_method_8_code 10 = .ok (.ifCond .eq 15, 3) := by decide +kernel
theorem d_9_lay_13 : decode prog_1_method_8_code 13 = .ok (.iload 4, 2) := by decide +kernel
theorem d_9_lay_15 : decode prog_1_method_8_code 15 = .ok (.ifCond .lt 10, 3) := by decide +kernel
theorem d_9_lay_18 : decode prog_1_method_8_code 18 = .ok (.iload 4, 2) := by decide +kernel
theorem d_9_lay_20 : decode prog_1_method_8_code 20 = .ok (.bipush 99, 2) := by decide +kernel
theorem d_9_lay_22 : decode prog_1_method_8_code 22 = .ok (.if_icmp .le 5, 3) := by decide +kernel
theorem d_9_lay_25 : decode prog_1_method_8_code 25 = .ok (.iconst (-1), 1) := by decide +kernel
theorem d_9_lay_26 : decode prog_1_method_8_code 26 = .ok (.ireturn, 1) := by decide +kernel
theorem d_9_lay_27 : decode prog_1_method_8_code 27 = .ok (.aload_n 0, 1) := by decide +kernel
theorem d_9_lay_28 : decode prog_1_method_8_code 28 = .ok (.getfield 42, 3) := by decide +kernel
theorem d_9_lay_31 : decode prog_1_method_8_code 31 = .ok (.aload_n 0, 1) := by decide +kernel
theorem d_9_lay_32 : decode prog_1_method_8_code 32 = .ok (.getfield 26, 3) := by decide +kernel
theorem d_9_lay_35 : decode prog_1_method_8_code 35 = .ok (.invokevirtual 80, 3) := by decide +kernel
theorem d_9_lay_38 : decode prog_1_method_8_code 38 = .ok (.aload_n 0, 1) := by decide +kernel
theorem d_9_lay_39 : decode prog_1_method_8_code 39 = .ok (.getfield 26, 3) := by decide +kernel
theorem d_9_lay_42 : decode prog_1_method_8_code 42 = .ok (.iload_n 1, 1) := by decide +kernel
theorem d_9_lay_43 : decode prog_1_method_8_code 43 = .ok (.iload_n 2, 1) := by decide +kernel
theorem d_9_lay_44 : decode prog_1_method_8_code 44 = .ok (.iload_n 3, 1) := by decide +kernel
theorem d_9_lay_45 : decode prog_1_method_8_code 45 = .ok (.invokestatic 115, 3) := by decide +kernel
theorem d_9_lay_48 : decode prog_1_method_8_code 48 = .ok (.iload 4, 2) := by decide +kernel
theorem d_9_lay_50 : decode prog_1_method_8_code 50 = .ok (.invokevirtual 119, 3) := by decide +kernel
theorem d_9_lay_53 : decode prog_1_method_8_code 53 = .ok (.ireturn, 1) := by decide +kernel
def m_9_lay (r0 : Nat) (x1 : Int32) (x2 : Int32) (x3 : Int32) (x4 : Int32) (Q : Int32 → St → Prop) (σ : St) : Prop :=
  m_8_hasCell (r0 + 7) x1 x2 x3 (fun (v_2 : Int32) (σ_1 : St) => ((v_2 = 0 → Q (-1 : Int32) σ_1) ∧ (¬ v_2 = 0 → ((x4 < 0 → Q (-1 : Int32) σ_1) ∧ (¬ x4 < 0 → ((x4 ≤ (99 : Int32) → m_0_remember (r0 + 42) (r0 + 7) (fun (σ_3 : St) => m_9_placeOf x2 x3 (fun (v_6 : Int32) (σ_5 : St) => m_8_layDirt (r0 + 7) x1 v_6 x4 (fun (v_8 : Int32) (σ_7 : St) => Q v_8 σ_7) σ_5) σ_3) σ_1) ∧ (¬ x4 ≤ (99 : Int32) → Q (-1 : Int32) σ_1))))))) σ
theorem d_9_park_0 : decode prog_1_method_9_code 0 = .ok (.aload_n 0, 1) := by decide +kernel
theorem d_9_park_1 : decode prog_1_method_9_code 1 = .ok (.getfield 26, 3) := by decide +kernel
theorem d_9_park_4 : decode prog_1_method_9_code 4 = .ok (.iload_n 1, 1) := by decide +kernel
theorem d_9_park_5 : decode prog_1_method_9_code 5 = .ok (.iload_n 2, 1) := by decide +kernel
theorem d_9_park_6 : decode prog_1_method_9_code 6 = .ok (.iload_n 3, 1) := by decide +kernel
theorem d_9_park_7 : decode prog_1_method_9_code 7 = .ok (.invokevirtual 111, 3) := by decide +kernel
theorem d_9_park_10 : decode prog_1_method_9_code 10 = .ok (.ifCond .ne 5, 3) := by decide +kernel
theorem d_9_park_13 : decode prog_1_method_9_code 13 = .ok (.iconst (-1), 1) := by decide +kernel
theorem d_9_park_14 : decode prog_1_method_9_code 14 = .ok (.ireturn, 1) := by decide +kernel
theorem d_9_park_15 : decode prog_1_method_9_code 15 = .ok (.aload_n 0, 1) := by decide +kernel
theorem d_9_park_16 : decode prog_1_method_9_code 16 = .ok (.getfield 42, 3) := by decide +kernel
theorem d_9_park_19 : decode prog_1_method_9_code 19 = .ok (.aload_n 0, 1) := by decide +kernel
theorem d_9_park_20 : decode prog_1_method_9_code 20 = .ok (.getfield 26, 3) := by decide +kernel
theorem d_9_park_23 : decode prog_1_method_9_code 23 = .ok (.invokevirtual 80, 3) := by decide +kernel
theorem d_9_park_26 : decode prog_1_method_9_code 26 = .ok (.aload_n 0, 1) := by decide +kernel
theorem d_9_park_27 : decode prog_1_method_9_code 27 = .ok (.getfield 26, 3) := by decide +kernel
theorem d_9_park_30 : decode prog_1_method_9_code 30 = .ok (.getfield 122, 3) := by decide +kernel
theorem d_9_park_33 : decode prog_1_method_9_code 33 = .ok (.iload_n 1, 1) := by decide +kernel
theorem d_9_park_34 : decode prog_1_method_9_code 34 = .ok (.aaload, 1) := by decide +kernel
theorem d_9_park_35 : decode prog_1_method_9_code 35 = .ok (.getfield 126, 3) := by decide +kernel
theorem d_9_park_38 : decode prog_1_method_9_code 38 = .ok (.astore 5, 2) := by decide +kernel
theorem d_9_park_40 : decode prog_1_method_9_code 40 = .ok (.iload_n 2, 1) := by decide +kernel
theorem d_9_park_41 : decode prog_1_method_9_code 41 = .ok (.iload_n 3, 1) := by decide +kernel
theorem d_9_park_42 : decode prog_1_method_9_code 42 = .ok (.invokestatic 115, 3) := by decide +kernel
theorem d_9_park_45 : decode prog_1_method_9_code 45 = .ok (.istore 6, 2) := by decide +kernel
theorem d_9_park_47 : decode prog_1_method_9_code 47 = .ok (.aload 5, 2) := by decide +kernel
theorem d_9_park_49 : decode prog_1_method_9_code 49 = .ok (.iload 6, 2) := by decide +kernel
theorem d_9_park_51 : decode prog_1_method_9_code 51 = .ok (.baload, 1) := by decide +kernel
theorem d_9_park_52 : decode prog_1_method_9_code 52 = .ok (.istore 7, 2) := by decide +kernel
theorem d_9_park_54 : decode prog_1_method_9_code 54 = .ok (.aload 5, 2) := by decide +kernel
theorem d_9_park_56 : decode prog_1_method_9_code 56 = .ok (.iload 6, 2) := by decide +kernel
theorem d_9_park_58 : decode prog_1_method_9_code 58 = .ok (.iload 4, 2) := by decide +kernel
theorem d_9_park_60 : decode prog_1_method_9_code 60 = .ok (.bastore, 1) := by decide +kernel
theorem d_9_park_61 : decode prog_1_method_9_code 61 = .ok (.iload 7, 2) := by decide +kernel
theorem d_9_park_63 : decode prog_1_method_9_code 63 = .ok (.ifCond .eq 7, 3) := by decide +kernel
theorem d_9_park_66 : decode prog_1_method_9_code 66 = .ok (.iconst 1, 1) := by decide +kernel
theorem d_9_park_67 : decode prog_1_method_9_code 67 = .ok (.goto 4, 3) := by decide +kernel
theorem d_9_park_70 : decode prog_1_method_9_code 70 = .ok (.iconst 0, 1) := by decide +kernel
theorem d_9_park_71 : decode prog_1_method_9_code 71 = .ok (.ireturn, 1) := by decide +kernel
def m_9_park (r0 : Nat) (x1 : Int32) (x2 : Int32) (x3 : Int32) (x4 : Int32) (Q : Int32 → St → Prop) (σ : St) : Prop :=
  m_8_hasCell (r0 + 7) x1 x2 x3 (fun (v_2 : Int32) (σ_1 : St) => ((¬ v_2 = 0 → m_0_remember (r0 + 42) (r0 + 7) (fun (σ_3 : St) => vp_in x1 6 ∧ ∀ r5_6 : Nat, r5_6 = ((((r0 + 7) + 1) + 5 + 3 * (x1).toNatClampNeg) + 2) → m_9_placeOf x2 x3 (fun (v_8 : Int32) (σ_7 : St) => vp_in v_8 40 ∧ ∀ x7_9 : Int32, x7_9 = (σ_7.1 r5_6 (v_8).toNatClampNeg) → vp_in v_8 40 ∧ ∀ σ_10 : St, σ_10 = wr σ_7 r5_6 (v_8).toNatClampNeg (vp_nar .boolean x4) → ((x7_9 = 0 → Q (0 : Int32) σ_10) ∧ (¬ x7_9 = 0 → Q (1 : Int32) σ_10))) σ_3) σ_1) ∧ (v_2 = 0 → Q (-1 : Int32) σ_1))) σ
theorem d_8_grip_0 : decode prog_10_method_16_code 0 = .ok (.bipush 100, 2) := by decide +kernel
theorem d_8_grip_2 : decode prog_10_method_16_code 2 = .ok (.bipush 15, 2) := by decide +kernel
theorem d_8_grip_4 : decode prog_10_method_16_code 4 = .ok (.aload_n 0, 1) := by decide +kernel
theorem d_8_grip_5 : decode prog_10_method_16_code 5 = .ok (.getfield 23, 3) := by decide +kernel
theorem d_8_grip_8 : decode prog_10_method_16_code 8 = .ok (.iconst 0, 1) := by decide +kernel
theorem d_8_grip_9 : decode prog_10_method_16_code 9 = .ok (.iaload, 1) := by decide +kernel
theorem d_8_grip_10 : decode prog_10_method_16_code 10 = .ok (.iconst 1, 1) := by decide +kernel
theorem d_8_grip_11 : decode prog_10_method_16_code 11 = .ok (.isub, 1) := by decide +kernel
theorem d_8_grip_12 : decode prog_10_method_16_code 12 = .ok (.imul, 1) := by decide +kernel
theorem d_8_grip_13 : decode prog_10_method_16_code 13 = .ok (.isub, 1) := by decide +kernel
theorem d_8_grip_14 : decode prog_10_method_16_code 14 = .ok (.aload_n 0, 1) := by decide +kernel
theorem d_8_grip_15 : decode prog_10_method_16_code 15 = .ok (.getfield 48, 3) := by decide +kernel
theorem d_8_grip_18 : decode prog_10_method_16_code 18 = .ok (.imul, 1) := by decide +kernel
theorem d_8_grip_19 : decode prog_10_method_16_code 19 = .ok (.sipush 1000, 3) := by decide +kernel
theorem d_8_grip_22 : decode prog_10_method_16_code 22 = .ok (.idiv, 1) := by decide +kernel
theorem d_8_grip_23 : decode prog_10_method_16_code 23 = .ok (.ireturn, 1) := by decide +kernel
def m_8_grip (r0 : Nat) (Q : Int32 → St → Prop) (σ : St) : Prop :=
  vp_in (0 : Int32) 6 ∧ Q ((((100 : Int32) - ((15 : Int32) * ((σ.1 (r0 + 3) ((0 : Int32)).toNatClampNeg) - (1 : Int32)))) * (σ.1 r0 6)) / (1000 : Int32)) σ
theorem d_6_couldGive_0 : decode prog_8_method_8_code 0 = .ok (.aload_n 0, 1) := by decide +kernel
theorem d_6_couldGive_1 : decode prog_8_method_8_code 1 = .ok (.getfield 15, 3) := by decide +kernel
theorem d_6_couldGive_4 : decode prog_8_method_8_code 4 = .ok (.iload_n 1, 1) := by decide +kernel
theorem d_6_couldGive_5 : decode prog_8_method_8_code 5 = .ok (.baload, 1) := by decide +kernel
theorem d_6_couldGive_6 : decode prog_8_method_8_code 6 = .ok (.ifCond .eq 7, 3) := by decide +kernel
theorem d_6_couldGive_9 : decode prog_8_method_8_code 9 = .ok (.iconst 0, 1) := by decide +kernel
theorem d_6_couldGive_10 : decode prog_8_method_8_code 10 = .ok (.goto 14, 3) := by decide +kernel
theorem d_6_couldGive_13 : decode prog_8_method_8_code 13 = .ok (.aload_n 0, 1) := by decide +kernel
theorem d_6_couldGive_14 : decode prog_8_method_8_code 14 = .ok (.getfield 9, 3) := by decide +kernel
theorem d_6_couldGive_17 : decode prog_8_method_8_code 17 = .ok (.iload_n 1, 1) := by decide +kernel
theorem d_6_couldGive_18 : decode prog_8_method_8_code 18 = .ok (.iaload, 1) := by decide +kernel
theorem d_6_couldGive_19 : decode prog_8_method_8_code 19 = .ok (.iload_n 2, 1) := by decide +kernel
theorem d_6_couldGive_20 : decode prog_8_method_8_code 20 = .ok (.imul, 1) := by decide +kernel
theorem d_6_couldGive_21 : decode prog_8_method_8_code 21 = .ok (.bipush 100, 2) := by decide +kernel
theorem d_6_couldGive_23 : decode prog_8_method_8_code 23 = .ok (.idiv, 1) := by decide +kernel
theorem d_6_couldGive_24 : decode prog_8_method_8_code 24 = .ok (.ireturn, 1) := by decide +kernel
def m_6_couldGive (r0 : Nat) (x1 : Int32) (x2 : Int32) (Q : Int32 → St → Prop) (σ : St) : Prop :=
  vp_in x1 40 ∧ (((σ.1 (r0 + 2) (x1).toNatClampNeg) = 0 → vp_in x1 40 ∧ Q (((σ.1 (r0 + 1) (x1).toNatClampNeg) * x2) / (100 : Int32)) σ) ∧ (¬ (σ.1 (r0 + 2) (x1).toNatClampNeg) = 0 → Q (0 : Int32) σ))
theorem d_8_room_0 : decode prog_10_method_17_code 0 = .ok (.aload_n 0, 1) := by decide +kernel
theorem d_8_room_1 : decode prog_10_method_17_code 1 = .ok (.getfield 23, 3) := by decide +kernel
theorem d_8_room_4 : decode prog_10_method_17_code 4 = .ok (.iconst 1, 1) := by decide +kernel
theorem d_8_room_5 : decode prog_10_method_17_code 5 = .ok (.iaload, 1) := by decide +kernel
theorem d_8_room_6 : decode prog_10_method_17_code 6 = .ok (.aload_n 0, 1) := by decide +kernel
theorem d_8_room_7 : decode prog_10_method_17_code 7 = .ok (.getfield 69, 3) := by decide +kernel
theorem d_8_room_10 : decode prog_10_method_17_code 10 = .ok (.isub, 1) := by decide +kernel
theorem d_8_room_11 : decode prog_10_method_17_code 11 = .ok (.ireturn, 1) := by decide +kernel
def m_8_room (r0 : Nat) (Q : Int32 → St → Prop) (σ : St) : Prop :=
  vp_in (1 : Int32) 6 ∧ Q ((σ.1 (r0 + 3) ((1 : Int32)).toNatClampNeg) - (σ.1 r0 7)) σ
theorem d_9_cell_0 : decode prog_1_method_10_code 0 = .ok (.aload_n 0, 1) := by decide +kernel
theorem d_9_cell_1 : decode prog_1_method_10_code 1 = .ok (.getfield 26, 3) := by decide +kernel
theorem d_9_cell_4 : decode prog_1_method_10_code 4 = .ok (.iload_n 1, 1) := by decide +kernel
theorem d_9_cell_5 : decode prog_1_method_10_code 5 = .ok (.iload_n 2, 1) := by decide +kernel
theorem d_9_cell_6 : decode prog_1_method_10_code 6 = .ok (.iload_n 3, 1) := by decide +kernel
theorem d_9_cell_7 : decode prog_1_method_10_code 7 = .ok (.invokevirtual 111, 3) := by decide +kernel
theorem d_9_cell_10 : decode prog_1_method_10_code 10 = .ok (.ifCond .ne 5, 3) := by decide +kernel
theorem d_9_cell_13 : decode prog_1_method_10_code 13 = .ok (.iconst (-1), 1) := by decide +kernel
theorem d_9_cell_14 : decode prog_1_method_10_code 14 = .ok (.ireturn, 1) := by decide +kernel
theorem d_9_cell_15 : decode prog_1_method_10_code 15 = .ok (.aload_n 0, 1) := by decide +kernel
theorem d_9_cell_16 : decode prog_1_method_10_code 16 = .ok (.getfield 26, 3) := by decide +kernel
theorem d_9_cell_19 : decode prog_1_method_10_code 19 = .ok (.getfield 122, 3) := by decide +kernel
theorem d_9_cell_22 : decode prog_1_method_10_code 22 = .ok (.iload_n 1, 1) := by decide +kernel
theorem d_9_cell_23 : decode prog_1_method_10_code 23 = .ok (.aaload, 1) := by decide +kernel
theorem d_9_cell_24 : decode prog_1_method_10_code 24 = .ok (.astore 5, 2) := by decide +kernel
theorem d_9_cell_26 : decode prog_1_method_10_code 26 = .ok (.iload_n 2, 1) := by decide +kernel
theorem d_9_cell_27 : decode prog_1_method_10_code 27 = .ok (.iload_n 3, 1) := by decide +kernel
theorem d_9_cell_28 : decode prog_1_method_10_code 28 = .ok (.invokestatic 115, 3) := by decide +kernel
theorem d_9_cell_31 : decode prog_1_method_10_code 31 = .ok (.istore 6, 2) := by decide +kernel
theorem d_9_cell_33 : decode prog_1_method_10_code 33 = .ok (.iload 4, 2) := by decide +kernel
theorem d_9_cell_35 : decode prog_1_method_10_code 35 = .ok (.tableswitch 76 0 2 #[25, 34, 51], 25) := by decide +kernel
theorem d_9_cell_60 : decode prog_1_method_10_code 60 = .ok (.aload 5, 2) := by decide +kernel
theorem d_9_cell_62 : decode prog_1_method_10_code 62 = .ok (.getfield 130, 3) := by decide +kernel
theorem d_9_cell_65 : decode prog_1_method_10_code 65 = .ok (.iload 6, 2) := by decide +kernel
theorem d_9_cell_67 : decode prog_1_method_10_code 67 = .ok (.iaload, 1) := by decide +kernel
theorem d_9_cell_68 : decode prog_1_method_10_code 68 = .ok (.ireturn, 1) := by decide +kernel
theorem d_9_cell_69 : decode prog_1_method_10_code 69 = .ok (.aload 5, 2) := by decide +kernel
theorem d_9_cell_71 : decode prog_1_method_10_code 71 = .ok (.getfield 126, 3) := by decide +kernel
theorem d_9_cell_74 : decode prog_1_method_10_code 74 = .ok (.iload 6, 2) := by decide +kernel
theorem d_9_cell_76 : decode prog_1_method_10_code 76 = .ok (.baload, 1) := by decide +kernel
theorem d_9_cell_77 : decode prog_1_method_10_code 77 = .ok (.ifCond .eq 7, 3) := by decide +kernel
theorem d_9_cell_80 : decode prog_1_method_10_code 80 = .ok (.iconst 1, 1) := by decide +kernel
theorem d_9_cell_81 : decode prog_1_method_10_code 81 = .ok (.goto 4, 3) := by decide +kernel
theorem d_9_cell_84 : decode prog_1_method_10_code 84 = .ok (.iconst 0, 1) := by decide +kernel
theorem d_9_cell_85 : decode prog_1_method_10_code 85 = .ok (.ireturn, 1) := by decide +kernel
theorem d_9_cell_86 : decode prog_1_method_10_code 86 = .ok (.aload 5, 2) := by decide +kernel
theorem d_9_cell_88 : decode prog_1_method_10_code 88 = .ok (.iload 6, 2) := by decide +kernel
theorem d_9_cell_90 : decode prog_1_method_10_code 90 = .ok (.aload_n 0, 1) := by decide +kernel
theorem d_9_cell_91 : decode prog_1_method_10_code 91 = .ok (.getfield 26, 3) := by decide +kernel
theorem d_9_cell_94 : decode prog_1_method_10_code 94 = .ok (.invokevirtual 134, 3) := by decide +kernel
theorem d_9_cell_97 : decode prog_1_method_10_code 97 = .ok (.invokevirtual 138, 3) := by decide +kernel
theorem d_9_cell_100 : decode prog_1_method_10_code 100 = .ok (.aload_n 0, 1) := by decide +kernel
theorem d_9_cell_101 : decode prog_1_method_10_code 101 = .ok (.getfield 26, 3) := by decide +kernel
theorem d_9_cell_104 : decode prog_1_method_10_code 104 = .ok (.invokevirtual 141, 3) := by decide +kernel
theorem d_9_cell_107 : decode prog_1_method_10_code 107 = .ok (.invokestatic 144, 3) := by decide +kernel
theorem d_9_cell_110 : decode prog_1_method_10_code 110 = .ok (.ireturn, 1) := by decide +kernel
theorem d_9_cell_111 : decode prog_1_method_10_code 111 = .ok (.iconst (-1), 1) := by decide +kernel
theorem d_9_cell_112 : decode prog_1_method_10_code 112 = .ok (.ireturn, 1) := by decide +kernel
def m_9_cell (r0 : Nat) (x1 : Int32) (x2 : Int32) (x3 : Int32) (x4 : Int32) (Q : Int32 → St → Prop) (σ : St) : Prop :=
  m_8_hasCell (r0 + 7) x1 x2 x3 (fun (v_2 : Int32) (σ_1 : St) => ((¬ v_2 = 0 → vp_in x1 6 ∧ ∀ r5_4 : Nat, r5_4 = (((r0 + 7) + 1) + 5 + 3 * (x1).toNatClampNeg) → m_9_placeOf x2 x3 (fun (v_6 : Int32) (σ_5 : St) => (((x4.toInt < 0 ∨ 2 < x4.toInt) → Q (-1 : Int32) σ_5) ∧ (x4 = 0 → vp_in v_6 40 ∧ Q (σ_5.1 (r5_4 + 1) (v_6).toNatClampNeg) σ_5) ∧ (x4 = 1 → vp_in v_6 40 ∧ (((σ_5.1 (r5_4 + 2) (v_6).toNatClampNeg) = 0 → Q (0 : Int32) σ_5) ∧ (¬ (σ_5.1 (r5_4 + 2) (v_6).toNatClampNeg) = 0 → Q (1 : Int32) σ_5))) ∧ (x4 = 2 → m_8_grip (r0 + 7) (fun (v_9 : Int32) (σ_8 : St) => m_6_couldGive r5_4 v_6 v_9 (fun (v_11 : Int32) (σ_10 : St) => m_8_room (r0 + 7) (fun (v_13 : Int32) (σ_12 : St) => Q (if v_13 < v_11 then v_13 else v_11) σ_12) σ_10) σ_8) σ_5))) σ_1) ∧ (v_2 = 0 → Q (-1 : Int32) σ_1))) σ
section MB
variable {p : Program} {l : Launch} {e : Env} {R : Room} {s : State} {m : MethodId} {args : Array Value} {below : List Frame} {meth : Method} {c : Code} {cells slots : Nat} {QW : State → Prop}
variable {D : va_G} {ac : Nat → ClassId} {ad : Nat → Nat} {st : SS} {A : Nat → Prop}
set_option maxHeartbeats 4000000 in
set_option maxRecDepth 100000 in
theorem w_6_copyFrom_26 {r0 : Nat} {r1 : Nat} {Q : St → Prop} {B26 : Int32 → St → Prop} {x2 : Int32} {σ : St} {H : Heap} {locs : List Loc} {ls : Array Slot} (S : SC A D ac st p m c prog_8_method_3_code 3 s args "SweeperRounds$Street" R cells slots 0 0) (hR : RtV A D ac ad p l e R s m args below meth c prog_8_method_3_code cells slots QW Q) (hk_r0 : kd r0 = 6) (hk_r1 : kd r1 = 6) (hB26 : ∀ (x2 : Int32) (σ : St) (H : Heap) (locs : List Loc) (ls : Array Slot), DG A D ac ad s σ H locs → lv_has ls 3 [(0, .ref (ad r0)), (1, .ref (ad r1)), (2, .int x2)] → B26 x2 σ → W p l e R s m args below meth c H locs cells slots QW (F0 m 26 ls [])) (hG : DG A D ac ad s σ H locs) (hl : lv_has ls 3 [(0, .ref (ad r0)), (1, .ref (ad r1)), (2, .int x2)]) (hf : m_6_copyFrom_26 r0 r1 Q B26 x2 σ) : W p l e R s m args below meth c H locs cells slots QW (F0 m 26 ls []) := by
  have hx := S.1.1
  have hb := S.1.2.1
  unfold m_6_copyFrom_26 at hf
  refine lv_iload_n hx hb d_6_copyFrom_26 rfl (lv_at hl 2 rfl) ?_
  refine lv_bipush (v := (40 : Int32)) hx hb d_6_copyFrom_27 (by decide) ?_
  refine lv_icmp_ge (tgt := 62) hx hb d_6_copyFrom_29 (by decide) (fun hc => ?_) (fun hc => ?_)
  · have hf := hf.1 hc
    exact hR _ _ _ _ _ hG hf d_6_copyFrom_62
  · have hf := hf.2 hc
    refine lv_aload_n hx hb d_6_copyFrom_32 rfl (lv_at hl 0 rfl) ?_
    refine gf_6_9 S hG hk_r0 d_6_copyFrom_33 ?_
    refine lv_iload_n hx hb d_6_copyFrom_36 rfl (lv_at hl 2 rfl) ?_
    refine lv_aload_n hx hb d_6_copyFrom_37 rfl (lv_at hl 1 rfl) ?_
    refine gf_6_9 S hG hk_r1 d_6_copyFrom_38 ?_
    refine lv_iload_n hx hb d_6_copyFrom_41 rfl (lv_at hl 2 rfl) ?_
    refine mia S hG 20 rfl rfl (kr_6_3 hk_r1) hf.1 d_6_copyFrom_42 ?_
    have hf := hf.2
    refine mis S hG 20 rfl rfl (kr_6_3 hk_r0) hf.1 d_6_copyFrom_43 (fun σ_1 eσ_1 H locs hG => ?_)
    have hf := hf.2 σ_1 eσ_1
    refine lv_aload_n hx hb d_6_copyFrom_44 rfl (lv_at hl 0 rfl) ?_
    refine gf_6_15 S hG hk_r0 d_6_copyFrom_45 ?_
    refine lv_iload_n hx hb d_6_copyFrom_48 rfl (lv_at hl 2 rfl) ?_
    refine lv_aload_n hx hb d_6_copyFrom_49 rfl (lv_at hl 1 rfl) ?_
    refine gf_6_15 S hG hk_r1 d_6_copyFrom_50 ?_
    refine lv_iload_n hx hb d_6_copyFrom_53 rfl (lv_at hl 2 rfl) ?_
    refine mza S hG (kr_6_4 hk_r1) hf.1 d_6_copyFrom_54 ?_
    have hf := hf.2
    refine mzs S hG (kr_6_4 hk_r0) hf.1 d_6_copyFrom_55 (fun σ_2 eσ_2 H locs hG => ?_)
    have hf := hf.2 σ_2 eσ_2
    obtain ⟨x2_3, ex2_3⟩ : ∃ y : Int32, y = x2 + 1 := ⟨_, rfl⟩
    have hf := hf x2_3 ex2_3
    refine lv_iinc (v := x2_3) (lv' := [(2, .int x2_3), (0, .ref (ad r0)), (1, .ref (ad r1))]) hx hb d_6_copyFrom_56 hl (k := 2) rfl (by rw [ex2_3]; rfl) (by decide) rfl (fun ls hl => ?_)
    refine lv_goto (tgt := 26) hx hb d_6_copyFrom_59 (by decide) ?_
    exact hB26 _ _ _ _ _   hG (lv_sub hl [1, 2, 0] rfl) hf
set_option maxHeartbeats 4000000 in
set_option maxRecDepth 100000 in
theorem lp_6_copyFrom_26 {r0 : Nat} {r1 : Nat} {Q : St → Prop} (S : SC A D ac st p m c prog_8_method_3_code 3 s args "SweeperRounds$Street" R cells slots 0 0) (hR : RtV A D ac ad p l e R s m args below meth c prog_8_method_3_code cells slots QW Q) (hk_r0 : kd r0 = 6) (hk_r1 : kd r1 = 6) : ∀ (n : Nat) (x2 : Int32) (σ : St) (H : Heap) (locs : List Loc) (ls : Array Slot), DG A D ac ad s σ H locs → lv_has ls 3 [(0, .ref (ad r0)), (1, .ref (ad r1)), (2, .int x2)] → itN (m_6_copyFrom_26 r0 r1 Q) (fun _ _ => False) n x2 σ → W p l e R s m args below meth c H locs cells slots QW (F0 m 26 ls []) := by
  intro n
  induction n with
  | zero =>
    intro x2 σ H locs ls  hG hl hf
    exact hf.elim
  | succ n ih =>
    intro x2 σ H locs ls  hG hl hf
    exact w_6_copyFrom_26 S hR hk_r0 hk_r1  ih hG hl hf
set_option maxHeartbeats 4000000 in
set_option maxRecDepth 100000 in
theorem w_6_copyFrom_0 {r0 : Nat} {r1 : Nat} {Q : St → Prop} {σ : St} {H : Heap} {locs : List Loc} {ls : Array Slot} (S : SC A D ac st p m c prog_8_method_3_code 3 s args "SweeperRounds$Street" R cells slots 0 0) (hR : RtV A D ac ad p l e R s m args below meth c prog_8_method_3_code cells slots QW Q) (hk_r0 : kd r0 = 6) (hk_r1 : kd r1 = 6) (hG : DG A D ac ad s σ H locs) (hl : lv_has ls 3 [(0, .ref (ad r0)), (1, .ref (ad r1))]) (hf : m_6_copyFrom r0 r1 Q σ) : W p l e R s m args below meth c H locs cells slots QW (F0 m 0 ls []) := by
  have hx := S.1.1
  have hb := S.1.2.1
  unfold m_6_copyFrom at hf
  refine lv_aload_n hx hb d_6_copyFrom_0 rfl (lv_at hl 0 rfl) ?_
  refine lv_aload_n hx hb d_6_copyFrom_1 rfl (lv_at hl 1 rfl) ?_
  refine gf_6_19 S hG hk_r1 d_6_copyFrom_2 ?_
  refine pf_6_19 S hG hk_r0 d_6_copyFrom_5 (fun σ_1 eσ_1 H locs hG => ?_)
  have hf := hf σ_1 eσ_1
  refine lv_aload_n hx hb d_6_copyFrom_8 rfl (lv_at hl 0 rfl) ?_
  refine lv_aload_n hx hb d_6_copyFrom_9 rfl (lv_at hl 1 rfl) ?_
  refine gf_6_23 S hG hk_r1 d_6_copyFrom_10 ?_
  refine pf_6_23 S hG hk_r0 d_6_copyFrom_13 (fun σ_2 eσ_2 H locs hG => ?_)
  have hf := hf σ_2 eσ_2
  refine lv_aload_n hx hb d_6_copyFrom_16 rfl (lv_at hl 0 rfl) ?_
  refine lv_aload_n hx hb d_6_copyFrom_17 rfl (lv_at hl 1 rfl) ?_
  refine gf_6_26 S hG hk_r1 d_6_copyFrom_18 ?_
  refine pf_6_26 S hG hk_r0 d_6_copyFrom_21 (fun σ_3 eσ_3 H locs hG => ?_)
  have hf := hf σ_3 eσ_3
  refine lv_iconst (v := (0 : Int32)) hx hb d_6_copyFrom_24 (by decide) ?_
  refine lv_istore_n (lv' := [(2, .int (0 : Int32)), (0, .ref (ad r0)), (1, .ref (ad r1))]) hx hb d_6_copyFrom_25 rfl hl (by decide) rfl (fun ls hl => ?_)
  exact lp_6_copyFrom_26 S hR hk_r0 hk_r1  FU _ _ _ _ _  hG (lv_sub hl [1, 2, 0] rfl) hf
theorem c_6_copyFrom (l : Launch) {D : va_G} {ac : Nat → ClassId} {ad : Nat → Nat} {st : SS} {A : Nat → Prop} {σ : St} {r0 : Nat} {r1 : Nat} {Q : St → Prop} (hk_r0 : kd r0 = 6) (hk_r1 : kd r1 = 6) (hf : m_6_copyFrom r0 r1 Q σ) : Met l y_6_copyFrom (Cond.code y_6_copyFrom prog_8_method_3_code 3 none :: wA) { frames := 0, cells := 0, slots := 0, locals := 0 } (va_Pc [.ref (ad r0), .ref (ad r1)] (GSt A D ac ad st σ)) (va_Qv Q (GSt A D ac ad st) A) 0 0 A :=
  mkV l (by decide +kernel) rfl [.ref (ad r0), .ref (ad r1)] (Nat.le_of_ble_eq_true rfl) (fun p e s m args below meth c ls QW S hR hG hl => w_6_copyFrom_0 S hR hk_r0 hk_r1 hG hl hf)
set_option maxHeartbeats 4000000 in
set_option maxRecDepth 100000 in
theorem w_1_copyFrom_0 {r0 : Nat} {r1 : Nat} {Q : St → Prop} {σ : St} {H : Heap} {locs : List Loc} {ls : Array Slot} (S : SC A D ac st p m c prog_3_method_2_code 2 s args "SweeperRounds$Leg" R cells slots 0 0) (hR : RtV A D ac ad p l e R s m args below meth c prog_3_method_2_code cells slots QW Q) (hk_r0 : kd r0 = 1) (hk_r1 : kd r1 = 1) (hG : DG A D ac ad s σ H locs) (hl : lv_has ls 2 [(0, .ref (ad r0)), (1, .ref (ad r1))]) (hf : m_1_copyFrom r0 r1 Q σ) : W p l e R s m args below meth c H locs cells slots QW (F0 m 0 ls []) := by
  have hx := S.1.1
  have hb := S.1.2.1
  unfold m_1_copyFrom at hf
  refine lv_aload_n hx hb d_1_copyFrom_0 rfl (lv_at hl 0 rfl) ?_
  refine lv_aload_n hx hb d_1_copyFrom_1 rfl (lv_at hl 1 rfl) ?_
  refine gf_1_7 S hG hk_r1 d_1_copyFrom_2 ?_
  refine pf_1_7 S hG hk_r0 d_1_copyFrom_5 (fun σ_1 eσ_1 H locs hG => ?_)
  have hf := hf σ_1 eσ_1
  refine lv_aload_n hx hb d_1_copyFrom_8 rfl (lv_at hl 0 rfl) ?_
  refine lv_aload_n hx hb d_1_copyFrom_9 rfl (lv_at hl 1 rfl) ?_
  refine gf_1_13 S hG hk_r1 d_1_copyFrom_10 ?_
  refine pf_1_13 S hG hk_r0 d_1_copyFrom_13 (fun σ_2 eσ_2 H locs hG => ?_)
  have hf := hf σ_2 eσ_2
  refine lv_aload_n hx hb d_1_copyFrom_16 rfl (lv_at hl 0 rfl) ?_
  refine lv_aload_n hx hb d_1_copyFrom_17 rfl (lv_at hl 1 rfl) ?_
  refine gf_1_16 S hG hk_r1 d_1_copyFrom_18 ?_
  refine pf_1_16 S hG hk_r0 d_1_copyFrom_21 (fun σ_3 eσ_3 H locs hG => ?_)
  have hf := hf σ_3 eσ_3
  refine lv_aload_n hx hb d_1_copyFrom_24 rfl (lv_at hl 0 rfl) ?_
  refine lv_aload_n hx hb d_1_copyFrom_25 rfl (lv_at hl 1 rfl) ?_
  refine gf_1_19 S hG hk_r1 d_1_copyFrom_26 ?_
  refine pf_1_19 S hG hk_r0 d_1_copyFrom_29 (fun σ_4 eσ_4 H locs hG => ?_)
  have hf := hf σ_4 eσ_4
  exact hR _ _ _ _ _ hG hf d_1_copyFrom_32
theorem c_1_copyFrom (l : Launch) {D : va_G} {ac : Nat → ClassId} {ad : Nat → Nat} {st : SS} {A : Nat → Prop} {σ : St} {r0 : Nat} {r1 : Nat} {Q : St → Prop} (hk_r0 : kd r0 = 1) (hk_r1 : kd r1 = 1) (hf : m_1_copyFrom r0 r1 Q σ) : Met l y_1_copyFrom (Cond.code y_1_copyFrom prog_3_method_2_code 2 none :: wA) { frames := 0, cells := 0, slots := 0, locals := 0 } (va_Pc [.ref (ad r0), .ref (ad r1)] (GSt A D ac ad st σ)) (va_Qv Q (GSt A D ac ad st) A) 0 0 A :=
  mkV l (by decide +kernel) rfl [.ref (ad r0), .ref (ad r1)] (Nat.le_of_ble_eq_true rfl) (fun p e s m args below meth c ls QW S hR hG hl => w_1_copyFrom_0 S hR hk_r0 hk_r1 hG hl hf)
set_option maxHeartbeats 4000000 in
set_option maxRecDepth 100000 in
theorem w_4_copyFrom_0 {r0 : Nat} {r1 : Nat} {Q : St → Prop} {σ : St} {H : Heap} {locs : List Loc} {ls : Array Slot} (S : SC A D ac st p m c prog_6_method_3_code 2 s args "SweeperRounds$Report" R cells slots 0 0) (hR : RtV A D ac ad p l e R s m args below meth c prog_6_method_3_code cells slots QW Q) (hk_r0 : kd r0 = 4) (hk_r1 : kd r1 = 4) (hG : DG A D ac ad s σ H locs) (hl : lv_has ls 2 [(0, .ref (ad r0)), (1, .ref (ad r1))]) (hf : m_4_copyFrom r0 r1 Q σ) : W p l e R s m args below meth c H locs cells slots QW (F0 m 0 ls []) := by
  have hx := S.1.1
  have hb := S.1.2.1
  unfold m_4_copyFrom at hf
  refine lv_aload_n hx hb d_4_copyFrom_0 rfl (lv_at hl 0 rfl) ?_
  refine lv_aload_n hx hb d_4_copyFrom_1 rfl (lv_at hl 1 rfl) ?_
  refine gf_4_9 S hG hk_r1 d_4_copyFrom_2 ?_
  refine pf_4_9 S hG hk_r0 d_4_copyFrom_5 (fun σ_1 eσ_1 H locs hG => ?_)
  have hf := hf σ_1 eσ_1
  refine lv_aload_n hx hb d_4_copyFrom_8 rfl (lv_at hl 0 rfl) ?_
  refine lv_aload_n hx hb d_4_copyFrom_9 rfl (lv_at hl 1 rfl) ?_
  refine gf_4_15 S hG hk_r1 d_4_copyFrom_10 ?_
  refine pf_4_15 S hG hk_r0 d_4_copyFrom_13 (fun σ_2 eσ_2 H locs hG => ?_)
  have hf := hf σ_2 eσ_2
  refine lv_aload_n hx hb d_4_copyFrom_16 rfl (lv_at hl 0 rfl) ?_
  refine lv_aload_n hx hb d_4_copyFrom_17 rfl (lv_at hl 1 rfl) ?_
  refine gf_4_18 S hG hk_r1 d_4_copyFrom_18 ?_
  refine pf_4_18 S hG hk_r0 d_4_copyFrom_21 (fun σ_3 eσ_3 H locs hG => ?_)
  have hf := hf σ_3 eσ_3
  refine lv_aload_n hx hb d_4_copyFrom_24 rfl (lv_at hl 0 rfl) ?_
  refine lv_aload_n hx hb d_4_copyFrom_25 rfl (lv_at hl 1 rfl) ?_
  refine gf_4_21 S hG hk_r1 d_4_copyFrom_26 ?_
  refine pf_4_21 S hG hk_r0 d_4_copyFrom_29 (fun σ_4 eσ_4 H locs hG => ?_)
  have hf := hf σ_4 eσ_4
  refine lv_aload_n hx hb d_4_copyFrom_32 rfl (lv_at hl 0 rfl) ?_
  refine lv_aload_n hx hb d_4_copyFrom_33 rfl (lv_at hl 1 rfl) ?_
  refine gf_4_24 S hG hk_r1 d_4_copyFrom_34 ?_
  refine pf_4_24 S hG hk_r0 d_4_copyFrom_37 (fun σ_5 eσ_5 H locs hG => ?_)
  have hf := hf σ_5 eσ_5
  refine lv_aload_n hx hb d_4_copyFrom_40 rfl (lv_at hl 0 rfl) ?_
  refine lv_aload_n hx hb d_4_copyFrom_41 rfl (lv_at hl 1 rfl) ?_
  refine gf_4_27 S hG hk_r1 d_4_copyFrom_42 ?_
  refine pf_4_27 S hG hk_r0 d_4_copyFrom_45 (fun σ_6 eσ_6 H locs hG => ?_)
  have hf := hf σ_6 eσ_6
  exact hR _ _ _ _ _ hG hf d_4_copyFrom_48
theorem c_4_copyFrom (l : Launch) {D : va_G} {ac : Nat → ClassId} {ad : Nat → Nat} {st : SS} {A : Nat → Prop} {σ : St} {r0 : Nat} {r1 : Nat} {Q : St → Prop} (hk_r0 : kd r0 = 4) (hk_r1 : kd r1 = 4) (hf : m_4_copyFrom r0 r1 Q σ) : Met l y_4_copyFrom (Cond.code y_4_copyFrom prog_6_method_3_code 2 none :: wA) { frames := 0, cells := 0, slots := 0, locals := 0 } (va_Pc [.ref (ad r0), .ref (ad r1)] (GSt A D ac ad st σ)) (va_Qv Q (GSt A D ac ad st) A) 0 0 A :=
  mkV l (by decide +kernel) rfl [.ref (ad r0), .ref (ad r1)] (Nat.le_of_ble_eq_true rfl) (fun p e s m args below meth c ls QW S hR hG hl => w_4_copyFrom_0 S hR hk_r0 hk_r1 hG hl hf)
set_option maxHeartbeats 4000000 in
set_option maxRecDepth 100000 in
theorem w_8_copyFrom_49 {r0 : Nat} {r1 : Nat} {Q : St → Prop} {B49 : Int32 → St → Prop} {x2 : Int32} {σ : St} {H : Heap} {locs : List Loc} {ls : Array Slot} (S : SC A D ac st p m c prog_10_method_2_code 3 s args "SweeperRounds$World" R cells slots 1 22) (hR : RtV A D ac ad p l e R s m args below meth c prog_10_method_2_code cells slots QW Q) (hk_r0 : kd r0 = 8) (hk_r1 : kd r1 = 8) (hB49 : ∀ (x2 : Int32) (σ : St) (H : Heap) (locs : List Loc) (ls : Array Slot), DG A D ac ad s σ H locs → lv_has ls 3 [(0, .ref (ad r0)), (1, .ref (ad r1)), (2, .int x2)] → B49 x2 σ → W p l e R s m args below meth c H locs cells slots QW (F0 m 49 ls [])) (hG : DG A D ac ad s σ H locs) (hl : lv_has ls 3 [(0, .ref (ad r0)), (1, .ref (ad r1)), (2, .int x2)]) (hf : m_8_copyFrom_49 r0 r1 Q B49 x2 σ) : W p l e R s m args below meth c H locs cells slots QW (F0 m 49 ls []) := by
  have hx := S.1.1
  have hb := S.1.2.1
  unfold m_8_copyFrom_49 at hf
  refine lv_iload_n hx hb d_8_copyFrom_49 rfl (lv_at hl 2 rfl) ?_
  refine lv_aload_n hx hb d_8_copyFrom_50 rfl (lv_at hl 0 rfl) ?_
  refine gf_8_59 S hG hk_r0 d_8_copyFrom_51 ?_
  refine lv_icmp_ge (tgt := 78) hx hb d_8_copyFrom_54 (by decide) (fun hc => ?_) (fun hc => ?_)
  · have hf := hf.1 hc
    refine lv_aload_n hx hb d_8_copyFrom_78 rfl (lv_at hl 0 rfl) ?_
    refine lv_aload_n hx hb d_8_copyFrom_79 rfl (lv_at hl 1 rfl) ?_
    refine gf_8_65 S hG hk_r1 d_8_copyFrom_80 ?_
    refine pf_8_65 S hG hk_r0 hf.1 d_8_copyFrom_83 (fun σ_1 eσ_1 H locs hG => ?_)
    have hf := hf.2
    have hf := hf σ_1 eσ_1
    refine lv_aload_n hx hb d_8_copyFrom_86 rfl (lv_at hl 1 rfl) ?_
    refine gf_8_23 S hG hk_r1 d_8_copyFrom_87 ?_
    refine lv_iconst (v := (0 : Int32)) hx hb d_8_copyFrom_90 (by decide) ?_
    refine lv_aload_n hx hb d_8_copyFrom_91 rfl (lv_at hl 0 rfl) ?_
    refine gf_8_23 S hG hk_r0 d_8_copyFrom_92 ?_
    refine lv_iconst (v := (0 : Int32)) hx hb d_8_copyFrom_95 (by decide) ?_
    refine lv_bipush (v := (6 : Int32)) hx hb d_8_copyFrom_96 (by decide) ?_
    refine mcp S hl.1 hG wm_173 wm_175 wm_174 wm_16 26 26 rfl rfl rfl rfl (kr_8_5 hk_r1) (kr_8_5 hk_r0) hf.1 hf.2.1 hf.2.2.1 (by decide) (Nat.le_of_ble_eq_true rfl) d_8_copyFrom_98 (fun σ_2 eσ_2 H locs hG => ?_)
    have hf := hf.2.2.2 σ_2 eσ_2
    refine lv_aload_n hx hb d_8_copyFrom_101 rfl (lv_at hl 0 rfl) ?_
    refine lv_aload_n hx hb d_8_copyFrom_102 rfl (lv_at hl 1 rfl) ?_
    refine gf_8_48 S hG hk_r1 d_8_copyFrom_103 ?_
    refine pf_8_48 S hG hk_r0 d_8_copyFrom_106 (fun σ_3 eσ_3 H locs hG => ?_)
    have hf := hf σ_3 eσ_3
    refine lv_aload_n hx hb d_8_copyFrom_109 rfl (lv_at hl 0 rfl) ?_
    refine lv_aload_n hx hb d_8_copyFrom_110 rfl (lv_at hl 1 rfl) ?_
    refine gf_8_69 S hG hk_r1 d_8_copyFrom_111 ?_
    refine pf_8_69 S hG hk_r0 d_8_copyFrom_114 (fun σ_4 eσ_4 H locs hG => ?_)
    have hf := hf σ_4 eσ_4
    refine lv_aload_n hx hb d_8_copyFrom_117 rfl (lv_at hl 1 rfl) ?_
    refine gf_8_27 S hG hk_r1 d_8_copyFrom_118 ?_
    refine lv_iconst (v := (0 : Int32)) hx hb d_8_copyFrom_121 (by decide) ?_
    refine lv_aload_n hx hb d_8_copyFrom_122 rfl (lv_at hl 0 rfl) ?_
    refine gf_8_27 S hG hk_r0 d_8_copyFrom_123 ?_
    refine lv_iconst (v := (0 : Int32)) hx hb d_8_copyFrom_126 (by decide) ?_
    refine lv_bipush (v := (6 : Int32)) hx hb d_8_copyFrom_127 (by decide) ?_
    refine mcp S hl.1 hG wm_173 wm_175 wm_174 wm_16 27 27 rfl rfl rfl rfl (kr_8_8 hk_r1) (kr_8_8 hk_r0) hf.1 hf.2.1 hf.2.2.1 (by decide) (Nat.le_of_ble_eq_true rfl) d_8_copyFrom_129 (fun σ_5 eσ_5 H locs hG => ?_)
    have hf := hf.2.2.2 σ_5 eσ_5
    refine lv_aload_n hx hb d_8_copyFrom_132 rfl (lv_at hl 0 rfl) ?_
    refine gf_8_33 S hG hk_r0 d_8_copyFrom_133 ?_
    refine lv_aload_n hx hb d_8_copyFrom_136 rfl (lv_at hl 1 rfl) ?_
    refine gf_8_33 S hG hk_r1 d_8_copyFrom_137 ?_
    refine iv_8_72 S hl.1 hG (kr_8_9 hk_r0) (c_4_copyFrom l (kr_8_9 hk_r0) (kr_8_9 hk_r1) hf) ⟨Nat.le_of_ble_eq_true rfl, Nat.le_of_ble_eq_true rfl⟩ (Nat.le_of_ble_eq_true rfl) d_8_copyFrom_140 (fun σ_6 hf H locs hG => ?_)
    refine lv_aload_n hx hb d_8_copyFrom_143 rfl (lv_at hl 0 rfl) ?_
    refine lv_aload_n hx hb d_8_copyFrom_144 rfl (lv_at hl 1 rfl) ?_
    refine gf_8_75 S hG hk_r1 d_8_copyFrom_145 ?_
    refine pf_8_75 S hG hk_r0 d_8_copyFrom_148 (fun σ_8 eσ_8 H locs hG => ?_)
    have hf := hf σ_8 eσ_8
    refine lv_aload_n hx hb d_8_copyFrom_151 rfl (lv_at hl 0 rfl) ?_
    refine lv_aload_n hx hb d_8_copyFrom_152 rfl (lv_at hl 1 rfl) ?_
    refine gf_8_78 S hG hk_r1 d_8_copyFrom_153 ?_
    refine pf_8_78 S hG hk_r0 d_8_copyFrom_156 (fun σ_9 eσ_9 H locs hG => ?_)
    have hf := hf σ_9 eσ_9
    exact hR _ _ _ _ _ hG hf d_8_copyFrom_159
  · have hf := hf.2 hc
    refine lv_aload_n hx hb d_8_copyFrom_57 rfl (lv_at hl 0 rfl) ?_
    refine gf_8_19 S hG hk_r0 d_8_copyFrom_58 ?_
    refine lv_iload_n hx hb d_8_copyFrom_61 rfl (lv_at hl 2 rfl) ?_
    refine mq4 S hG (kr_8_2 hk_r0) hf.1 d_8_copyFrom_62 ?_
    have hi_10 := vin_lt hf.1
    have hf := hf.2
    refine lv_aload_n hx hb d_8_copyFrom_63 rfl (lv_at hl 1 rfl) ?_
    refine gf_8_19 S hG hk_r1 d_8_copyFrom_64 ?_
    refine lv_iload_n hx hb d_8_copyFrom_67 rfl (lv_at hl 2 rfl) ?_
    refine mq4 S hG (kr_8_2 hk_r1) hf.1 d_8_copyFrom_68 ?_
    have hi_11 := vin_lt hf.1
    have hf := hf.2
    refine iv_8_62 S hl.1 hG (ke_24 (kr_8_2 hk_r0) hi_10) (c_1_copyFrom l (ke_24 (kr_8_2 hk_r0) hi_10) (ke_24 (kr_8_2 hk_r1) hi_11) hf) ⟨Nat.le_of_ble_eq_true rfl, Nat.le_of_ble_eq_true rfl⟩ (Nat.le_of_ble_eq_true rfl) d_8_copyFrom_69 (fun σ_12 hf H locs hG => ?_)
    obtain ⟨x2_14, ex2_14⟩ : ∃ y : Int32, y = x2 + 1 := ⟨_, rfl⟩
    have hf := hf x2_14 ex2_14
    refine lv_iinc (v := x2_14) (lv' := [(2, .int x2_14), (0, .ref (ad r0)), (1, .ref (ad r1))]) hx hb d_8_copyFrom_72 hl (k := 2) rfl (by rw [ex2_14]; rfl) (by decide) rfl (fun ls hl => ?_)
    refine lv_goto (tgt := 49) hx hb d_8_copyFrom_75 (by decide) ?_
    exact hB49 _ _ _ _ _   hG (lv_sub hl [1, 2, 0] rfl) hf
set_option maxHeartbeats 4000000 in
set_option maxRecDepth 100000 in
theorem lp_8_copyFrom_49 {r0 : Nat} {r1 : Nat} {Q : St → Prop} (S : SC A D ac st p m c prog_10_method_2_code 3 s args "SweeperRounds$World" R cells slots 1 22) (hR : RtV A D ac ad p l e R s m args below meth c prog_10_method_2_code cells slots QW Q) (hk_r0 : kd r0 = 8) (hk_r1 : kd r1 = 8) : ∀ (n : Nat) (x2 : Int32) (σ : St) (H : Heap) (locs : List Loc) (ls : Array Slot), DG A D ac ad s σ H locs → lv_has ls 3 [(0, .ref (ad r0)), (1, .ref (ad r1)), (2, .int x2)] → itN (m_8_copyFrom_49 r0 r1 Q) (fun _ _ => False) n x2 σ → W p l e R s m args below meth c H locs cells slots QW (F0 m 49 ls []) := by
  intro n
  induction n with
  | zero =>
    intro x2 σ H locs ls  hG hl hf
    exact hf.elim
  | succ n ih =>
    intro x2 σ H locs ls  hG hl hf
    exact w_8_copyFrom_49 S hR hk_r0 hk_r1  ih hG hl hf
set_option maxHeartbeats 4000000 in
set_option maxRecDepth 100000 in
theorem w_8_copyFrom_10 {r0 : Nat} {r1 : Nat} {Q : St → Prop} {B10 : Int32 → St → Prop} {x2 : Int32} {σ : St} {H : Heap} {locs : List Loc} {ls : Array Slot} (S : SC A D ac st p m c prog_10_method_2_code 3 s args "SweeperRounds$World" R cells slots 1 22) (hR : RtV A D ac ad p l e R s m args below meth c prog_10_method_2_code cells slots QW Q) (hk_r0 : kd r0 = 8) (hk_r1 : kd r1 = 8) (hB10 : ∀ (x2 : Int32) (σ : St) (H : Heap) (locs : List Loc) (ls : Array Slot), DG A D ac ad s σ H locs → lv_has ls 3 [(0, .ref (ad r0)), (1, .ref (ad r1)), (2, .int x2)] → B10 x2 σ → W p l e R s m args below meth c H locs cells slots QW (F0 m 10 ls [])) (hG : DG A D ac ad s σ H locs) (hl : lv_has ls 3 [(0, .ref (ad r0)), (1, .ref (ad r1)), (2, .int x2)]) (hf : m_8_copyFrom_10 r0 r1 Q B10 x2 σ) : W p l e R s m args below meth c H locs cells slots QW (F0 m 10 ls []) := by
  have hx := S.1.1
  have hb := S.1.2.1
  unfold m_8_copyFrom_10 at hf
  refine lv_iload_n hx hb d_8_copyFrom_10 rfl (lv_at hl 2 rfl) ?_
  refine lv_aload_n hx hb d_8_copyFrom_11 rfl (lv_at hl 0 rfl) ?_
  refine gf_8_52 S hG hk_r0 d_8_copyFrom_12 ?_
  refine lv_icmp_ge (tgt := 39) hx hb d_8_copyFrom_15 (by decide) (fun hc => ?_) (fun hc => ?_)
  · have hf := hf.1 hc
    refine lv_aload_n hx hb d_8_copyFrom_39 rfl (lv_at hl 0 rfl) ?_
    refine lv_aload_n hx hb d_8_copyFrom_40 rfl (lv_at hl 1 rfl) ?_
    refine gf_8_59 S hG hk_r1 d_8_copyFrom_41 ?_
    refine pf_8_59 S hG hk_r0 d_8_copyFrom_44 (fun σ_1 eσ_1 H locs hG => ?_)
    have hf := hf σ_1 eσ_1
    refine lv_iconst (v := (0 : Int32)) hx hb d_8_copyFrom_47 (by decide) ?_
    refine lv_istore_n (lv' := [(2, .int (0 : Int32)), (0, .ref (ad r0)), (1, .ref (ad r1))]) hx hb d_8_copyFrom_48 rfl hl (by decide) rfl (fun ls hl => ?_)
    exact lp_8_copyFrom_49 S hR hk_r0 hk_r1  FU _ _ _ _ _  hG (lv_sub hl [1, 2, 0] rfl) hf
  · have hf := hf.2 hc
    refine lv_aload_n hx hb d_8_copyFrom_18 rfl (lv_at hl 0 rfl) ?_
    refine gf_8_11 S hG hk_r0 d_8_copyFrom_19 ?_
    refine lv_iload_n hx hb d_8_copyFrom_22 rfl (lv_at hl 2 rfl) ?_
    refine mq3 S hG (kr_8_0 hk_r0) hf.1 d_8_copyFrom_23 ?_
    have hi_2 := vin_lt hf.1
    have hf := hf.2
    refine lv_aload_n hx hb d_8_copyFrom_24 rfl (lv_at hl 1 rfl) ?_
    refine gf_8_11 S hG hk_r1 d_8_copyFrom_25 ?_
    refine lv_iload_n hx hb d_8_copyFrom_28 rfl (lv_at hl 2 rfl) ?_
    refine mq3 S hG (kr_8_0 hk_r1) hf.1 d_8_copyFrom_29 ?_
    have hi_3 := vin_lt hf.1
    have hf := hf.2
    refine iv_8_55 S hl.1 hG (ke_23 (kr_8_0 hk_r0) hi_2) (c_6_copyFrom l (ke_23 (kr_8_0 hk_r0) hi_2) (ke_23 (kr_8_0 hk_r1) hi_3) hf) ⟨Nat.le_of_ble_eq_true rfl, Nat.le_of_ble_eq_true rfl⟩ (Nat.le_of_ble_eq_true rfl) d_8_copyFrom_30 (fun σ_4 hf H locs hG => ?_)
    obtain ⟨x2_6, ex2_6⟩ : ∃ y : Int32, y = x2 + 1 := ⟨_, rfl⟩
    have hf := hf x2_6 ex2_6
    refine lv_iinc (v := x2_6) (lv' := [(2, .int x2_6), (0, .ref (ad r0)), (1, .ref (ad r1))]) hx hb d_8_copyFrom_33 hl (k := 2) rfl (by rw [ex2_6]; rfl) (by decide) rfl (fun ls hl => ?_)
    refine lv_goto (tgt := 10) hx hb d_8_copyFrom_36 (by decide) ?_
    exact hB10 _ _ _ _ _   hG (lv_sub hl [1, 2, 0] rfl) hf
set_option maxHeartbeats 4000000 in
set_option maxRecDepth 100000 in
theorem lp_8_copyFrom_10 {r0 : Nat} {r1 : Nat} {Q : St → Prop} (S : SC A D ac st p m c prog_10_method_2_code 3 s args "SweeperRounds$World" R cells slots 1 22) (hR : RtV A D ac ad p l e R s m args below meth c prog_10_method_2_code cells slots QW Q) (hk_r0 : kd r0 = 8) (hk_r1 : kd r1 = 8) : ∀ (n : Nat) (x2 : Int32) (σ : St) (H : Heap) (locs : List Loc) (ls : Array Slot), DG A D ac ad s σ H locs → lv_has ls 3 [(0, .ref (ad r0)), (1, .ref (ad r1)), (2, .int x2)] → itN (m_8_copyFrom_10 r0 r1 Q) (fun _ _ => False) n x2 σ → W p l e R s m args below meth c H locs cells slots QW (F0 m 10 ls []) := by
  intro n
  induction n with
  | zero =>
    intro x2 σ H locs ls  hG hl hf
    exact hf.elim
  | succ n ih =>
    intro x2 σ H locs ls  hG hl hf
    exact w_8_copyFrom_10 S hR hk_r0 hk_r1  ih hG hl hf
set_option maxHeartbeats 4000000 in
set_option maxRecDepth 100000 in
theorem w_8_copyFrom_0 {r0 : Nat} {r1 : Nat} {Q : St → Prop} {σ : St} {H : Heap} {locs : List Loc} {ls : Array Slot} (S : SC A D ac st p m c prog_10_method_2_code 3 s args "SweeperRounds$World" R cells slots 1 22) (hR : RtV A D ac ad p l e R s m args below meth c prog_10_method_2_code cells slots QW Q) (hk_r0 : kd r0 = 8) (hk_r1 : kd r1 = 8) (hG : DG A D ac ad s σ H locs) (hl : lv_has ls 3 [(0, .ref (ad r0)), (1, .ref (ad r1))]) (hf : m_8_copyFrom r0 r1 Q σ) : W p l e R s m args below meth c H locs cells slots QW (F0 m 0 ls []) := by
  have hx := S.1.1
  have hb := S.1.2.1
  unfold m_8_copyFrom at hf
  refine lv_aload_n hx hb d_8_copyFrom_0 rfl (lv_at hl 0 rfl) ?_
  refine lv_aload_n hx hb d_8_copyFrom_1 rfl (lv_at hl 1 rfl) ?_
  refine gf_8_52 S hG hk_r1 d_8_copyFrom_2 ?_
  refine pf_8_52 S hG hk_r0 d_8_copyFrom_5 (fun σ_1 eσ_1 H locs hG => ?_)
  have hf := hf σ_1 eσ_1
  refine lv_iconst (v := (0 : Int32)) hx hb d_8_copyFrom_8 (by decide) ?_
  refine lv_istore_n (lv' := [(2, .int (0 : Int32)), (0, .ref (ad r0)), (1, .ref (ad r1))]) hx hb d_8_copyFrom_9 rfl hl (by decide) rfl (fun ls hl => ?_)
  exact lp_8_copyFrom_10 S hR hk_r0 hk_r1  FU _ _ _ _ _  hG (lv_sub hl [1, 2, 0] rfl) hf
theorem c_8_copyFrom (l : Launch) {D : va_G} {ac : Nat → ClassId} {ad : Nat → Nat} {st : SS} {A : Nat → Prop} {σ : St} {r0 : Nat} {r1 : Nat} {Q : St → Prop} (hk_r0 : kd r0 = 8) (hk_r1 : kd r1 = 8) (hf : m_8_copyFrom r0 r1 Q σ) : Met l y_8_copyFrom (Cond.code y_8_copyFrom prog_10_method_2_code 3 none :: wA) { frames := 1, cells := 0, slots := 0, locals := 22 } (va_Pc [.ref (ad r0), .ref (ad r1)] (GSt A D ac ad st σ)) (va_Qv Q (GSt A D ac ad st) A) 0 0 A :=
  mkV l (by decide +kernel) rfl [.ref (ad r0), .ref (ad r1)] (Nat.le_of_ble_eq_true rfl) (fun p e s m args below meth c ls QW S hR hG hl => w_8_copyFrom_0 S hR hk_r0 hk_r1 hG hl hf)
set_option maxHeartbeats 4000000 in
set_option maxRecDepth 100000 in
theorem w_0_remember_0 {r0 : Nat} {r1 : Nat} {Q : St → Prop} {σ : St} {H : Heap} {locs : List Loc} {ls : Array Slot} (S : SC A D ac st p m c prog_2_method_2_code 2 s args "SweeperRounds$History" R cells slots 2 44) (hR : RtV A D ac ad p l e R s m args below meth c prog_2_method_2_code cells slots QW Q) (hk_r0 : kd r0 = 0) (hk_r1 : kd r1 = 8) (hG : DG A D ac ad s σ H locs) (hl : lv_has ls 2 [(0, .ref (ad r0)), (1, .ref (ad r1))]) (hf : m_0_remember r0 r1 Q σ) : W p l e R s m args below meth c H locs cells slots QW (F0 m 0 ls []) := by
  have hx := S.1.1
  have hb := S.1.2.1
  unfold m_0_remember at hf
  refine lv_aload_n hx hb d_0_remember_0 rfl (lv_at hl 0 rfl) ?_
  refine gf_0_11 S hG hk_r0 d_0_remember_1 ?_
  refine lv_aload_n hx hb d_0_remember_4 rfl (lv_at hl 0 rfl) ?_
  refine gf_0_18 S hG hk_r0 d_0_remember_5 ?_
  refine mq5 S hG (kr_0_0 hk_r0) hf.1 d_0_remember_8 ?_
  have hi_1 := vin_lt hf.1
  have hf := hf.2
  refine lv_aload_n hx hb d_0_remember_9 rfl (lv_at hl 1 rfl) ?_
  refine iv_0_22 S hl.1 hG (ke_25 (kr_0_0 hk_r0) hi_1) (c_8_copyFrom l (ke_25 (kr_0_0 hk_r0) hi_1) hk_r1 hf) ⟨Nat.le_of_ble_eq_true rfl, Nat.le_of_ble_eq_true rfl⟩ (Nat.le_of_ble_eq_true rfl) d_0_remember_10 (fun σ_2 hf H locs hG => ?_)
  refine lv_aload_n hx hb d_0_remember_13 rfl (lv_at hl 0 rfl) ?_
  refine lv_aload_n hx hb d_0_remember_14 rfl (lv_at hl 0 rfl) ?_
  refine gf_0_18 S hG hk_r0 d_0_remember_15 ?_
  refine lv_iconst (v := (1 : Int32)) hx hb d_0_remember_18 (by decide) ?_
  refine lv_iadd hx hb d_0_remember_19 ?_
  refine lv_bipush (v := (8 : Int32)) hx hb d_0_remember_20 (by decide) ?_
  refine lv_irem hx hb d_0_remember_22 (by decide) ?_
  refine pf_0_18 S hG hk_r0 d_0_remember_23 (fun σ_4 eσ_4 H locs hG => ?_)
  have hf := hf σ_4 eσ_4
  refine lv_aload_n hx hb d_0_remember_26 rfl (lv_at hl 0 rfl) ?_
  refine lv_aload_n hx hb d_0_remember_27 rfl (lv_at hl 0 rfl) ?_
  refine gf_0_26 S hG hk_r0 d_0_remember_28 ?_
  refine lv_iconst (v := (1 : Int32)) hx hb d_0_remember_31 (by decide) ?_
  refine lv_iadd hx hb d_0_remember_32 ?_
  refine lv_bipush (v := (8 : Int32)) hx hb d_0_remember_33 (by decide) ?_
  refine mmn S hl.1 wm_344 wm_345 wm_20 wm_346 (by decide) (Nat.le_of_ble_eq_true rfl) d_0_remember_35 ?_
  refine pf_0_26 S hG hk_r0 d_0_remember_38 (fun σ_5 eσ_5 H locs hG => ?_)
  have hf := hf σ_5 eσ_5
  exact hR _ _ _ _ _ hG hf d_0_remember_41
theorem c_0_remember (l : Launch) {D : va_G} {ac : Nat → ClassId} {ad : Nat → Nat} {st : SS} {A : Nat → Prop} {σ : St} {r0 : Nat} {r1 : Nat} {Q : St → Prop} (hk_r0 : kd r0 = 0) (hk_r1 : kd r1 = 8) (hf : m_0_remember r0 r1 Q σ) : Met l y_0_remember (Cond.code y_0_remember prog_2_method_2_code 2 none :: wA) { frames := 2, cells := 0, slots := 0, locals := 44 } (va_Pc [.ref (ad r0), .ref (ad r1)] (GSt A D ac ad st σ)) (va_Qv Q (GSt A D ac ad st) A) 0 0 A :=
  mkV l (by decide +kernel) rfl [.ref (ad r0), .ref (ad r1)] (Nat.le_of_ble_eq_true rfl) (fun p e s m args below meth c ls QW S hR hG hl => w_0_remember_0 S hR hk_r0 hk_r1 hG hl hf)
set_option maxHeartbeats 4000000 in
set_option maxRecDepth 100000 in
theorem w_6_clear_17 {r0 : Nat} {Q : St → Prop} {B17 : Int32 → St → Prop} {x1 : Int32} {σ : St} {H : Heap} {locs : List Loc} {ls : Array Slot} (S : SC A D ac st p m c prog_8_method_2_code 2 s args "SweeperRounds$Street" R cells slots 0 0) (hR : RtV A D ac ad p l e R s m args below meth c prog_8_method_2_code cells slots QW Q) (hk_r0 : kd r0 = 6) (hB17 : ∀ (x1 : Int32) (σ : St) (H : Heap) (locs : List Loc) (ls : Array Slot), DG A D ac ad s σ H locs → lv_has ls 2 [(0, .ref (ad r0)), (1, .int x1)] → B17 x1 σ → W p l e R s m args below meth c H locs cells slots QW (F0 m 17 ls [])) (hG : DG A D ac ad s σ H locs) (hl : lv_has ls 2 [(0, .ref (ad r0)), (1, .int x1)]) (hf : m_6_clear_17 r0 Q B17 x1 σ) : W p l e R s m args below meth c H locs cells slots QW (F0 m 17 ls []) := by
  have hx := S.1.1
  have hb := S.1.2.1
  unfold m_6_clear_17 at hf
  refine lv_iload_n hx hb d_6_clear_17 rfl (lv_at hl 1 rfl) ?_
  refine lv_bipush (v := (40 : Int32)) hx hb d_6_clear_18 (by decide) ?_
  refine lv_icmp_ge (tgt := 43) hx hb d_6_clear_20 (by decide) (fun hc => ?_) (fun hc => ?_)
  · have hf := hf.1 hc
    exact hR _ _ _ _ _ hG hf d_6_clear_43
  · have hf := hf.2 hc
    refine lv_aload_n hx hb d_6_clear_23 rfl (lv_at hl 0 rfl) ?_
    refine gf_6_9 S hG hk_r0 d_6_clear_24 ?_
    refine lv_iload_n hx hb d_6_clear_27 rfl (lv_at hl 1 rfl) ?_
    refine lv_iconst (v := (0 : Int32)) hx hb d_6_clear_28 (by decide) ?_
    refine mis S hG 20 rfl rfl (kr_6_3 hk_r0) hf.1 d_6_clear_29 (fun σ_1 eσ_1 H locs hG => ?_)
    have hf := hf.2 σ_1 eσ_1
    refine lv_aload_n hx hb d_6_clear_30 rfl (lv_at hl 0 rfl) ?_
    refine gf_6_15 S hG hk_r0 d_6_clear_31 ?_
    refine lv_iload_n hx hb d_6_clear_34 rfl (lv_at hl 1 rfl) ?_
    refine lv_iconst (v := (0 : Int32)) hx hb d_6_clear_35 (by decide) ?_
    refine mzs S hG (kr_6_4 hk_r0) hf.1 d_6_clear_36 (fun σ_2 eσ_2 H locs hG => ?_)
    have hf := hf.2 σ_2 eσ_2
    obtain ⟨x1_3, ex1_3⟩ : ∃ y : Int32, y = x1 + 1 := ⟨_, rfl⟩
    have hf := hf x1_3 ex1_3
    refine lv_iinc (v := x1_3) (lv' := [(1, .int x1_3), (0, .ref (ad r0))]) hx hb d_6_clear_37 hl (k := 1) rfl (by rw [ex1_3]; rfl) (by decide) rfl (fun ls hl => ?_)
    refine lv_goto (tgt := 17) hx hb d_6_clear_40 (by decide) ?_
    exact hB17 _ _ _ _ _   hG (lv_sub hl [1, 0] rfl) hf
set_option maxHeartbeats 4000000 in
set_option maxRecDepth 100000 in
theorem lp_6_clear_17 {r0 : Nat} {Q : St → Prop} (S : SC A D ac st p m c prog_8_method_2_code 2 s args "SweeperRounds$Street" R cells slots 0 0) (hR : RtV A D ac ad p l e R s m args below meth c prog_8_method_2_code cells slots QW Q) (hk_r0 : kd r0 = 6) : ∀ (n : Nat) (x1 : Int32) (σ : St) (H : Heap) (locs : List Loc) (ls : Array Slot), DG A D ac ad s σ H locs → lv_has ls 2 [(0, .ref (ad r0)), (1, .int x1)] → itN (m_6_clear_17 r0 Q) (fun _ _ => False) n x1 σ → W p l e R s m args below meth c H locs cells slots QW (F0 m 17 ls []) := by
  intro n
  induction n with
  | zero =>
    intro x1 σ H locs ls  hG hl hf
    exact hf.elim
  | succ n ih =>
    intro x1 σ H locs ls  hG hl hf
    exact w_6_clear_17 S hR hk_r0  ih hG hl hf
set_option maxHeartbeats 4000000 in
set_option maxRecDepth 100000 in
theorem w_6_clear_0 {r0 : Nat} {Q : St → Prop} {σ : St} {H : Heap} {locs : List Loc} {ls : Array Slot} (S : SC A D ac st p m c prog_8_method_2_code 2 s args "SweeperRounds$Street" R cells slots 0 0) (hR : RtV A D ac ad p l e R s m args below meth c prog_8_method_2_code cells slots QW Q) (hk_r0 : kd r0 = 6) (hG : DG A D ac ad s σ H locs) (hl : lv_has ls 2 [(0, .ref (ad r0))]) (hf : m_6_clear r0 Q σ) : W p l e R s m args below meth c H locs cells slots QW (F0 m 0 ls []) := by
  have hx := S.1.1
  have hb := S.1.2.1
  unfold m_6_clear at hf
  refine lv_aload_n hx hb d_6_clear_0 rfl (lv_at hl 0 rfl) ?_
  refine lv_iconst (v := (0 : Int32)) hx hb d_6_clear_1 (by decide) ?_
  refine pf_6_19 S hG hk_r0 d_6_clear_2 (fun σ_1 eσ_1 H locs hG => ?_)
  have hf := hf σ_1 eσ_1
  refine lv_aload_n hx hb d_6_clear_5 rfl (lv_at hl 0 rfl) ?_
  refine lv_iconst (v := (0 : Int32)) hx hb d_6_clear_6 (by decide) ?_
  refine pf_6_23 S hG hk_r0 d_6_clear_7 (fun σ_2 eσ_2 H locs hG => ?_)
  have hf := hf σ_2 eσ_2
  refine lv_aload_n hx hb d_6_clear_10 rfl (lv_at hl 0 rfl) ?_
  refine lv_iconst (v := (0 : Int32)) hx hb d_6_clear_11 (by decide) ?_
  refine pf_6_26 S hG hk_r0 d_6_clear_12 (fun σ_3 eσ_3 H locs hG => ?_)
  have hf := hf σ_3 eσ_3
  refine lv_iconst (v := (0 : Int32)) hx hb d_6_clear_15 (by decide) ?_
  refine lv_istore_n (lv' := [(1, .int (0 : Int32)), (0, .ref (ad r0))]) hx hb d_6_clear_16 rfl hl (by decide) rfl (fun ls hl => ?_)
  exact lp_6_clear_17 S hR hk_r0  FU _ _ _ _ _  hG (lv_sub hl [1, 0] rfl) hf
theorem c_6_clear (l : Launch) {D : va_G} {ac : Nat → ClassId} {ad : Nat → Nat} {st : SS} {A : Nat → Prop} {σ : St} {r0 : Nat} {Q : St → Prop} (hk_r0 : kd r0 = 6) (hf : m_6_clear r0 Q σ) : Met l y_6_clear (Cond.code y_6_clear prog_8_method_2_code 2 none :: wA) { frames := 0, cells := 0, slots := 0, locals := 0 } (va_Pc [.ref (ad r0)] (GSt A D ac ad st σ)) (va_Qv Q (GSt A D ac ad st) A) 0 0 A :=
  mkV l (by decide +kernel) rfl [.ref (ad r0)] (Nat.le_of_ble_eq_true rfl) (fun p e s m args below meth c ls QW S hR hG hl => w_6_clear_0 S hR hk_r0 hG hl hf)
set_option maxHeartbeats 4000000 in
set_option maxRecDepth 100000 in
theorem w_8_appendStreet_0 {r0 : Nat} {x1 : Int32} {x2 : Int32} {x3 : Int32} {Q : Int32 → St → Prop} {σ : St} {H : Heap} {locs : List Loc} {ls : Array Slot} (S : SC A D ac st p m c prog_10_method_9_code 5 s args "SweeperRounds$World" R cells slots 1 21) (hR : RtI A D ac ad p l e R s m args below meth c prog_10_method_9_code cells slots QW Q) (hk_r0 : kd r0 = 8) (hG : DG A D ac ad s σ H locs) (hl : lv_has ls 5 [(0, .ref (ad r0)), (1, .int x1), (2, .int x2), (3, .int x3)]) (hf : m_8_appendStreet r0 x1 x2 x3 Q σ) : W p l e R s m args below meth c H locs cells slots QW (F0 m 0 ls []) := by
  have hx := S.1.1
  have hb := S.1.2.1
  unfold m_8_appendStreet at hf
  refine lv_aload_n hx hb d_8_appendStreet_0 rfl (lv_at hl 0 rfl) ?_
  refine gf_8_11 S hG hk_r0 d_8_appendStreet_1 ?_
  refine lv_aload_n hx hb d_8_appendStreet_4 rfl (lv_at hl 0 rfl) ?_
  refine gf_8_52 S hG hk_r0 d_8_appendStreet_5 ?_
  refine mq3 S hG (kr_8_0 hk_r0) hf.1 d_8_appendStreet_8 ?_
  have hi_1 := vin_lt hf.1
  have hf := hf.2
  refine lv_topr (fun r4_2 er4_2 => ?_)
  have hf := hf r4_2 er4_2
  have hk_r4_2 : kd r4_2 = 6 := er4_2 ▸ (ke_23 (kr_8_0 hk_r0) hi_1)
  refine lv_astore (lv' := [(4, .ref (ad r4_2)), (0, .ref (ad r0)), (1, .int x1), (2, .int x2), (3, .int x3)]) hx hb d_8_appendStreet_9 hl (by decide) rfl (fun ls hl => ?_)
  refine lv_aload hx hb d_8_appendStreet_11 (lv_at hl 0 rfl) ?_
  refine iv_8_95 S hl.1 hG hk_r4_2 (c_6_clear l hk_r4_2 hf) ⟨Nat.le_of_ble_eq_true rfl, Nat.le_of_ble_eq_true rfl⟩ (Nat.le_of_ble_eq_true rfl) d_8_appendStreet_13 (fun σ_3 hf H locs hG => ?_)
  refine lv_aload hx hb d_8_appendStreet_16 (lv_at hl 0 rfl) ?_
  refine lv_iload_n hx hb d_8_appendStreet_18 rfl (lv_at hl 2 rfl) ?_
  refine pf_8_85 S hG hk_r4_2 d_8_appendStreet_19 (fun σ_5 eσ_5 H locs hG => ?_)
  have hf := hf σ_5 eσ_5
  refine lv_aload hx hb d_8_appendStreet_22 (lv_at hl 0 rfl) ?_
  refine lv_iload_n hx hb d_8_appendStreet_24 rfl (lv_at hl 3 rfl) ?_
  refine pf_8_98 S hG hk_r4_2 d_8_appendStreet_25 (fun σ_6 eσ_6 H locs hG => ?_)
  have hf := hf σ_6 eσ_6
  refine lv_aload hx hb d_8_appendStreet_28 (lv_at hl 0 rfl) ?_
  refine lv_iload_n hx hb d_8_appendStreet_30 rfl (lv_at hl 4 rfl) ?_
  refine pf_8_101 S hG hk_r4_2 d_8_appendStreet_31 (fun σ_7 eσ_7 H locs hG => ?_)
  have hf := hf σ_7 eσ_7
  refine lv_aload_n hx hb d_8_appendStreet_34 rfl (lv_at hl 1 rfl) ?_
  refine lv_dup hx hb d_8_appendStreet_35 rfl ?_
  refine gf_8_52 S hG hk_r0 d_8_appendStreet_36 ?_
  refine lv_iconst (v := (1 : Int32)) hx hb d_8_appendStreet_39 (by decide) ?_
  refine lv_iadd hx hb d_8_appendStreet_40 ?_
  refine pf_8_52 S hG hk_r0 d_8_appendStreet_41 (fun σ_8 eσ_8 H locs hG => ?_)
  have hf := hf σ_8 eσ_8
  refine lv_aload_n hx hb d_8_appendStreet_44 rfl (lv_at hl 1 rfl) ?_
  refine lv_iconst (v := (0 : Int32)) hx hb d_8_appendStreet_45 (by decide) ?_
  refine pf_8_65 S hG hk_r0 (by unfold isB; decide) d_8_appendStreet_46 (fun σ_9 eσ_9 H locs hG => ?_)
  have hf := hf σ_9 eσ_9
  refine lv_aload_n hx hb d_8_appendStreet_49 rfl (lv_at hl 1 rfl) ?_
  refine gf_8_52 S hG hk_r0 d_8_appendStreet_50 ?_
  refine lv_iconst (v := (1 : Int32)) hx hb d_8_appendStreet_53 (by decide) ?_
  refine lv_isub hx hb d_8_appendStreet_54 ?_
  exact hR _ _ _ _ _ _ hG hf d_8_appendStreet_55
theorem c_8_appendStreet (l : Launch) {D : va_G} {ac : Nat → ClassId} {ad : Nat → Nat} {st : SS} {A : Nat → Prop} {σ : St} {r0 : Nat} {x1 : Int32} {x2 : Int32} {x3 : Int32} {Q : Int32 → St → Prop} (hk_r0 : kd r0 = 8) (hf : m_8_appendStreet r0 x1 x2 x3 Q σ) : Met l y_8_appendStreet (Cond.code y_8_appendStreet prog_10_method_9_code 5 (some .int) :: wA) { frames := 1, cells := 0, slots := 0, locals := 21 } (va_Pc [.ref (ad r0), .int x1, .int x2, .int x3] (GSt A D ac ad st σ)) (va_Qi Q (GSt A D ac ad st) A) 0 0 A :=
  mkI l (by decide +kernel) rfl [.ref (ad r0), .int x1, .int x2, .int x3] (Nat.le_of_ble_eq_true rfl) (fun p e s m args below meth c ls QW S hR hG hl => w_8_appendStreet_0 S hR hk_r0 hG hl hf)
set_option maxHeartbeats 4000000 in
set_option maxRecDepth 100000 in
theorem w_9_addStreet_0 {r0 : Nat} {x1 : Int32} {x2 : Int32} {x3 : Int32} {Q : Int32 → St → Prop} {σ : St} {H : Heap} {locs : List Loc} {ls : Array Slot} (S : SC A D ac st p m c prog_1_method_6_code 4 s args "SweeperRounds" R cells slots 3 65) (hR : RtI A D ac ad p l e R s m args below meth c prog_1_method_6_code cells slots QW Q) (hk_r0 : kd r0 = 9) (hG : DG A D ac ad s σ H locs) (hl : lv_has ls 4 [(0, .ref (ad r0)), (1, .int x1), (2, .int x2), (3, .int x3)]) (hf : m_9_addStreet r0 x1 x2 x3 Q σ) : W p l e R s m args below meth c H locs cells slots QW (F0 m 0 ls []) := by
  have hx := S.1.1
  have hb := S.1.2.1
  unfold m_9_addStreet at hf
  refine lv_iload_n hx hb d_9_addStreet_0 rfl (lv_at hl 1 rfl) ?_
  refine lv_iconst (v := (1 : Int32)) hx hb d_9_addStreet_1 (by decide) ?_
  refine lv_icmp_lt (tgt := 31) hx hb d_9_addStreet_2 (by decide) (fun hc => ?_) (fun hc => ?_)
  · have hf := hf.1 hc
    refine lv_iconst (v := (-1 : Int32)) hx hb d_9_addStreet_31 (by decide) ?_
    exact hR _ _ _ _ _ _ hG hf d_9_addStreet_32
  · have hf := hf.2 hc
    refine lv_iload_n hx hb d_9_addStreet_5 rfl (lv_at hl 1 rfl) ?_
    refine lv_bipush (v := (20 : Int32)) hx hb d_9_addStreet_6 (by decide) ?_
    refine lv_icmp_gt (tgt := 31) hx hb d_9_addStreet_8 (by decide) (fun hc => ?_) (fun hc => ?_)
    · have hf := hf.1 hc
      refine lv_iconst (v := (-1 : Int32)) hx hb d_9_addStreet_31 (by decide) ?_
      exact hR _ _ _ _ _ _ hG hf d_9_addStreet_32
    · have hf := hf.2 hc
      refine lv_iload_n hx hb d_9_addStreet_11 rfl (lv_at hl 2 rfl) ?_
      refine lv_if_lt (tgt := 31) hx hb d_9_addStreet_12 (by decide) (fun hc => ?_) (fun hc => ?_)
      · have hf := hf.1 hc
        refine lv_iconst (v := (-1 : Int32)) hx hb d_9_addStreet_31 (by decide) ?_
        exact hR _ _ _ _ _ _ hG hf d_9_addStreet_32
      · have hf := hf.2 hc
        refine lv_iload_n hx hb d_9_addStreet_15 rfl (lv_at hl 2 rfl) ?_
        refine lv_bipush (v := (60 : Int32)) hx hb d_9_addStreet_16 (by decide) ?_
        refine lv_icmp_gt (tgt := 31) hx hb d_9_addStreet_18 (by decide) (fun hc => ?_) (fun hc => ?_)
        · have hf := hf.1 hc
          refine lv_iconst (v := (-1 : Int32)) hx hb d_9_addStreet_31 (by decide) ?_
          exact hR _ _ _ _ _ _ hG hf d_9_addStreet_32
        · have hf := hf.2 hc
          refine lv_iload_n hx hb d_9_addStreet_21 rfl (lv_at hl 3 rfl) ?_
          refine lv_if_lt (tgt := 31) hx hb d_9_addStreet_22 (by decide) (fun hc => ?_) (fun hc => ?_)
          · have hf := hf.1 hc
            refine lv_iconst (v := (-1 : Int32)) hx hb d_9_addStreet_31 (by decide) ?_
            exact hR _ _ _ _ _ _ hG hf d_9_addStreet_32
          · have hf := hf.2 hc
            refine lv_iload_n hx hb d_9_addStreet_25 rfl (lv_at hl 3 rfl) ?_
            refine lv_bipush (v := (9 : Int32)) hx hb d_9_addStreet_26 (by decide) ?_
            refine lv_icmp_le (tgt := 33) hx hb d_9_addStreet_28 (by decide) (fun hc => ?_) (fun hc => ?_)
            · have hf := hf.1 hc
              refine lv_aload_n hx hb d_9_addStreet_33 rfl (lv_at hl 0 rfl) ?_
              refine gf_9_26 S hG hk_r0 d_9_addStreet_34 ?_
              refine gf_9_70 S hG (kr_9_2 hk_r0) d_9_addStreet_37 ?_
              refine lv_bipush (v := (6 : Int32)) hx hb d_9_addStreet_40 (by decide) ?_
              refine lv_icmp_lt (tgt := 48) hx hb d_9_addStreet_42 (by decide) (fun hc => ?_) (fun hc => ?_)
              · have hf := hf.1 hc
                refine lv_aload_n hx hb d_9_addStreet_48 rfl (lv_at hl 0 rfl) ?_
                refine gf_9_42 S hG hk_r0 d_9_addStreet_49 ?_
                refine lv_aload_n hx hb d_9_addStreet_52 rfl (lv_at hl 0 rfl) ?_
                refine gf_9_26 S hG hk_r0 d_9_addStreet_53 ?_
                refine iv_9_80 S hl.1 hG (kr_9_4 hk_r0) (c_0_remember l (kr_9_4 hk_r0) (kr_9_2 hk_r0) hf) ⟨Nat.le_of_ble_eq_true rfl, Nat.le_of_ble_eq_true rfl⟩ (Nat.le_of_ble_eq_true rfl) d_9_addStreet_56 (fun σ_1 hf H locs hG => ?_)
                refine lv_aload_n hx hb d_9_addStreet_59 rfl (lv_at hl 0 rfl) ?_
                refine gf_9_26 S hG hk_r0 d_9_addStreet_60 ?_
                refine lv_iload_n hx hb d_9_addStreet_63 rfl (lv_at hl 1 rfl) ?_
                refine lv_iload_n hx hb d_9_addStreet_64 rfl (lv_at hl 2 rfl) ?_
                refine lv_iload_n hx hb d_9_addStreet_65 rfl (lv_at hl 3 rfl) ?_
                refine iv_9_96 S hl.1 hG (kr_9_2 hk_r0) (c_8_appendStreet l (kr_9_2 hk_r0) hf) ⟨Nat.le_of_ble_eq_true rfl, Nat.le_of_ble_eq_true rfl⟩ (Nat.le_of_ble_eq_true rfl) d_9_addStreet_66 (fun v_4 σ_3 hf H locs hG => ?_)
                exact hR _ _ _ _ _ _ hG hf d_9_addStreet_69
              · have hf := hf.2 hc
                refine lv_bipush (v := (-3 : Int32)) hx hb d_9_addStreet_45 (by decide) ?_
                exact hR _ _ _ _ _ _ hG hf d_9_addStreet_47
            · have hf := hf.2 hc
              refine lv_iconst (v := (-1 : Int32)) hx hb d_9_addStreet_31 (by decide) ?_
              exact hR _ _ _ _ _ _ hG hf d_9_addStreet_32
theorem c_9_addStreet (l : Launch) {D : va_G} {ac : Nat → ClassId} {ad : Nat → Nat} {st : SS} {A : Nat → Prop} {σ : St} {r0 : Nat} {x1 : Int32} {x2 : Int32} {x3 : Int32} {Q : Int32 → St → Prop} (hk_r0 : kd r0 = 9) (hf : m_9_addStreet r0 x1 x2 x3 Q σ) : Met l y_9_addStreet (Cond.code y_9_addStreet prog_1_method_6_code 4 (some .int) :: wA) { frames := 3, cells := 0, slots := 0, locals := 65 } (va_Pc [.ref (ad r0), .int x1, .int x2, .int x3] (GSt A D ac ad st σ)) (va_Qi Q (GSt A D ac ad st) A) 0 0 A :=
  mkI l (by decide +kernel) rfl [.ref (ad r0), .int x1, .int x2, .int x3] (Nat.le_of_ble_eq_true rfl) (fun p e s m args below meth c ls QW S hR hG hl => w_9_addStreet_0 S hR hk_r0 hG hl hf)
set_option maxHeartbeats 4000000 in
set_option maxRecDepth 100000 in
theorem w_8_hasStreet_0 {r0 : Nat} {x1 : Int32} {Q : Int32 → St → Prop} {σ : St} {H : Heap} {locs : List Loc} {ls : Array Slot} (S : SC A D ac st p m c prog_10_method_3_code 2 s args "SweeperRounds$World" R cells slots 0 0) (hR : RtZ A D ac ad p l e R s m args below meth c prog_10_method_3_code cells slots QW Q) (hk_r0 : kd r0 = 8) (hG : DG A D ac ad s σ H locs) (hl : lv_has ls 2 [(0, .ref (ad r0)), (1, .int x1)]) (hf : m_8_hasStreet r0 x1 Q σ) : W p l e R s m args below meth c H locs cells slots QW (F0 m 0 ls []) := by
  have hx := S.1.1
  have hb := S.1.2.1
  unfold m_8_hasStreet at hf
  refine lv_iload_n hx hb d_8_hasStreet_0 rfl (lv_at hl 1 rfl) ?_
  refine lv_if_lt (tgt := 16) hx hb d_8_hasStreet_1 (by decide) (fun hc => ?_) (fun hc => ?_)
  · have hf := hf.1 hc
    refine lv_iconst (v := (0 : Int32)) hx hb d_8_hasStreet_16 (by decide) ?_
    exact hR _ _ _ _ _ _ hG (by unfold isB; decide) hf d_8_hasStreet_17
  · have hf := hf.2 hc
    refine lv_iload_n hx hb d_8_hasStreet_4 rfl (lv_at hl 1 rfl) ?_
    refine lv_aload_n hx hb d_8_hasStreet_5 rfl (lv_at hl 0 rfl) ?_
    refine gf_8_52 S hG hk_r0 d_8_hasStreet_6 ?_
    refine lv_icmp_ge (tgt := 16) hx hb d_8_hasStreet_9 (by decide) (fun hc => ?_) (fun hc => ?_)
    · have hf := hf.1 hc
      refine lv_iconst (v := (0 : Int32)) hx hb d_8_hasStreet_16 (by decide) ?_
      exact hR _ _ _ _ _ _ hG (by unfold isB; decide) hf d_8_hasStreet_17
    · have hf := hf.2 hc
      refine lv_iconst (v := (1 : Int32)) hx hb d_8_hasStreet_12 (by decide) ?_
      refine lv_goto (tgt := 17) hx hb d_8_hasStreet_13 (by decide) ?_
      exact hR _ _ _ _ _ _ hG (by unfold isB; decide) hf d_8_hasStreet_17
theorem c_8_hasStreet (l : Launch) {D : va_G} {ac : Nat → ClassId} {ad : Nat → Nat} {st : SS} {A : Nat → Prop} {σ : St} {r0 : Nat} {x1 : Int32} {Q : Int32 → St → Prop} (hk_r0 : kd r0 = 8) (hf : m_8_hasStreet r0 x1 Q σ) : Met l y_8_hasStreet (Cond.code y_8_hasStreet prog_10_method_3_code 2 (some .boolean) :: wA) { frames := 0, cells := 0, slots := 0, locals := 0 } (va_Pc [.ref (ad r0), .int x1] (GSt A D ac ad st σ)) (va_Qi Q (GSt A D ac ad st) A) 0 0 A :=
  mkZ l (by decide +kernel) rfl [.ref (ad r0), .int x1] (Nat.le_of_ble_eq_true rfl) (fun p e s m args below meth c ls QW S hR hG hl => w_8_hasStreet_0 S hR hk_r0 hG hl hf)
set_option maxHeartbeats 4000000 in
set_option maxRecDepth 100000 in
theorem w_8_hasCell_0 {r0 : Nat} {x1 : Int32} {x2 : Int32} {x3 : Int32} {Q : Int32 → St → Prop} {σ : St} {H : Heap} {locs : List Loc} {ls : Array Slot} (S : SC A D ac st p m c prog_10_method_4_code 4 s args "SweeperRounds$World" R cells slots 1 21) (hR : RtZ A D ac ad p l e R s m args below meth c prog_10_method_4_code cells slots QW Q) (hk_r0 : kd r0 = 8) (hG : DG A D ac ad s σ H locs) (hl : lv_has ls 4 [(0, .ref (ad r0)), (1, .int x1), (2, .int x2), (3, .int x3)]) (hf : m_8_hasCell r0 x1 x2 x3 Q σ) : W p l e R s m args below meth c H locs cells slots QW (F0 m 0 ls []) := by
  have hx := S.1.1
  have hb := S.1.2.1
  unfold m_8_hasCell at hf
  refine lv_aload_n hx hb d_8_hasCell_0 rfl (lv_at hl 0 rfl) ?_
  refine lv_iload_n hx hb d_8_hasCell_1 rfl (lv_at hl 1 rfl) ?_
  refine iv_8_81 S hl.1 hG hk_r0 (c_8_hasStreet l hk_r0 hf) ⟨Nat.le_of_ble_eq_true rfl, Nat.le_of_ble_eq_true rfl⟩ (Nat.le_of_ble_eq_true rfl) d_8_hasCell_2 (fun v_2 σ_1 hf H locs hG => ?_)
  refine lv_if_eq (tgt := 38) hx hb d_8_hasCell_5 (by decide) (fun hc => ?_) (fun hc => ?_)
  · have hf := hf.1 hc
    refine lv_iconst (v := (0 : Int32)) hx hb d_8_hasCell_38 (by decide) ?_
    exact hR _ _ _ _ _ _ hG (by unfold isB; decide) hf d_8_hasCell_39
  · have hf := hf.2 hc
    refine lv_iload_n hx hb d_8_hasCell_8 rfl (lv_at hl 2 rfl) ?_
    refine lv_if_lt (tgt := 38) hx hb d_8_hasCell_9 (by decide) (fun hc => ?_) (fun hc => ?_)
    · have hf := hf.1 hc
      refine lv_iconst (v := (0 : Int32)) hx hb d_8_hasCell_38 (by decide) ?_
      exact hR _ _ _ _ _ _ hG (by unfold isB; decide) hf d_8_hasCell_39
    · have hf := hf.2 hc
      refine lv_iload_n hx hb d_8_hasCell_12 rfl (lv_at hl 2 rfl) ?_
      refine lv_iconst (v := (2 : Int32)) hx hb d_8_hasCell_13 (by decide) ?_
      refine lv_icmp_ge (tgt := 38) hx hb d_8_hasCell_14 (by decide) (fun hc => ?_) (fun hc => ?_)
      · have hf := hf.1 hc
        refine lv_iconst (v := (0 : Int32)) hx hb d_8_hasCell_38 (by decide) ?_
        exact hR _ _ _ _ _ _ hG (by unfold isB; decide) hf d_8_hasCell_39
      · have hf := hf.2 hc
        refine lv_iload_n hx hb d_8_hasCell_17 rfl (lv_at hl 3 rfl) ?_
        refine lv_if_lt (tgt := 38) hx hb d_8_hasCell_18 (by decide) (fun hc => ?_) (fun hc => ?_)
        · have hf := hf.1 hc
          refine lv_iconst (v := (0 : Int32)) hx hb d_8_hasCell_38 (by decide) ?_
          exact hR _ _ _ _ _ _ hG (by unfold isB; decide) hf d_8_hasCell_39
        · have hf := hf.2 hc
          refine lv_iload_n hx hb d_8_hasCell_21 rfl (lv_at hl 3 rfl) ?_
          refine lv_aload_n hx hb d_8_hasCell_22 rfl (lv_at hl 0 rfl) ?_
          refine gf_8_11 S hG hk_r0 d_8_hasCell_23 ?_
          refine lv_iload_n hx hb d_8_hasCell_26 rfl (lv_at hl 1 rfl) ?_
          refine mq3 S hG (kr_8_0 hk_r0) hf.1 d_8_hasCell_27 ?_
          have hi_3 := vin_lt hf.1
          have hf := hf.2
          refine gf_8_85 S hG (ke_23 (kr_8_0 hk_r0) hi_3) d_8_hasCell_28 ?_
          refine lv_icmp_ge (tgt := 38) hx hb d_8_hasCell_31 (by decide) (fun hc => ?_) (fun hc => ?_)
          · have hf := hf.1 hc
            refine lv_iconst (v := (0 : Int32)) hx hb d_8_hasCell_38 (by decide) ?_
            exact hR _ _ _ _ _ _ hG (by unfold isB; decide) hf d_8_hasCell_39
          · have hf := hf.2 hc
            refine lv_iconst (v := (1 : Int32)) hx hb d_8_hasCell_34 (by decide) ?_
            refine lv_goto (tgt := 39) hx hb d_8_hasCell_35 (by decide) ?_
            exact hR _ _ _ _ _ _ hG (by unfold isB; decide) hf d_8_hasCell_39
theorem c_8_hasCell (l : Launch) {D : va_G} {ac : Nat → ClassId} {ad : Nat → Nat} {st : SS} {A : Nat → Prop} {σ : St} {r0 : Nat} {x1 : Int32} {x2 : Int32} {x3 : Int32} {Q : Int32 → St → Prop} (hk_r0 : kd r0 = 8) (hf : m_8_hasCell r0 x1 x2 x3 Q σ) : Met l y_8_hasCell (Cond.code y_8_hasCell prog_10_method_4_code 4 (some .boolean) :: wA) { frames := 1, cells := 0, slots := 0, locals := 21 } (va_Pc [.ref (ad r0), .int x1, .int x2, .int x3] (GSt A D ac ad st σ)) (va_Qi Q (GSt A D ac ad st) A) 0 0 A :=
  mkZ l (by decide +kernel) rfl [.ref (ad r0), .int x1, .int x2, .int x3] (Nat.le_of_ble_eq_true rfl) (fun p e s m args below meth c ls QW S hR hG hl => w_8_hasCell_0 S hR hk_r0 hG hl hf)
set_option maxHeartbeats 4000000 in
set_option maxRecDepth 100000 in
theorem w_9_placeOf_0 {x0 : Int32} {x1 : Int32} {Q : Int32 → St → Prop} {σ : St} {H : Heap} {locs : List Loc} {ls : Array Slot} (S : SC A D ac st p m c prog_1_method_32_code 2 s args "SweeperRounds" R cells slots 0 0) (hR : RtI A D ac ad p l e R s m args below meth c prog_1_method_32_code cells slots QW Q) (hG : DG A D ac ad s σ H locs) (hl : lv_has ls 2 [(0, .int x0), (1, .int x1)]) (hf : m_9_placeOf x0 x1 Q σ) : W p l e R s m args below meth c H locs cells slots QW (F0 m 0 ls []) := by
  have hx := S.1.1
  have hb := S.1.2.1
  unfold m_9_placeOf at hf
  refine lv_iload_n hx hb d_9_placeOf_0 rfl (lv_at hl 0 rfl) ?_
  refine lv_bipush (v := (20 : Int32)) hx hb d_9_placeOf_1 (by decide) ?_
  refine lv_imul hx hb d_9_placeOf_3 ?_
  refine lv_iload_n hx hb d_9_placeOf_4 rfl (lv_at hl 1 rfl) ?_
  refine lv_iadd hx hb d_9_placeOf_5 ?_
  exact hR _ _ _ _ _ _ hG hf d_9_placeOf_6
theorem c_9_placeOf (l : Launch) {D : va_G} {ac : Nat → ClassId} {ad : Nat → Nat} {st : SS} {A : Nat → Prop} {σ : St} {x0 : Int32} {x1 : Int32} {Q : Int32 → St → Prop} (hf : m_9_placeOf x0 x1 Q σ) : Met l y_9_placeOf (Cond.code y_9_placeOf prog_1_method_32_code 2 (some .int) :: wA) { frames := 0, cells := 0, slots := 0, locals := 0 } (va_Pc [.int x0, .int x1] (GSt A D ac ad st σ)) (va_Qi Q (GSt A D ac ad st) A) 0 0 A :=
  mkI l (by decide +kernel) rfl [.int x0, .int x1] (Nat.le_of_ble_eq_true rfl) (fun p e s m args below meth c ls QW S hR hG hl => w_9_placeOf_0 S hR hG hl hf)
set_option maxHeartbeats 4000000 in
set_option maxRecDepth 100000 in
theorem w_8_layDirt_0 {r0 : Nat} {x1 : Int32} {x2 : Int32} {x3 : Int32} {Q : Int32 → St → Prop} {σ : St} {H : Heap} {locs : List Loc} {ls : Array Slot} (S : SC A D ac st p m c prog_10_method_14_code 6 s args "SweeperRounds$World" R cells slots 1 16) (hR : RtI A D ac ad p l e R s m args below meth c prog_10_method_14_code cells slots QW Q) (hk_r0 : kd r0 = 8) (hG : DG A D ac ad s σ H locs) (hl : lv_has ls 6 [(0, .ref (ad r0)), (1, .int x1), (2, .int x2), (3, .int x3)]) (hf : m_8_layDirt r0 x1 x2 x3 Q σ) : W p l e R s m args below meth c H locs cells slots QW (F0 m 0 ls []) := by
  have hx := S.1.1
  have hb := S.1.2.1
  unfold m_8_layDirt at hf
  refine lv_aload_n hx hb d_8_layDirt_0 rfl (lv_at hl 0 rfl) ?_
  refine gf_8_11 S hG hk_r0 d_8_layDirt_1 ?_
  refine lv_iload_n hx hb d_8_layDirt_4 rfl (lv_at hl 1 rfl) ?_
  refine mq3 S hG (kr_8_0 hk_r0) hf.1 d_8_layDirt_5 ?_
  have hi_1 := vin_lt hf.1
  have hf := hf.2
  refine gf_8_111 S hG (ke_23 (kr_8_0 hk_r0) hi_1) d_8_layDirt_6 ?_
  refine lv_topr (fun r4_2 er4_2 => ?_)
  have hf := hf r4_2 er4_2
  have hk_r4_2 : kd r4_2 = 20 := er4_2 ▸ (kr_6_3 (ke_23 (kr_8_0 hk_r0) hi_1))
  refine lv_astore (lv' := [(4, .ref (ad r4_2)), (0, .ref (ad r0)), (1, .int x1), (2, .int x2), (3, .int x3)]) hx hb d_8_layDirt_9 hl (by decide) rfl (fun ls hl => ?_)
  refine lv_aload hx hb d_8_layDirt_11 (lv_at hl 0 rfl) ?_
  refine lv_iload_n hx hb d_8_layDirt_13 rfl (lv_at hl 3 rfl) ?_
  refine mia S hG 20 rfl rfl hk_r4_2 hf.1 d_8_layDirt_14 ?_
  have hf := hf.2
  refine lv_topi (fun x5_3 ex5_3 => ?_)
  have hf := hf x5_3 ex5_3
  refine lv_istore (lv' := [(5, .int x5_3), (4, .ref (ad r4_2)), (0, .ref (ad r0)), (1, .int x1), (2, .int x2), (3, .int x3)]) hx hb d_8_layDirt_15 hl (by decide) rfl (fun ls hl => ?_)
  refine lv_aload hx hb d_8_layDirt_17 (lv_at hl 1 rfl) ?_
  refine lv_iload_n hx hb d_8_layDirt_19 rfl (lv_at hl 4 rfl) ?_
  refine lv_iload_n hx hb d_8_layDirt_20 rfl (lv_at hl 5 rfl) ?_
  refine mis S hG 20 rfl rfl hk_r4_2 hf.1 d_8_layDirt_21 (fun σ_4 eσ_4 H locs hG => ?_)
  have hf := hf.2 σ_4 eσ_4
  refine lv_aload_n hx hb d_8_layDirt_22 rfl (lv_at hl 2 rfl) ?_
  refine gf_8_27 S hG hk_r0 d_8_layDirt_23 ?_
  refine lv_iconst (v := (0 : Int32)) hx hb d_8_layDirt_26 (by decide) ?_
  refine lv_dup2_11 hx hb d_8_layDirt_27 rfl rfl ?_
  refine mia S hG 27 rfl rfl (kr_8_8 hk_r0) hf.1 d_8_layDirt_28 ?_
  have hf := hf.2
  refine lv_iconst (v := (0 : Int32)) hx hb d_8_layDirt_29 (by decide) ?_
  refine lv_iload_n hx hb d_8_layDirt_30 rfl (lv_at hl 5 rfl) ?_
  refine lv_iload hx hb d_8_layDirt_31 (lv_at hl 0 rfl) ?_
  refine lv_isub hx hb d_8_layDirt_33 ?_
  refine mmx S hl.1 wm_354 wm_355 wm_20 wm_356 (by decide) (Nat.le_of_ble_eq_true rfl) d_8_layDirt_34 ?_
  refine lv_iadd hx hb d_8_layDirt_37 ?_
  refine mis S hG 27 rfl rfl (kr_8_8 hk_r0) hf.1 d_8_layDirt_38 (fun σ_5 eσ_5 H locs hG => ?_)
  have hf := hf.2 σ_5 eσ_5
  refine lv_aload_n hx hb d_8_layDirt_39 rfl (lv_at hl 2 rfl) ?_
  refine gf_8_27 S hG hk_r0 d_8_layDirt_40 ?_
  refine lv_iconst (v := (2 : Int32)) hx hb d_8_layDirt_43 (by decide) ?_
  refine lv_dup2_11 hx hb d_8_layDirt_44 rfl rfl ?_
  refine mia S hG 27 rfl rfl (kr_8_8 hk_r0) hf.1 d_8_layDirt_45 ?_
  have hf := hf.2
  refine lv_iconst (v := (0 : Int32)) hx hb d_8_layDirt_46 (by decide) ?_
  refine lv_iload hx hb d_8_layDirt_47 (lv_at hl 0 rfl) ?_
  refine lv_iload_n hx hb d_8_layDirt_49 rfl (lv_at hl 5 rfl) ?_
  refine lv_isub hx hb d_8_layDirt_50 ?_
  refine mmx S hl.1 wm_354 wm_355 wm_20 wm_356 (by decide) (Nat.le_of_ble_eq_true rfl) d_8_layDirt_51 ?_
  refine lv_iadd hx hb d_8_layDirt_54 ?_
  refine mis S hG 27 rfl rfl (kr_8_8 hk_r0) hf.1 d_8_layDirt_55 (fun σ_6 eσ_6 H locs hG => ?_)
  have hf := hf.2 σ_6 eσ_6
  refine lv_iload hx hb d_8_layDirt_56 (lv_at hl 0 rfl) ?_
  exact hR _ _ _ _ _ _ hG hf d_8_layDirt_58
theorem c_8_layDirt (l : Launch) {D : va_G} {ac : Nat → ClassId} {ad : Nat → Nat} {st : SS} {A : Nat → Prop} {σ : St} {r0 : Nat} {x1 : Int32} {x2 : Int32} {x3 : Int32} {Q : Int32 → St → Prop} (hk_r0 : kd r0 = 8) (hf : m_8_layDirt r0 x1 x2 x3 Q σ) : Met l y_8_layDirt (Cond.code y_8_layDirt prog_10_method_14_code 6 (some .int) :: wA) { frames := 1, cells := 0, slots := 0, locals := 16 } (va_Pc [.ref (ad r0), .int x1, .int x2, .int x3] (GSt A D ac ad st σ)) (va_Qi Q (GSt A D ac ad st) A) 0 0 A :=
  mkI l (by decide +kernel) rfl [.ref (ad r0), .int x1, .int x2, .int x3] (Nat.le_of_ble_eq_true rfl) (fun p e s m args below meth c ls QW S hR hG hl => w_8_layDirt_0 S hR hk_r0 hG hl hf)
set_option maxHeartbeats 4000000 in
set_option maxRecDepth 100000 in
theorem w_9_lay_0 {r0 : Nat} {x1 : Int32} {x2 : Int32} {x3 : Int32} {x4 : Int32} {Q : Int32 → St → Prop} {σ : St} {H : Heap} {locs : List Loc} {ls : Array Slot} (S : SC A D ac st p m c prog_1_method_8_code 5 s args "SweeperRounds" R cells slots 3 65) (hR : RtI A D ac ad p l e R s m args below meth c prog_1_method_8_code cells slots QW Q) (hk_r0 : kd r0 = 9) (hG : DG A D ac ad s σ H locs) (hl : lv_has ls 5 [(0, .ref (ad r0)), (1, .int x1), (2, .int x2), (3, .int x3), (4, .int x4)]) (hf : m_9_lay r0 x1 x2 x3 x4 Q σ) : W p l e R s m args below meth c H locs cells slots QW (F0 m 0 ls []) := by
  have hx := S.1.1
  have hb := S.1.2.1
  unfold m_9_lay at hf
  refine lv_aload_n hx hb d_9_lay_0 rfl (lv_at hl 0 rfl) ?_
  refine gf_9_26 S hG hk_r0 d_9_lay_1 ?_
  refine lv_iload_n hx hb d_9_lay_4 rfl (lv_at hl 1 rfl) ?_
  refine lv_iload_n hx hb d_9_lay_5 rfl (lv_at hl 2 rfl) ?_
  refine lv_iload_n hx hb d_9_lay_6 rfl (lv_at hl 3 rfl) ?_
  refine iv_9_111 S hl.1 hG (kr_9_2 hk_r0) (c_8_hasCell l (kr_9_2 hk_r0) hf) ⟨Nat.le_of_ble_eq_true rfl, Nat.le_of_ble_eq_true rfl⟩ (Nat.le_of_ble_eq_true rfl) d_9_lay_7 (fun v_2 σ_1 hf H locs hG => ?_)
  refine lv_if_eq (tgt := 25) hx hb d_9_lay_10 (by decide) (fun hc => ?_) (fun hc => ?_)
  · have hf := hf.1 hc
    refine lv_iconst (v := (-1 : Int32)) hx hb d_9_lay_25 (by decide) ?_
    exact hR _ _ _ _ _ _ hG hf d_9_lay_26
  · have hf := hf.2 hc
    refine lv_iload hx hb d_9_lay_13 (lv_at hl 4 rfl) ?_
    refine lv_if_lt (tgt := 25) hx hb d_9_lay_15 (by decide) (fun hc => ?_) (fun hc => ?_)
    · have hf := hf.1 hc
      refine lv_iconst (v := (-1 : Int32)) hx hb d_9_lay_25 (by decide) ?_
      exact hR _ _ _ _ _ _ hG hf d_9_lay_26
    · have hf := hf.2 hc
      refine lv_iload hx hb d_9_lay_18 (lv_at hl 4 rfl) ?_
      refine lv_bipush (v := (99 : Int32)) hx hb d_9_lay_20 (by decide) ?_
      refine lv_icmp_le (tgt := 27) hx hb d_9_lay_22 (by decide) (fun hc => ?_) (fun hc => ?_)
      · have hf := hf.1 hc
        refine lv_aload_n hx hb d_9_lay_27 rfl (lv_at hl 0 rfl) ?_
        refine gf_9_42 S hG hk_r0 d_9_lay_28 ?_
        refine lv_aload_n hx hb d_9_lay_31 rfl (lv_at hl 0 rfl) ?_
        refine gf_9_26 S hG hk_r0 d_9_lay_32 ?_
        refine iv_9_80 S hl.1 hG (kr_9_4 hk_r0) (c_0_remember l (kr_9_4 hk_r0) (kr_9_2 hk_r0) hf) ⟨Nat.le_of_ble_eq_true rfl, Nat.le_of_ble_eq_true rfl⟩ (Nat.le_of_ble_eq_true rfl) d_9_lay_35 (fun σ_3 hf H locs hG => ?_)
        refine lv_aload_n hx hb d_9_lay_38 rfl (lv_at hl 0 rfl) ?_
        refine gf_9_26 S hG hk_r0 d_9_lay_39 ?_
        refine lv_iload_n hx hb d_9_lay_42 rfl (lv_at hl 1 rfl) ?_
        refine lv_iload_n hx hb d_9_lay_43 rfl (lv_at hl 2 rfl) ?_
        refine lv_iload_n hx hb d_9_lay_44 rfl (lv_at hl 3 rfl) ?_
        refine iv_9_115 S hl.1 hG  (c_9_placeOf l  hf) ⟨Nat.le_of_ble_eq_true rfl, Nat.le_of_ble_eq_true rfl⟩ (Nat.le_of_ble_eq_true rfl) d_9_lay_45 (fun v_6 σ_5 hf H locs hG => ?_)
        refine lv_iload hx hb d_9_lay_48 (lv_at hl 4 rfl) ?_
        refine iv_9_119 S hl.1 hG (kr_9_2 hk_r0) (c_8_layDirt l (kr_9_2 hk_r0) hf) ⟨Nat.le_of_ble_eq_true rfl, Nat.le_of_ble_eq_true rfl⟩ (Nat.le_of_ble_eq_true rfl) d_9_lay_50 (fun v_8 σ_7 hf H locs hG => ?_)
        exact hR _ _ _ _ _ _ hG hf d_9_lay_53
      · have hf := hf.2 hc
        refine lv_iconst (v := (-1 : Int32)) hx hb d_9_lay_25 (by decide) ?_
        exact hR _ _ _ _ _ _ hG hf d_9_lay_26
theorem c_9_lay (l : Launch) {D : va_G} {ac : Nat → ClassId} {ad : Nat → Nat} {st : SS} {A : Nat → Prop} {σ : St} {r0 : Nat} {x1 : Int32} {x2 : Int32} {x3 : Int32} {x4 : Int32} {Q : Int32 → St → Prop} (hk_r0 : kd r0 = 9) (hf : m_9_lay r0 x1 x2 x3 x4 Q σ) : Met l y_9_lay (Cond.code y_9_lay prog_1_method_8_code 5 (some .int) :: wA) { frames := 3, cells := 0, slots := 0, locals := 65 } (va_Pc [.ref (ad r0), .int x1, .int x2, .int x3, .int x4] (GSt A D ac ad st σ)) (va_Qi Q (GSt A D ac ad st) A) 0 0 A :=
  mkI l (by decide +kernel) rfl [.ref (ad r0), .int x1, .int x2, .int x3, .int x4] (Nat.le_of_ble_eq_true rfl) (fun p e s m args below meth c ls QW S hR hG hl => w_9_lay_0 S hR hk_r0 hG hl hf)
set_option maxHeartbeats 4000000 in
set_option maxRecDepth 100000 in
theorem w_9_park_0 {r0 : Nat} {x1 : Int32} {x2 : Int32} {x3 : Int32} {x4 : Int32} {Q : Int32 → St → Prop} {σ : St} {H : Heap} {locs : List Loc} {ls : Array Slot} (S : SC A D ac st p m c prog_1_method_9_code 8 s args "SweeperRounds" R cells slots 3 65) (hR : RtI A D ac ad p l e R s m args below meth c prog_1_method_9_code cells slots QW Q) (hk_r0 : kd r0 = 9) (hG : DG A D ac ad s σ H locs) (hl : lv_has ls 8 [(0, .ref (ad r0)), (1, .int x1), (2, .int x2), (3, .int x3), (4, .int x4)]) (hf : m_9_park r0 x1 x2 x3 x4 Q σ) : W p l e R s m args below meth c H locs cells slots QW (F0 m 0 ls []) := by
  have hx := S.1.1
  have hb := S.1.2.1
  unfold m_9_park at hf
  refine lv_aload_n hx hb d_9_park_0 rfl (lv_at hl 0 rfl) ?_
  refine gf_9_26 S hG hk_r0 d_9_park_1 ?_
  refine lv_iload_n hx hb d_9_park_4 rfl (lv_at hl 1 rfl) ?_
  refine lv_iload_n hx hb d_9_park_5 rfl (lv_at hl 2 rfl) ?_
  refine lv_iload_n hx hb d_9_park_6 rfl (lv_at hl 3 rfl) ?_
  refine iv_9_111 S hl.1 hG (kr_9_2 hk_r0) (c_8_hasCell l (kr_9_2 hk_r0) hf) ⟨Nat.le_of_ble_eq_true rfl, Nat.le_of_ble_eq_true rfl⟩ (Nat.le_of_ble_eq_true rfl) d_9_park_7 (fun v_2 σ_1 hf H locs hG => ?_)
  refine lv_if_ne (tgt := 15) hx hb d_9_park_10 (by decide) (fun hc => ?_) (fun hc => ?_)
  · have hf := hf.1 hc
    refine lv_aload_n hx hb d_9_park_15 rfl (lv_at hl 0 rfl) ?_
    refine gf_9_42 S hG hk_r0 d_9_park_16 ?_
    refine lv_aload_n hx hb d_9_park_19 rfl (lv_at hl 0 rfl) ?_
    refine gf_9_26 S hG hk_r0 d_9_park_20 ?_
    refine iv_9_80 S hl.1 hG (kr_9_4 hk_r0) (c_0_remember l (kr_9_4 hk_r0) (kr_9_2 hk_r0) hf) ⟨Nat.le_of_ble_eq_true rfl, Nat.le_of_ble_eq_true rfl⟩ (Nat.le_of_ble_eq_true rfl) d_9_park_23 (fun σ_3 hf H locs hG => ?_)
    refine lv_aload_n hx hb d_9_park_26 rfl (lv_at hl 0 rfl) ?_
    refine gf_9_26 S hG hk_r0 d_9_park_27 ?_
    refine gf_9_122 S hG (kr_9_2 hk_r0) d_9_park_30 ?_
    refine lv_iload_n hx hb d_9_park_33 rfl (lv_at hl 1 rfl) ?_
    refine mq3 S hG (kr_8_0 (kr_9_2 hk_r0)) hf.1 d_9_park_34 ?_
    have hi_5 := vin_lt hf.1
    have hf := hf.2
    refine gf_9_126 S hG (ke_23 (kr_8_0 (kr_9_2 hk_r0)) hi_5) d_9_park_35 ?_
    refine lv_topr (fun r5_6 er5_6 => ?_)
    have hf := hf r5_6 er5_6
    have hk_r5_6 : kd r5_6 = 22 := er5_6 ▸ (kr_6_4 (ke_23 (kr_8_0 (kr_9_2 hk_r0)) hi_5))
    refine lv_astore (lv' := [(5, .ref (ad r5_6)), (0, .ref (ad r0)), (1, .int x1), (2, .int x2), (3, .int x3), (4, .int x4)]) hx hb d_9_park_38 hl (by decide) rfl (fun ls hl => ?_)
    refine lv_iload_n hx hb d_9_park_40 rfl (lv_at hl 3 rfl) ?_
    refine lv_iload_n hx hb d_9_park_41 rfl (lv_at hl 4 rfl) ?_
    refine iv_9_115 S hl.1 hG  (c_9_placeOf l  hf) ⟨Nat.le_of_ble_eq_true rfl, Nat.le_of_ble_eq_true rfl⟩ (Nat.le_of_ble_eq_true rfl) d_9_park_42 (fun v_8 σ_7 hf H locs hG => ?_)
    refine lv_istore (lv' := [(6, .int v_8), (5, .ref (ad r5_6)), (0, .ref (ad r0)), (1, .int x1), (2, .int x2), (3, .int x3), (4, .int x4)]) hx hb d_9_park_45 hl (by decide) rfl (fun ls hl => ?_)
    refine lv_aload hx hb d_9_park_47 (lv_at hl 1 rfl) ?_
    refine lv_iload hx hb d_9_park_49 (lv_at hl 0 rfl) ?_
    refine mza S hG hk_r5_6 hf.1 d_9_park_51 ?_
    have hf := hf.2
    refine lv_topi (fun x7_9 ex7_9 => ?_)
    have hf := hf x7_9 ex7_9
    refine lv_istore (lv' := [(7, .int x7_9), (6, .int v_8), (5, .ref (ad r5_6)), (0, .ref (ad r0)), (1, .int x1), (2, .int x2), (3, .int x3), (4, .int x4)]) hx hb d_9_park_52 hl (by decide) rfl (fun ls hl => ?_)
    refine lv_aload hx hb d_9_park_54 (lv_at hl 2 rfl) ?_
    refine lv_iload hx hb d_9_park_56 (lv_at hl 1 rfl) ?_
    refine lv_iload hx hb d_9_park_58 (lv_at hl 7 rfl) ?_
    refine mzs S hG hk_r5_6 hf.1 d_9_park_60 (fun σ_10 eσ_10 H locs hG => ?_)
    have hf := hf.2 σ_10 eσ_10
    refine lv_iload hx hb d_9_park_61 (lv_at hl 0 rfl) ?_
    refine lv_if_eq (tgt := 70) hx hb d_9_park_63 (by decide) (fun hc => ?_) (fun hc => ?_)
    · have hf := hf.1 hc
      refine lv_iconst (v := (0 : Int32)) hx hb d_9_park_70 (by decide) ?_
      exact hR _ _ _ _ _ _ hG hf d_9_park_71
    · have hf := hf.2 hc
      refine lv_iconst (v := (1 : Int32)) hx hb d_9_park_66 (by decide) ?_
      refine lv_goto (tgt := 71) hx hb d_9_park_67 (by decide) ?_
      exact hR _ _ _ _ _ _ hG hf d_9_park_71
  · have hf := hf.2 hc
    refine lv_iconst (v := (-1 : Int32)) hx hb d_9_park_13 (by decide) ?_
    exact hR _ _ _ _ _ _ hG hf d_9_park_14
theorem c_9_park (l : Launch) {D : va_G} {ac : Nat → ClassId} {ad : Nat → Nat} {st : SS} {A : Nat → Prop} {σ : St} {r0 : Nat} {x1 : Int32} {x2 : Int32} {x3 : Int32} {x4 : Int32} {Q : Int32 → St → Prop} (hk_r0 : kd r0 = 9) (hf : m_9_park r0 x1 x2 x3 x4 Q σ) : Met l y_9_park (Cond.code y_9_park prog_1_method_9_code 8 (some .int) :: wA) { frames := 3, cells := 0, slots := 0, locals := 65 } (va_Pc [.ref (ad r0), .int x1, .int x2, .int x3, .int x4] (GSt A D ac ad st σ)) (va_Qi Q (GSt A D ac ad st) A) 0 0 A :=
  mkI l (by decide +kernel) rfl [.ref (ad r0), .int x1, .int x2, .int x3, .int x4] (Nat.le_of_ble_eq_true rfl) (fun p e s m args below meth c ls QW S hR hG hl => w_9_park_0 S hR hk_r0 hG hl hf)
set_option maxHeartbeats 4000000 in
set_option maxRecDepth 100000 in
theorem w_8_grip_0 {r0 : Nat} {Q : Int32 → St → Prop} {σ : St} {H : Heap} {locs : List Loc} {ls : Array Slot} (S : SC A D ac st p m c prog_10_method_16_code 1 s args "SweeperRounds$World" R cells slots 0 0) (hR : RtI A D ac ad p l e R s m args below meth c prog_10_method_16_code cells slots QW Q) (hk_r0 : kd r0 = 8) (hG : DG A D ac ad s σ H locs) (hl : lv_has ls 1 [(0, .ref (ad r0))]) (hf : m_8_grip r0 Q σ) : W p l e R s m args below meth c H locs cells slots QW (F0 m 0 ls []) := by
  have hx := S.1.1
  have hb := S.1.2.1
  unfold m_8_grip at hf
  refine lv_bipush (v := (100 : Int32)) hx hb d_8_grip_0 (by decide) ?_
  refine lv_bipush (v := (15 : Int32)) hx hb d_8_grip_2 (by decide) ?_
  refine lv_aload_n hx hb d_8_grip_4 rfl (lv_at hl 0 rfl) ?_
  refine gf_8_23 S hG hk_r0 d_8_grip_5 ?_
  refine lv_iconst (v := (0 : Int32)) hx hb d_8_grip_8 (by decide) ?_
  refine mia S hG 26 rfl rfl (kr_8_5 hk_r0) hf.1 d_8_grip_9 ?_
  have hf := hf.2
  refine lv_iconst (v := (1 : Int32)) hx hb d_8_grip_10 (by decide) ?_
  refine lv_isub hx hb d_8_grip_11 ?_
  refine lv_imul hx hb d_8_grip_12 ?_
  refine lv_isub hx hb d_8_grip_13 ?_
  refine lv_aload_n hx hb d_8_grip_14 rfl (lv_at hl 0 rfl) ?_
  refine gf_8_48 S hG hk_r0 d_8_grip_15 ?_
  refine lv_imul hx hb d_8_grip_18 ?_
  refine lv_sipush (v := (1000 : Int32)) hx hb d_8_grip_19 (by decide) ?_
  refine lv_idiv hx hb d_8_grip_22 (by decide) ?_
  exact hR _ _ _ _ _ _ hG hf d_8_grip_23
theorem c_8_grip (l : Launch) {D : va_G} {ac : Nat → ClassId} {ad : Nat → Nat} {st : SS} {A : Nat → Prop} {σ : St} {r0 : Nat} {Q : Int32 → St → Prop} (hk_r0 : kd r0 = 8) (hf : m_8_grip r0 Q σ) : Met l y_8_grip (Cond.code y_8_grip prog_10_method_16_code 1 (some .int) :: wA) { frames := 0, cells := 0, slots := 0, locals := 0 } (va_Pc [.ref (ad r0)] (GSt A D ac ad st σ)) (va_Qi Q (GSt A D ac ad st) A) 0 0 A :=
  mkI l (by decide +kernel) rfl [.ref (ad r0)] (Nat.le_of_ble_eq_true rfl) (fun p e s m args below meth c ls QW S hR hG hl => w_8_grip_0 S hR hk_r0 hG hl hf)
set_option maxHeartbeats 4000000 in
set_option maxRecDepth 100000 in
theorem w_6_couldGive_0 {r0 : Nat} {x1 : Int32} {x2 : Int32} {Q : Int32 → St → Prop} {σ : St} {H : Heap} {locs : List Loc} {ls : Array Slot} (S : SC A D ac st p m c prog_8_method_8_code 3 s args "SweeperRounds$Street" R cells slots 0 0) (hR : RtI A D ac ad p l e R s m args below meth c prog_8_method_8_code cells slots QW Q) (hk_r0 : kd r0 = 6) (hG : DG A D ac ad s σ H locs) (hl : lv_has ls 3 [(0, .ref (ad r0)), (1, .int x1), (2, .int x2)]) (hf : m_6_couldGive r0 x1 x2 Q σ) : W p l e R s m args below meth c H locs cells slots QW (F0 m 0 ls []) := by
  have hx := S.1.1
  have hb := S.1.2.1
  unfold m_6_couldGive at hf
  refine lv_aload_n hx hb d_6_couldGive_0 rfl (lv_at hl 0 rfl) ?_
  refine gf_6_15 S hG hk_r0 d_6_couldGive_1 ?_
  refine lv_iload_n hx hb d_6_couldGive_4 rfl (lv_at hl 1 rfl) ?_
  refine mza S hG (kr_6_4 hk_r0) hf.1 d_6_couldGive_5 ?_
  have hf := hf.2
  refine lv_if_eq (tgt := 13) hx hb d_6_couldGive_6 (by decide) (fun hc => ?_) (fun hc => ?_)
  · have hf := hf.1 hc
    refine lv_aload_n hx hb d_6_couldGive_13 rfl (lv_at hl 0 rfl) ?_
    refine gf_6_9 S hG hk_r0 d_6_couldGive_14 ?_
    refine lv_iload_n hx hb d_6_couldGive_17 rfl (lv_at hl 1 rfl) ?_
    refine mia S hG 20 rfl rfl (kr_6_3 hk_r0) hf.1 d_6_couldGive_18 ?_
    have hf := hf.2
    refine lv_iload_n hx hb d_6_couldGive_19 rfl (lv_at hl 2 rfl) ?_
    refine lv_imul hx hb d_6_couldGive_20 ?_
    refine lv_bipush (v := (100 : Int32)) hx hb d_6_couldGive_21 (by decide) ?_
    refine lv_idiv hx hb d_6_couldGive_23 (by decide) ?_
    exact hR _ _ _ _ _ _ hG hf d_6_couldGive_24
  · have hf := hf.2 hc
    refine lv_iconst (v := (0 : Int32)) hx hb d_6_couldGive_9 (by decide) ?_
    refine lv_goto (tgt := 24) hx hb d_6_couldGive_10 (by decide) ?_
    exact hR _ _ _ _ _ _ hG hf d_6_couldGive_24
theorem c_6_couldGive (l : Launch) {D : va_G} {ac : Nat → ClassId} {ad : Nat → Nat} {st : SS} {A : Nat → Prop} {σ : St} {r0 : Nat} {x1 : Int32} {x2 : Int32} {Q : Int32 → St → Prop} (hk_r0 : kd r0 = 6) (hf : m_6_couldGive r0 x1 x2 Q σ) : Met l y_6_couldGive (Cond.code y_6_couldGive prog_8_method_8_code 3 (some .int) :: wA) { frames := 0, cells := 0, slots := 0, locals := 0 } (va_Pc [.ref (ad r0), .int x1, .int x2] (GSt A D ac ad st σ)) (va_Qi Q (GSt A D ac ad st) A) 0 0 A :=
  mkI l (by decide +kernel) rfl [.ref (ad r0), .int x1, .int x2] (Nat.le_of_ble_eq_true rfl) (fun p e s m args below meth c ls QW S hR hG hl => w_6_couldGive_0 S hR hk_r0 hG hl hf)
set_option maxHeartbeats 4000000 in
set_option maxRecDepth 100000 in
theorem w_8_room_0 {r0 : Nat} {Q : Int32 → St → Prop} {σ : St} {H : Heap} {locs : List Loc} {ls : Array Slot} (S : SC A D ac st p m c prog_10_method_17_code 1 s args "SweeperRounds$World" R cells slots 0 0) (hR : RtI A D ac ad p l e R s m args below meth c prog_10_method_17_code cells slots QW Q) (hk_r0 : kd r0 = 8) (hG : DG A D ac ad s σ H locs) (hl : lv_has ls 1 [(0, .ref (ad r0))]) (hf : m_8_room r0 Q σ) : W p l e R s m args below meth c H locs cells slots QW (F0 m 0 ls []) := by
  have hx := S.1.1
  have hb := S.1.2.1
  unfold m_8_room at hf
  refine lv_aload_n hx hb d_8_room_0 rfl (lv_at hl 0 rfl) ?_
  refine gf_8_23 S hG hk_r0 d_8_room_1 ?_
  refine lv_iconst (v := (1 : Int32)) hx hb d_8_room_4 (by decide) ?_
  refine mia S hG 26 rfl rfl (kr_8_5 hk_r0) hf.1 d_8_room_5 ?_
  have hf := hf.2
  refine lv_aload_n hx hb d_8_room_6 rfl (lv_at hl 0 rfl) ?_
  refine gf_8_69 S hG hk_r0 d_8_room_7 ?_
  refine lv_isub hx hb d_8_room_10 ?_
  exact hR _ _ _ _ _ _ hG hf d_8_room_11
theorem c_8_room (l : Launch) {D : va_G} {ac : Nat → ClassId} {ad : Nat → Nat} {st : SS} {A : Nat → Prop} {σ : St} {r0 : Nat} {Q : Int32 → St → Prop} (hk_r0 : kd r0 = 8) (hf : m_8_room r0 Q σ) : Met l y_8_room (Cond.code y_8_room prog_10_method_17_code 1 (some .int) :: wA) { frames := 0, cells := 0, slots := 0, locals := 0 } (va_Pc [.ref (ad r0)] (GSt A D ac ad st σ)) (va_Qi Q (GSt A D ac ad st) A) 0 0 A :=
  mkI l (by decide +kernel) rfl [.ref (ad r0)] (Nat.le_of_ble_eq_true rfl) (fun p e s m args below meth c ls QW S hR hG hl => w_8_room_0 S hR hk_r0 hG hl hf)
set_option maxHeartbeats 4000000 in
set_option maxRecDepth 100000 in
theorem w_9_cell_0 {r0 : Nat} {x1 : Int32} {x2 : Int32} {x3 : Int32} {x4 : Int32} {Q : Int32 → St → Prop} {σ : St} {H : Heap} {locs : List Loc} {ls : Array Slot} (S : SC A D ac st p m c prog_1_method_10_code 7 s args "SweeperRounds" R cells slots 2 44) (hR : RtI A D ac ad p l e R s m args below meth c prog_1_method_10_code cells slots QW Q) (hk_r0 : kd r0 = 9) (hG : DG A D ac ad s σ H locs) (hl : lv_has ls 7 [(0, .ref (ad r0)), (1, .int x1), (2, .int x2), (3, .int x3), (4, .int x4)]) (hf : m_9_cell r0 x1 x2 x3 x4 Q σ) : W p l e R s m args below meth c H locs cells slots QW (F0 m 0 ls []) := by
  have hx := S.1.1
  have hb := S.1.2.1
  unfold m_9_cell at hf
  refine lv_aload_n hx hb d_9_cell_0 rfl (lv_at hl 0 rfl) ?_
  refine gf_9_26 S hG hk_r0 d_9_cell_1 ?_
  refine lv_iload_n hx hb d_9_cell_4 rfl (lv_at hl 1 rfl) ?_
  refine lv_iload_n hx hb d_9_cell_5 rfl (lv_at hl 2 rfl) ?_
  refine lv_iload_n hx hb d_9_cell_6 rfl (lv_at hl 3 rfl) ?_
  refine iv_9_111 S hl.1 hG (kr_9_2 hk_r0) (c_8_hasCell l (kr_9_2 hk_r0) hf) ⟨Nat.le_of_ble_eq_true rfl, Nat.le_of_ble_eq_true rfl⟩ (Nat.le_of_ble_eq_true rfl) d_9_cell_7 (fun v_2 σ_1 hf H locs hG => ?_)
  refine lv_if_ne (tgt := 15) hx hb d_9_cell_10 (by decide) (fun hc => ?_) (fun hc => ?_)
  · have hf := hf.1 hc
    refine lv_aload_n hx hb d_9_cell_15 rfl (lv_at hl 0 rfl) ?_
    refine gf_9_26 S hG hk_r0 d_9_cell_16 ?_
    refine gf_9_122 S hG (kr_9_2 hk_r0) d_9_cell_19 ?_
    refine lv_iload_n hx hb d_9_cell_22 rfl (lv_at hl 1 rfl) ?_
    refine mq3 S hG (kr_8_0 (kr_9_2 hk_r0)) hf.1 d_9_cell_23 ?_
    have hi_3 := vin_lt hf.1
    have hf := hf.2
    refine lv_topr (fun r5_4 er5_4 => ?_)
    have hf := hf r5_4 er5_4
    have hk_r5_4 : kd r5_4 = 6 := er5_4 ▸ (ke_23 (kr_8_0 (kr_9_2 hk_r0)) hi_3)
    refine lv_astore (lv' := [(5, .ref (ad r5_4)), (0, .ref (ad r0)), (1, .int x1), (2, .int x2), (3, .int x3), (4, .int x4)]) hx hb d_9_cell_24 hl (by decide) rfl (fun ls hl => ?_)
    refine lv_iload_n hx hb d_9_cell_26 rfl (lv_at hl 3 rfl) ?_
    refine lv_iload_n hx hb d_9_cell_27 rfl (lv_at hl 4 rfl) ?_
    refine iv_9_115 S hl.1 hG  (c_9_placeOf l  hf) ⟨Nat.le_of_ble_eq_true rfl, Nat.le_of_ble_eq_true rfl⟩ (Nat.le_of_ble_eq_true rfl) d_9_cell_28 (fun v_6 σ_5 hf H locs hG => ?_)
    refine lv_istore (lv' := [(6, .int v_6), (5, .ref (ad r5_4)), (0, .ref (ad r0)), (1, .int x1), (2, .int x2), (3, .int x3), (4, .int x4)]) hx hb d_9_cell_31 hl (by decide) rfl (fun ls hl => ?_)
    refine lv_iload hx hb d_9_cell_33 (lv_at hl 6 rfl) ?_
    refine lv_topi (fun q_7 eq_7 => ?_)
    rcases sw_0_2 q_7 with hq_7 | hq_7 | hq_7 | hq_7
    · rw [eq_7] at hq_7 ⊢
      refine lv_tableOut (tgt := 111) hx hb d_9_cell_35 hq_7 (by decide) ?_
      have hf := hf.1 hq_7
      refine lv_iconst (v := (-1 : Int32)) hx hb d_9_cell_111 (by decide) ?_
      exact hR _ _ _ _ _ _ hG hf d_9_cell_112
    · subst hq_7
      refine lv_tableIn (off := 25) (tgt := 60) hx hb d_9_cell_35 (by decide) (by decide) (by decide) (by decide) ?_
      have hf := hf.2.1 eq_7.symm
      refine lv_aload hx hb d_9_cell_60 (lv_at hl 1 rfl) ?_
      refine gf_9_130 S hG hk_r5_4 d_9_cell_62 ?_
      refine lv_iload hx hb d_9_cell_65 (lv_at hl 0 rfl) ?_
      refine mia S hG 20 rfl rfl (kr_6_3 hk_r5_4) hf.1 d_9_cell_67 ?_
      have hf := hf.2
      exact hR _ _ _ _ _ _ hG hf d_9_cell_68
    · subst hq_7
      refine lv_tableIn (off := 34) (tgt := 69) hx hb d_9_cell_35 (by decide) (by decide) (by decide) (by decide) ?_
      have hf := hf.2.2.1 eq_7.symm
      refine lv_aload hx hb d_9_cell_69 (lv_at hl 1 rfl) ?_
      refine gf_9_126 S hG hk_r5_4 d_9_cell_71 ?_
      refine lv_iload hx hb d_9_cell_74 (lv_at hl 0 rfl) ?_
      refine mza S hG (kr_6_4 hk_r5_4) hf.1 d_9_cell_76 ?_
      have hf := hf.2
      refine lv_if_eq (tgt := 84) hx hb d_9_cell_77 (by decide) (fun hc => ?_) (fun hc => ?_)
      · have hf := hf.1 hc
        refine lv_iconst (v := (0 : Int32)) hx hb d_9_cell_84 (by decide) ?_
        exact hR _ _ _ _ _ _ hG hf d_9_cell_85
      · have hf := hf.2 hc
        refine lv_iconst (v := (1 : Int32)) hx hb d_9_cell_80 (by decide) ?_
        refine lv_goto (tgt := 85) hx hb d_9_cell_81 (by decide) ?_
        exact hR _ _ _ _ _ _ hG hf d_9_cell_85
    · subst hq_7
      refine lv_tableIn (off := 51) (tgt := 86) hx hb d_9_cell_35 (by decide) (by decide) (by decide) (by decide) ?_
      have hf := hf.2.2.2 eq_7.symm
      refine lv_aload hx hb d_9_cell_86 (lv_at hl 1 rfl) ?_
      refine lv_iload hx hb d_9_cell_88 (lv_at hl 0 rfl) ?_
      refine lv_aload_n hx hb d_9_cell_90 rfl (lv_at hl 2 rfl) ?_
      refine gf_9_26 S hG hk_r0 d_9_cell_91 ?_
      refine iv_9_134 S hl.1 hG (kr_9_2 hk_r0) (c_8_grip l (kr_9_2 hk_r0) hf) ⟨Nat.le_of_ble_eq_true rfl, Nat.le_of_ble_eq_true rfl⟩ (Nat.le_of_ble_eq_true rfl) d_9_cell_94 (fun v_9 σ_8 hf H locs hG => ?_)
      refine iv_9_138 S hl.1 hG hk_r5_4 (c_6_couldGive l hk_r5_4 hf) ⟨Nat.le_of_ble_eq_true rfl, Nat.le_of_ble_eq_true rfl⟩ (Nat.le_of_ble_eq_true rfl) d_9_cell_97 (fun v_11 σ_10 hf H locs hG => ?_)
      refine lv_aload_n hx hb d_9_cell_100 rfl (lv_at hl 2 rfl) ?_
      refine gf_9_26 S hG hk_r0 d_9_cell_101 ?_
      refine iv_9_141 S hl.1 hG (kr_9_2 hk_r0) (c_8_room l (kr_9_2 hk_r0) hf) ⟨Nat.le_of_ble_eq_true rfl, Nat.le_of_ble_eq_true rfl⟩ (Nat.le_of_ble_eq_true rfl) d_9_cell_104 (fun v_13 σ_12 hf H locs hG => ?_)
      refine mmn S hl.1 wm_377 wm_345 wm_20 wm_346 (by decide) (Nat.le_of_ble_eq_true rfl) d_9_cell_107 ?_
      exact hR _ _ _ _ _ _ hG hf d_9_cell_110
  · have hf := hf.2 hc
    refine lv_iconst (v := (-1 : Int32)) hx hb d_9_cell_13 (by decide) ?_
    exact hR _ _ _ _ _ _ hG hf d_9_cell_14
theorem c_9_cell (l : Launch) {D : va_G} {ac : Nat → ClassId} {ad : Nat → Nat} {st : SS} {A : Nat → Prop} {σ : St} {r0 : Nat} {x1 : Int32} {x2 : Int32} {x3 : Int32} {x4 : Int32} {Q : Int32 → St → Prop} (hk_r0 : kd r0 = 9) (hf : m_9_cell r0 x1 x2 x3 x4 Q σ) : Met l y_9_cell (Cond.code y_9_cell prog_1_method_10_code 7 (some .int) :: wA) { frames := 2, cells := 0, slots := 0, locals := 44 } (va_Pc [.ref (ad r0), .int x1, .int x2, .int x3, .int x4] (GSt A D ac ad st σ)) (va_Qi Q (GSt A D ac ad st) A) 0 0 A :=
  mkI l (by decide +kernel) rfl [.ref (ad r0), .int x1, .int x2, .int x3, .int x4] (Nat.le_of_ble_eq_true rfl) (fun p e s m args below meth c ls QW S hR hG hl => w_9_cell_0 S hR hk_r0 hG hl hf)
end MB
end
section
theorem d_6_dirtOfSide_0 : decode prog_8_method_4_code 0 = .ok (.iconst 0, 1) := by decide +kernel
theorem d_6_dirtOfSide_1 : decode prog_8_method_4_code 1 = .ok (.istore_n 2, 1) := by decide +kernel
theorem d_6_dirtOfSide_2 : decode prog_8_method_4_code 2 = .ok (.iconst 0, 1) := by decide +kernel
theorem d_6_dirtOfSide_3 : decode prog_8_method_4_code 3 = .ok (.istore_n 3, 1) := by decide +kernel
theorem d_6_dirtOfSide_4 : decode prog_8_method_4_code 4 = .ok (.iload_n 3, 1) := by decide +kernel
theorem d_6_dirtOfSide_5 : decode prog_8_method_4_code 5 = .ok (.aload_n 0, 1) := by decide +kernel
theorem d_6_dirtOfSide_6 : decode prog_8_method_4_code 6 = .ok (.getfield 19, 3) := by decide +kernel
theorem d_6_dirtOfSide_9 : decode prog_8_method_4_code 9 = .ok (.if_icmp .ge 22, 3) := by decide +kernel
theorem d_6_dirtOfSide_12 : decode prog_8_method_4_code 12 = .ok (.iload_n 2, 1) := by decide +kernel
theorem d_6_dirtOfSide_13 : decode prog_8_method_4_code 13 = .ok (.aload_n 0, 1) := by decide +kernel
theorem d_6_dirtOfSide_14 : decode prog_8_method_4_code 14 = .ok (.getfield 9, 3) := by decide +kernel
theorem d_6_dirtOfSide_17 : decode prog_8_method_4_code 17 = .ok (.iload_n 1, 1) := by decide +kernel
theorem d_6_dirtOfSide_18 : decode prog_8_method_4_code 18 = .ok (.iload_n 3, 1) := by decide +kernel
theorem d_6_dirtOfSide_19 : decode prog_8_method_4_code 19 = .ok (.invokestatic 29, 3) := by decide +kernel
theorem d_6_dirtOfSide_22 : decode prog_8_method_4_code 22 = .ok (.iaload, 1) := by decide +kernel
theorem d_6_dirtOfSide_23 : decode prog_8_method_4_code 23 = .ok (.iadd, 1) := by decide +kernel
theorem d_6_dirtOfSide_24 : decode prog_8_method_4_code 24 = .ok (.istore_n 2, 1) := by decide +kernel
theorem d_6_dirtOfSide_25 : decode prog_8_method_4_code 25 = .ok (.iinc 3 1, 3) := by decide +kernel
theorem d_6_dirtOfSide_28 : decode prog_8_method_4_code 28 = .ok (.goto (-24), 3) := by decide +kernel
theorem d_6_dirtOfSide_31 : decode prog_8_method_4_code 31 = .ok (.iload_n 2, 1) := by decide +kernel
theorem d_6_dirtOfSide_32 : decode prog_8_method_4_code 32 = .ok (.ireturn, 1) := by decide +kernel
def m_6_dirtOfSide_4 (r0 : Nat) (x1 : Int32) (Q : Int32 → St → Prop) (B4 : Int32 → Int32 → St → Prop) (x2 : Int32) (x3 : Int32) (σ : St) : Prop :=
  (((σ.1 r0 0) ≤ x3 → Q x2 σ) ∧ (¬ (σ.1 r0 0) ≤ x3 → m_9_placeOf x1 x3 (fun (v_2 : Int32) (σ_1 : St) => vp_in v_2 40 ∧ ∀ x2_3 : Int32, x2_3 = (x2 + (σ_1.1 (r0 + 1) (v_2).toNatClampNeg)) → ∀ x3_4 : Int32, x3_4 = x3 + 1 → B4 x2_3 x3_4 σ_1) σ))
def m_6_dirtOfSide (r0 : Nat) (x1 : Int32) (Q : Int32 → St → Prop) (σ : St) : Prop :=
  itN (m_6_dirtOfSide_4 r0 x1 Q) (fun _ _ _ => False) FU (0 : Int32) (0 : Int32) σ
theorem d_6_parkedCells_0 : decode prog_8_method_6_code 0 = .ok (.iconst 0, 1) := by decide +kernel
theorem d_6_parkedCells_1 : decode prog_8_method_6_code 1 = .ok (.istore_n 1, 1) := by decide +kernel
theorem d_6_parkedCells_2 : decode prog_8_method_6_code 2 = .ok (.iconst 0, 1) := by decide +kernel
theorem d_6_parkedCells_3 : decode prog_8_method_6_code 3 = .ok (.istore_n 2, 1) := by decide +kernel
theorem d_6_parkedCells_4 : decode prog_8_method_6_code 4 = .ok (.iload_n 2, 1) := by decide +kernel
theorem d_6_parkedCells_5 : decode prog_8_method_6_code 5 = .ok (.aload_n 0, 1) := by decide +kernel
theorem d_6_parkedCells_6 : decode prog_8_method_6_code 6 = .ok (.getfield 19, 3) := by decide +kernel
theorem d_6_parkedCells_9 : decode prog_8_method_6_code 9 = .ok (.if_icmp .ge 51, 3) := by decide +kernel
theorem d_6_parkedCells_12 : decode prog_8_method_6_code 12 = .ok (.iload_n 1, 1) := by decide +kernel
theorem d_6_parkedCells_13 : decode prog_8_method_6_code 13 = .ok (.aload_n 0, 1) := by decide +kernel
theorem d_6_parkedCells_14 : decode prog_8_method_6_code 14 = .ok (.getfield 15, 3) := by decide +kernel
theorem d_6_parkedCells_17 : decode prog_8_method_6_code 17 = .ok (.iconst 0, 1) := by decide +kernel
theorem d_6_parkedCells_18 : decode prog_8_method_6_code 18 = .ok (.iload_n 2, 1) := by decide +kernel
theorem d_6_parkedCells_19 : decode prog_8_method_6_code 19 = .ok (.invokestatic 29, 3) := by decide +kernel
theorem d_6_parkedCells_22 : decode prog_8_method_6_code 22 = .ok (.baload, 1) := by decide +kernel
theorem d_6_parkedCells_23 : decode prog_8_method_6_code 23 = .ok (.ifCond .eq 7, 3) := by decide +kernel
theorem d_6_parkedCells_26 : decode prog_8_method_6_code 26 = .ok (.iconst 1, 1) := by decide +kernel
theorem d_6_parkedCells_27 : decode prog_8_method_6_code 27 = .ok (.goto 4, 3) := by decide +kernel
theorem d_6_parkedCells_30 : decode prog_8_method_6_code 30 = .ok (.iconst 0, 1) := by decide +kernel
theorem d_6_parkedCells_31 : decode prog_8_method_6_code 31 = .ok (.iadd, 1) := by decide +kernel
theorem d_6_parkedCells_32 : decode prog_8_method_6_code 32 = .ok (.istore_n 1, 1) := by decide +kernel
theorem d_6_parkedCells_33 : decode prog_8_method_6_code 33 = .ok (.iload_n 1, 1) := by decide +kernel
theorem d_6_parkedCells_34 : decode prog_8_method_6_code 34 = .ok (.aload_n 0, 1) := by decide +kernel
theorem d_6_parkedCells_35 : decode prog_8_method_6_code 35 = .ok (.getfield 15, 3) := by decide +kernel
theorem d_6_parkedCells_38 : decode prog_8_method_6_code 38 = .ok (.iconst 1, 1) := by decide +kernel
theorem d_6_parkedCells_39 : decode prog_8_method_6_code 39 = .ok (.iload_n 2, 1) := by decide +kernel
theorem d_6_parkedCells_40 : decode prog_8_method_6_code 40 = .ok (.invokestatic 29, 3) := by decide +kernel
theorem d_6_parkedCells_43 : decode prog_8_method_6_code 43 = .ok (.baload, 1) := by decide +kernel
theorem d_6_parkedCells_44 : decode prog_8_method_6_code 44 = .ok (.ifCond .eq 7, 3) := by decide +kernel
theorem d_6_parkedCells_47 : decode prog_8_method_6_code 47 = .ok (.iconst 1, 1) := by decide +kernel
theorem d_6_parkedCells_48 : decode prog_8_method_6_code 48 = .ok (.goto 4, 3) := by decide +kernel
theorem d_6_parkedCells_51 : decode prog_8_method_6_code 51 = .ok (.iconst 0, 1) := by decide +kernel
theorem d_6_parkedCells_52 : decode prog_8_method_6_code 52 = .ok (.iadd, 1) := by decide +kernel
theorem d_6_parkedCells_53 : decode prog_8_method_6_code 53 = .ok (.istore_n 1, 1) := by decide +kernel
theorem d_6_parkedCells_54 : decode prog_8_method_6_code 54 = .ok (.iinc 2 1, 3) := by decide +kernel
theorem d_6_parkedCells_57 : decode prog_8_method_6_code 57 = .ok (.goto (-53), 3) := by decide +kernel
theorem d_6_parkedCells_60 : decode prog_8_method_6_code 60 = .ok (.iload_n 1, 1) := by decide +kernel
theorem d_6_parkedCells_61 : decode prog_8_method_6_code 61 = .ok (.ireturn, 1) := by decide +kernel
def m_6_parkedCells_31 (r0 : Nat) (x2 : Int32) (B4 : Int32 → Int32 → St → Prop) (Q : Int32 → St → Prop) (t0 : Int32) (t1 : Int32) (σ : St) : Prop :=
  ∀ x1_1 : Int32, x1_1 = (t1 + t0) → m_9_placeOf (1 : Int32) x2 (fun (v_3 : Int32) (σ_2 : St) => vp_in v_3 40 ∧ (((σ_2.1 (r0 + 2) (v_3).toNatClampNeg) = 0 → ∀ x1_4 : Int32, x1_4 = (x1_1 + (0 : Int32)) → ∀ x2_5 : Int32, x2_5 = x2 + 1 → B4 x1_4 x2_5 σ_2) ∧ (¬ (σ_2.1 (r0 + 2) (v_3).toNatClampNeg) = 0 → ∀ x1_6 : Int32, x1_6 = (x1_1 + (1 : Int32)) → ∀ x2_7 : Int32, x2_7 = x2 + 1 → B4 x1_6 x2_7 σ_2))) σ
def m_6_parkedCells_4 (r0 : Nat) (Q : Int32 → St → Prop) (B4 : Int32 → Int32 → St → Prop) (x1 : Int32) (x2 : Int32) (σ : St) : Prop :=
  (((σ.1 r0 0) ≤ x2 → Q x1 σ) ∧ (¬ (σ.1 r0 0) ≤ x2 → m_9_placeOf (0 : Int32) x2 (fun (v_2 : Int32) (σ_1 : St) => vp_in v_2 40 ∧ (((σ_1.1 (r0 + 2) (v_2).toNatClampNeg) = 0 → m_6_parkedCells_31 r0 x2 B4 Q  (0 : Int32) x1 σ_1) ∧ (¬ (σ_1.1 (r0 + 2) (v_2).toNatClampNeg) = 0 → m_6_parkedCells_31 r0 x2 B4 Q  (1 : Int32) x1 σ_1))) σ))
def m_6_parkedCells (r0 : Nat) (Q : Int32 → St → Prop) (σ : St) : Prop :=
  itN (m_6_parkedCells_4 r0 Q) (fun _ _ _ => False) FU (0 : Int32) (0 : Int32) σ
theorem d_6_greatestDirt_0 : decode prog_8_method_7_code 0 = .ok (.iconst 0, 1) := by decide +kernel
theorem d_6_greatestDirt_1 : decode prog_8_method_7_code 1 = .ok (.istore_n 1, 1) := by decide +kernel
theorem d_6_greatestDirt_2 : decode prog_8_method_7_code 2 = .ok (.iconst 0, 1) := by decide +kernel
theorem d_6_greatestDirt_3 : decode prog_8_method_7_code 3 = .ok (.istore_n 2, 1) := by decide +kernel
theorem d_6_greatestDirt_4 : decode prog_8_method_7_code 4 = .ok (.iload_n 2, 1) := by decide +kernel
theorem d_6_greatestDirt_5 : decode prog_8_method_7_code 5 = .ok (.aload_n 0, 1) := by decide +kernel
theorem d_6_greatestDirt_6 : decode prog_8_method_7_code 6 = .ok (.getfield 19, 3) := by decide +kernel
theorem d_6_greatestDirt_9 : decode prog_8_method_7_code 9 = .ok (.if_icmp .ge 39, 3) := by decide +kernel
theorem d_6_greatestDirt_12 : decode prog_8_method_7_code 12 = .ok (.iload_n 1, 1) := by decide +kernel
theorem d_6_greatestDirt_13 : decode prog_8_method_7_code 13 = .ok (.aload_n 0, 1) := by decide +kernel
theorem d_6_greatestDirt_14 : decode prog_8_method_7_code 14 = .ok (.getfield 9, 3) := by decide +kernel
theorem d_6_greatestDirt_17 : decode prog_8_method_7_code 17 = .ok (.iconst 0, 1) := by decide +kernel
theorem d_6_greatestDirt_18 : decode prog_8_method_7_code 18 = .ok (.iload_n 2, 1) := by decide +kernel
theorem d_6_greatestDirt_19 : decode prog_8_method_7_code 19 = .ok (.invokestatic 29, 3) := by decide +kernel
theorem d_6_greatestDirt_22 : decode prog_8_method_7_code 22 = .ok (.iaload, 1) := by decide +kernel
theorem d_6_greatestDirt_23 : decode prog_8_method_7_code 23 = .ok (.invokestatic 37, 3) := by decide +kernel
theorem d_6_greatestDirt_26 : decode prog_8_method_7_code 26 = .ok (.istore_n 1, 1) := by decide +kernel
theorem d_6_greatestDirt_27 : decode prog_8_method_7_code 27 = .ok (.iload_n 1, 1) := by decide +kernel
theorem d_6_greatestDirt_28 : decode prog_8_method_7_code 28 = .ok (.aload_n 0, 1) := by decide +kernel
theorem d_6_greatestDirt_29 : decode prog_8_method_7_code 29 = .ok (.getfield 9, 3) := by decide +kernel
theorem d_6_greatestDirt_32 : decode prog_8_method_7_code 32 = .ok (.iconst 1, 1) := by decide +kernel
theorem d_6_greatestDirt_33 : decode prog_8_method_7_code 33 = .ok (.iload_n 2, 1) := by decide +kernel
theorem d_6_greatestDirt_34 : decode prog_8_method_7_code 34 = .ok (.invokestatic 29, 3) := by decide +kernel
theorem d_6_greatestDirt_37 : decode prog_8_method_7_code 37 = .ok (.iaload, 1) := by decide +kernel
theorem d_6_greatestDirt_38 : decode prog_8_method_7_code 38 = .ok (.invokestatic 37, 3) := by decide +kernel
theorem d_6_greatestDirt_41 : decode prog_8_method_7_code 41 = .ok (.istore_n 1, 1) := by decide +kernel
theorem d_6_greatestDirt_42 : decode prog_8_method_7_code 42 = .ok (.iinc 2 1, 3) := by decide +kernel
theorem d_6_greatestDirt_45 : decode prog_8_method_7_code 45 = .ok (.goto (-41), 3) := by decide +kernel
theorem d_6_greatestDirt_48 : decode prog_8_method_7_code 48 = .ok (.iload_n 1, 1) := by decide +kernel
theorem d_6_greatestDirt_49 : decode prog_8_method_7_code 49 = .ok (.ireturn, 1) := by decide +kernel
def m_6_greatestDirt_4 (r0 : Nat) (Q : Int32 → St → Prop) (B4 : Int32 → Int32 → St → Prop) (x1 : Int32) (x2 : Int32) (σ : St) : Prop :=
  (((σ.1 r0 0) ≤ x2 → Q x1 σ) ∧ (¬ (σ.1 r0 0) ≤ x2 → m_9_placeOf (0 : Int32) x2 (fun (v_2 : Int32) (σ_1 : St) => vp_in v_2 40 ∧ ∀ x1_3 : Int32, x1_3 = (if x1 < (σ_1.1 (r0 + 1) (v_2).toNatClampNeg) then (σ_1.1 (r0 + 1) (v_2).toNatClampNeg) else x1) → m_9_placeOf (1 : Int32) x2 (fun (v_5 : Int32) (σ_4 : St) => vp_in v_5 40 ∧ ∀ x1_6 : Int32, x1_6 = (if x1_3 < (σ_4.1 (r0 + 1) (v_5).toNatClampNeg) then (σ_4.1 (r0 + 1) (v_5).toNatClampNeg) else x1_3) → ∀ x2_7 : Int32, x2_7 = x2 + 1 → B4 x1_6 x2_7 σ_4) σ_1) σ))
def m_6_greatestDirt (r0 : Nat) (Q : Int32 → St → Prop) (σ : St) : Prop :=
  itN (m_6_greatestDirt_4 r0 Q) (fun _ _ _ => False) FU (0 : Int32) (0 : Int32) σ
theorem d_8_legsIn_0 : decode prog_10_method_7_code 0 = .ok (.iconst 0, 1) := by decide +kernel
theorem d_8_legsIn_1 : decode prog_10_method_7_code 1 = .ok (.istore_n 2, 1) := by decide +kernel
theorem d_8_legsIn_2 : decode prog_10_method_7_code 2 = .ok (.iconst 0, 1) := by decide +kernel
theorem d_8_legsIn_3 : decode prog_10_method_7_code 3 = .ok (.istore_n 3, 1) := by decide +kernel
theorem d_8_legsIn_4 : decode prog_10_method_7_code 4 = .ok (.iload_n 3, 1) := by decide +kernel
theorem d_8_legsIn_5 : decode prog_10_method_7_code 5 = .ok (.aload_n 0, 1) := by decide +kernel
theorem d_8_legsIn_6 : decode prog_10_method_7_code 6 = .ok (.getfield 59, 3) := by decide +kernel
theorem d_8_legsIn_9 : decode prog_10_method_7_code 9 = .ok (.if_icmp .ge 30, 3) := by decide +kernel
theorem d_8_legsIn_12 : decode prog_10_method_7_code 12 = .ok (.iload_n 2, 1) := by decide +kernel
theorem d_8_legsIn_13 : decode prog_10_method_7_code 13 = .ok (.aload_n 0, 1) := by decide +kernel
theorem d_8_legsIn_14 : decode prog_10_method_7_code 14 = .ok (.getfield 19, 3) := by decide +kernel
theorem d_8_legsIn_17 : decode prog_10_method_7_code 17 = .ok (.iload_n 3, 1) := by decide +kernel
theorem d_8_legsIn_18 : decode prog_10_method_7_code 18 = .ok (.aaload, 1) := by decide +kernel
theorem d_8_legsIn_19 : decode prog_10_method_7_code 19 = .ok (.getfield 92, 3) := by decide +kernel
theorem d_8_legsIn_22 : decode prog_10_method_7_code 22 = .ok (.iload_n 1, 1) := by decide +kernel
theorem d_8_legsIn_23 : decode prog_10_method_7_code 23 = .ok (.if_icmp .ne 7, 3) := by decide +kernel
theorem d_8_legsIn_26 : decode prog_10_method_7_code 26 = .ok (.iconst 1, 1) := by decide +kernel
theorem d_8_legsIn_27 : decode prog_10_method_7_code 27 = .ok (.goto 4, 3) := by decide +kernel
theorem d_8_legsIn_30 : decode prog_10_method_7_code 30 = .ok (.iconst 0, 1) := by decide +kernel
theorem d_8_legsIn_31 : decode prog_10_method_7_code 31 = .ok (.iadd, 1) := by decide +kernel
theorem d_8_legsIn_32 : decode prog_10_method_7_code 32 = .ok (.istore_n 2, 1) := by decide +kernel
theorem d_8_legsIn_33 : decode prog_10_method_7_code 33 = .ok (.iinc 3 1, 3) := by decide +kernel
theorem d_8_legsIn_36 : decode prog_10_method_7_code 36 = .ok (.goto (-32), 3) := by decide +kernel
theorem d_8_legsIn_39 : decode prog_10_method_7_code 39 = .ok (.iload_n 2, 1) := by decide +kernel
theorem d_8_legsIn_40 : decode prog_10_method_7_code 40 = .ok (.ireturn, 1) := by decide +kernel
def m_8_legsIn_4 (r0 : Nat) (x1 : Int32) (Q : Int32 → St → Prop) (B4 : Int32 → Int32 → St → Prop) (x2 : Int32) (x3 : Int32) (σ : St) : Prop :=
  (((σ.1 r0 3) ≤ x3 → Q x2 σ) ∧ (¬ (σ.1 r0 3) ≤ x3 → vp_in x3 10 ∧ ((¬ (σ.1 ((r0 + 2) + 22 + (x3).toNatClampNeg) 0) = x1 → ∀ x2_2 : Int32, x2_2 = (x2 + (0 : Int32)) → ∀ x3_3 : Int32, x3_3 = x3 + 1 → B4 x2_2 x3_3 σ) ∧ ((σ.1 ((r0 + 2) + 22 + (x3).toNatClampNeg) 0) = x1 → ∀ x2_4 : Int32, x2_4 = (x2 + (1 : Int32)) → ∀ x3_5 : Int32, x3_5 = x3 + 1 → B4 x2_4 x3_5 σ))))
def m_8_legsIn (r0 : Nat) (x1 : Int32) (Q : Int32 → St → Prop) (σ : St) : Prop :=
  itN (m_8_legsIn_4 r0 x1 Q) (fun _ _ _ => False) FU (0 : Int32) (0 : Int32) σ
theorem d_9_street_0 : decode prog_1_method_11_code 0 = .ok (.aload_n 0, 1) := by decide +kernel
theorem d_9_street_1 : decode prog_1_method_11_code 1 = .ok (.getfield 26, 3) := by decide +kernel
theorem d_9_street_4 : decode prog_1_method_11_code 4 = .ok (.iload_n 1, 1) := by decide +kernel
theorem d_9_street_5 : decode prog_1_method_11_code 5 = .ok (.invokevirtual 100, 3) := by decide +kernel
theorem d_9_street_8 : decode prog_1_method_11_code 8 = .ok (.ifCond .ne 5, 3) := by decide +kernel
theorem d_9_street_11 : decode prog_1_method_11_code 11 = .ok (.iconst (-1), 1) := by decide +kernel
theorem d_9_street_12 : decode prog_1_method_11_code 12 = .ok (.ireturn, 1) := by decide +kernel
theorem d_9_street_13 : decode prog_1_method_11_code 13 = .ok (.aload_n 0, 1) := by decide +kernel
theorem d_9_street_14 : decode prog_1_method_11_code 14 = .ok (.getfield 26, 3) := by decide +kernel
theorem d_9_street_17 : decode prog_1_method_11_code 17 = .ok (.getfield 122, 3) := by decide +kernel
theorem d_9_street_20 : decode prog_1_method_11_code 20 = .ok (.iload_n 1, 1) := by decide +kernel
theorem d_9_street_21 : decode prog_1_method_11_code 21 = .ok (.aaload, 1) := by decide +kernel
theorem d_9_street_22 : decode prog_1_method_11_code 22 = .ok (.astore_n 3, 1) := by decide +kernel
theorem d_9_street_23 : decode prog_1_method_11_code 23 = .ok (.iload_n 2, 1) := by decide +kernel
theorem d_9_street_24 : decode prog_1_method_11_code 24 = .ok (.tableswitch 94 0 7 #[48, 53, 58, 63, 69, 75, 80, 85], 48) := by decide +kernel
theorem d_9_street_72 : decode prog_1_method_11_code 72 = .ok (.aload_n 3, 1) := by decide +kernel
theorem d_9_street_73 : decode prog_1_method_11_code 73 = .ok (.getfield 91, 3) := by decide +kernel
theorem d_9_street_76 : decode prog_1_method_11_code 76 = .ok (.ireturn, 1) := by decide +kernel
theorem d_9_street_77 : decode prog_1_method_11_code 77 = .ok (.aload_n 3, 1) := by decide +kernel
theorem d_9_street_78 : decode prog_1_method_11_code 78 = .ok (.getfield 149, 3) := by decide +kernel
theorem d_9_street_81 : decode prog_1_method_11_code 81 = .ok (.ireturn, 1) := by decide +kernel
theorem d_9_street_82 : decode prog_1_method_11_code 82 = .ok (.aload_n 3, 1) := by decide +kernel
theorem d_9_street_83 : decode prog_1_method_11_code 83 = .ok (.getfield 152, 3) := by decide +kernel
theorem d_9_street_86 : decode prog_1_method_11_code 86 = .ok (.ireturn, 1) := by decide +kernel
theorem d_9_street_87 : decode prog_1_method_11_code 87 = .ok (.aload_n 3, 1) := by decide +kernel
theorem d_9_street_88 : decode prog_1_method_11_code 88 = .ok (.iconst 0, 1) := by decide +kernel
theorem d_9_street_89 : decode prog_1_method_11_code 89 = .ok (.invokevirtual 155, 3) := by decide +kernel
theorem d_9_street_92 : decode prog_1_method_11_code 92 = .ok (.ireturn, 1) := by decide +kernel
theorem d_9_street_93 : decode prog_1_method_11_code 93 = .ok (.aload_n 3, 1) := by decide +kernel
theorem d_9_street_94 : decode prog_1_method_11_code 94 = .ok (.iconst 1, 1) := by decide +kernel
theorem d_9_street_95 : decode prog_1_method_11_code 95 = .ok (.invokevirtual 155, 3) := by decide +kernel
theorem d_9_street_98 : decode prog_1_method_11_code 98 = .ok (.ireturn, 1) := by decide +kernel
theorem d_9_street_99 : decode prog_1_method_11_code 99 = .ok (.aload_n 3, 1) := by decide +kernel
theorem d_9_street_100 : decode prog_1_method_11_code 100 = .ok (.invokevirtual 159, 3) := by decide +kernel
theorem d_9_street_103 : decode prog_1_method_11_code 103 = .ok (.ireturn, 1) := by decide +kernel
theorem d_9_street_104 : decode prog_1_method_11_code 104 = .ok (.aload_n 3, 1) := by decide +kernel
theorem d_9_street_105 : decode prog_1_method_11_code 105 = .ok (.invokevirtual 162, 3) := by decide +kernel
theorem d_9_street_108 : decode prog_1_method_11_code 108 = .ok (.ireturn, 1) := by decide +kernel
theorem d_9_street_109 : decode prog_1_method_11_code 109 = .ok (.aload_n 0, 1) := by decide +kernel
theorem d_9_street_110 : decode prog_1_method_11_code 110 = .ok (.getfield 26, 3) := by decide +kernel
theorem d_9_street_113 : decode prog_1_method_11_code 113 = .ok (.iload_n 1, 1) := by decide +kernel
theorem d_9_street_114 : decode prog_1_method_11_code 114 = .ok (.invokevirtual 165, 3) := by decide +kernel
theorem d_9_street_117 : decode prog_1_method_11_code 117 = .ok (.ireturn, 1) := by decide +kernel
theorem d_9_street_118 : decode prog_1_method_11_code 118 = .ok (.iconst (-1), 1) := by decide +kernel
theorem d_9_street_119 : decode prog_1_method_11_code 119 = .ok (.ireturn, 1) := by decide +kernel
def m_9_street (r0 : Nat) (x1 : Int32) (x2 : Int32) (Q : Int32 → St → Prop) (σ : St) : Prop :=
  m_8_hasStreet (r0 + 7) x1 (fun (v_2 : Int32) (σ_1 : St) => ((¬ v_2 = 0 → vp_in x1 6 ∧ ∀ r3_4 : Nat, r3_4 = (((r0 + 7) + 1) + 5 + 3 * (x1).toNatClampNeg) → (((x2.toInt < 0 ∨ 7 < x2.toInt) → Q (-1 : Int32) σ_1) ∧ (x2 = 0 → Q (σ_1.1 r3_4 0) σ_1) ∧ (x2 = 1 → Q (σ_1.1 r3_4 1) σ_1) ∧ (x2 = 2 → Q (σ_1.1 r3_4 2) σ_1) ∧ (x2 = 3 → m_6_dirtOfSide r3_4 (0 : Int32) (fun (v_7 : Int32) (σ_6 : St) => Q v_7 σ_6) σ_1) ∧ (x2 = 4 → m_6_dirtOfSide r3_4 (1 : Int32) (fun (v_9 : Int32) (σ_8 : St) => Q v_9 σ_8) σ_1) ∧ (x2 = 5 → m_6_parkedCells r3_4 (fun (v_11 : Int32) (σ_10 : St) => Q v_11 σ_10) σ_1) ∧ (x2 = 6 → m_6_greatestDirt r3_4 (fun (v_13 : Int32) (σ_12 : St) => Q v_13 σ_12) σ_1) ∧ (x2 = 7 → m_8_legsIn (r0 + 7) x1 (fun (v_15 : Int32) (σ_14 : St) => Q v_15 σ_14) σ_1))) ∧ (v_2 = 0 → Q (-1 : Int32) σ_1))) σ
theorem d_8_leastSetting_0 : decode prog_10_method_15_code 0 = .ok (.iload_n 1, 1) := by decide +kernel
theorem d_8_leastSetting_1 : decode prog_10_method_15_code 1 = .ok (.iconst 1, 1) := by decide +kernel
theorem d_8_leastSetting_2 : decode prog_10_method_15_code 2 = .ok (.if_icmp .ne 18, 3) := by decide +kernel
theorem d_8_leastSetting_5 : decode prog_10_method_15_code 5 = .ok (.getstatic 120, 3) := by decide +kernel
theorem d_8_leastSetting_8 : decode prog_10_method_15_code 8 = .ok (.iload_n 1, 1) := by decide +kernel
theorem d_8_leastSetting_9 : decode prog_10_method_15_code 9 = .ok (.iaload, 1) := by decide +kernel
theorem d_8_leastSetting_10 : decode prog_10_method_15_code 10 = .ok (.aload_n 0, 1) := by decide +kernel
theorem d_8_leastSetting_11 : decode prog_10_method_15_code 11 = .ok (.getfield 69, 3) := by decide +kernel
theorem d_8_leastSetting_14 : decode prog_10_method_15_code 14 = .ok (.invokestatic 114, 3) := by decide +kernel
theorem d_8_leastSetting_17 : decode prog_10_method_15_code 17 = .ok (.goto 8, 3) := by decide +kernel
theorem d_8_leastSetting_20 : decode prog_10_method_15_code 20 = .ok (.getstatic 120, 3) := by decide +kernel
theorem d_8_leastSetting_23 : decode prog_10_method_15_code 23 = .ok (.iload_n 1, 1) := by decide +kernel
theorem d_8_leastSetting_24 : decode prog_10_method_15_code 24 = .ok (.iaload, 1) := by decide +kernel
theorem d_8_leastSetting_25 : decode prog_10_method_15_code 25 = .ok (.ireturn, 1) := by decide +kernel
def m_8_leastSetting (r0 : Nat) (x1 : Int32) (Q : Int32 → St → Prop) (σ : St) : Prop :=
  ((¬ x1 = (1 : Int32) → vp_in x1 6 ∧ Q (stV 1 (x1).toNatClampNeg) σ) ∧ (x1 = (1 : Int32) → vp_in x1 6 ∧ Q (if (stV 1 (x1).toNatClampNeg) < (σ.1 r0 7) then (σ.1 r0 7) else (stV 1 (x1).toNatClampNeg)) σ))
theorem d_9_set_0 : decode prog_1_method_12_code 0 = .ok (.iload_n 1, 1) := by decide +kernel
theorem d_9_set_1 : decode prog_1_method_12_code 1 = .ok (.ifCond .lt 30, 3) := by decide +kernel
theorem d_9_set_4 : decode prog_1_method_12_code 4 = .ok (.iload_n 1, 1) := by decide +kernel
theorem d_9_set_5 : decode prog_1_method_12_code 5 = .ok (.bipush 6, 2) := by decide +kernel
theorem d_9_set_7 : decode prog_1_method_12_code 7 = .ok (.if_icmp .ge 24, 3) := by decide +kernel
theorem d_9_set_10 : decode prog_1_method_12_code 10 = .ok (.iload_n 2, 1) := by decide +kernel
theorem d_9_set_11 : decode prog_1_method_12_code 11 = .ok (.aload_n 0, 1) := by decide +kernel
theorem d_9_set_12 : decode prog_1_method_12_code 12 = .ok (.getfield 26, 3) := by decide +kernel
theorem d_9_set_15 : decode prog_1_method_12_code 15 = .ok (.iload_n 1, 1) := by decide +kernel
theorem d_9_set_16 : decode prog_1_method_12_code 16 = .ok (.invokevirtual 168, 3) := by decide +kernel
theorem d_9_set_19 : decode prog_1_method_12_code 19 = .ok (.if_icmp .lt 12, 3) := by decide +kernel
theorem d_9_set_22 : decode prog_1_method_12_code 22 = .ok (.iload_n 2, 1) := by decide +kernel
theorem d_9_set_23 : decode prog_1_method_12_code 23 = .ok (.getstatic 171, 3) := by decide +kernel
theorem d_9_set_26 : decode prog_1_method_12_code 26 = .ok (.iload_n 1, 1) := by decide +kernel
theorem d_9_set_27 : decode prog_1_method_12_code 27 = .ok (.iaload, 1) := by decide +kernel
theorem d_9_set_28 : decode prog_1_method_12_code 28 = .ok (.if_icmp .le 5, 3) := by decide +kernel
theorem d_9_set_31 : decode prog_1_method_12_code 31 = .ok (.iconst (-1), 1) := by decide +kernel
theorem d_9_set_32 : decode prog_1_method_12_code 32 = .ok (.ireturn, 1) := by decide +kernel
theorem d_9_set_33 : decode prog_1_method_12_code 33 = .ok (.aload_n 0, 1) := by decide +kernel
theorem d_9_set_34 : decode prog_1_method_12_code 34 = .ok (.getfield 42, 3) := by decide +kernel
theorem d_9_set_37 : decode prog_1_method_12_code 37 = .ok (.aload_n 0, 1) := by decide +kernel
theorem d_9_set_38 : decode prog_1_method_12_code 38 = .ok (.getfield 26, 3) := by decide +kernel
theorem d_9_set_41 : decode prog_1_method_12_code 41 = .ok (.invokevirtual 80, 3) := by decide +kernel
theorem d_9_set_44 : decode prog_1_method_12_code 44 = .ok (.aload_n 0, 1) := by decide +kernel
theorem d_9_set_45 : decode prog_1_method_12_code 45 = .ok (.getfield 26, 3) := by decide +kernel
theorem d_9_set_48 : decode prog_1_method_12_code 48 = .ok (.getfield 174, 3) := by decide +kernel
theorem d_9_set_51 : decode prog_1_method_12_code 51 = .ok (.iload_n 1, 1) := by decide +kernel
theorem d_9_set_52 : decode prog_1_method_12_code 52 = .ok (.iaload, 1) := by decide +kernel
theorem d_9_set_53 : decode prog_1_method_12_code 53 = .ok (.istore_n 3, 1) := by decide +kernel
theorem d_9_set_54 : decode prog_1_method_12_code 54 = .ok (.aload_n 0, 1) := by decide +kernel
theorem d_9_set_55 : decode prog_1_method_12_code 55 = .ok (.getfield 26, 3) := by decide +kernel
theorem d_9_set_58 : decode prog_1_method_12_code 58 = .ok (.getfield 174, 3) := by decide +kernel
theorem d_9_set_61 : decode prog_1_method_12_code 61 = .ok (.iload_n 1, 1) := by decide +kernel
theorem d_9_set_62 : decode prog_1_method_12_code 62 = .ok (.iload_n 2, 1) := by decide +kernel
theorem d_9_set_63 : decode prog_1_method_12_code 63 = .ok (.iastore, 1) := by decide +kernel
theorem d_9_set_64 : decode prog_1_method_12_code 64 = .ok (.iload_n 3, 1) := by decide +kernel
theorem d_9_set_65 : decode prog_1_method_12_code 65 = .ok (.ireturn, 1) := by decide +kernel
def m_9_set (r0 : Nat) (x1 : Int32) (x2 : Int32) (Q : Int32 → St → Prop) (σ : St) : Prop :=
  ((x1 < 0 → Q (-1 : Int32) σ) ∧ (¬ x1 < 0 → (((6 : Int32) ≤ x1 → Q (-1 : Int32) σ) ∧ (¬ (6 : Int32) ≤ x1 → m_8_leastSetting (r0 + 7) x1 (fun (v_2 : Int32) (σ_1 : St) => ((x2 < v_2 → Q (-1 : Int32) σ_1) ∧ (¬ x2 < v_2 → vp_in x1 6 ∧ ((x2 ≤ (stV 2 (x1).toNatClampNeg) → m_0_remember (r0 + 42) (r0 + 7) (fun (σ_3 : St) => vp_in x1 6 ∧ ∀ x3_5 : Int32, x3_5 = (σ_3.1 ((r0 + 7) + 3) (x1).toNatClampNeg) → vp_in x1 6 ∧ ∀ σ_6 : St, σ_6 = wr σ_3 ((r0 + 7) + 3) (x1).toNatClampNeg x2 → Q x3_5 σ_6) σ_1) ∧ (¬ x2 ≤ (stV 2 (x1).toNatClampNeg) → Q (-1 : Int32) σ_1))))) σ))))
theorem d_8_appendLeg_0 : decode prog_10_method_12_code 0 = .ok (.aload_n 0, 1) := by decide +kernel
theorem d_8_appendLeg_1 : decode prog_10_method_12_code 1 = .ok (.getfield 19, 3) := by decide +kernel
theorem d_8_appendLeg_4 : decode prog_10_method_12_code 4 = .ok (.aload_n 0, 1) := by decide +kernel
theorem d_8_appendLeg_5 : decode prog_10_method_12_code 5 = .ok (.getfield 59, 3) := by decide +kernel
theorem d_8_appendLeg_8 : decode prog_10_method_12_code 8 = .ok (.aaload, 1) := by decide +kernel
theorem d_8_appendLeg_9 : decode prog_10_method_12_code 9 = .ok (.astore_n 3, 1) := by decide +kernel
theorem d_8_appendLeg_10 : decode prog_10_method_12_code 10 = .ok (.aload_n 3, 1) := by decide +kernel
theorem d_8_appendLeg_11 : decode prog_10_method_12_code 11 = .ok (.iload_n 1, 1) := by decide +kernel
theorem d_8_appendLeg_12 : decode prog_10_method_12_code 12 = .ok (.putfield 92, 3) := by decide +kernel
theorem d_8_appendLeg_15 : decode prog_10_method_12_code 15 = .ok (.aload_n 3, 1) := by decide +kernel
theorem d_8_appendLeg_16 : decode prog_10_method_12_code 16 = .ok (.iload_n 2, 1) := by decide +kernel
theorem d_8_appendLeg_17 : decode prog_10_method_12_code 17 = .ok (.putfield 108, 3) := by decide +kernel
theorem d_8_appendLeg_20 : decode prog_10_method_12_code 20 = .ok (.aload_n 0, 1) := by decide +kernel
theorem d_8_appendLeg_21 : decode prog_10_method_12_code 21 = .ok (.dup, 1) := by decide +kernel
theorem d_8_appendLeg_22 : decode prog_10_method_12_code 22 = .ok (.getfield 59, 3) := by decide +kernel
theorem d_8_appendLeg_25 : decode prog_10_method_12_code 25 = .ok (.iconst 1, 1) := by decide +kernel
theorem d_8_appendLeg_26 : decode prog_10_method_12_code 26 = .ok (.iadd, 1) := by decide +kernel
theorem d_8_appendLeg_27 : decode prog_10_method_12_code 27 = .ok (.putfield 59, 3) := by decide +kernel
theorem d_8_appendLeg_30 : decode prog_10_method_12_code 30 = .ok (.aload_n 0, 1) := by decide +kernel
theorem d_8_appendLeg_31 : decode prog_10_method_12_code 31 = .ok (.iconst 0, 1) := by decide +kernel
theorem d_8_appendLeg_32 : decode prog_10_method_12_code 32 = .ok (.putfield 65, 3) := by decide +kernel
theorem d_8_appendLeg_35 : decode prog_10_method_12_code 35 = .ok (.aload_n 0, 1) := by decide +kernel
theorem d_8_appendLeg_36 : decode prog_10_method_12_code 36 = .ok (.getfield 59, 3) := by decide +kernel
theorem d_8_appendLeg_39 : decode prog_10_method_12_code 39 = .ok (.iconst 1, 1) := by decide +kernel
theorem d_8_appendLeg_40 : decode prog_10_method_12_code 40 = .ok (.isub, 1) := by decide +kernel
theorem d_8_appendLeg_41 : decode prog_10_method_12_code 41 = .ok (.ireturn, 1) := by decide +kernel
def m_8_appendLeg (r0 : Nat) (x1 : Int32) (x2 : Int32) (Q : Int32 → St → Prop) (σ : St) : Prop :=
  vp_in (σ.1 r0 3) 10 ∧ ∀ r3_2 : Nat, r3_2 = ((r0 + 2) + 22 + ((σ.1 r0 3)).toNatClampNeg) → ∀ σ_3 : St, σ_3 = wr σ r3_2 0 x1 → ∀ σ_4 : St, σ_4 = wr σ_3 r3_2 1 x2 → ∀ σ_5 : St, σ_5 = wr σ_4 r0 3 ((σ_4.1 r0 3) + (1 : Int32)) → ∀ σ_6 : St, σ_6 = wr σ_5 r0 4 (0 : Int32) → Q ((σ_6.1 r0 3) - (1 : Int32)) σ_6
theorem d_9_addLeg_0 : decode prog_1_method_13_code 0 = .ok (.aload_n 0, 1) := by decide +kernel
theorem d_9_addLeg_1 : decode prog_1_method_13_code 1 = .ok (.getfield 26, 3) := by decide +kernel
theorem d_9_addLeg_4 : decode prog_1_method_13_code 4 = .ok (.iload_n 1, 1) := by decide +kernel
theorem d_9_addLeg_5 : decode prog_1_method_13_code 5 = .ok (.invokevirtual 100, 3) := by decide +kernel
theorem d_9_addLeg_8 : decode prog_1_method_13_code 8 = .ok (.ifCond .eq 12, 3) := by decide +kernel
theorem d_9_addLeg_11 : decode prog_1_method_13_code 11 = .ok (.iload_n 2, 1) := by decide +kernel
theorem d_9_addLeg_12 : decode prog_1_method_13_code 12 = .ok (.ifCond .lt 8, 3) := by decide +kernel
theorem d_9_addLeg_15 : decode prog_1_method_13_code 15 = .ok (.iload_n 2, 1) := by decide +kernel
theorem d_9_addLeg_16 : decode prog_1_method_13_code 16 = .ok (.iconst 2, 1) := by decide +kernel
theorem d_9_addLeg_17 : decode prog_1_method_13_code 17 = .ok (.if_icmp .lt 5, 3) := by decide +kernel
theorem d_9_addLeg_20 : decode prog_1_method_13_code 20 = .ok (.iconst (-1), 1) := by decide +kernel
theorem d_9_addLeg_21 : decode prog_1_method_13_code 21 = .ok (.ireturn, 1) := by decide +kernel
theorem d_9_addLeg_22 : decode prog_1_method_13_code 22 = .ok (.aload_n 0, 1) := by decide +kernel
theorem d_9_addLeg_23 : decode prog_1_method_13_code 23 = .ok (.getfield 26, 3) := by decide +kernel
theorem d_9_addLeg_26 : decode prog_1_method_13_code 26 = .ok (.getfield 108, 3) := by decide +kernel
theorem d_9_addLeg_29 : decode prog_1_method_13_code 29 = .ok (.bipush 10, 2) := by decide +kernel
theorem d_9_addLeg_31 : decode prog_1_method_13_code 31 = .ok (.if_icmp .lt 6, 3) := by decide +kernel
theorem d_9_addLeg_34 : decode prog_1_method_13_code 34 = .ok (.bipush (-3), 2) := by decide +kernel
theorem d_9_addLeg_36 : decode prog_1_method_13_code 36 = .ok (.ireturn, 1) := by decide +kernel
theorem d_9_addLeg_37 : decode prog_1_method_13_code 37 = .ok (.aload_n 0, 1) := by decide +kernel
theorem d_9_addLeg_38 : decode prog_1_method_13_code 38 = .ok (.getfield 42, 3) := by decide +kernel
theorem d_9_addLeg_41 : decode prog_1_method_13_code 41 = .ok (.aload_n 0, 1) := by decide +kernel
theorem d_9_addLeg_42 : decode prog_1_method_13_code 42 = .ok (.getfield 26, 3) := by decide +kernel
theorem d_9_addLeg_45 : decode prog_1_method_13_code 45 = .ok (.invokevirtual 80, 3) := by decide +kernel
theorem d_9_addLeg_48 : decode prog_1_method_13_code 48 = .ok (.aload_n 0, 1) := by decide +kernel
theorem d_9_addLeg_49 : decode prog_1_method_13_code 49 = .ok (.getfield 26, 3) := by decide +kernel
theorem d_9_addLeg_52 : decode prog_1_method_13_code 52 = .ok (.iload_n 1, 1) := by decide +kernel
theorem d_9_addLeg_53 : decode prog_1_method_13_code 53 = .ok (.iload_n 2, 1) := by decide +kernel
theorem d_9_addLeg_54 : decode prog_1_method_13_code 54 = .ok (.invokevirtual 177, 3) := by decide +kernel
theorem d_9_addLeg_57 : decode prog_1_method_13_code 57 = .ok (.ireturn, 1) := by decide +kernel
def m_9_addLeg (r0 : Nat) (x1 : Int32) (x2 : Int32) (Q : Int32 → St → Prop) (σ : St) : Prop :=
  m_8_hasStreet (r0 + 7) x1 (fun (v_2 : Int32) (σ_1 : St) => ((v_2 = 0 → Q (-1 : Int32) σ_1) ∧ (¬ v_2 = 0 → ((x2 < 0 → Q (-1 : Int32) σ_1) ∧ (¬ x2 < 0 → ((x2 < (2 : Int32) → (((σ_1.1 (r0 + 7) 3) < (10 : Int32) → m_0_remember (r0 + 42) (r0 + 7) (fun (σ_3 : St) => m_8_appendLeg (r0 + 7) x1 x2 (fun (v_6 : Int32) (σ_5 : St) => Q v_6 σ_5) σ_3) σ_1) ∧ (¬ (σ_1.1 (r0 + 7) 3) < (10 : Int32) → Q (-3 : Int32) σ_1))) ∧ (¬ x2 < (2 : Int32) → Q (-1 : Int32) σ_1))))))) σ
theorem d_8_hasLeg_0 : decode prog_10_method_5_code 0 = .ok (.iload_n 1, 1) := by decide +kernel
theorem d_8_hasLeg_1 : decode prog_10_method_5_code 1 = .ok (.ifCond .lt 15, 3) := by decide +kernel
theorem d_8_hasLeg_4 : decode prog_10_method_5_code 4 = .ok (.iload_n 1, 1) := by decide +kernel
theorem d_8_hasLeg_5 : decode prog_10_method_5_code 5 = .ok (.aload_n 0, 1) := by decide +kernel
theorem d_8_hasLeg_6 : decode prog_10_method_5_code 6 = .ok (.getfield 59, 3) := by decide +kernel
theorem d_8_hasLeg_9 : decode prog_10_method_5_code 9 = .ok (.if_icmp .ge 7, 3) := by decide +kernel
theorem d_8_hasLeg_12 : decode prog_10_method_5_code 12 = .ok (.iconst 1, 1) := by decide +kernel
theorem d_8_hasLeg_13 : decode prog_10_method_5_code 13 = .ok (.goto 4, 3) := by decide +kernel
theorem d_8_hasLeg_16 : decode prog_10_method_5_code 16 = .ok (.iconst 0, 1) := by decide +kernel
theorem d_8_hasLeg_17 : decode prog_10_method_5_code 17 = .ok (.ireturn, 1) := by decide +kernel
def m_8_hasLeg (r0 : Nat) (x1 : Int32) (Q : Int32 → St → Prop) (σ : St) : Prop :=
  ((x1 < 0 → Q (0 : Int32) σ) ∧ (¬ x1 < 0 → (((σ.1 r0 3) ≤ x1 → Q (0 : Int32) σ) ∧ (¬ (σ.1 r0 3) ≤ x1 → Q (1 : Int32) σ))))
theorem d_9_leg_0 : decode prog_1_method_15_code 0 = .ok (.aload_n 0, 1) := by decide +kernel
theorem d_9_leg_1 : decode prog_1_method_15_code 1 = .ok (.getfield 26, 3) := by decide +kernel
theorem d_9_leg_4 : decode prog_1_method_15_code 4 = .ok (.iload_n 1, 1) := by decide +kernel
theorem d_9_leg_5 : decode prog_1_method_15_code 5 = .ok (.invokevirtual 180, 3) := by decide +kernel
theorem d_9_leg_8 : decode prog_1_method_15_code 8 = .ok (.ifCond .eq 12, 3) := by decide +kernel
theorem d_9_leg_11 : decode prog_1_method_15_code 11 = .ok (.iload_n 2, 1) := by decide +kernel
theorem d_9_leg_12 : decode prog_1_method_15_code 12 = .ok (.ifCond .lt 8, 3) := by decide +kernel
theorem d_9_leg_15 : decode prog_1_method_15_code 15 = .ok (.iload_n 2, 1) := by decide +kernel
theorem d_9_leg_16 : decode prog_1_method_15_code 16 = .ok (.iconst 3, 1) := by decide +kernel
theorem d_9_leg_17 : decode prog_1_method_15_code 17 = .ok (.if_icmp .le 5, 3) := by decide +kernel
theorem d_9_leg_20 : decode prog_1_method_15_code 20 = .ok (.iconst (-1), 1) := by decide +kernel
theorem d_9_leg_21 : decode prog_1_method_15_code 21 = .ok (.ireturn, 1) := by decide +kernel
theorem d_9_leg_22 : decode prog_1_method_15_code 22 = .ok (.aload_n 0, 1) := by decide +kernel
theorem d_9_leg_23 : decode prog_1_method_15_code 23 = .ok (.getfield 26, 3) := by decide +kernel
theorem d_9_leg_26 : decode prog_1_method_15_code 26 = .ok (.getfield 186, 3) := by decide +kernel
theorem d_9_leg_29 : decode prog_1_method_15_code 29 = .ok (.iload_n 1, 1) := by decide +kernel
theorem d_9_leg_30 : decode prog_1_method_15_code 30 = .ok (.aaload, 1) := by decide +kernel
theorem d_9_leg_31 : decode prog_1_method_15_code 31 = .ok (.astore_n 3, 1) := by decide +kernel
theorem d_9_leg_32 : decode prog_1_method_15_code 32 = .ok (.iload_n 2, 1) := by decide +kernel
theorem d_9_leg_33 : decode prog_1_method_15_code 33 = .ok (.ifCond .ne 8, 3) := by decide +kernel
theorem d_9_leg_36 : decode prog_1_method_15_code 36 = .ok (.aload_n 3, 1) := by decide +kernel
theorem d_9_leg_37 : decode prog_1_method_15_code 37 = .ok (.getfield 190, 3) := by decide +kernel
theorem d_9_leg_40 : decode prog_1_method_15_code 40 = .ok (.ireturn, 1) := by decide +kernel
theorem d_9_leg_41 : decode prog_1_method_15_code 41 = .ok (.iload_n 2, 1) := by decide +kernel
theorem d_9_leg_42 : decode prog_1_method_15_code 42 = .ok (.iconst 1, 1) := by decide +kernel
theorem d_9_leg_43 : decode prog_1_method_15_code 43 = .ok (.if_icmp .ne 8, 3) := by decide +kernel
theorem d_9_leg_46 : decode prog_1_method_15_code 46 = .ok (.aload_n 3, 1) := by decide +kernel
theorem d_9_leg_47 : decode prog_1_method_15_code 47 = .ok (.getfield 195, 3) := by decide +kernel
theorem d_9_leg_50 : decode prog_1_method_15_code 50 = .ok (.ireturn, 1) := by decide +kernel
theorem d_9_leg_51 : decode prog_1_method_15_code 51 = .ok (.aload_n 0, 1) := by decide +kernel
theorem d_9_leg_52 : decode prog_1_method_15_code 52 = .ok (.getfield 26, 3) := by decide +kernel
theorem d_9_leg_55 : decode prog_1_method_15_code 55 = .ok (.getfield 198, 3) := by decide +kernel
theorem d_9_leg_58 : decode prog_1_method_15_code 58 = .ok (.ifCond .ne 6, 3) := by decide +kernel
theorem d_9_leg_61 : decode prog_1_method_15_code 61 = .ok (.bipush (-2), 2) := by decide +kernel
theorem d_9_leg_63 : decode prog_1_method_15_code 63 = .ok (.ireturn, 1) := by decide +kernel
theorem d_9_leg_64 : decode prog_1_method_15_code 64 = .ok (.iload_n 2, 1) := by decide +kernel
theorem d_9_leg_65 : decode prog_1_method_15_code 65 = .ok (.iconst 2, 1) := by decide +kernel
theorem d_9_leg_66 : decode prog_1_method_15_code 66 = .ok (.if_icmp .ne 10, 3) := by decide +kernel
theorem d_9_leg_69 : decode prog_1_method_15_code 69 = .ok (.aload_n 3, 1) := by decide +kernel
theorem d_9_leg_70 : decode prog_1_method_15_code 70 = .ok (.getfield 202, 3) := by decide +kernel
theorem d_9_leg_73 : decode prog_1_method_15_code 73 = .ok (.goto 7, 3) := by decide +kernel
theorem d_9_leg_76 : decode prog_1_method_15_code 76 = .ok (.aload_n 3, 1) := by decide +kernel
theorem d_9_leg_77 : decode prog_1_method_15_code 77 = .ok (.getfield 205, 3) := by decide +kernel
theorem d_9_leg_80 : decode prog_1_method_15_code 80 = .ok (.ireturn, 1) := by decide +kernel
def m_9_leg (r0 : Nat) (x1 : Int32) (x2 : Int32) (Q : Int32 → St → Prop) (σ : St) : Prop :=
  m_8_hasLeg (r0 + 7) x1 (fun (v_2 : Int32) (σ_1 : St) => ((v_2 = 0 → Q (-1 : Int32) σ_1) ∧ (¬ v_2 = 0 → ((x2 < 0 → Q (-1 : Int32) σ_1) ∧ (¬ x2 < 0 → ((x2 ≤ (3 : Int32) → vp_in x1 10 ∧ ∀ r3_4 : Nat, r3_4 = (((r0 + 7) + 2) + 22 + (x1).toNatClampNeg) → ((¬ x2 = 0 → ((¬ x2 = (1 : Int32) → ((¬ (σ_1.1 (r0 + 7) 4) = 0 → ((¬ x2 = (2 : Int32) → Q (σ_1.1 r3_4 3) σ_1) ∧ (x2 = (2 : Int32) → Q (σ_1.1 r3_4 2) σ_1))) ∧ ((σ_1.1 (r0 + 7) 4) = 0 → Q (-2 : Int32) σ_1))) ∧ (x2 = (1 : Int32) → Q (σ_1.1 r3_4 1) σ_1))) ∧ (x2 = 0 → Q (σ_1.1 r3_4 0) σ_1))) ∧ (¬ x2 ≤ (3 : Int32) → Q (-1 : Int32) σ_1))))))) σ
theorem d_4_clear_0 : decode prog_6_method_2_code 0 = .ok (.aload_n 0, 1) := by decide +kernel
theorem d_4_clear_1 : decode prog_6_method_2_code 1 = .ok (.iconst 0, 1) := by decide +kernel
theorem d_4_clear_2 : decode prog_6_method_2_code 2 = .ok (.putfield 9, 3) := by decide +kernel
theorem d_4_clear_5 : decode prog_6_method_2_code 5 = .ok (.aload_n 0, 1) := by decide +kernel
theorem d_4_clear_6 : decode prog_6_method_2_code 6 = .ok (.iconst 0, 1) := by decide +kernel
theorem d_4_clear_7 : decode prog_6_method_2_code 7 = .ok (.putfield 15, 3) := by decide +kernel
theorem d_4_clear_10 : decode prog_6_method_2_code 10 = .ok (.aload_n 0, 1) := by decide +kernel
theorem d_4_clear_11 : decode prog_6_method_2_code 11 = .ok (.iconst 0, 1) := by decide +kernel
theorem d_4_clear_12 : decode prog_6_method_2_code 12 = .ok (.putfield 18, 3) := by decide +kernel
theorem d_4_clear_15 : decode prog_6_method_2_code 15 = .ok (.aload_n 0, 1) := by decide +kernel
theorem d_4_clear_16 : decode prog_6_method_2_code 16 = .ok (.iconst 0, 1) := by decide +kernel
theorem d_4_clear_17 : decode prog_6_method_2_code 17 = .ok (.putfield 21, 3) := by decide +kernel
theorem d_4_clear_20 : decode prog_6_method_2_code 20 = .ok (.aload_n 0, 1) := by decide +kernel
theorem d_4_clear_21 : decode prog_6_method_2_code 21 = .ok (.iconst 0, 1) := by decide +kernel
theorem d_4_clear_22 : decode prog_6_method_2_code 22 = .ok (.putfield 24, 3) := by decide +kernel
theorem d_4_clear_25 : decode prog_6_method_2_code 25 = .ok (.aload_n 0, 1) := by decide +kernel
theorem d_4_clear_26 : decode prog_6_method_2_code 26 = .ok (.iconst 0, 1) := by decide +kernel
theorem d_4_clear_27 : decode prog_6_method_2_code 27 = .ok (.putfield 27, 3) := by decide +kernel
theorem d_4_clear_30 : decode prog_6_method_2_code 30 = .ok (.return_, 1) := by decide +kernel
def m_4_clear (r0 : Nat) (Q : St → Prop) (σ : St) : Prop :=
  ∀ σ_1 : St, σ_1 = wr σ r0 0 (0 : Int32) → ∀ σ_2 : St, σ_2 = wr σ_1 r0 1 (0 : Int32) → ∀ σ_3 : St, σ_3 = wr σ_2 r0 2 (0 : Int32) → ∀ σ_4 : St, σ_4 = wr σ_3 r0 3 (0 : Int32) → ∀ σ_5 : St, σ_5 = wr σ_4 r0 4 (0 : Int32) → ∀ σ_6 : St, σ_6 = wr σ_5 r0 5 (0 : Int32) → Q σ_6
theorem d_5_driveTo_0 : decode prog_7_method_4_code 0 = .ok (.aload_n 0, 1) := by decide +kernel
theorem d_5_driveTo_1 : decode prog_7_method_4_code 1 = .ok (.getfield 9, 3) := by decide +kernel
theorem d_5_driveTo_4 : decode prog_7_method_4_code 4 = .ok (.getfield 48, 3) := by decide +kernel
theorem d_5_driveTo_7 : decode prog_7_method_4_code 7 = .ok (.iload_n 1, 1) := by decide +kernel
theorem d_5_driveTo_8 : decode prog_7_method_4_code 8 = .ok (.aaload, 1) := by decide +kernel
theorem d_5_driveTo_9 : decode prog_7_method_4_code 9 = .ok (.getfield 92, 3) := by decide +kernel
theorem d_5_driveTo_12 : decode prog_7_method_4_code 12 = .ok (.istore_n 2, 1) := by decide +kernel
theorem d_5_driveTo_13 : decode prog_7_method_4_code 13 = .ok (.aload_n 0, 1) := by decide +kernel
theorem d_5_driveTo_14 : decode prog_7_method_4_code 14 = .ok (.getfield 26, 3) := by decide +kernel
theorem d_5_driveTo_17 : decode prog_7_method_4_code 17 = .ok (.iconst (-1), 1) := by decide +kernel
theorem d_5_driveTo_18 : decode prog_7_method_4_code 18 = .ok (.if_icmp .ne 8, 3) := by decide +kernel
theorem d_5_driveTo_21 : decode prog_7_method_4_code 21 = .ok (.bipush 10, 2) := by decide +kernel
theorem d_5_driveTo_23 : decode prog_7_method_4_code 23 = .ok (.iload_n 2, 1) := by decide +kernel
theorem d_5_driveTo_24 : decode prog_7_method_4_code 24 = .ok (.imul, 1) := by decide +kernel
theorem d_5_driveTo_25 : decode prog_7_method_4_code 25 = .ok (.ireturn, 1) := by decide +kernel
theorem d_5_driveTo_26 : decode prog_7_method_4_code 26 = .ok (.aload_n 0, 1) := by decide +kernel
theorem d_5_driveTo_27 : decode prog_7_method_4_code 27 = .ok (.getfield 26, 3) := by decide +kernel
theorem d_5_driveTo_30 : decode prog_7_method_4_code 30 = .ok (.iload_n 1, 1) := by decide +kernel
theorem d_5_driveTo_31 : decode prog_7_method_4_code 31 = .ok (.if_icmp .ne 5, 3) := by decide +kernel
theorem d_5_driveTo_34 : decode prog_7_method_4_code 34 = .ok (.iconst 0, 1) := by decide +kernel
theorem d_5_driveTo_35 : decode prog_7_method_4_code 35 = .ok (.ireturn, 1) := by decide +kernel
theorem d_5_driveTo_36 : decode prog_7_method_4_code 36 = .ok (.iload_n 2, 1) := by decide +kernel
theorem d_5_driveTo_37 : decode prog_7_method_4_code 37 = .ok (.aload_n 0, 1) := by decide +kernel
theorem d_5_driveTo_38 : decode prog_7_method_4_code 38 = .ok (.getfield 9, 3) := by decide +kernel
theorem d_5_driveTo_41 : decode prog_7_method_4_code 41 = .ok (.getfield 48, 3) := by decide +kernel
theorem d_5_driveTo_44 : decode prog_7_method_4_code 44 = .ok (.aload_n 0, 1) := by decide +kernel
theorem d_5_driveTo_45 : decode prog_7_method_4_code 45 = .ok (.getfield 26, 3) := by decide +kernel
theorem d_5_driveTo_48 : decode prog_7_method_4_code 48 = .ok (.aaload, 1) := by decide +kernel
theorem d_5_driveTo_49 : decode prog_7_method_4_code 49 = .ok (.getfield 92, 3) := by decide +kernel
theorem d_5_driveTo_52 : decode prog_7_method_4_code 52 = .ok (.isub, 1) := by decide +kernel
theorem d_5_driveTo_53 : decode prog_7_method_4_code 53 = .ok (.invokestatic 95, 3) := by decide +kernel
theorem d_5_driveTo_56 : decode prog_7_method_4_code 56 = .ok (.istore_n 3, 1) := by decide +kernel
theorem d_5_driveTo_57 : decode prog_7_method_4_code 57 = .ok (.bipush 10, 2) := by decide +kernel
theorem d_5_driveTo_59 : decode prog_7_method_4_code 59 = .ok (.iload_n 3, 1) := by decide +kernel
theorem d_5_driveTo_60 : decode prog_7_method_4_code 60 = .ok (.imul, 1) := by decide +kernel
theorem d_5_driveTo_61 : decode prog_7_method_4_code 61 = .ok (.bipush 50, 2) := by decide +kernel
theorem d_5_driveTo_63 : decode prog_7_method_4_code 63 = .ok (.iadd, 1) := by decide +kernel
theorem d_5_driveTo_64 : decode prog_7_method_4_code 64 = .ok (.ireturn, 1) := by decide +kernel
def m_5_driveTo (r0 : Nat) (x1 : Int32) (Q : Int32 → St → Prop) (σ : St) : Prop :=
  vp_in x1 6 ∧ ∀ x2_2 : Int32, x2_2 = (σ.1 (((rfR r0) + 1) + 5 + 3 * (x1).toNatClampNeg) 1) → ((¬ (σ.1 r0 1) = (-1 : Int32) → ((¬ (σ.1 r0 1) = x1 → vp_in (σ.1 r0 1) 6 ∧ ∀ x3_4 : Int32, x3_4 = (if 0 ≤ (x2_2 - (σ.1 (((rfR r0) + 1) + 5 + 3 * ((σ.1 r0 1)).toNatClampNeg) 1)) then (x2_2 - (σ.1 (((rfR r0) + 1) + 5 + 3 * ((σ.1 r0 1)).toNatClampNeg) 1)) else 0 - (x2_2 - (σ.1 (((rfR r0) + 1) + 5 + 3 * ((σ.1 r0 1)).toNatClampNeg) 1))) → Q (((10 : Int32) * x3_4) + (50 : Int32)) σ) ∧ ((σ.1 r0 1) = x1 → Q (0 : Int32) σ))) ∧ ((σ.1 r0 1) = (-1 : Int32) → Q ((10 : Int32) * x2_2) σ))
theorem d_6_driveToDump_0 : decode prog_8_method_11_code 0 = .ok (.bipush 10, 2) := by decide +kernel
theorem d_6_driveToDump_2 : decode prog_8_method_11_code 2 = .ok (.aload_n 0, 1) := by decide +kernel
theorem d_6_driveToDump_3 : decode prog_8_method_11_code 3 = .ok (.getfield 23, 3) := by decide +kernel
theorem d_6_driveToDump_6 : decode prog_8_method_11_code 6 = .ok (.imul, 1) := by decide +kernel
theorem d_6_driveToDump_7 : decode prog_8_method_11_code 7 = .ok (.ireturn, 1) := by decide +kernel
def m_6_driveToDump (r0 : Nat) (Q : Int32 → St → Prop) (σ : St) : Prop :=
  Q ((10 : Int32) * (σ.1 r0 1)) σ
theorem d_5_fits_0 : decode prog_7_method_5_code 0 = .ok (.aload_n 0, 1) := by decide +kernel
theorem d_5_fits_1 : decode prog_7_method_5_code 1 = .ok (.getfield 9, 3) := by decide +kernel
theorem d_5_fits_4 : decode prog_7_method_5_code 4 = .ok (.getfield 15, 3) := by decide +kernel
theorem d_5_fits_7 : decode prog_7_method_5_code 7 = .ok (.getfield 89, 3) := by decide +kernel
theorem d_5_fits_10 : decode prog_7_method_5_code 10 = .ok (.iload_n 1, 1) := by decide +kernel
theorem d_5_fits_11 : decode prog_7_method_5_code 11 = .ok (.iadd, 1) := by decide +kernel
theorem d_5_fits_12 : decode prog_7_method_5_code 12 = .ok (.aload_n 2, 1) := by decide +kernel
theorem d_5_fits_13 : decode prog_7_method_5_code 13 = .ok (.invokevirtual 100, 3) := by decide +kernel
theorem d_5_fits_16 : decode prog_7_method_5_code 16 = .ok (.iadd, 1) := by decide +kernel
theorem d_5_fits_17 : decode prog_7_method_5_code 17 = .ok (.aload_n 0, 1) := by decide +kernel
theorem d_5_fits_18 : decode prog_7_method_5_code 18 = .ok (.getfield 9, 3) := by decide +kernel
theorem d_5_fits_21 : decode prog_7_method_5_code 21 = .ok (.getfield 104, 3) := by decide +kernel
theorem d_5_fits_24 : decode prog_7_method_5_code 24 = .ok (.iconst 3, 1) := by decide +kernel
theorem d_5_fits_25 : decode prog_7_method_5_code 25 = .ok (.iaload, 1) := by decide +kernel
theorem d_5_fits_26 : decode prog_7_method_5_code 26 = .ok (.if_icmp .gt 7, 3) := by decide +kernel
theorem d_5_fits_29 : decode prog_7_method_5_code 29 = .ok (.iconst 1, 1) := by decide +kernel
theorem d_5_fits_30 : decode prog_7_method_5_code 30 = .ok (.goto 4, 3) := by decide +kernel
theorem d_5_fits_33 : decode prog_7_method_5_code 33 = .ok (.iconst 0, 1) := by decide +kernel
theorem d_5_fits_34 : decode prog_7_method_5_code 34 = .ok (.ireturn, 1) := by decide +kernel
def m_5_fits (r0 : Nat) (x1 : Int32) (r2 : Nat) (Q : Int32 → St → Prop) (σ : St) : Prop :=
  m_6_driveToDump r2 (fun (v_2 : Int32) (σ_1 : St) => vp_in (3 : Int32) 6 ∧ (((σ_1.1 ((rfR r0) + 3) ((3 : Int32)).toNatClampNeg) < (((σ.1 ((rfR r0) + 5) 1) + x1) + v_2) → Q (0 : Int32) σ_1) ∧ (¬ (σ_1.1 ((rfR r0) + 3) ((3 : Int32)).toNatClampNeg) < (((σ.1 ((rfR r0) + 5) 1) + x1) + v_2) → Q (1 : Int32) σ_1))) σ
theorem d_5_driveToLeg_0 : decode prog_7_method_3_code 0 = .ok (.aload_n 0, 1) := by decide +kernel
theorem d_5_driveToLeg_1 : decode prog_7_method_3_code 1 = .ok (.aload_n 1, 1) := by decide +kernel
theorem d_5_driveToLeg_2 : decode prog_7_method_3_code 2 = .ok (.getfield 52, 3) := by decide +kernel
theorem d_5_driveToLeg_5 : decode prog_7_method_3_code 5 = .ok (.invokevirtual 81, 3) := by decide +kernel
theorem d_5_driveToLeg_8 : decode prog_7_method_3_code 8 = .ok (.istore_n 3, 1) := by decide +kernel
theorem d_5_driveToLeg_9 : decode prog_7_method_3_code 9 = .ok (.aload_n 0, 1) := by decide +kernel
theorem d_5_driveToLeg_10 : decode prog_7_method_3_code 10 = .ok (.iload_n 3, 1) := by decide +kernel
theorem d_5_driveToLeg_11 : decode prog_7_method_3_code 11 = .ok (.aload_n 2, 1) := by decide +kernel
theorem d_5_driveToLeg_12 : decode prog_7_method_3_code 12 = .ok (.invokevirtual 85, 3) := by decide +kernel
theorem d_5_driveToLeg_15 : decode prog_7_method_3_code 15 = .ok (.ifCond .ne 5, 3) := by decide +kernel
theorem d_5_driveToLeg_18 : decode prog_7_method_3_code 18 = .ok (.iconst 1, 1) := by decide +kernel
theorem d_5_driveToLeg_19 : decode prog_7_method_3_code 19 = .ok (.ireturn, 1) := by decide +kernel
theorem d_5_driveToLeg_20 : decode prog_7_method_3_code 20 = .ok (.aload_n 0, 1) := by decide +kernel
theorem d_5_driveToLeg_21 : decode prog_7_method_3_code 21 = .ok (.getfield 9, 3) := by decide +kernel
theorem d_5_driveToLeg_24 : decode prog_7_method_3_code 24 = .ok (.getfield 15, 3) := by decide +kernel
theorem d_5_driveToLeg_27 : decode prog_7_method_3_code 27 = .ok (.dup, 1) := by decide +kernel
theorem d_5_driveToLeg_28 : decode prog_7_method_3_code 28 = .ok (.getfield 89, 3) := by decide +kernel
theorem d_5_driveToLeg_31 : decode prog_7_method_3_code 31 = .ok (.iload_n 3, 1) := by decide +kernel
theorem d_5_driveToLeg_32 : decode prog_7_method_3_code 32 = .ok (.iadd, 1) := by decide +kernel
theorem d_5_driveToLeg_33 : decode prog_7_method_3_code 33 = .ok (.putfield 89, 3) := by decide +kernel
theorem d_5_driveToLeg_36 : decode prog_7_method_3_code 36 = .ok (.aload_n 0, 1) := by decide +kernel
theorem d_5_driveToLeg_37 : decode prog_7_method_3_code 37 = .ok (.aload_n 1, 1) := by decide +kernel
theorem d_5_driveToLeg_38 : decode prog_7_method_3_code 38 = .ok (.getfield 52, 3) := by decide +kernel
theorem d_5_driveToLeg_41 : decode prog_7_method_3_code 41 = .ok (.putfield 26, 3) := by decide +kernel
theorem d_5_driveToLeg_44 : decode prog_7_method_3_code 44 = .ok (.iconst 0, 1) := by decide +kernel
theorem d_5_driveToLeg_45 : decode prog_7_method_3_code 45 = .ok (.ireturn, 1) := by decide +kernel
def m_5_driveToLeg (r0 : Nat) (r1 : Nat) (r2 : Nat) (Q : Int32 → St → Prop) (σ : St) : Prop :=
  m_5_driveTo r0 (σ.1 r1 0) (fun (v_2 : Int32) (σ_1 : St) => m_5_fits r0 v_2 r2 (fun (v_4 : Int32) (σ_3 : St) => ((¬ v_4 = 0 → ∀ σ_5 : St, σ_5 = wr σ_3 ((rfR r0) + 5) 1 ((σ_3.1 ((rfR r0) + 5) 1) + v_2) → ∀ σ_6 : St, σ_6 = wr σ_5 r0 1 (σ_5.1 r1 0) → Q (0 : Int32) σ_6) ∧ (v_4 = 0 → Q (1 : Int32) σ_3))) σ_1) σ
theorem d_5_unitsForCell_0 : decode prog_7_method_7_code 0 = .ok (.bipush 12, 2) := by decide +kernel
theorem d_5_unitsForCell_2 : decode prog_7_method_7_code 2 = .ok (.iconst 1, 1) := by decide +kernel
theorem d_5_unitsForCell_3 : decode prog_7_method_7_code 3 = .ok (.aload_n 0, 1) := by decide +kernel
theorem d_5_unitsForCell_4 : decode prog_7_method_7_code 4 = .ok (.getfield 9, 3) := by decide +kernel
theorem d_5_unitsForCell_7 : decode prog_7_method_7_code 7 = .ok (.getfield 104, 3) := by decide +kernel
theorem d_5_unitsForCell_10 : decode prog_7_method_7_code 10 = .ok (.iconst 0, 1) := by decide +kernel
theorem d_5_unitsForCell_11 : decode prog_7_method_7_code 11 = .ok (.iaload, 1) := by decide +kernel
theorem d_5_unitsForCell_12 : decode prog_7_method_7_code 12 = .ok (.invokestatic 125, 3) := by decide +kernel
theorem d_5_unitsForCell_15 : decode prog_7_method_7_code 15 = .ok (.idiv, 1) := by decide +kernel
theorem d_5_unitsForCell_16 : decode prog_7_method_7_code 16 = .ok (.ireturn, 1) := by decide +kernel
def m_5_unitsForCell (r0 : Nat) (Q : Int32 → St → Prop) (σ : St) : Prop :=
  vp_in (0 : Int32) 6 ∧ ¬ (if (1 : Int32) < (σ.1 ((rfR r0) + 3) ((0 : Int32)).toNatClampNeg) then (σ.1 ((rfR r0) + 3) ((0 : Int32)).toNatClampNeg) else (1 : Int32)) = 0 ∧ Q ((12 : Int32) / (if (1 : Int32) < (σ.1 ((rfR r0) + 3) ((0 : Int32)).toNatClampNeg) then (σ.1 ((rfR r0) + 3) ((0 : Int32)).toNatClampNeg) else (1 : Int32))) σ
theorem d_5_sweepOnce_0 : decode prog_7_method_8_code 0 = .ok (.aload_n 2, 1) := by decide +kernel
theorem d_5_sweepOnce_1 : decode prog_7_method_8_code 1 = .ok (.iload_n 3, 1) := by decide +kernel
theorem d_5_sweepOnce_2 : decode prog_7_method_8_code 2 = .ok (.aload_n 0, 1) := by decide +kernel
theorem d_5_sweepOnce_3 : decode prog_7_method_8_code 3 = .ok (.getfield 9, 3) := by decide +kernel
theorem d_5_sweepOnce_6 : decode prog_7_method_8_code 6 = .ok (.invokevirtual 128, 3) := by decide +kernel
theorem d_5_sweepOnce_9 : decode prog_7_method_8_code 9 = .ok (.invokevirtual 131, 3) := by decide +kernel
theorem d_5_sweepOnce_12 : decode prog_7_method_8_code 12 = .ok (.istore 4, 2) := by decide +kernel
theorem d_5_sweepOnce_14 : decode prog_7_method_8_code 14 = .ok (.iload 4, 2) := by decide +kernel
theorem d_5_sweepOnce_16 : decode prog_7_method_8_code 16 = .ok (.aload_n 0, 1) := by decide +kernel
theorem d_5_sweepOnce_17 : decode prog_7_method_8_code 17 = .ok (.getfield 9, 3) := by decide +kernel
theorem d_5_sweepOnce_20 : decode prog_7_method_8_code 20 = .ok (.invokevirtual 116, 3) := by decide +kernel
theorem d_5_sweepOnce_23 : decode prog_7_method_8_code 23 = .ok (.invokestatic 134, 3) := by decide +kernel
theorem d_5_sweepOnce_26 : decode prog_7_method_8_code 26 = .ok (.istore 5, 2) := by decide +kernel
theorem d_5_sweepOnce_28 : decode prog_7_method_8_code 28 = .ok (.aload_n 2, 1) := by decide +kernel
theorem d_5_sweepOnce_29 : decode prog_7_method_8_code 29 = .ok (.getfield 137, 3) := by decide +kernel
theorem d_5_sweepOnce_32 : decode prog_7_method_8_code 32 = .ok (.iload_n 3, 1) := by decide +kernel
theorem d_5_sweepOnce_33 : decode prog_7_method_8_code 33 = .ok (.dup2, 1) := by decide +kernel
theorem d_5_sweepOnce_34 : decode prog_7_method_8_code 34 = .ok (.iaload, 1) := by decide +kernel
theorem d_5_sweepOnce_35 : decode prog_7_method_8_code 35 = .ok (.iload 5, 2) := by decide +kernel
theorem d_5_sweepOnce_37 : decode prog_7_method_8_code 37 = .ok (.isub, 1) := by decide +kernel
theorem d_5_sweepOnce_38 : decode prog_7_method_8_code 38 = .ok (.iastore, 1) := by decide +kernel
theorem d_5_sweepOnce_39 : decode prog_7_method_8_code 39 = .ok (.aload_n 0, 1) := by decide +kernel
theorem d_5_sweepOnce_40 : decode prog_7_method_8_code 40 = .ok (.getfield 9, 3) := by decide +kernel
theorem d_5_sweepOnce_43 : decode prog_7_method_8_code 43 = .ok (.dup, 1) := by decide +kernel
theorem d_5_sweepOnce_44 : decode prog_7_method_8_code 44 = .ok (.getfield 140, 3) := by decide +kernel
theorem d_5_sweepOnce_47 : decode prog_7_method_8_code 47 = .ok (.iload 5, 2) := by decide +kernel
theorem d_5_sweepOnce_49 : decode prog_7_method_8_code 49 = .ok (.iadd, 1) := by decide +kernel
theorem d_5_sweepOnce_50 : decode prog_7_method_8_code 50 = .ok (.putfield 140, 3) := by decide +kernel
theorem d_5_sweepOnce_53 : decode prog_7_method_8_code 53 = .ok (.aload_n 1, 1) := by decide +kernel
theorem d_5_sweepOnce_54 : decode prog_7_method_8_code 54 = .ok (.dup, 1) := by decide +kernel
theorem d_5_sweepOnce_55 : decode prog_7_method_8_code 55 = .ok (.getfield 42, 3) := by decide +kernel
theorem d_5_sweepOnce_58 : decode prog_7_method_8_code 58 = .ok (.iload 5, 2) := by decide +kernel
theorem d_5_sweepOnce_60 : decode prog_7_method_8_code 60 = .ok (.iadd, 1) := by decide +kernel
theorem d_5_sweepOnce_61 : decode prog_7_method_8_code 61 = .ok (.putfield 42, 3) := by decide +kernel
theorem d_5_sweepOnce_64 : decode prog_7_method_8_code 64 = .ok (.aload_n 0, 1) := by decide +kernel
theorem d_5_sweepOnce_65 : decode prog_7_method_8_code 65 = .ok (.getfield 9, 3) := by decide +kernel
theorem d_5_sweepOnce_68 : decode prog_7_method_8_code 68 = .ok (.getfield 15, 3) := by decide +kernel
theorem d_5_sweepOnce_71 : decode prog_7_method_8_code 71 = .ok (.dup, 1) := by decide +kernel
theorem d_5_sweepOnce_72 : decode prog_7_method_8_code 72 = .ok (.getfield 143, 3) := by decide +kernel
theorem d_5_sweepOnce_75 : decode prog_7_method_8_code 75 = .ok (.iload 5, 2) := by decide +kernel
theorem d_5_sweepOnce_77 : decode prog_7_method_8_code 77 = .ok (.iadd, 1) := by decide +kernel
theorem d_5_sweepOnce_78 : decode prog_7_method_8_code 78 = .ok (.putfield 143, 3) := by decide +kernel
theorem d_5_sweepOnce_81 : decode prog_7_method_8_code 81 = .ok (.aload_n 0, 1) := by decide +kernel
theorem d_5_sweepOnce_82 : decode prog_7_method_8_code 82 = .ok (.getfield 9, 3) := by decide +kernel
theorem d_5_sweepOnce_85 : decode prog_7_method_8_code 85 = .ok (.getfield 144, 3) := by decide +kernel
theorem d_5_sweepOnce_88 : decode prog_7_method_8_code 88 = .ok (.iconst 1, 1) := by decide +kernel
theorem d_5_sweepOnce_89 : decode prog_7_method_8_code 89 = .ok (.iload 5, 2) := by decide +kernel
theorem d_5_sweepOnce_91 : decode prog_7_method_8_code 91 = .ok (.aload_n 0, 1) := by decide +kernel
theorem d_5_sweepOnce_92 : decode prog_7_method_8_code 92 = .ok (.getfield 9, 3) := by decide +kernel
theorem d_5_sweepOnce_95 : decode prog_7_method_8_code 95 = .ok (.getfield 104, 3) := by decide +kernel
theorem d_5_sweepOnce_98 : decode prog_7_method_8_code 98 = .ok (.iconst 0, 1) := by decide +kernel
theorem d_5_sweepOnce_99 : decode prog_7_method_8_code 99 = .ok (.iaload, 1) := by decide +kernel
theorem d_5_sweepOnce_100 : decode prog_7_method_8_code 100 = .ok (.imul, 1) := by decide +kernel
theorem d_5_sweepOnce_101 : decode prog_7_method_8_code 101 = .ok (.bipush 20, 2) := by decide +kernel
theorem d_5_sweepOnce_103 : decode prog_7_method_8_code 103 = .ok (.idiv, 1) := by decide +kernel
theorem d_5_sweepOnce_104 : decode prog_7_method_8_code 104 = .ok (.iadd, 1) := by decide +kernel
theorem d_5_sweepOnce_105 : decode prog_7_method_8_code 105 = .ok (.invokestatic 134, 3) := by decide +kernel
theorem d_5_sweepOnce_108 : decode prog_7_method_8_code 108 = .ok (.istore 6, 2) := by decide +kernel
theorem d_5_sweepOnce_110 : decode prog_7_method_8_code 110 = .ok (.aload_n 0, 1) := by decide +kernel
theorem d_5_sweepOnce_111 : decode prog_7_method_8_code 111 = .ok (.getfield 9, 3) := by decide +kernel
theorem d_5_sweepOnce_114 : decode prog_7_method_8_code 114 = .ok (.dup, 1) := by decide +kernel
theorem d_5_sweepOnce_115 : decode prog_7_method_8_code 115 = .ok (.getfield 144, 3) := by decide +kernel
theorem d_5_sweepOnce_118 : decode prog_7_method_8_code 118 = .ok (.iload 6, 2) := by decide +kernel
theorem d_5_sweepOnce_120 : decode prog_7_method_8_code 120 = .ok (.isub, 1) := by decide +kernel
theorem d_5_sweepOnce_121 : decode prog_7_method_8_code 121 = .ok (.putfield 144, 3) := by decide +kernel
theorem d_5_sweepOnce_124 : decode prog_7_method_8_code 124 = .ok (.aload_n 0, 1) := by decide +kernel
theorem d_5_sweepOnce_125 : decode prog_7_method_8_code 125 = .ok (.getfield 9, 3) := by decide +kernel
theorem d_5_sweepOnce_128 : decode prog_7_method_8_code 128 = .ok (.getfield 15, 3) := by decide +kernel
theorem d_5_sweepOnce_131 : decode prog_7_method_8_code 131 = .ok (.dup, 1) := by decide +kernel
theorem d_5_sweepOnce_132 : decode prog_7_method_8_code 132 = .ok (.getfield 147, 3) := by decide +kernel
theorem d_5_sweepOnce_135 : decode prog_7_method_8_code 135 = .ok (.iload 6, 2) := by decide +kernel
theorem d_5_sweepOnce_137 : decode prog_7_method_8_code 137 = .ok (.iadd, 1) := by decide +kernel
theorem d_5_sweepOnce_138 : decode prog_7_method_8_code 138 = .ok (.putfield 147, 3) := by decide +kernel
theorem d_5_sweepOnce_141 : decode prog_7_method_8_code 141 = .ok (.iload 4, 2) := by decide +kernel
theorem d_5_sweepOnce_143 : decode prog_7_method_8_code 143 = .ok (.iload 5, 2) := by decide +kernel
theorem d_5_sweepOnce_145 : decode prog_7_method_8_code 145 = .ok (.if_icmp .ne 7, 3) := by decide +kernel
theorem d_5_sweepOnce_148 : decode prog_7_method_8_code 148 = .ok (.iconst 1, 1) := by decide +kernel
theorem d_5_sweepOnce_149 : decode prog_7_method_8_code 149 = .ok (.goto 4, 3) := by decide +kernel
theorem d_5_sweepOnce_152 : decode prog_7_method_8_code 152 = .ok (.iconst 0, 1) := by decide +kernel
theorem d_5_sweepOnce_153 : decode prog_7_method_8_code 153 = .ok (.ireturn, 1) := by decide +kernel
def m_5_sweepOnce (r0 : Nat) (r1 : Nat) (r2 : Nat) (x3 : Int32) (Q : Int32 → St → Prop) (σ : St) : Prop :=
  m_8_grip (rfR r0) (fun (v_2 : Int32) (σ_1 : St) => m_6_couldGive r2 x3 v_2 (fun (v_4 : Int32) (σ_3 : St) => m_8_room (rfR r0) (fun (v_6 : Int32) (σ_5 : St) => ∀ x5_7 : Int32, x5_7 = (if v_6 < v_4 then v_6 else v_4) → vp_in x3 40 ∧ vp_in x3 40 ∧ ∀ σ_8 : St, σ_8 = wr σ_5 (r2 + 1) (x3).toNatClampNeg ((σ_5.1 (r2 + 1) (x3).toNatClampNeg) - x5_7) → ∀ σ_9 : St, σ_9 = wr σ_8 (rfR r0) 7 ((σ_8.1 (rfR r0) 7) + x5_7) → ∀ σ_10 : St, σ_10 = wr σ_9 r1 3 ((σ_9.1 r1 3) + x5_7) → ∀ σ_11 : St, σ_11 = wr σ_10 ((rfR r0) + 5) 3 ((σ_10.1 ((rfR r0) + 5) 3) + x5_7) → vp_in (0 : Int32) 6 ∧ ∀ x6_12 : Int32, x6_12 = (if ((1 : Int32) + ((x5_7 * (σ_11.1 ((rfR r0) + 3) ((0 : Int32)).toNatClampNeg)) / (20 : Int32))) < (σ_11.1 (rfR r0) 6) then ((1 : Int32) + ((x5_7 * (σ_11.1 ((rfR r0) + 3) ((0 : Int32)).toNatClampNeg)) / (20 : Int32))) else (σ_11.1 (rfR r0) 6)) → ∀ σ_13 : St, σ_13 = wr σ_11 (rfR r0) 6 ((σ_11.1 (rfR r0) 6) - x6_12) → ∀ σ_14 : St, σ_14 = wr σ_13 ((rfR r0) + 5) 4 ((σ_13.1 ((rfR r0) + 5) 4) + x6_12) → ((¬ v_4 = x5_7 → Q (0 : Int32) σ_14) ∧ (v_4 = x5_7 → Q (1 : Int32) σ_14))) σ_3) σ_1) σ
section MB
variable {p : Program} {l : Launch} {e : Env} {R : Room} {s : State} {m : MethodId} {args : Array Value} {below : List Frame} {meth : Method} {c : Code} {cells slots : Nat} {QW : State → Prop}
variable {D : va_G} {ac : Nat → ClassId} {ad : Nat → Nat} {st : SS} {A : Nat → Prop}
set_option maxHeartbeats 4000000 in
set_option maxRecDepth 100000 in
theorem w_6_dirtOfSide_4 {r0 : Nat} {x1 : Int32} {Q : Int32 → St → Prop} {B4 : Int32 → Int32 → St → Prop} {x2 : Int32} {x3 : Int32} {σ : St} {H : Heap} {locs : List Loc} {ls : Array Slot} (S : SC A D ac st p m c prog_8_method_4_code 4 s args "SweeperRounds$Street" R cells slots 1 21) (hR : RtI A D ac ad p l e R s m args below meth c prog_8_method_4_code cells slots QW Q) (hk_r0 : kd r0 = 6) (hB4 : ∀ (x2 : Int32) (x3 : Int32) (σ : St) (H : Heap) (locs : List Loc) (ls : Array Slot), DG A D ac ad s σ H locs → lv_has ls 4 [(0, .ref (ad r0)), (1, .int x1), (2, .int x2), (3, .int x3)] → B4 x2 x3 σ → W p l e R s m args below meth c H locs cells slots QW (F0 m 4 ls [])) (hG : DG A D ac ad s σ H locs) (hl : lv_has ls 4 [(0, .ref (ad r0)), (1, .int x1), (2, .int x2), (3, .int x3)]) (hf : m_6_dirtOfSide_4 r0 x1 Q B4 x2 x3 σ) : W p l e R s m args below meth c H locs cells slots QW (F0 m 4 ls []) := by
  have hx := S.1.1
  have hb := S.1.2.1
  unfold m_6_dirtOfSide_4 at hf
  refine lv_iload_n hx hb d_6_dirtOfSide_4 rfl (lv_at hl 3 rfl) ?_
  refine lv_aload_n hx hb d_6_dirtOfSide_5 rfl (lv_at hl 0 rfl) ?_
  refine gf_6_19 S hG hk_r0 d_6_dirtOfSide_6 ?_
  refine lv_icmp_ge (tgt := 31) hx hb d_6_dirtOfSide_9 (by decide) (fun hc => ?_) (fun hc => ?_)
  · have hf := hf.1 hc
    refine lv_iload_n hx hb d_6_dirtOfSide_31 rfl (lv_at hl 2 rfl) ?_
    exact hR _ _ _ _ _ _ hG hf d_6_dirtOfSide_32
  · have hf := hf.2 hc
    refine lv_iload_n hx hb d_6_dirtOfSide_12 rfl (lv_at hl 2 rfl) ?_
    refine lv_aload_n hx hb d_6_dirtOfSide_13 rfl (lv_at hl 0 rfl) ?_
    refine gf_6_9 S hG hk_r0 d_6_dirtOfSide_14 ?_
    refine lv_iload_n hx hb d_6_dirtOfSide_17 rfl (lv_at hl 1 rfl) ?_
    refine lv_iload_n hx hb d_6_dirtOfSide_18 rfl (lv_at hl 3 rfl) ?_
    refine iv_6_29 S hl.1 hG  (c_9_placeOf l  hf) ⟨Nat.le_of_ble_eq_true rfl, Nat.le_of_ble_eq_true rfl⟩ (Nat.le_of_ble_eq_true rfl) d_6_dirtOfSide_19 (fun v_2 σ_1 hf H locs hG => ?_)
    refine mia S hG 20 rfl rfl (kr_6_3 hk_r0) hf.1 d_6_dirtOfSide_22 ?_
    have hf := hf.2
    refine lv_iadd hx hb d_6_dirtOfSide_23 ?_
    refine lv_topi (fun x2_3 ex2_3 => ?_)
    have hf := hf x2_3 ex2_3
    refine lv_istore_n (lv' := [(2, .int x2_3), (0, .ref (ad r0)), (1, .int x1), (3, .int x3)]) hx hb d_6_dirtOfSide_24 rfl hl (by decide) rfl (fun ls hl => ?_)
    obtain ⟨x3_4, ex3_4⟩ : ∃ y : Int32, y = x3 + 1 := ⟨_, rfl⟩
    have hf := hf x3_4 ex3_4
    refine lv_iinc (v := x3_4) (lv' := [(3, .int x3_4), (2, .int x2_3), (0, .ref (ad r0)), (1, .int x1)]) hx hb d_6_dirtOfSide_25 hl (k := 3) rfl (by rw [ex3_4]; rfl) (by decide) rfl (fun ls hl => ?_)
    refine lv_goto (tgt := 4) hx hb d_6_dirtOfSide_28 (by decide) ?_
    exact hB4 _ _ _ _ _ _   hG (lv_sub hl [2, 3, 1, 0] rfl) hf
set_option maxHeartbeats 4000000 in
set_option maxRecDepth 100000 in
theorem lp_6_dirtOfSide_4 {r0 : Nat} {x1 : Int32} {Q : Int32 → St → Prop} (S : SC A D ac st p m c prog_8_method_4_code 4 s args "SweeperRounds$Street" R cells slots 1 21) (hR : RtI A D ac ad p l e R s m args below meth c prog_8_method_4_code cells slots QW Q) (hk_r0 : kd r0 = 6) : ∀ (n : Nat) (x2 : Int32) (x3 : Int32) (σ : St) (H : Heap) (locs : List Loc) (ls : Array Slot), DG A D ac ad s σ H locs → lv_has ls 4 [(0, .ref (ad r0)), (1, .int x1), (2, .int x2), (3, .int x3)] → itN (m_6_dirtOfSide_4 r0 x1 Q) (fun _ _ _ => False) n x2 x3 σ → W p l e R s m args below meth c H locs cells slots QW (F0 m 4 ls []) := by
  intro n
  induction n with
  | zero =>
    intro x2 x3 σ H locs ls  hG hl hf
    exact hf.elim
  | succ n ih =>
    intro x2 x3 σ H locs ls  hG hl hf
    exact w_6_dirtOfSide_4 S hR hk_r0  ih hG hl hf
set_option maxHeartbeats 4000000 in
set_option maxRecDepth 100000 in
theorem w_6_dirtOfSide_0 {r0 : Nat} {x1 : Int32} {Q : Int32 → St → Prop} {σ : St} {H : Heap} {locs : List Loc} {ls : Array Slot} (S : SC A D ac st p m c prog_8_method_4_code 4 s args "SweeperRounds$Street" R cells slots 1 21) (hR : RtI A D ac ad p l e R s m args below meth c prog_8_method_4_code cells slots QW Q) (hk_r0 : kd r0 = 6) (hG : DG A D ac ad s σ H locs) (hl : lv_has ls 4 [(0, .ref (ad r0)), (1, .int x1)]) (hf : m_6_dirtOfSide r0 x1 Q σ) : W p l e R s m args below meth c H locs cells slots QW (F0 m 0 ls []) := by
  have hx := S.1.1
  have hb := S.1.2.1
  unfold m_6_dirtOfSide at hf
  refine lv_iconst (v := (0 : Int32)) hx hb d_6_dirtOfSide_0 (by decide) ?_
  refine lv_istore_n (lv' := [(2, .int (0 : Int32)), (0, .ref (ad r0)), (1, .int x1)]) hx hb d_6_dirtOfSide_1 rfl hl (by decide) rfl (fun ls hl => ?_)
  refine lv_iconst (v := (0 : Int32)) hx hb d_6_dirtOfSide_2 (by decide) ?_
  refine lv_istore_n (lv' := [(3, .int (0 : Int32)), (2, .int (0 : Int32)), (0, .ref (ad r0)), (1, .int x1)]) hx hb d_6_dirtOfSide_3 rfl hl (by decide) rfl (fun ls hl => ?_)
  exact lp_6_dirtOfSide_4 S hR hk_r0  FU _ _ _ _ _ _  hG (lv_sub hl [2, 3, 1, 0] rfl) hf
theorem c_6_dirtOfSide (l : Launch) {D : va_G} {ac : Nat → ClassId} {ad : Nat → Nat} {st : SS} {A : Nat → Prop} {σ : St} {r0 : Nat} {x1 : Int32} {Q : Int32 → St → Prop} (hk_r0 : kd r0 = 6) (hf : m_6_dirtOfSide r0 x1 Q σ) : Met l y_6_dirtOfSide (Cond.code y_6_dirtOfSide prog_8_method_4_code 4 (some .int) :: wA) { frames := 1, cells := 0, slots := 0, locals := 21 } (va_Pc [.ref (ad r0), .int x1] (GSt A D ac ad st σ)) (va_Qi Q (GSt A D ac ad st) A) 0 0 A :=
  mkI l (by decide +kernel) rfl [.ref (ad r0), .int x1] (Nat.le_of_ble_eq_true rfl) (fun p e s m args below meth c ls QW S hR hG hl => w_6_dirtOfSide_0 S hR hk_r0 hG hl hf)
set_option maxHeartbeats 4000000 in
set_option maxRecDepth 100000 in
theorem w_6_parkedCells_31 {r0 : Nat} {x2 : Int32} {B4 : Int32 → Int32 → St → Prop} {Q : Int32 → St → Prop} {t0 : Int32} {t1 : Int32} {σ : St} {H : Heap} {locs : List Loc} {ls : Array Slot} (S : SC A D ac st p m c prog_8_method_6_code 3 s args "SweeperRounds$Street" R cells slots 1 21) (hR : RtI A D ac ad p l e R s m args below meth c prog_8_method_6_code cells slots QW Q) (hk_r0 : kd r0 = 6) (hB4 : ∀ (x1 : Int32) (x2 : Int32) (σ : St) (H : Heap) (locs : List Loc) (ls : Array Slot), DG A D ac ad s σ H locs → lv_has ls 3 [(0, .ref (ad r0)), (1, .int x1), (2, .int x2)] → B4 x1 x2 σ → W p l e R s m args below meth c H locs cells slots QW (F0 m 4 ls [])) (hG : DG A D ac ad s σ H locs) (hl : lv_has ls 3 [(0, .ref (ad r0)), (2, .int x2)]) (hf : m_6_parkedCells_31 r0 x2 B4 Q t0 t1 σ) : W p l e R s m args below meth c H locs cells slots QW (F0 m 31 ls [.int t0, .int t1]) := by
  have hx := S.1.1
  have hb := S.1.2.1
  unfold m_6_parkedCells_31 at hf
  refine lv_iadd hx hb d_6_parkedCells_31 ?_
  refine lv_topi (fun x1_1 ex1_1 => ?_)
  have hf := hf x1_1 ex1_1
  refine lv_istore_n (lv' := [(1, .int x1_1), (0, .ref (ad r0)), (2, .int x2)]) hx hb d_6_parkedCells_32 rfl hl (by decide) rfl (fun ls hl => ?_)
  refine lv_iload_n hx hb d_6_parkedCells_33 rfl (lv_at hl 0 rfl) ?_
  refine lv_aload_n hx hb d_6_parkedCells_34 rfl (lv_at hl 1 rfl) ?_
  refine gf_6_15 S hG hk_r0 d_6_parkedCells_35 ?_
  refine lv_iconst (v := (1 : Int32)) hx hb d_6_parkedCells_38 (by decide) ?_
  refine lv_iload_n hx hb d_6_parkedCells_39 rfl (lv_at hl 2 rfl) ?_
  refine iv_6_29 S hl.1 hG  (c_9_placeOf l  hf) ⟨Nat.le_of_ble_eq_true rfl, Nat.le_of_ble_eq_true rfl⟩ (Nat.le_of_ble_eq_true rfl) d_6_parkedCells_40 (fun v_3 σ_2 hf H locs hG => ?_)
  refine mza S hG (kr_6_4 hk_r0) hf.1 d_6_parkedCells_43 ?_
  have hf := hf.2
  refine lv_if_eq (tgt := 51) hx hb d_6_parkedCells_44 (by decide) (fun hc => ?_) (fun hc => ?_)
  · have hf := hf.1 hc
    refine lv_iconst (v := (0 : Int32)) hx hb d_6_parkedCells_51 (by decide) ?_
    refine lv_iadd hx hb d_6_parkedCells_52 ?_
    refine lv_topi (fun x1_4 ex1_4 => ?_)
    have hf := hf x1_4 ex1_4
    refine lv_istore_n (lv' := [(1, .int x1_4), (0, .ref (ad r0)), (2, .int x2)]) hx hb d_6_parkedCells_53 rfl hl (by decide) rfl (fun ls hl => ?_)
    obtain ⟨x2_5, ex2_5⟩ : ∃ y : Int32, y = x2 + 1 := ⟨_, rfl⟩
    have hf := hf x2_5 ex2_5
    refine lv_iinc (v := x2_5) (lv' := [(2, .int x2_5), (1, .int x1_4), (0, .ref (ad r0))]) hx hb d_6_parkedCells_54 hl (k := 2) rfl (by rw [ex2_5]; rfl) (by decide) rfl (fun ls hl => ?_)
    refine lv_goto (tgt := 4) hx hb d_6_parkedCells_57 (by decide) ?_
    exact hB4 _ _ _ _ _ _   hG (lv_sub hl [2, 1, 0] rfl) hf
  · have hf := hf.2 hc
    refine lv_iconst (v := (1 : Int32)) hx hb d_6_parkedCells_47 (by decide) ?_
    refine lv_goto (tgt := 52) hx hb d_6_parkedCells_48 (by decide) ?_
    refine lv_iadd hx hb d_6_parkedCells_52 ?_
    refine lv_topi (fun x1_6 ex1_6 => ?_)
    have hf := hf x1_6 ex1_6
    refine lv_istore_n (lv' := [(1, .int x1_6), (0, .ref (ad r0)), (2, .int x2)]) hx hb d_6_parkedCells_53 rfl hl (by decide) rfl (fun ls hl => ?_)
    obtain ⟨x2_7, ex2_7⟩ : ∃ y : Int32, y = x2 + 1 := ⟨_, rfl⟩
    have hf := hf x2_7 ex2_7
    refine lv_iinc (v := x2_7) (lv' := [(2, .int x2_7), (1, .int x1_6), (0, .ref (ad r0))]) hx hb d_6_parkedCells_54 hl (k := 2) rfl (by rw [ex2_7]; rfl) (by decide) rfl (fun ls hl => ?_)
    refine lv_goto (tgt := 4) hx hb d_6_parkedCells_57 (by decide) ?_
    exact hB4 _ _ _ _ _ _   hG (lv_sub hl [2, 1, 0] rfl) hf
set_option maxHeartbeats 4000000 in
set_option maxRecDepth 100000 in
theorem w_6_parkedCells_4 {r0 : Nat} {Q : Int32 → St → Prop} {B4 : Int32 → Int32 → St → Prop} {x1 : Int32} {x2 : Int32} {σ : St} {H : Heap} {locs : List Loc} {ls : Array Slot} (S : SC A D ac st p m c prog_8_method_6_code 3 s args "SweeperRounds$Street" R cells slots 1 21) (hR : RtI A D ac ad p l e R s m args below meth c prog_8_method_6_code cells slots QW Q) (hk_r0 : kd r0 = 6) (hB4 : ∀ (x1 : Int32) (x2 : Int32) (σ : St) (H : Heap) (locs : List Loc) (ls : Array Slot), DG A D ac ad s σ H locs → lv_has ls 3 [(0, .ref (ad r0)), (1, .int x1), (2, .int x2)] → B4 x1 x2 σ → W p l e R s m args below meth c H locs cells slots QW (F0 m 4 ls [])) (hG : DG A D ac ad s σ H locs) (hl : lv_has ls 3 [(0, .ref (ad r0)), (1, .int x1), (2, .int x2)]) (hf : m_6_parkedCells_4 r0 Q B4 x1 x2 σ) : W p l e R s m args below meth c H locs cells slots QW (F0 m 4 ls []) := by
  have hx := S.1.1
  have hb := S.1.2.1
  unfold m_6_parkedCells_4 at hf
  refine lv_iload_n hx hb d_6_parkedCells_4 rfl (lv_at hl 2 rfl) ?_
  refine lv_aload_n hx hb d_6_parkedCells_5 rfl (lv_at hl 0 rfl) ?_
  refine gf_6_19 S hG hk_r0 d_6_parkedCells_6 ?_
  refine lv_icmp_ge (tgt := 60) hx hb d_6_parkedCells_9 (by decide) (fun hc => ?_) (fun hc => ?_)
  · have hf := hf.1 hc
    refine lv_iload_n hx hb d_6_parkedCells_60 rfl (lv_at hl 1 rfl) ?_
    exact hR _ _ _ _ _ _ hG hf d_6_parkedCells_61
  · have hf := hf.2 hc
    refine lv_iload_n hx hb d_6_parkedCells_12 rfl (lv_at hl 1 rfl) ?_
    refine lv_aload_n hx hb d_6_parkedCells_13 rfl (lv_at hl 0 rfl) ?_
    refine gf_6_15 S hG hk_r0 d_6_parkedCells_14 ?_
    refine lv_iconst (v := (0 : Int32)) hx hb d_6_parkedCells_17 (by decide) ?_
    refine lv_iload_n hx hb d_6_parkedCells_18 rfl (lv_at hl 2 rfl) ?_
    refine iv_6_29 S hl.1 hG  (c_9_placeOf l  hf) ⟨Nat.le_of_ble_eq_true rfl, Nat.le_of_ble_eq_true rfl⟩ (Nat.le_of_ble_eq_true rfl) d_6_parkedCells_19 (fun v_2 σ_1 hf H locs hG => ?_)
    refine mza S hG (kr_6_4 hk_r0) hf.1 d_6_parkedCells_22 ?_
    have hf := hf.2
    refine lv_if_eq (tgt := 30) hx hb d_6_parkedCells_23 (by decide) (fun hc => ?_) (fun hc => ?_)
    · have hf := hf.1 hc
      refine lv_iconst (v := (0 : Int32)) hx hb d_6_parkedCells_30 (by decide) ?_
      exact w_6_parkedCells_31 S hR hk_r0   hB4 hG (lv_sub hl [0, 2] rfl) hf
    · have hf := hf.2 hc
      refine lv_iconst (v := (1 : Int32)) hx hb d_6_parkedCells_26 (by decide) ?_
      refine lv_goto (tgt := 31) hx hb d_6_parkedCells_27 (by decide) ?_
      exact w_6_parkedCells_31 S hR hk_r0   hB4 hG (lv_sub hl [0, 2] rfl) hf
set_option maxHeartbeats 4000000 in
set_option maxRecDepth 100000 in
theorem lp_6_parkedCells_4 {r0 : Nat} {Q : Int32 → St → Prop} (S : SC A D ac st p m c prog_8_method_6_code 3 s args "SweeperRounds$Street" R cells slots 1 21) (hR : RtI A D ac ad p l e R s m args below meth c prog_8_method_6_code cells slots QW Q) (hk_r0 : kd r0 = 6) : ∀ (n : Nat) (x1 : Int32) (x2 : Int32) (σ : St) (H : Heap) (locs : List Loc) (ls : Array Slot), DG A D ac ad s σ H locs → lv_has ls 3 [(0, .ref (ad r0)), (1, .int x1), (2, .int x2)] → itN (m_6_parkedCells_4 r0 Q) (fun _ _ _ => False) n x1 x2 σ → W p l e R s m args below meth c H locs cells slots QW (F0 m 4 ls []) := by
  intro n
  induction n with
  | zero =>
    intro x1 x2 σ H locs ls  hG hl hf
    exact hf.elim
  | succ n ih =>
    intro x1 x2 σ H locs ls  hG hl hf
    exact w_6_parkedCells_4 S hR hk_r0  ih hG hl hf
set_option maxHeartbeats 4000000 in
set_option maxRecDepth 100000 in
theorem w_6_parkedCells_0 {r0 : Nat} {Q : Int32 → St → Prop} {σ : St} {H : Heap} {locs : List Loc} {ls : Array Slot} (S : SC A D ac st p m c prog_8_method_6_code 3 s args "SweeperRounds$Street" R cells slots 1 21) (hR : RtI A D ac ad p l e R s m args below meth c prog_8_method_6_code cells slots QW Q) (hk_r0 : kd r0 = 6) (hG : DG A D ac ad s σ H locs) (hl : lv_has ls 3 [(0, .ref (ad r0))]) (hf : m_6_parkedCells r0 Q σ) : W p l e R s m args below meth c H locs cells slots QW (F0 m 0 ls []) := by
  have hx := S.1.1
  have hb := S.1.2.1
  unfold m_6_parkedCells at hf
  refine lv_iconst (v := (0 : Int32)) hx hb d_6_parkedCells_0 (by decide) ?_
  refine lv_istore_n (lv' := [(1, .int (0 : Int32)), (0, .ref (ad r0))]) hx hb d_6_parkedCells_1 rfl hl (by decide) rfl (fun ls hl => ?_)
  refine lv_iconst (v := (0 : Int32)) hx hb d_6_parkedCells_2 (by decide) ?_
  refine lv_istore_n (lv' := [(2, .int (0 : Int32)), (1, .int (0 : Int32)), (0, .ref (ad r0))]) hx hb d_6_parkedCells_3 rfl hl (by decide) rfl (fun ls hl => ?_)
  exact lp_6_parkedCells_4 S hR hk_r0  FU _ _ _ _ _ _  hG (lv_sub hl [2, 1, 0] rfl) hf
theorem c_6_parkedCells (l : Launch) {D : va_G} {ac : Nat → ClassId} {ad : Nat → Nat} {st : SS} {A : Nat → Prop} {σ : St} {r0 : Nat} {Q : Int32 → St → Prop} (hk_r0 : kd r0 = 6) (hf : m_6_parkedCells r0 Q σ) : Met l y_6_parkedCells (Cond.code y_6_parkedCells prog_8_method_6_code 3 (some .int) :: wA) { frames := 1, cells := 0, slots := 0, locals := 21 } (va_Pc [.ref (ad r0)] (GSt A D ac ad st σ)) (va_Qi Q (GSt A D ac ad st) A) 0 0 A :=
  mkI l (by decide +kernel) rfl [.ref (ad r0)] (Nat.le_of_ble_eq_true rfl) (fun p e s m args below meth c ls QW S hR hG hl => w_6_parkedCells_0 S hR hk_r0 hG hl hf)
set_option maxHeartbeats 4000000 in
set_option maxRecDepth 100000 in
theorem w_6_greatestDirt_4 {r0 : Nat} {Q : Int32 → St → Prop} {B4 : Int32 → Int32 → St → Prop} {x1 : Int32} {x2 : Int32} {σ : St} {H : Heap} {locs : List Loc} {ls : Array Slot} (S : SC A D ac st p m c prog_8_method_7_code 3 s args "SweeperRounds$Street" R cells slots 1 21) (hR : RtI A D ac ad p l e R s m args below meth c prog_8_method_7_code cells slots QW Q) (hk_r0 : kd r0 = 6) (hB4 : ∀ (x1 : Int32) (x2 : Int32) (σ : St) (H : Heap) (locs : List Loc) (ls : Array Slot), DG A D ac ad s σ H locs → lv_has ls 3 [(0, .ref (ad r0)), (1, .int x1), (2, .int x2)] → B4 x1 x2 σ → W p l e R s m args below meth c H locs cells slots QW (F0 m 4 ls [])) (hG : DG A D ac ad s σ H locs) (hl : lv_has ls 3 [(0, .ref (ad r0)), (1, .int x1), (2, .int x2)]) (hf : m_6_greatestDirt_4 r0 Q B4 x1 x2 σ) : W p l e R s m args below meth c H locs cells slots QW (F0 m 4 ls []) := by
  have hx := S.1.1
  have hb := S.1.2.1
  unfold m_6_greatestDirt_4 at hf
  refine lv_iload_n hx hb d_6_greatestDirt_4 rfl (lv_at hl 2 rfl) ?_
  refine lv_aload_n hx hb d_6_greatestDirt_5 rfl (lv_at hl 0 rfl) ?_
  refine gf_6_19 S hG hk_r0 d_6_greatestDirt_6 ?_
  refine lv_icmp_ge (tgt := 48) hx hb d_6_greatestDirt_9 (by decide) (fun hc => ?_) (fun hc => ?_)
  · have hf := hf.1 hc
    refine lv_iload_n hx hb d_6_greatestDirt_48 rfl (lv_at hl 1 rfl) ?_
    exact hR _ _ _ _ _ _ hG hf d_6_greatestDirt_49
  · have hf := hf.2 hc
    refine lv_iload_n hx hb d_6_greatestDirt_12 rfl (lv_at hl 1 rfl) ?_
    refine lv_aload_n hx hb d_6_greatestDirt_13 rfl (lv_at hl 0 rfl) ?_
    refine gf_6_9 S hG hk_r0 d_6_greatestDirt_14 ?_
    refine lv_iconst (v := (0 : Int32)) hx hb d_6_greatestDirt_17 (by decide) ?_
    refine lv_iload_n hx hb d_6_greatestDirt_18 rfl (lv_at hl 2 rfl) ?_
    refine iv_6_29 S hl.1 hG  (c_9_placeOf l  hf) ⟨Nat.le_of_ble_eq_true rfl, Nat.le_of_ble_eq_true rfl⟩ (Nat.le_of_ble_eq_true rfl) d_6_greatestDirt_19 (fun v_2 σ_1 hf H locs hG => ?_)
    refine mia S hG 20 rfl rfl (kr_6_3 hk_r0) hf.1 d_6_greatestDirt_22 ?_
    have hf := hf.2
    refine mmx S hl.1 wm_396 wm_355 wm_20 wm_356 (by decide) (Nat.le_of_ble_eq_true rfl) d_6_greatestDirt_23 ?_
    refine lv_topi (fun x1_3 ex1_3 => ?_)
    have hf := hf x1_3 ex1_3
    refine lv_istore_n (lv' := [(1, .int x1_3), (0, .ref (ad r0)), (2, .int x2)]) hx hb d_6_greatestDirt_26 rfl hl (by decide) rfl (fun ls hl => ?_)
    refine lv_iload_n hx hb d_6_greatestDirt_27 rfl (lv_at hl 0 rfl) ?_
    refine lv_aload_n hx hb d_6_greatestDirt_28 rfl (lv_at hl 1 rfl) ?_
    refine gf_6_9 S hG hk_r0 d_6_greatestDirt_29 ?_
    refine lv_iconst (v := (1 : Int32)) hx hb d_6_greatestDirt_32 (by decide) ?_
    refine lv_iload_n hx hb d_6_greatestDirt_33 rfl (lv_at hl 2 rfl) ?_
    refine iv_6_29 S hl.1 hG  (c_9_placeOf l  hf) ⟨Nat.le_of_ble_eq_true rfl, Nat.le_of_ble_eq_true rfl⟩ (Nat.le_of_ble_eq_true rfl) d_6_greatestDirt_34 (fun v_5 σ_4 hf H locs hG => ?_)
    refine mia S hG 20 rfl rfl (kr_6_3 hk_r0) hf.1 d_6_greatestDirt_37 ?_
    have hf := hf.2
    refine mmx S hl.1 wm_396 wm_355 wm_20 wm_356 (by decide) (Nat.le_of_ble_eq_true rfl) d_6_greatestDirt_38 ?_
    refine lv_topi (fun x1_6 ex1_6 => ?_)
    have hf := hf x1_6 ex1_6
    refine lv_istore_n (lv' := [(1, .int x1_6), (0, .ref (ad r0)), (2, .int x2)]) hx hb d_6_greatestDirt_41 rfl hl (by decide) rfl (fun ls hl => ?_)
    obtain ⟨x2_7, ex2_7⟩ : ∃ y : Int32, y = x2 + 1 := ⟨_, rfl⟩
    have hf := hf x2_7 ex2_7
    refine lv_iinc (v := x2_7) (lv' := [(2, .int x2_7), (1, .int x1_6), (0, .ref (ad r0))]) hx hb d_6_greatestDirt_42 hl (k := 2) rfl (by rw [ex2_7]; rfl) (by decide) rfl (fun ls hl => ?_)
    refine lv_goto (tgt := 4) hx hb d_6_greatestDirt_45 (by decide) ?_
    exact hB4 _ _ _ _ _ _   hG (lv_sub hl [2, 1, 0] rfl) hf
set_option maxHeartbeats 4000000 in
set_option maxRecDepth 100000 in
theorem lp_6_greatestDirt_4 {r0 : Nat} {Q : Int32 → St → Prop} (S : SC A D ac st p m c prog_8_method_7_code 3 s args "SweeperRounds$Street" R cells slots 1 21) (hR : RtI A D ac ad p l e R s m args below meth c prog_8_method_7_code cells slots QW Q) (hk_r0 : kd r0 = 6) : ∀ (n : Nat) (x1 : Int32) (x2 : Int32) (σ : St) (H : Heap) (locs : List Loc) (ls : Array Slot), DG A D ac ad s σ H locs → lv_has ls 3 [(0, .ref (ad r0)), (1, .int x1), (2, .int x2)] → itN (m_6_greatestDirt_4 r0 Q) (fun _ _ _ => False) n x1 x2 σ → W p l e R s m args below meth c H locs cells slots QW (F0 m 4 ls []) := by
  intro n
  induction n with
  | zero =>
    intro x1 x2 σ H locs ls  hG hl hf
    exact hf.elim
  | succ n ih =>
    intro x1 x2 σ H locs ls  hG hl hf
    exact w_6_greatestDirt_4 S hR hk_r0  ih hG hl hf
set_option maxHeartbeats 4000000 in
set_option maxRecDepth 100000 in
theorem w_6_greatestDirt_0 {r0 : Nat} {Q : Int32 → St → Prop} {σ : St} {H : Heap} {locs : List Loc} {ls : Array Slot} (S : SC A D ac st p m c prog_8_method_7_code 3 s args "SweeperRounds$Street" R cells slots 1 21) (hR : RtI A D ac ad p l e R s m args below meth c prog_8_method_7_code cells slots QW Q) (hk_r0 : kd r0 = 6) (hG : DG A D ac ad s σ H locs) (hl : lv_has ls 3 [(0, .ref (ad r0))]) (hf : m_6_greatestDirt r0 Q σ) : W p l e R s m args below meth c H locs cells slots QW (F0 m 0 ls []) := by
  have hx := S.1.1
  have hb := S.1.2.1
  unfold m_6_greatestDirt at hf
  refine lv_iconst (v := (0 : Int32)) hx hb d_6_greatestDirt_0 (by decide) ?_
  refine lv_istore_n (lv' := [(1, .int (0 : Int32)), (0, .ref (ad r0))]) hx hb d_6_greatestDirt_1 rfl hl (by decide) rfl (fun ls hl => ?_)
  refine lv_iconst (v := (0 : Int32)) hx hb d_6_greatestDirt_2 (by decide) ?_
  refine lv_istore_n (lv' := [(2, .int (0 : Int32)), (1, .int (0 : Int32)), (0, .ref (ad r0))]) hx hb d_6_greatestDirt_3 rfl hl (by decide) rfl (fun ls hl => ?_)
  exact lp_6_greatestDirt_4 S hR hk_r0  FU _ _ _ _ _ _  hG (lv_sub hl [2, 1, 0] rfl) hf
theorem c_6_greatestDirt (l : Launch) {D : va_G} {ac : Nat → ClassId} {ad : Nat → Nat} {st : SS} {A : Nat → Prop} {σ : St} {r0 : Nat} {Q : Int32 → St → Prop} (hk_r0 : kd r0 = 6) (hf : m_6_greatestDirt r0 Q σ) : Met l y_6_greatestDirt (Cond.code y_6_greatestDirt prog_8_method_7_code 3 (some .int) :: wA) { frames := 1, cells := 0, slots := 0, locals := 21 } (va_Pc [.ref (ad r0)] (GSt A D ac ad st σ)) (va_Qi Q (GSt A D ac ad st) A) 0 0 A :=
  mkI l (by decide +kernel) rfl [.ref (ad r0)] (Nat.le_of_ble_eq_true rfl) (fun p e s m args below meth c ls QW S hR hG hl => w_6_greatestDirt_0 S hR hk_r0 hG hl hf)
set_option maxHeartbeats 4000000 in
set_option maxRecDepth 100000 in
theorem w_8_legsIn_4 {r0 : Nat} {x1 : Int32} {Q : Int32 → St → Prop} {B4 : Int32 → Int32 → St → Prop} {x2 : Int32} {x3 : Int32} {σ : St} {H : Heap} {locs : List Loc} {ls : Array Slot} (S : SC A D ac st p m c prog_10_method_7_code 4 s args "SweeperRounds$World" R cells slots 0 0) (hR : RtI A D ac ad p l e R s m args below meth c prog_10_method_7_code cells slots QW Q) (hk_r0 : kd r0 = 8) (hB4 : ∀ (x2 : Int32) (x3 : Int32) (σ : St) (H : Heap) (locs : List Loc) (ls : Array Slot), DG A D ac ad s σ H locs → lv_has ls 4 [(0, .ref (ad r0)), (1, .int x1), (2, .int x2), (3, .int x3)] → B4 x2 x3 σ → W p l e R s m args below meth c H locs cells slots QW (F0 m 4 ls [])) (hG : DG A D ac ad s σ H locs) (hl : lv_has ls 4 [(0, .ref (ad r0)), (1, .int x1), (2, .int x2), (3, .int x3)]) (hf : m_8_legsIn_4 r0 x1 Q B4 x2 x3 σ) : W p l e R s m args below meth c H locs cells slots QW (F0 m 4 ls []) := by
  have hx := S.1.1
  have hb := S.1.2.1
  unfold m_8_legsIn_4 at hf
  refine lv_iload_n hx hb d_8_legsIn_4 rfl (lv_at hl 3 rfl) ?_
  refine lv_aload_n hx hb d_8_legsIn_5 rfl (lv_at hl 0 rfl) ?_
  refine gf_8_59 S hG hk_r0 d_8_legsIn_6 ?_
  refine lv_icmp_ge (tgt := 39) hx hb d_8_legsIn_9 (by decide) (fun hc => ?_) (fun hc => ?_)
  · have hf := hf.1 hc
    refine lv_iload_n hx hb d_8_legsIn_39 rfl (lv_at hl 2 rfl) ?_
    exact hR _ _ _ _ _ _ hG hf d_8_legsIn_40
  · have hf := hf.2 hc
    refine lv_iload_n hx hb d_8_legsIn_12 rfl (lv_at hl 2 rfl) ?_
    refine lv_aload_n hx hb d_8_legsIn_13 rfl (lv_at hl 0 rfl) ?_
    refine gf_8_19 S hG hk_r0 d_8_legsIn_14 ?_
    refine lv_iload_n hx hb d_8_legsIn_17 rfl (lv_at hl 3 rfl) ?_
    refine mq4 S hG (kr_8_2 hk_r0) hf.1 d_8_legsIn_18 ?_
    have hi_1 := vin_lt hf.1
    have hf := hf.2
    refine gf_8_92 S hG (ke_24 (kr_8_2 hk_r0) hi_1) d_8_legsIn_19 ?_
    refine lv_iload_n hx hb d_8_legsIn_22 rfl (lv_at hl 1 rfl) ?_
    refine lv_icmp_ne (tgt := 30) hx hb d_8_legsIn_23 (by decide) (fun hc => ?_) (fun hc => ?_)
    · have hf := hf.1 hc
      refine lv_iconst (v := (0 : Int32)) hx hb d_8_legsIn_30 (by decide) ?_
      refine lv_iadd hx hb d_8_legsIn_31 ?_
      refine lv_topi (fun x2_2 ex2_2 => ?_)
      have hf := hf x2_2 ex2_2
      refine lv_istore_n (lv' := [(2, .int x2_2), (0, .ref (ad r0)), (1, .int x1), (3, .int x3)]) hx hb d_8_legsIn_32 rfl hl (by decide) rfl (fun ls hl => ?_)
      obtain ⟨x3_3, ex3_3⟩ : ∃ y : Int32, y = x3 + 1 := ⟨_, rfl⟩
      have hf := hf x3_3 ex3_3
      refine lv_iinc (v := x3_3) (lv' := [(3, .int x3_3), (2, .int x2_2), (0, .ref (ad r0)), (1, .int x1)]) hx hb d_8_legsIn_33 hl (k := 3) rfl (by rw [ex3_3]; rfl) (by decide) rfl (fun ls hl => ?_)
      refine lv_goto (tgt := 4) hx hb d_8_legsIn_36 (by decide) ?_
      exact hB4 _ _ _ _ _ _   hG (lv_sub hl [2, 3, 1, 0] rfl) hf
    · have hf := hf.2 hc
      refine lv_iconst (v := (1 : Int32)) hx hb d_8_legsIn_26 (by decide) ?_
      refine lv_goto (tgt := 31) hx hb d_8_legsIn_27 (by decide) ?_
      refine lv_iadd hx hb d_8_legsIn_31 ?_
      refine lv_topi (fun x2_4 ex2_4 => ?_)
      have hf := hf x2_4 ex2_4
      refine lv_istore_n (lv' := [(2, .int x2_4), (0, .ref (ad r0)), (1, .int x1), (3, .int x3)]) hx hb d_8_legsIn_32 rfl hl (by decide) rfl (fun ls hl => ?_)
      obtain ⟨x3_5, ex3_5⟩ : ∃ y : Int32, y = x3 + 1 := ⟨_, rfl⟩
      have hf := hf x3_5 ex3_5
      refine lv_iinc (v := x3_5) (lv' := [(3, .int x3_5), (2, .int x2_4), (0, .ref (ad r0)), (1, .int x1)]) hx hb d_8_legsIn_33 hl (k := 3) rfl (by rw [ex3_5]; rfl) (by decide) rfl (fun ls hl => ?_)
      refine lv_goto (tgt := 4) hx hb d_8_legsIn_36 (by decide) ?_
      exact hB4 _ _ _ _ _ _   hG (lv_sub hl [2, 3, 1, 0] rfl) hf
set_option maxHeartbeats 4000000 in
set_option maxRecDepth 100000 in
theorem lp_8_legsIn_4 {r0 : Nat} {x1 : Int32} {Q : Int32 → St → Prop} (S : SC A D ac st p m c prog_10_method_7_code 4 s args "SweeperRounds$World" R cells slots 0 0) (hR : RtI A D ac ad p l e R s m args below meth c prog_10_method_7_code cells slots QW Q) (hk_r0 : kd r0 = 8) : ∀ (n : Nat) (x2 : Int32) (x3 : Int32) (σ : St) (H : Heap) (locs : List Loc) (ls : Array Slot), DG A D ac ad s σ H locs → lv_has ls 4 [(0, .ref (ad r0)), (1, .int x1), (2, .int x2), (3, .int x3)] → itN (m_8_legsIn_4 r0 x1 Q) (fun _ _ _ => False) n x2 x3 σ → W p l e R s m args below meth c H locs cells slots QW (F0 m 4 ls []) := by
  intro n
  induction n with
  | zero =>
    intro x2 x3 σ H locs ls  hG hl hf
    exact hf.elim
  | succ n ih =>
    intro x2 x3 σ H locs ls  hG hl hf
    exact w_8_legsIn_4 S hR hk_r0  ih hG hl hf
set_option maxHeartbeats 4000000 in
set_option maxRecDepth 100000 in
theorem w_8_legsIn_0 {r0 : Nat} {x1 : Int32} {Q : Int32 → St → Prop} {σ : St} {H : Heap} {locs : List Loc} {ls : Array Slot} (S : SC A D ac st p m c prog_10_method_7_code 4 s args "SweeperRounds$World" R cells slots 0 0) (hR : RtI A D ac ad p l e R s m args below meth c prog_10_method_7_code cells slots QW Q) (hk_r0 : kd r0 = 8) (hG : DG A D ac ad s σ H locs) (hl : lv_has ls 4 [(0, .ref (ad r0)), (1, .int x1)]) (hf : m_8_legsIn r0 x1 Q σ) : W p l e R s m args below meth c H locs cells slots QW (F0 m 0 ls []) := by
  have hx := S.1.1
  have hb := S.1.2.1
  unfold m_8_legsIn at hf
  refine lv_iconst (v := (0 : Int32)) hx hb d_8_legsIn_0 (by decide) ?_
  refine lv_istore_n (lv' := [(2, .int (0 : Int32)), (0, .ref (ad r0)), (1, .int x1)]) hx hb d_8_legsIn_1 rfl hl (by decide) rfl (fun ls hl => ?_)
  refine lv_iconst (v := (0 : Int32)) hx hb d_8_legsIn_2 (by decide) ?_
  refine lv_istore_n (lv' := [(3, .int (0 : Int32)), (2, .int (0 : Int32)), (0, .ref (ad r0)), (1, .int x1)]) hx hb d_8_legsIn_3 rfl hl (by decide) rfl (fun ls hl => ?_)
  exact lp_8_legsIn_4 S hR hk_r0  FU _ _ _ _ _ _  hG (lv_sub hl [2, 3, 1, 0] rfl) hf
theorem c_8_legsIn (l : Launch) {D : va_G} {ac : Nat → ClassId} {ad : Nat → Nat} {st : SS} {A : Nat → Prop} {σ : St} {r0 : Nat} {x1 : Int32} {Q : Int32 → St → Prop} (hk_r0 : kd r0 = 8) (hf : m_8_legsIn r0 x1 Q σ) : Met l y_8_legsIn (Cond.code y_8_legsIn prog_10_method_7_code 4 (some .int) :: wA) { frames := 0, cells := 0, slots := 0, locals := 0 } (va_Pc [.ref (ad r0), .int x1] (GSt A D ac ad st σ)) (va_Qi Q (GSt A D ac ad st) A) 0 0 A :=
  mkI l (by decide +kernel) rfl [.ref (ad r0), .int x1] (Nat.le_of_ble_eq_true rfl) (fun p e s m args below meth c ls QW S hR hG hl => w_8_legsIn_0 S hR hk_r0 hG hl hf)
set_option maxHeartbeats 4000000 in
set_option maxRecDepth 100000 in
theorem w_9_street_0 {r0 : Nat} {x1 : Int32} {x2 : Int32} {Q : Int32 → St → Prop} {σ : St} {H : Heap} {locs : List Loc} {ls : Array Slot} (S : SC A D ac st p m c prog_1_method_11_code 4 s args "SweeperRounds" R cells slots 2 44) (hR : RtI A D ac ad p l e R s m args below meth c prog_1_method_11_code cells slots QW Q) (hk_r0 : kd r0 = 9) (hG : DG A D ac ad s σ H locs) (hl : lv_has ls 4 [(0, .ref (ad r0)), (1, .int x1), (2, .int x2)]) (hf : m_9_street r0 x1 x2 Q σ) : W p l e R s m args below meth c H locs cells slots QW (F0 m 0 ls []) := by
  have hx := S.1.1
  have hb := S.1.2.1
  unfold m_9_street at hf
  refine lv_aload_n hx hb d_9_street_0 rfl (lv_at hl 0 rfl) ?_
  refine gf_9_26 S hG hk_r0 d_9_street_1 ?_
  refine lv_iload_n hx hb d_9_street_4 rfl (lv_at hl 1 rfl) ?_
  refine iv_9_100 S hl.1 hG (kr_9_2 hk_r0) (c_8_hasStreet l (kr_9_2 hk_r0) hf) ⟨Nat.le_of_ble_eq_true rfl, Nat.le_of_ble_eq_true rfl⟩ (Nat.le_of_ble_eq_true rfl) d_9_street_5 (fun v_2 σ_1 hf H locs hG => ?_)
  refine lv_if_ne (tgt := 13) hx hb d_9_street_8 (by decide) (fun hc => ?_) (fun hc => ?_)
  · have hf := hf.1 hc
    refine lv_aload_n hx hb d_9_street_13 rfl (lv_at hl 0 rfl) ?_
    refine gf_9_26 S hG hk_r0 d_9_street_14 ?_
    refine gf_9_122 S hG (kr_9_2 hk_r0) d_9_street_17 ?_
    refine lv_iload_n hx hb d_9_street_20 rfl (lv_at hl 1 rfl) ?_
    refine mq3 S hG (kr_8_0 (kr_9_2 hk_r0)) hf.1 d_9_street_21 ?_
    have hi_3 := vin_lt hf.1
    have hf := hf.2
    refine lv_topr (fun r3_4 er3_4 => ?_)
    have hf := hf r3_4 er3_4
    have hk_r3_4 : kd r3_4 = 6 := er3_4 ▸ (ke_23 (kr_8_0 (kr_9_2 hk_r0)) hi_3)
    refine lv_astore_n (lv' := [(3, .ref (ad r3_4)), (0, .ref (ad r0)), (1, .int x1), (2, .int x2)]) hx hb d_9_street_22 rfl hl (by decide) rfl (fun ls hl => ?_)
    refine lv_iload_n hx hb d_9_street_23 rfl (lv_at hl 3 rfl) ?_
    refine lv_topi (fun q_5 eq_5 => ?_)
    rcases sw_0_7 q_5 with hq_5 | hq_5 | hq_5 | hq_5 | hq_5 | hq_5 | hq_5 | hq_5 | hq_5
    · rw [eq_5] at hq_5 ⊢
      refine lv_tableOut (tgt := 118) hx hb d_9_street_24 hq_5 (by decide) ?_
      have hf := hf.1 hq_5
      refine lv_iconst (v := (-1 : Int32)) hx hb d_9_street_118 (by decide) ?_
      exact hR _ _ _ _ _ _ hG hf d_9_street_119
    · subst hq_5
      refine lv_tableIn (off := 48) (tgt := 72) hx hb d_9_street_24 (by decide) (by decide) (by decide) (by decide) ?_
      have hf := hf.2.1 eq_5.symm
      refine lv_aload_n hx hb d_9_street_72 rfl (lv_at hl 0 rfl) ?_
      refine gf_9_91 S hG hk_r3_4 d_9_street_73 ?_
      exact hR _ _ _ _ _ _ hG hf d_9_street_76
    · subst hq_5
      refine lv_tableIn (off := 53) (tgt := 77) hx hb d_9_street_24 (by decide) (by decide) (by decide) (by decide) ?_
      have hf := hf.2.2.1 eq_5.symm
      refine lv_aload_n hx hb d_9_street_77 rfl (lv_at hl 0 rfl) ?_
      refine gf_9_149 S hG hk_r3_4 d_9_street_78 ?_
      exact hR _ _ _ _ _ _ hG hf d_9_street_81
    · subst hq_5
      refine lv_tableIn (off := 58) (tgt := 82) hx hb d_9_street_24 (by decide) (by decide) (by decide) (by decide) ?_
      have hf := hf.2.2.2.1 eq_5.symm
      refine lv_aload_n hx hb d_9_street_82 rfl (lv_at hl 0 rfl) ?_
      refine gf_9_152 S hG hk_r3_4 d_9_street_83 ?_
      exact hR _ _ _ _ _ _ hG hf d_9_street_86
    · subst hq_5
      refine lv_tableIn (off := 63) (tgt := 87) hx hb d_9_street_24 (by decide) (by decide) (by decide) (by decide) ?_
      have hf := hf.2.2.2.2.1 eq_5.symm
      refine lv_aload_n hx hb d_9_street_87 rfl (lv_at hl 0 rfl) ?_
      refine lv_iconst (v := (0 : Int32)) hx hb d_9_street_88 (by decide) ?_
      refine iv_9_155 S hl.1 hG hk_r3_4 (c_6_dirtOfSide l hk_r3_4 hf) ⟨Nat.le_of_ble_eq_true rfl, Nat.le_of_ble_eq_true rfl⟩ (Nat.le_of_ble_eq_true rfl) d_9_street_89 (fun v_7 σ_6 hf H locs hG => ?_)
      exact hR _ _ _ _ _ _ hG hf d_9_street_92
    · subst hq_5
      refine lv_tableIn (off := 69) (tgt := 93) hx hb d_9_street_24 (by decide) (by decide) (by decide) (by decide) ?_
      have hf := hf.2.2.2.2.2.1 eq_5.symm
      refine lv_aload_n hx hb d_9_street_93 rfl (lv_at hl 0 rfl) ?_
      refine lv_iconst (v := (1 : Int32)) hx hb d_9_street_94 (by decide) ?_
      refine iv_9_155 S hl.1 hG hk_r3_4 (c_6_dirtOfSide l hk_r3_4 hf) ⟨Nat.le_of_ble_eq_true rfl, Nat.le_of_ble_eq_true rfl⟩ (Nat.le_of_ble_eq_true rfl) d_9_street_95 (fun v_9 σ_8 hf H locs hG => ?_)
      exact hR _ _ _ _ _ _ hG hf d_9_street_98
    · subst hq_5
      refine lv_tableIn (off := 75) (tgt := 99) hx hb d_9_street_24 (by decide) (by decide) (by decide) (by decide) ?_
      have hf := hf.2.2.2.2.2.2.1 eq_5.symm
      refine lv_aload_n hx hb d_9_street_99 rfl (lv_at hl 0 rfl) ?_
      refine iv_9_159 S hl.1 hG hk_r3_4 (c_6_parkedCells l hk_r3_4 hf) ⟨Nat.le_of_ble_eq_true rfl, Nat.le_of_ble_eq_true rfl⟩ (Nat.le_of_ble_eq_true rfl) d_9_street_100 (fun v_11 σ_10 hf H locs hG => ?_)
      exact hR _ _ _ _ _ _ hG hf d_9_street_103
    · subst hq_5
      refine lv_tableIn (off := 80) (tgt := 104) hx hb d_9_street_24 (by decide) (by decide) (by decide) (by decide) ?_
      have hf := hf.2.2.2.2.2.2.2.1 eq_5.symm
      refine lv_aload_n hx hb d_9_street_104 rfl (lv_at hl 0 rfl) ?_
      refine iv_9_162 S hl.1 hG hk_r3_4 (c_6_greatestDirt l hk_r3_4 hf) ⟨Nat.le_of_ble_eq_true rfl, Nat.le_of_ble_eq_true rfl⟩ (Nat.le_of_ble_eq_true rfl) d_9_street_105 (fun v_13 σ_12 hf H locs hG => ?_)
      exact hR _ _ _ _ _ _ hG hf d_9_street_108
    · subst hq_5
      refine lv_tableIn (off := 85) (tgt := 109) hx hb d_9_street_24 (by decide) (by decide) (by decide) (by decide) ?_
      have hf := hf.2.2.2.2.2.2.2.2 eq_5.symm
      refine lv_aload_n hx hb d_9_street_109 rfl (lv_at hl 1 rfl) ?_
      refine gf_9_26 S hG hk_r0 d_9_street_110 ?_
      refine lv_iload_n hx hb d_9_street_113 rfl (lv_at hl 2 rfl) ?_
      refine iv_9_165 S hl.1 hG (kr_9_2 hk_r0) (c_8_legsIn l (kr_9_2 hk_r0) hf) ⟨Nat.le_of_ble_eq_true rfl, Nat.le_of_ble_eq_true rfl⟩ (Nat.le_of_ble_eq_true rfl) d_9_street_114 (fun v_15 σ_14 hf H locs hG => ?_)
      exact hR _ _ _ _ _ _ hG hf d_9_street_117
  · have hf := hf.2 hc
    refine lv_iconst (v := (-1 : Int32)) hx hb d_9_street_11 (by decide) ?_
    exact hR _ _ _ _ _ _ hG hf d_9_street_12
theorem c_9_street (l : Launch) {D : va_G} {ac : Nat → ClassId} {ad : Nat → Nat} {st : SS} {A : Nat → Prop} {σ : St} {r0 : Nat} {x1 : Int32} {x2 : Int32} {Q : Int32 → St → Prop} (hk_r0 : kd r0 = 9) (hf : m_9_street r0 x1 x2 Q σ) : Met l y_9_street (Cond.code y_9_street prog_1_method_11_code 4 (some .int) :: wA) { frames := 2, cells := 0, slots := 0, locals := 44 } (va_Pc [.ref (ad r0), .int x1, .int x2] (GSt A D ac ad st σ)) (va_Qi Q (GSt A D ac ad st) A) 0 0 A :=
  mkI l (by decide +kernel) rfl [.ref (ad r0), .int x1, .int x2] (Nat.le_of_ble_eq_true rfl) (fun p e s m args below meth c ls QW S hR hG hl => w_9_street_0 S hR hk_r0 hG hl hf)
set_option maxHeartbeats 4000000 in
set_option maxRecDepth 100000 in
theorem w_8_leastSetting_0 {r0 : Nat} {x1 : Int32} {Q : Int32 → St → Prop} {σ : St} {H : Heap} {locs : List Loc} {ls : Array Slot} (S : SC A D ac st p m c prog_10_method_15_code 2 s args "SweeperRounds$World" R cells slots 1 13) (hR : RtI A D ac ad p l e R s m args below meth c prog_10_method_15_code cells slots QW Q) (hk_r0 : kd r0 = 8) (hG : DG A D ac ad s σ H locs) (hl : lv_has ls 2 [(0, .ref (ad r0)), (1, .int x1)]) (hf : m_8_leastSetting r0 x1 Q σ) : W p l e R s m args below meth c H locs cells slots QW (F0 m 0 ls []) := by
  have hx := S.1.1
  have hb := S.1.2.1
  unfold m_8_leastSetting at hf
  refine lv_iload_n hx hb d_8_leastSetting_0 rfl (lv_at hl 1 rfl) ?_
  refine lv_iconst (v := (1 : Int32)) hx hb d_8_leastSetting_1 (by decide) ?_
  refine lv_icmp_ne (tgt := 20) hx hb d_8_leastSetting_2 (by decide) (fun hc => ?_) (fun hc => ?_)
  · have hf := hf.1 hc
    refine mgsN S hG 1 (by decide) (host := "SweeperRounds") (by decide +kernel) d_8_leastSetting_20 ?_
    refine lv_iload_n hx hb d_8_leastSetting_23 rfl (lv_at hl 1 rfl) ?_
    refine mts S hG 1 (by decide) hf.1 d_8_leastSetting_24 ?_
    have hf := hf.2
    exact hR _ _ _ _ _ _ hG hf d_8_leastSetting_25
  · have hf := hf.2 hc
    refine mgsN S hG 1 (by decide) (host := "SweeperRounds") (by decide +kernel) d_8_leastSetting_5 ?_
    refine lv_iload_n hx hb d_8_leastSetting_8 rfl (lv_at hl 1 rfl) ?_
    refine mts S hG 1 (by decide) hf.1 d_8_leastSetting_9 ?_
    have hf := hf.2
    refine lv_aload_n hx hb d_8_leastSetting_10 rfl (lv_at hl 0 rfl) ?_
    refine gf_8_69 S hG hk_r0 d_8_leastSetting_11 ?_
    refine mmx S hl.1 wm_354 wm_355 wm_20 wm_356 (by decide) (Nat.le_of_ble_eq_true rfl) d_8_leastSetting_14 ?_
    refine lv_goto (tgt := 25) hx hb d_8_leastSetting_17 (by decide) ?_
    exact hR _ _ _ _ _ _ hG hf d_8_leastSetting_25
theorem c_8_leastSetting (l : Launch) {D : va_G} {ac : Nat → ClassId} {ad : Nat → Nat} {st : SS} {A : Nat → Prop} {σ : St} {r0 : Nat} {x1 : Int32} {Q : Int32 → St → Prop} (hk_r0 : kd r0 = 8) (hf : m_8_leastSetting r0 x1 Q σ) : Met l y_8_leastSetting (Cond.code y_8_leastSetting prog_10_method_15_code 2 (some .int) :: wA) { frames := 1, cells := 0, slots := 0, locals := 13 } (va_Pc [.ref (ad r0), .int x1] (GSt A D ac ad st σ)) (va_Qi Q (GSt A D ac ad st) A) 0 0 A :=
  mkI l (by decide +kernel) rfl [.ref (ad r0), .int x1] (Nat.le_of_ble_eq_true rfl) (fun p e s m args below meth c ls QW S hR hG hl => w_8_leastSetting_0 S hR hk_r0 hG hl hf)
set_option maxHeartbeats 4000000 in
set_option maxRecDepth 100000 in
theorem w_9_set_0 {r0 : Nat} {x1 : Int32} {x2 : Int32} {Q : Int32 → St → Prop} {σ : St} {H : Heap} {locs : List Loc} {ls : Array Slot} (S : SC A D ac st p m c prog_1_method_12_code 4 s args "SweeperRounds" R cells slots 3 65) (hR : RtI A D ac ad p l e R s m args below meth c prog_1_method_12_code cells slots QW Q) (hk_r0 : kd r0 = 9) (hG : DG A D ac ad s σ H locs) (hl : lv_has ls 4 [(0, .ref (ad r0)), (1, .int x1), (2, .int x2)]) (hf : m_9_set r0 x1 x2 Q σ) : W p l e R s m args below meth c H locs cells slots QW (F0 m 0 ls []) := by
  have hx := S.1.1
  have hb := S.1.2.1
  unfold m_9_set at hf
  refine lv_iload_n hx hb d_9_set_0 rfl (lv_at hl 1 rfl) ?_
  refine lv_if_lt (tgt := 31) hx hb d_9_set_1 (by decide) (fun hc => ?_) (fun hc => ?_)
  · have hf := hf.1 hc
    refine lv_iconst (v := (-1 : Int32)) hx hb d_9_set_31 (by decide) ?_
    exact hR _ _ _ _ _ _ hG hf d_9_set_32
  · have hf := hf.2 hc
    refine lv_iload_n hx hb d_9_set_4 rfl (lv_at hl 1 rfl) ?_
    refine lv_bipush (v := (6 : Int32)) hx hb d_9_set_5 (by decide) ?_
    refine lv_icmp_ge (tgt := 31) hx hb d_9_set_7 (by decide) (fun hc => ?_) (fun hc => ?_)
    · have hf := hf.1 hc
      refine lv_iconst (v := (-1 : Int32)) hx hb d_9_set_31 (by decide) ?_
      exact hR _ _ _ _ _ _ hG hf d_9_set_32
    · have hf := hf.2 hc
      refine lv_iload_n hx hb d_9_set_10 rfl (lv_at hl 2 rfl) ?_
      refine lv_aload_n hx hb d_9_set_11 rfl (lv_at hl 0 rfl) ?_
      refine gf_9_26 S hG hk_r0 d_9_set_12 ?_
      refine lv_iload_n hx hb d_9_set_15 rfl (lv_at hl 1 rfl) ?_
      refine iv_9_168 S hl.1 hG (kr_9_2 hk_r0) (c_8_leastSetting l (kr_9_2 hk_r0) hf) ⟨Nat.le_of_ble_eq_true rfl, Nat.le_of_ble_eq_true rfl⟩ (Nat.le_of_ble_eq_true rfl) d_9_set_16 (fun v_2 σ_1 hf H locs hG => ?_)
      refine lv_icmp_lt (tgt := 31) hx hb d_9_set_19 (by decide) (fun hc => ?_) (fun hc => ?_)
      · have hf := hf.1 hc
        refine lv_iconst (v := (-1 : Int32)) hx hb d_9_set_31 (by decide) ?_
        exact hR _ _ _ _ _ _ hG hf d_9_set_32
      · have hf := hf.2 hc
        refine lv_iload_n hx hb d_9_set_22 rfl (lv_at hl 2 rfl) ?_
        refine mgs S hG 2 (by decide) wm_411 d_9_set_23 ?_
        refine lv_iload_n hx hb d_9_set_26 rfl (lv_at hl 1 rfl) ?_
        refine mts S hG 2 (by decide) hf.1 d_9_set_27 ?_
        have hf := hf.2
        refine lv_icmp_le (tgt := 33) hx hb d_9_set_28 (by decide) (fun hc => ?_) (fun hc => ?_)
        · have hf := hf.1 hc
          refine lv_aload_n hx hb d_9_set_33 rfl (lv_at hl 0 rfl) ?_
          refine gf_9_42 S hG hk_r0 d_9_set_34 ?_
          refine lv_aload_n hx hb d_9_set_37 rfl (lv_at hl 0 rfl) ?_
          refine gf_9_26 S hG hk_r0 d_9_set_38 ?_
          refine iv_9_80 S hl.1 hG (kr_9_4 hk_r0) (c_0_remember l (kr_9_4 hk_r0) (kr_9_2 hk_r0) hf) ⟨Nat.le_of_ble_eq_true rfl, Nat.le_of_ble_eq_true rfl⟩ (Nat.le_of_ble_eq_true rfl) d_9_set_41 (fun σ_3 hf H locs hG => ?_)
          refine lv_aload_n hx hb d_9_set_44 rfl (lv_at hl 0 rfl) ?_
          refine gf_9_26 S hG hk_r0 d_9_set_45 ?_
          refine gf_9_174 S hG (kr_9_2 hk_r0) d_9_set_48 ?_
          refine lv_iload_n hx hb d_9_set_51 rfl (lv_at hl 1 rfl) ?_
          refine mia S hG 26 rfl rfl (kr_8_5 (kr_9_2 hk_r0)) hf.1 d_9_set_52 ?_
          have hf := hf.2
          refine lv_topi (fun x3_5 ex3_5 => ?_)
          have hf := hf x3_5 ex3_5
          refine lv_istore_n (lv' := [(3, .int x3_5), (0, .ref (ad r0)), (1, .int x1), (2, .int x2)]) hx hb d_9_set_53 rfl hl (by decide) rfl (fun ls hl => ?_)
          refine lv_aload_n hx hb d_9_set_54 rfl (lv_at hl 1 rfl) ?_
          refine gf_9_26 S hG hk_r0 d_9_set_55 ?_
          refine gf_9_174 S hG (kr_9_2 hk_r0) d_9_set_58 ?_
          refine lv_iload_n hx hb d_9_set_61 rfl (lv_at hl 2 rfl) ?_
          refine lv_iload_n hx hb d_9_set_62 rfl (lv_at hl 3 rfl) ?_
          refine mis S hG 26 rfl rfl (kr_8_5 (kr_9_2 hk_r0)) hf.1 d_9_set_63 (fun σ_6 eσ_6 H locs hG => ?_)
          have hf := hf.2 σ_6 eσ_6
          refine lv_iload_n hx hb d_9_set_64 rfl (lv_at hl 0 rfl) ?_
          exact hR _ _ _ _ _ _ hG hf d_9_set_65
        · have hf := hf.2 hc
          refine lv_iconst (v := (-1 : Int32)) hx hb d_9_set_31 (by decide) ?_
          exact hR _ _ _ _ _ _ hG hf d_9_set_32
theorem c_9_set (l : Launch) {D : va_G} {ac : Nat → ClassId} {ad : Nat → Nat} {st : SS} {A : Nat → Prop} {σ : St} {r0 : Nat} {x1 : Int32} {x2 : Int32} {Q : Int32 → St → Prop} (hk_r0 : kd r0 = 9) (hf : m_9_set r0 x1 x2 Q σ) : Met l y_9_set (Cond.code y_9_set prog_1_method_12_code 4 (some .int) :: wA) { frames := 3, cells := 0, slots := 0, locals := 65 } (va_Pc [.ref (ad r0), .int x1, .int x2] (GSt A D ac ad st σ)) (va_Qi Q (GSt A D ac ad st) A) 0 0 A :=
  mkI l (by decide +kernel) rfl [.ref (ad r0), .int x1, .int x2] (Nat.le_of_ble_eq_true rfl) (fun p e s m args below meth c ls QW S hR hG hl => w_9_set_0 S hR hk_r0 hG hl hf)
set_option maxHeartbeats 4000000 in
set_option maxRecDepth 100000 in
theorem w_8_appendLeg_0 {r0 : Nat} {x1 : Int32} {x2 : Int32} {Q : Int32 → St → Prop} {σ : St} {H : Heap} {locs : List Loc} {ls : Array Slot} (S : SC A D ac st p m c prog_10_method_12_code 4 s args "SweeperRounds$World" R cells slots 0 0) (hR : RtI A D ac ad p l e R s m args below meth c prog_10_method_12_code cells slots QW Q) (hk_r0 : kd r0 = 8) (hG : DG A D ac ad s σ H locs) (hl : lv_has ls 4 [(0, .ref (ad r0)), (1, .int x1), (2, .int x2)]) (hf : m_8_appendLeg r0 x1 x2 Q σ) : W p l e R s m args below meth c H locs cells slots QW (F0 m 0 ls []) := by
  have hx := S.1.1
  have hb := S.1.2.1
  unfold m_8_appendLeg at hf
  refine lv_aload_n hx hb d_8_appendLeg_0 rfl (lv_at hl 0 rfl) ?_
  refine gf_8_19 S hG hk_r0 d_8_appendLeg_1 ?_
  refine lv_aload_n hx hb d_8_appendLeg_4 rfl (lv_at hl 0 rfl) ?_
  refine gf_8_59 S hG hk_r0 d_8_appendLeg_5 ?_
  refine mq4 S hG (kr_8_2 hk_r0) hf.1 d_8_appendLeg_8 ?_
  have hi_1 := vin_lt hf.1
  have hf := hf.2
  refine lv_topr (fun r3_2 er3_2 => ?_)
  have hf := hf r3_2 er3_2
  have hk_r3_2 : kd r3_2 = 1 := er3_2 ▸ (ke_24 (kr_8_2 hk_r0) hi_1)
  refine lv_astore_n (lv' := [(3, .ref (ad r3_2)), (0, .ref (ad r0)), (1, .int x1), (2, .int x2)]) hx hb d_8_appendLeg_9 rfl hl (by decide) rfl (fun ls hl => ?_)
  refine lv_aload_n hx hb d_8_appendLeg_10 rfl (lv_at hl 0 rfl) ?_
  refine lv_iload_n hx hb d_8_appendLeg_11 rfl (lv_at hl 2 rfl) ?_
  refine pf_8_92 S hG hk_r3_2 d_8_appendLeg_12 (fun σ_3 eσ_3 H locs hG => ?_)
  have hf := hf σ_3 eσ_3
  refine lv_aload_n hx hb d_8_appendLeg_15 rfl (lv_at hl 0 rfl) ?_
  refine lv_iload_n hx hb d_8_appendLeg_16 rfl (lv_at hl 3 rfl) ?_
  refine pf_8_108 S hG hk_r3_2 d_8_appendLeg_17 (fun σ_4 eσ_4 H locs hG => ?_)
  have hf := hf σ_4 eσ_4
  refine lv_aload_n hx hb d_8_appendLeg_20 rfl (lv_at hl 1 rfl) ?_
  refine lv_dup hx hb d_8_appendLeg_21 rfl ?_
  refine gf_8_59 S hG hk_r0 d_8_appendLeg_22 ?_
  refine lv_iconst (v := (1 : Int32)) hx hb d_8_appendLeg_25 (by decide) ?_
  refine lv_iadd hx hb d_8_appendLeg_26 ?_
  refine pf_8_59 S hG hk_r0 d_8_appendLeg_27 (fun σ_5 eσ_5 H locs hG => ?_)
  have hf := hf σ_5 eσ_5
  refine lv_aload_n hx hb d_8_appendLeg_30 rfl (lv_at hl 1 rfl) ?_
  refine lv_iconst (v := (0 : Int32)) hx hb d_8_appendLeg_31 (by decide) ?_
  refine pf_8_65 S hG hk_r0 (by unfold isB; decide) d_8_appendLeg_32 (fun σ_6 eσ_6 H locs hG => ?_)
  have hf := hf σ_6 eσ_6
  refine lv_aload_n hx hb d_8_appendLeg_35 rfl (lv_at hl 1 rfl) ?_
  refine gf_8_59 S hG hk_r0 d_8_appendLeg_36 ?_
  refine lv_iconst (v := (1 : Int32)) hx hb d_8_appendLeg_39 (by decide) ?_
  refine lv_isub hx hb d_8_appendLeg_40 ?_
  exact hR _ _ _ _ _ _ hG hf d_8_appendLeg_41
theorem c_8_appendLeg (l : Launch) {D : va_G} {ac : Nat → ClassId} {ad : Nat → Nat} {st : SS} {A : Nat → Prop} {σ : St} {r0 : Nat} {x1 : Int32} {x2 : Int32} {Q : Int32 → St → Prop} (hk_r0 : kd r0 = 8) (hf : m_8_appendLeg r0 x1 x2 Q σ) : Met l y_8_appendLeg (Cond.code y_8_appendLeg prog_10_method_12_code 4 (some .int) :: wA) { frames := 0, cells := 0, slots := 0, locals := 0 } (va_Pc [.ref (ad r0), .int x1, .int x2] (GSt A D ac ad st σ)) (va_Qi Q (GSt A D ac ad st) A) 0 0 A :=
  mkI l (by decide +kernel) rfl [.ref (ad r0), .int x1, .int x2] (Nat.le_of_ble_eq_true rfl) (fun p e s m args below meth c ls QW S hR hG hl => w_8_appendLeg_0 S hR hk_r0 hG hl hf)
set_option maxHeartbeats 4000000 in
set_option maxRecDepth 100000 in
theorem w_9_addLeg_0 {r0 : Nat} {x1 : Int32} {x2 : Int32} {Q : Int32 → St → Prop} {σ : St} {H : Heap} {locs : List Loc} {ls : Array Slot} (S : SC A D ac st p m c prog_1_method_13_code 3 s args "SweeperRounds" R cells slots 3 65) (hR : RtI A D ac ad p l e R s m args below meth c prog_1_method_13_code cells slots QW Q) (hk_r0 : kd r0 = 9) (hG : DG A D ac ad s σ H locs) (hl : lv_has ls 3 [(0, .ref (ad r0)), (1, .int x1), (2, .int x2)]) (hf : m_9_addLeg r0 x1 x2 Q σ) : W p l e R s m args below meth c H locs cells slots QW (F0 m 0 ls []) := by
  have hx := S.1.1
  have hb := S.1.2.1
  unfold m_9_addLeg at hf
  refine lv_aload_n hx hb d_9_addLeg_0 rfl (lv_at hl 0 rfl) ?_
  refine gf_9_26 S hG hk_r0 d_9_addLeg_1 ?_
  refine lv_iload_n hx hb d_9_addLeg_4 rfl (lv_at hl 1 rfl) ?_
  refine iv_9_100 S hl.1 hG (kr_9_2 hk_r0) (c_8_hasStreet l (kr_9_2 hk_r0) hf) ⟨Nat.le_of_ble_eq_true rfl, Nat.le_of_ble_eq_true rfl⟩ (Nat.le_of_ble_eq_true rfl) d_9_addLeg_5 (fun v_2 σ_1 hf H locs hG => ?_)
  refine lv_if_eq (tgt := 20) hx hb d_9_addLeg_8 (by decide) (fun hc => ?_) (fun hc => ?_)
  · have hf := hf.1 hc
    refine lv_iconst (v := (-1 : Int32)) hx hb d_9_addLeg_20 (by decide) ?_
    exact hR _ _ _ _ _ _ hG hf d_9_addLeg_21
  · have hf := hf.2 hc
    refine lv_iload_n hx hb d_9_addLeg_11 rfl (lv_at hl 2 rfl) ?_
    refine lv_if_lt (tgt := 20) hx hb d_9_addLeg_12 (by decide) (fun hc => ?_) (fun hc => ?_)
    · have hf := hf.1 hc
      refine lv_iconst (v := (-1 : Int32)) hx hb d_9_addLeg_20 (by decide) ?_
      exact hR _ _ _ _ _ _ hG hf d_9_addLeg_21
    · have hf := hf.2 hc
      refine lv_iload_n hx hb d_9_addLeg_15 rfl (lv_at hl 2 rfl) ?_
      refine lv_iconst (v := (2 : Int32)) hx hb d_9_addLeg_16 (by decide) ?_
      refine lv_icmp_lt (tgt := 22) hx hb d_9_addLeg_17 (by decide) (fun hc => ?_) (fun hc => ?_)
      · have hf := hf.1 hc
        refine lv_aload_n hx hb d_9_addLeg_22 rfl (lv_at hl 0 rfl) ?_
        refine gf_9_26 S hG hk_r0 d_9_addLeg_23 ?_
        refine gf_9_108 S hG (kr_9_2 hk_r0) d_9_addLeg_26 ?_
        refine lv_bipush (v := (10 : Int32)) hx hb d_9_addLeg_29 (by decide) ?_
        refine lv_icmp_lt (tgt := 37) hx hb d_9_addLeg_31 (by decide) (fun hc => ?_) (fun hc => ?_)
        · have hf := hf.1 hc
          refine lv_aload_n hx hb d_9_addLeg_37 rfl (lv_at hl 0 rfl) ?_
          refine gf_9_42 S hG hk_r0 d_9_addLeg_38 ?_
          refine lv_aload_n hx hb d_9_addLeg_41 rfl (lv_at hl 0 rfl) ?_
          refine gf_9_26 S hG hk_r0 d_9_addLeg_42 ?_
          refine iv_9_80 S hl.1 hG (kr_9_4 hk_r0) (c_0_remember l (kr_9_4 hk_r0) (kr_9_2 hk_r0) hf) ⟨Nat.le_of_ble_eq_true rfl, Nat.le_of_ble_eq_true rfl⟩ (Nat.le_of_ble_eq_true rfl) d_9_addLeg_45 (fun σ_3 hf H locs hG => ?_)
          refine lv_aload_n hx hb d_9_addLeg_48 rfl (lv_at hl 0 rfl) ?_
          refine gf_9_26 S hG hk_r0 d_9_addLeg_49 ?_
          refine lv_iload_n hx hb d_9_addLeg_52 rfl (lv_at hl 1 rfl) ?_
          refine lv_iload_n hx hb d_9_addLeg_53 rfl (lv_at hl 2 rfl) ?_
          refine iv_9_177 S hl.1 hG (kr_9_2 hk_r0) (c_8_appendLeg l (kr_9_2 hk_r0) hf) ⟨Nat.le_of_ble_eq_true rfl, Nat.le_of_ble_eq_true rfl⟩ (Nat.le_of_ble_eq_true rfl) d_9_addLeg_54 (fun v_6 σ_5 hf H locs hG => ?_)
          exact hR _ _ _ _ _ _ hG hf d_9_addLeg_57
        · have hf := hf.2 hc
          refine lv_bipush (v := (-3 : Int32)) hx hb d_9_addLeg_34 (by decide) ?_
          exact hR _ _ _ _ _ _ hG hf d_9_addLeg_36
      · have hf := hf.2 hc
        refine lv_iconst (v := (-1 : Int32)) hx hb d_9_addLeg_20 (by decide) ?_
        exact hR _ _ _ _ _ _ hG hf d_9_addLeg_21
theorem c_9_addLeg (l : Launch) {D : va_G} {ac : Nat → ClassId} {ad : Nat → Nat} {st : SS} {A : Nat → Prop} {σ : St} {r0 : Nat} {x1 : Int32} {x2 : Int32} {Q : Int32 → St → Prop} (hk_r0 : kd r0 = 9) (hf : m_9_addLeg r0 x1 x2 Q σ) : Met l y_9_addLeg (Cond.code y_9_addLeg prog_1_method_13_code 3 (some .int) :: wA) { frames := 3, cells := 0, slots := 0, locals := 65 } (va_Pc [.ref (ad r0), .int x1, .int x2] (GSt A D ac ad st σ)) (va_Qi Q (GSt A D ac ad st) A) 0 0 A :=
  mkI l (by decide +kernel) rfl [.ref (ad r0), .int x1, .int x2] (Nat.le_of_ble_eq_true rfl) (fun p e s m args below meth c ls QW S hR hG hl => w_9_addLeg_0 S hR hk_r0 hG hl hf)
set_option maxHeartbeats 4000000 in
set_option maxRecDepth 100000 in
theorem w_8_hasLeg_0 {r0 : Nat} {x1 : Int32} {Q : Int32 → St → Prop} {σ : St} {H : Heap} {locs : List Loc} {ls : Array Slot} (S : SC A D ac st p m c prog_10_method_5_code 2 s args "SweeperRounds$World" R cells slots 0 0) (hR : RtZ A D ac ad p l e R s m args below meth c prog_10_method_5_code cells slots QW Q) (hk_r0 : kd r0 = 8) (hG : DG A D ac ad s σ H locs) (hl : lv_has ls 2 [(0, .ref (ad r0)), (1, .int x1)]) (hf : m_8_hasLeg r0 x1 Q σ) : W p l e R s m args below meth c H locs cells slots QW (F0 m 0 ls []) := by
  have hx := S.1.1
  have hb := S.1.2.1
  unfold m_8_hasLeg at hf
  refine lv_iload_n hx hb d_8_hasLeg_0 rfl (lv_at hl 1 rfl) ?_
  refine lv_if_lt (tgt := 16) hx hb d_8_hasLeg_1 (by decide) (fun hc => ?_) (fun hc => ?_)
  · have hf := hf.1 hc
    refine lv_iconst (v := (0 : Int32)) hx hb d_8_hasLeg_16 (by decide) ?_
    exact hR _ _ _ _ _ _ hG (by unfold isB; decide) hf d_8_hasLeg_17
  · have hf := hf.2 hc
    refine lv_iload_n hx hb d_8_hasLeg_4 rfl (lv_at hl 1 rfl) ?_
    refine lv_aload_n hx hb d_8_hasLeg_5 rfl (lv_at hl 0 rfl) ?_
    refine gf_8_59 S hG hk_r0 d_8_hasLeg_6 ?_
    refine lv_icmp_ge (tgt := 16) hx hb d_8_hasLeg_9 (by decide) (fun hc => ?_) (fun hc => ?_)
    · have hf := hf.1 hc
      refine lv_iconst (v := (0 : Int32)) hx hb d_8_hasLeg_16 (by decide) ?_
      exact hR _ _ _ _ _ _ hG (by unfold isB; decide) hf d_8_hasLeg_17
    · have hf := hf.2 hc
      refine lv_iconst (v := (1 : Int32)) hx hb d_8_hasLeg_12 (by decide) ?_
      refine lv_goto (tgt := 17) hx hb d_8_hasLeg_13 (by decide) ?_
      exact hR _ _ _ _ _ _ hG (by unfold isB; decide) hf d_8_hasLeg_17
theorem c_8_hasLeg (l : Launch) {D : va_G} {ac : Nat → ClassId} {ad : Nat → Nat} {st : SS} {A : Nat → Prop} {σ : St} {r0 : Nat} {x1 : Int32} {Q : Int32 → St → Prop} (hk_r0 : kd r0 = 8) (hf : m_8_hasLeg r0 x1 Q σ) : Met l y_8_hasLeg (Cond.code y_8_hasLeg prog_10_method_5_code 2 (some .boolean) :: wA) { frames := 0, cells := 0, slots := 0, locals := 0 } (va_Pc [.ref (ad r0), .int x1] (GSt A D ac ad st σ)) (va_Qi Q (GSt A D ac ad st) A) 0 0 A :=
  mkZ l (by decide +kernel) rfl [.ref (ad r0), .int x1] (Nat.le_of_ble_eq_true rfl) (fun p e s m args below meth c ls QW S hR hG hl => w_8_hasLeg_0 S hR hk_r0 hG hl hf)
set_option maxHeartbeats 4000000 in
set_option maxRecDepth 100000 in
theorem w_9_leg_0 {r0 : Nat} {x1 : Int32} {x2 : Int32} {Q : Int32 → St → Prop} {σ : St} {H : Heap} {locs : List Loc} {ls : Array Slot} (S : SC A D ac st p m c prog_1_method_15_code 4 s args "SweeperRounds" R cells slots 1 21) (hR : RtI A D ac ad p l e R s m args below meth c prog_1_method_15_code cells slots QW Q) (hk_r0 : kd r0 = 9) (hG : DG A D ac ad s σ H locs) (hl : lv_has ls 4 [(0, .ref (ad r0)), (1, .int x1), (2, .int x2)]) (hf : m_9_leg r0 x1 x2 Q σ) : W p l e R s m args below meth c H locs cells slots QW (F0 m 0 ls []) := by
  have hx := S.1.1
  have hb := S.1.2.1
  unfold m_9_leg at hf
  refine lv_aload_n hx hb d_9_leg_0 rfl (lv_at hl 0 rfl) ?_
  refine gf_9_26 S hG hk_r0 d_9_leg_1 ?_
  refine lv_iload_n hx hb d_9_leg_4 rfl (lv_at hl 1 rfl) ?_
  refine iv_9_180 S hl.1 hG (kr_9_2 hk_r0) (c_8_hasLeg l (kr_9_2 hk_r0) hf) ⟨Nat.le_of_ble_eq_true rfl, Nat.le_of_ble_eq_true rfl⟩ (Nat.le_of_ble_eq_true rfl) d_9_leg_5 (fun v_2 σ_1 hf H locs hG => ?_)
  refine lv_if_eq (tgt := 20) hx hb d_9_leg_8 (by decide) (fun hc => ?_) (fun hc => ?_)
  · have hf := hf.1 hc
    refine lv_iconst (v := (-1 : Int32)) hx hb d_9_leg_20 (by decide) ?_
    exact hR _ _ _ _ _ _ hG hf d_9_leg_21
  · have hf := hf.2 hc
    refine lv_iload_n hx hb d_9_leg_11 rfl (lv_at hl 2 rfl) ?_
    refine lv_if_lt (tgt := 20) hx hb d_9_leg_12 (by decide) (fun hc => ?_) (fun hc => ?_)
    · have hf := hf.1 hc
      refine lv_iconst (v := (-1 : Int32)) hx hb d_9_leg_20 (by decide) ?_
      exact hR _ _ _ _ _ _ hG hf d_9_leg_21
    · have hf := hf.2 hc
      refine lv_iload_n hx hb d_9_leg_15 rfl (lv_at hl 2 rfl) ?_
      refine lv_iconst (v := (3 : Int32)) hx hb d_9_leg_16 (by decide) ?_
      refine lv_icmp_le (tgt := 22) hx hb d_9_leg_17 (by decide) (fun hc => ?_) (fun hc => ?_)
      · have hf := hf.1 hc
        refine lv_aload_n hx hb d_9_leg_22 rfl (lv_at hl 0 rfl) ?_
        refine gf_9_26 S hG hk_r0 d_9_leg_23 ?_
        refine gf_9_186 S hG (kr_9_2 hk_r0) d_9_leg_26 ?_
        refine lv_iload_n hx hb d_9_leg_29 rfl (lv_at hl 1 rfl) ?_
        refine mq4 S hG (kr_8_2 (kr_9_2 hk_r0)) hf.1 d_9_leg_30 ?_
        have hi_3 := vin_lt hf.1
        have hf := hf.2
        refine lv_topr (fun r3_4 er3_4 => ?_)
        have hf := hf r3_4 er3_4
        have hk_r3_4 : kd r3_4 = 1 := er3_4 ▸ (ke_24 (kr_8_2 (kr_9_2 hk_r0)) hi_3)
        refine lv_astore_n (lv' := [(3, .ref (ad r3_4)), (0, .ref (ad r0)), (1, .int x1), (2, .int x2)]) hx hb d_9_leg_31 rfl hl (by decide) rfl (fun ls hl => ?_)
        refine lv_iload_n hx hb d_9_leg_32 rfl (lv_at hl 3 rfl) ?_
        refine lv_if_ne (tgt := 41) hx hb d_9_leg_33 (by decide) (fun hc => ?_) (fun hc => ?_)
        · have hf := hf.1 hc
          refine lv_iload_n hx hb d_9_leg_41 rfl (lv_at hl 3 rfl) ?_
          refine lv_iconst (v := (1 : Int32)) hx hb d_9_leg_42 (by decide) ?_
          refine lv_icmp_ne (tgt := 51) hx hb d_9_leg_43 (by decide) (fun hc => ?_) (fun hc => ?_)
          · have hf := hf.1 hc
            refine lv_aload_n hx hb d_9_leg_51 rfl (lv_at hl 1 rfl) ?_
            refine gf_9_26 S hG hk_r0 d_9_leg_52 ?_
            refine gf_9_198 S hG (kr_9_2 hk_r0) d_9_leg_55 ?_
            refine lv_if_ne (tgt := 64) hx hb d_9_leg_58 (by decide) (fun hc => ?_) (fun hc => ?_)
            · have hf := hf.1 hc
              refine lv_iload_n hx hb d_9_leg_64 rfl (lv_at hl 3 rfl) ?_
              refine lv_iconst (v := (2 : Int32)) hx hb d_9_leg_65 (by decide) ?_
              refine lv_icmp_ne (tgt := 76) hx hb d_9_leg_66 (by decide) (fun hc => ?_) (fun hc => ?_)
              · have hf := hf.1 hc
                refine lv_aload_n hx hb d_9_leg_76 rfl (lv_at hl 0 rfl) ?_
                refine gf_9_205 S hG hk_r3_4 d_9_leg_77 ?_
                exact hR _ _ _ _ _ _ hG hf d_9_leg_80
              · have hf := hf.2 hc
                refine lv_aload_n hx hb d_9_leg_69 rfl (lv_at hl 0 rfl) ?_
                refine gf_9_202 S hG hk_r3_4 d_9_leg_70 ?_
                refine lv_goto (tgt := 80) hx hb d_9_leg_73 (by decide) ?_
                exact hR _ _ _ _ _ _ hG hf d_9_leg_80
            · have hf := hf.2 hc
              refine lv_bipush (v := (-2 : Int32)) hx hb d_9_leg_61 (by decide) ?_
              exact hR _ _ _ _ _ _ hG hf d_9_leg_63
          · have hf := hf.2 hc
            refine lv_aload_n hx hb d_9_leg_46 rfl (lv_at hl 0 rfl) ?_
            refine gf_9_195 S hG hk_r3_4 d_9_leg_47 ?_
            exact hR _ _ _ _ _ _ hG hf d_9_leg_50
        · have hf := hf.2 hc
          refine lv_aload_n hx hb d_9_leg_36 rfl (lv_at hl 0 rfl) ?_
          refine gf_9_190 S hG hk_r3_4 d_9_leg_37 ?_
          exact hR _ _ _ _ _ _ hG hf d_9_leg_40
      · have hf := hf.2 hc
        refine lv_iconst (v := (-1 : Int32)) hx hb d_9_leg_20 (by decide) ?_
        exact hR _ _ _ _ _ _ hG hf d_9_leg_21
theorem c_9_leg (l : Launch) {D : va_G} {ac : Nat → ClassId} {ad : Nat → Nat} {st : SS} {A : Nat → Prop} {σ : St} {r0 : Nat} {x1 : Int32} {x2 : Int32} {Q : Int32 → St → Prop} (hk_r0 : kd r0 = 9) (hf : m_9_leg r0 x1 x2 Q σ) : Met l y_9_leg (Cond.code y_9_leg prog_1_method_15_code 4 (some .int) :: wA) { frames := 1, cells := 0, slots := 0, locals := 21 } (va_Pc [.ref (ad r0), .int x1, .int x2] (GSt A D ac ad st σ)) (va_Qi Q (GSt A D ac ad st) A) 0 0 A :=
  mkI l (by decide +kernel) rfl [.ref (ad r0), .int x1, .int x2] (Nat.le_of_ble_eq_true rfl) (fun p e s m args below meth c ls QW S hR hG hl => w_9_leg_0 S hR hk_r0 hG hl hf)
set_option maxHeartbeats 4000000 in
set_option maxRecDepth 100000 in
theorem w_4_clear_0 {r0 : Nat} {Q : St → Prop} {σ : St} {H : Heap} {locs : List Loc} {ls : Array Slot} (S : SC A D ac st p m c prog_6_method_2_code 1 s args "SweeperRounds$Report" R cells slots 0 0) (hR : RtV A D ac ad p l e R s m args below meth c prog_6_method_2_code cells slots QW Q) (hk_r0 : kd r0 = 4) (hG : DG A D ac ad s σ H locs) (hl : lv_has ls 1 [(0, .ref (ad r0))]) (hf : m_4_clear r0 Q σ) : W p l e R s m args below meth c H locs cells slots QW (F0 m 0 ls []) := by
  have hx := S.1.1
  have hb := S.1.2.1
  unfold m_4_clear at hf
  refine lv_aload_n hx hb d_4_clear_0 rfl (lv_at hl 0 rfl) ?_
  refine lv_iconst (v := (0 : Int32)) hx hb d_4_clear_1 (by decide) ?_
  refine pf_4_9 S hG hk_r0 d_4_clear_2 (fun σ_1 eσ_1 H locs hG => ?_)
  have hf := hf σ_1 eσ_1
  refine lv_aload_n hx hb d_4_clear_5 rfl (lv_at hl 0 rfl) ?_
  refine lv_iconst (v := (0 : Int32)) hx hb d_4_clear_6 (by decide) ?_
  refine pf_4_15 S hG hk_r0 d_4_clear_7 (fun σ_2 eσ_2 H locs hG => ?_)
  have hf := hf σ_2 eσ_2
  refine lv_aload_n hx hb d_4_clear_10 rfl (lv_at hl 0 rfl) ?_
  refine lv_iconst (v := (0 : Int32)) hx hb d_4_clear_11 (by decide) ?_
  refine pf_4_18 S hG hk_r0 d_4_clear_12 (fun σ_3 eσ_3 H locs hG => ?_)
  have hf := hf σ_3 eσ_3
  refine lv_aload_n hx hb d_4_clear_15 rfl (lv_at hl 0 rfl) ?_
  refine lv_iconst (v := (0 : Int32)) hx hb d_4_clear_16 (by decide) ?_
  refine pf_4_21 S hG hk_r0 d_4_clear_17 (fun σ_4 eσ_4 H locs hG => ?_)
  have hf := hf σ_4 eσ_4
  refine lv_aload_n hx hb d_4_clear_20 rfl (lv_at hl 0 rfl) ?_
  refine lv_iconst (v := (0 : Int32)) hx hb d_4_clear_21 (by decide) ?_
  refine pf_4_24 S hG hk_r0 d_4_clear_22 (fun σ_5 eσ_5 H locs hG => ?_)
  have hf := hf σ_5 eσ_5
  refine lv_aload_n hx hb d_4_clear_25 rfl (lv_at hl 0 rfl) ?_
  refine lv_iconst (v := (0 : Int32)) hx hb d_4_clear_26 (by decide) ?_
  refine pf_4_27 S hG hk_r0 d_4_clear_27 (fun σ_6 eσ_6 H locs hG => ?_)
  have hf := hf σ_6 eσ_6
  exact hR _ _ _ _ _ hG hf d_4_clear_30
theorem c_4_clear (l : Launch) {D : va_G} {ac : Nat → ClassId} {ad : Nat → Nat} {st : SS} {A : Nat → Prop} {σ : St} {r0 : Nat} {Q : St → Prop} (hk_r0 : kd r0 = 4) (hf : m_4_clear r0 Q σ) : Met l y_4_clear (Cond.code y_4_clear prog_6_method_2_code 1 none :: wA) { frames := 0, cells := 0, slots := 0, locals := 0 } (va_Pc [.ref (ad r0)] (GSt A D ac ad st σ)) (va_Qv Q (GSt A D ac ad st) A) 0 0 A :=
  mkV l (by decide +kernel) rfl [.ref (ad r0)] (Nat.le_of_ble_eq_true rfl) (fun p e s m args below meth c ls QW S hR hG hl => w_4_clear_0 S hR hk_r0 hG hl hf)
set_option maxHeartbeats 4000000 in
set_option maxRecDepth 100000 in
theorem w_5_driveTo_0 {r0 : Nat} {x1 : Int32} {Q : Int32 → St → Prop} {σ : St} {H : Heap} {locs : List Loc} {ls : Array Slot} (S : SC A D ac st p m c prog_7_method_4_code 4 s args "SweeperRounds$Round" R cells slots 1 13) (hR : RtI A D ac ad p l e R s m args below meth c prog_7_method_4_code cells slots QW Q) (hk_r0 : kd r0 = 5) (hG : DG A D ac ad s σ H locs) (hl : lv_has ls 4 [(0, .ref (ad r0)), (1, .int x1)]) (hf : m_5_driveTo r0 x1 Q σ) : W p l e R s m args below meth c H locs cells slots QW (F0 m 0 ls []) := by
  have hx := S.1.1
  have hb := S.1.2.1
  unfold m_5_driveTo at hf
  refine lv_aload_n hx hb d_5_driveTo_0 rfl (lv_at hl 0 rfl) ?_
  refine gf_5_9 S hG hk_r0 d_5_driveTo_1 ?_
  refine gf_5_48 S hG (kr_5_0 hk_r0) d_5_driveTo_4 ?_
  refine lv_iload_n hx hb d_5_driveTo_7 rfl (lv_at hl 1 rfl) ?_
  refine mq3 S hG (kr_8_0 (kr_5_0 hk_r0)) hf.1 d_5_driveTo_8 ?_
  have hi_1 := vin_lt hf.1
  have hf := hf.2
  refine gf_5_92 S hG (ke_23 (kr_8_0 (kr_5_0 hk_r0)) hi_1) d_5_driveTo_9 ?_
  refine lv_topi (fun x2_2 ex2_2 => ?_)
  have hf := hf x2_2 ex2_2
  refine lv_istore_n (lv' := [(2, .int x2_2), (0, .ref (ad r0)), (1, .int x1)]) hx hb d_5_driveTo_12 rfl hl (by decide) rfl (fun ls hl => ?_)
  refine lv_aload_n hx hb d_5_driveTo_13 rfl (lv_at hl 1 rfl) ?_
  refine gf_5_26 S hG hk_r0 d_5_driveTo_14 ?_
  refine lv_iconst (v := (-1 : Int32)) hx hb d_5_driveTo_17 (by decide) ?_
  refine lv_icmp_ne (tgt := 26) hx hb d_5_driveTo_18 (by decide) (fun hc => ?_) (fun hc => ?_)
  · have hf := hf.1 hc
    refine lv_aload_n hx hb d_5_driveTo_26 rfl (lv_at hl 1 rfl) ?_
    refine gf_5_26 S hG hk_r0 d_5_driveTo_27 ?_
    refine lv_iload_n hx hb d_5_driveTo_30 rfl (lv_at hl 2 rfl) ?_
    refine lv_icmp_ne (tgt := 36) hx hb d_5_driveTo_31 (by decide) (fun hc => ?_) (fun hc => ?_)
    · have hf := hf.1 hc
      refine lv_iload_n hx hb d_5_driveTo_36 rfl (lv_at hl 0 rfl) ?_
      refine lv_aload_n hx hb d_5_driveTo_37 rfl (lv_at hl 1 rfl) ?_
      refine gf_5_9 S hG hk_r0 d_5_driveTo_38 ?_
      refine gf_5_48 S hG (kr_5_0 hk_r0) d_5_driveTo_41 ?_
      refine lv_aload_n hx hb d_5_driveTo_44 rfl (lv_at hl 1 rfl) ?_
      refine gf_5_26 S hG hk_r0 d_5_driveTo_45 ?_
      refine mq3 S hG (kr_8_0 (kr_5_0 hk_r0)) hf.1 d_5_driveTo_48 ?_
      have hi_3 := vin_lt hf.1
      have hf := hf.2
      refine gf_5_92 S hG (ke_23 (kr_8_0 (kr_5_0 hk_r0)) hi_3) d_5_driveTo_49 ?_
      refine lv_isub hx hb d_5_driveTo_52 ?_
      refine mab S hl.1 wm_536 wm_537 wm_20 wm_538 (by decide) (Nat.le_of_ble_eq_true rfl) d_5_driveTo_53 ?_
      refine lv_topi (fun x3_4 ex3_4 => ?_)
      have hf := hf x3_4 ex3_4
      refine lv_istore_n (lv' := [(3, .int x3_4), (2, .int x2_2), (0, .ref (ad r0)), (1, .int x1)]) hx hb d_5_driveTo_56 rfl hl (by decide) rfl (fun ls hl => ?_)
      refine lv_bipush (v := (10 : Int32)) hx hb d_5_driveTo_57 (by decide) ?_
      refine lv_iload_n hx hb d_5_driveTo_59 rfl (lv_at hl 0 rfl) ?_
      refine lv_imul hx hb d_5_driveTo_60 ?_
      refine lv_bipush (v := (50 : Int32)) hx hb d_5_driveTo_61 (by decide) ?_
      refine lv_iadd hx hb d_5_driveTo_63 ?_
      exact hR _ _ _ _ _ _ hG hf d_5_driveTo_64
    · have hf := hf.2 hc
      refine lv_iconst (v := (0 : Int32)) hx hb d_5_driveTo_34 (by decide) ?_
      exact hR _ _ _ _ _ _ hG hf d_5_driveTo_35
  · have hf := hf.2 hc
    refine lv_bipush (v := (10 : Int32)) hx hb d_5_driveTo_21 (by decide) ?_
    refine lv_iload_n hx hb d_5_driveTo_23 rfl (lv_at hl 0 rfl) ?_
    refine lv_imul hx hb d_5_driveTo_24 ?_
    exact hR _ _ _ _ _ _ hG hf d_5_driveTo_25
theorem c_5_driveTo (l : Launch) {D : va_G} {ac : Nat → ClassId} {ad : Nat → Nat} {st : SS} {A : Nat → Prop} {σ : St} {r0 : Nat} {x1 : Int32} {Q : Int32 → St → Prop} (hk_r0 : kd r0 = 5) (hf : m_5_driveTo r0 x1 Q σ) : Met l y_5_driveTo (Cond.code y_5_driveTo prog_7_method_4_code 4 (some .int) :: wA) { frames := 1, cells := 0, slots := 0, locals := 13 } (va_Pc [.ref (ad r0), .int x1] (GSt A D ac ad st σ)) (va_Qi Q (GSt A D ac ad st) A) 0 0 A :=
  mkI l (by decide +kernel) rfl [.ref (ad r0), .int x1] (Nat.le_of_ble_eq_true rfl) (fun p e s m args below meth c ls QW S hR hG hl => w_5_driveTo_0 S hR hk_r0 hG hl hf)
set_option maxHeartbeats 4000000 in
set_option maxRecDepth 100000 in
theorem w_6_driveToDump_0 {r0 : Nat} {Q : Int32 → St → Prop} {σ : St} {H : Heap} {locs : List Loc} {ls : Array Slot} (S : SC A D ac st p m c prog_8_method_11_code 1 s args "SweeperRounds$Street" R cells slots 0 0) (hR : RtI A D ac ad p l e R s m args below meth c prog_8_method_11_code cells slots QW Q) (hk_r0 : kd r0 = 6) (hG : DG A D ac ad s σ H locs) (hl : lv_has ls 1 [(0, .ref (ad r0))]) (hf : m_6_driveToDump r0 Q σ) : W p l e R s m args below meth c H locs cells slots QW (F0 m 0 ls []) := by
  have hx := S.1.1
  have hb := S.1.2.1
  unfold m_6_driveToDump at hf
  refine lv_bipush (v := (10 : Int32)) hx hb d_6_driveToDump_0 (by decide) ?_
  refine lv_aload_n hx hb d_6_driveToDump_2 rfl (lv_at hl 0 rfl) ?_
  refine gf_6_23 S hG hk_r0 d_6_driveToDump_3 ?_
  refine lv_imul hx hb d_6_driveToDump_6 ?_
  exact hR _ _ _ _ _ _ hG hf d_6_driveToDump_7
theorem c_6_driveToDump (l : Launch) {D : va_G} {ac : Nat → ClassId} {ad : Nat → Nat} {st : SS} {A : Nat → Prop} {σ : St} {r0 : Nat} {Q : Int32 → St → Prop} (hk_r0 : kd r0 = 6) (hf : m_6_driveToDump r0 Q σ) : Met l y_6_driveToDump (Cond.code y_6_driveToDump prog_8_method_11_code 1 (some .int) :: wA) { frames := 0, cells := 0, slots := 0, locals := 0 } (va_Pc [.ref (ad r0)] (GSt A D ac ad st σ)) (va_Qi Q (GSt A D ac ad st) A) 0 0 A :=
  mkI l (by decide +kernel) rfl [.ref (ad r0)] (Nat.le_of_ble_eq_true rfl) (fun p e s m args below meth c ls QW S hR hG hl => w_6_driveToDump_0 S hR hk_r0 hG hl hf)
set_option maxHeartbeats 4000000 in
set_option maxRecDepth 100000 in
theorem w_5_fits_0 {r0 : Nat} {x1 : Int32} {r2 : Nat} {Q : Int32 → St → Prop} {σ : St} {H : Heap} {locs : List Loc} {ls : Array Slot} (S : SC A D ac st p m c prog_7_method_5_code 3 s args "SweeperRounds$Round" R cells slots 1 20) (hR : RtZ A D ac ad p l e R s m args below meth c prog_7_method_5_code cells slots QW Q) (hk_r0 : kd r0 = 5) (hk_r2 : kd r2 = 6) (hG : DG A D ac ad s σ H locs) (hl : lv_has ls 3 [(0, .ref (ad r0)), (1, .int x1), (2, .ref (ad r2))]) (hf : m_5_fits r0 x1 r2 Q σ) : W p l e R s m args below meth c H locs cells slots QW (F0 m 0 ls []) := by
  have hx := S.1.1
  have hb := S.1.2.1
  unfold m_5_fits at hf
  refine lv_aload_n hx hb d_5_fits_0 rfl (lv_at hl 0 rfl) ?_
  refine gf_5_9 S hG hk_r0 d_5_fits_1 ?_
  refine gf_5_15 S hG (kr_5_0 hk_r0) d_5_fits_4 ?_
  refine gf_5_89 S hG (kr_8_9 (kr_5_0 hk_r0)) d_5_fits_7 ?_
  refine lv_iload_n hx hb d_5_fits_10 rfl (lv_at hl 1 rfl) ?_
  refine lv_iadd hx hb d_5_fits_11 ?_
  refine lv_aload_n hx hb d_5_fits_12 rfl (lv_at hl 2 rfl) ?_
  refine iv_5_100 S hl.1 hG hk_r2 (c_6_driveToDump l hk_r2 hf) ⟨Nat.le_of_ble_eq_true rfl, Nat.le_of_ble_eq_true rfl⟩ (Nat.le_of_ble_eq_true rfl) d_5_fits_13 (fun v_2 σ_1 hf H locs hG => ?_)
  refine lv_iadd hx hb d_5_fits_16 ?_
  refine lv_aload_n hx hb d_5_fits_17 rfl (lv_at hl 0 rfl) ?_
  refine gf_5_9 S hG hk_r0 d_5_fits_18 ?_
  refine gf_5_104 S hG (kr_5_0 hk_r0) d_5_fits_21 ?_
  refine lv_iconst (v := (3 : Int32)) hx hb d_5_fits_24 (by decide) ?_
  refine mia S hG 26 rfl rfl (kr_8_5 (kr_5_0 hk_r0)) hf.1 d_5_fits_25 ?_
  have hf := hf.2
  refine lv_icmp_gt (tgt := 33) hx hb d_5_fits_26 (by decide) (fun hc => ?_) (fun hc => ?_)
  · have hf := hf.1 hc
    refine lv_iconst (v := (0 : Int32)) hx hb d_5_fits_33 (by decide) ?_
    exact hR _ _ _ _ _ _ hG (by unfold isB; decide) hf d_5_fits_34
  · have hf := hf.2 hc
    refine lv_iconst (v := (1 : Int32)) hx hb d_5_fits_29 (by decide) ?_
    refine lv_goto (tgt := 34) hx hb d_5_fits_30 (by decide) ?_
    exact hR _ _ _ _ _ _ hG (by unfold isB; decide) hf d_5_fits_34
theorem c_5_fits (l : Launch) {D : va_G} {ac : Nat → ClassId} {ad : Nat → Nat} {st : SS} {A : Nat → Prop} {σ : St} {r0 : Nat} {x1 : Int32} {r2 : Nat} {Q : Int32 → St → Prop} (hk_r0 : kd r0 = 5) (hk_r2 : kd r2 = 6) (hf : m_5_fits r0 x1 r2 Q σ) : Met l y_5_fits (Cond.code y_5_fits prog_7_method_5_code 3 (some .boolean) :: wA) { frames := 1, cells := 0, slots := 0, locals := 20 } (va_Pc [.ref (ad r0), .int x1, .ref (ad r2)] (GSt A D ac ad st σ)) (va_Qi Q (GSt A D ac ad st) A) 0 0 A :=
  mkZ l (by decide +kernel) rfl [.ref (ad r0), .int x1, .ref (ad r2)] (Nat.le_of_ble_eq_true rfl) (fun p e s m args below meth c ls QW S hR hG hl => w_5_fits_0 S hR hk_r0 hk_r2 hG hl hf)
set_option maxHeartbeats 4000000 in
set_option maxRecDepth 100000 in
theorem w_5_driveToLeg_0 {r0 : Nat} {r1 : Nat} {r2 : Nat} {Q : Int32 → St → Prop} {σ : St} {H : Heap} {locs : List Loc} {ls : Array Slot} (S : SC A D ac st p m c prog_7_method_3_code 4 s args "SweeperRounds$Round" R cells slots 2 42) (hR : RtI A D ac ad p l e R s m args below meth c prog_7_method_3_code cells slots QW Q) (hk_r0 : kd r0 = 5) (hk_r1 : kd r1 = 1) (hk_r2 : kd r2 = 6) (hG : DG A D ac ad s σ H locs) (hl : lv_has ls 4 [(0, .ref (ad r0)), (1, .ref (ad r1)), (2, .ref (ad r2))]) (hf : m_5_driveToLeg r0 r1 r2 Q σ) : W p l e R s m args below meth c H locs cells slots QW (F0 m 0 ls []) := by
  have hx := S.1.1
  have hb := S.1.2.1
  unfold m_5_driveToLeg at hf
  refine lv_aload_n hx hb d_5_driveToLeg_0 rfl (lv_at hl 0 rfl) ?_
  refine lv_aload_n hx hb d_5_driveToLeg_1 rfl (lv_at hl 1 rfl) ?_
  refine gf_5_52 S hG hk_r1 d_5_driveToLeg_2 ?_
  refine iv_5_81 S hl.1 hG hk_r0 (c_5_driveTo l hk_r0 hf) ⟨Nat.le_of_ble_eq_true rfl, Nat.le_of_ble_eq_true rfl⟩ (Nat.le_of_ble_eq_true rfl) d_5_driveToLeg_5 (fun v_2 σ_1 hf H locs hG => ?_)
  refine lv_istore_n (lv' := [(3, .int v_2), (0, .ref (ad r0)), (1, .ref (ad r1)), (2, .ref (ad r2))]) hx hb d_5_driveToLeg_8 rfl hl (by decide) rfl (fun ls hl => ?_)
  refine lv_aload_n hx hb d_5_driveToLeg_9 rfl (lv_at hl 1 rfl) ?_
  refine lv_iload_n hx hb d_5_driveToLeg_10 rfl (lv_at hl 0 rfl) ?_
  refine lv_aload_n hx hb d_5_driveToLeg_11 rfl (lv_at hl 3 rfl) ?_
  refine iv_5_85 S hl.1 hG hk_r0 (c_5_fits l hk_r0 hk_r2 hf) ⟨Nat.le_of_ble_eq_true rfl, Nat.le_of_ble_eq_true rfl⟩ (Nat.le_of_ble_eq_true rfl) d_5_driveToLeg_12 (fun v_4 σ_3 hf H locs hG => ?_)
  refine lv_if_ne (tgt := 20) hx hb d_5_driveToLeg_15 (by decide) (fun hc => ?_) (fun hc => ?_)
  · have hf := hf.1 hc
    refine lv_aload_n hx hb d_5_driveToLeg_20 rfl (lv_at hl 1 rfl) ?_
    refine gf_5_9 S hG hk_r0 d_5_driveToLeg_21 ?_
    refine gf_5_15 S hG (kr_5_0 hk_r0) d_5_driveToLeg_24 ?_
    refine lv_dup hx hb d_5_driveToLeg_27 rfl ?_
    refine gf_5_89 S hG (kr_8_9 (kr_5_0 hk_r0)) d_5_driveToLeg_28 ?_
    refine lv_iload_n hx hb d_5_driveToLeg_31 rfl (lv_at hl 0 rfl) ?_
    refine lv_iadd hx hb d_5_driveToLeg_32 ?_
    refine pf_5_89 S hG (kr_8_9 (kr_5_0 hk_r0)) d_5_driveToLeg_33 (fun σ_5 eσ_5 H locs hG => ?_)
    have hf := hf σ_5 eσ_5
    refine lv_aload_n hx hb d_5_driveToLeg_36 rfl (lv_at hl 1 rfl) ?_
    refine lv_aload_n hx hb d_5_driveToLeg_37 rfl (lv_at hl 2 rfl) ?_
    refine gf_5_52 S hG hk_r1 d_5_driveToLeg_38 ?_
    refine pf_5_26 S hG hk_r0 d_5_driveToLeg_41 (fun σ_6 eσ_6 H locs hG => ?_)
    have hf := hf σ_6 eσ_6
    refine lv_iconst (v := (0 : Int32)) hx hb d_5_driveToLeg_44 (by decide) ?_
    exact hR _ _ _ _ _ _ hG hf d_5_driveToLeg_45
  · have hf := hf.2 hc
    refine lv_iconst (v := (1 : Int32)) hx hb d_5_driveToLeg_18 (by decide) ?_
    exact hR _ _ _ _ _ _ hG hf d_5_driveToLeg_19
theorem c_5_driveToLeg (l : Launch) {D : va_G} {ac : Nat → ClassId} {ad : Nat → Nat} {st : SS} {A : Nat → Prop} {σ : St} {r0 : Nat} {r1 : Nat} {r2 : Nat} {Q : Int32 → St → Prop} (hk_r0 : kd r0 = 5) (hk_r1 : kd r1 = 1) (hk_r2 : kd r2 = 6) (hf : m_5_driveToLeg r0 r1 r2 Q σ) : Met l y_5_driveToLeg (Cond.code y_5_driveToLeg prog_7_method_3_code 4 (some .int) :: wA) { frames := 2, cells := 0, slots := 0, locals := 42 } (va_Pc [.ref (ad r0), .ref (ad r1), .ref (ad r2)] (GSt A D ac ad st σ)) (va_Qi Q (GSt A D ac ad st) A) 0 0 A :=
  mkI l (by decide +kernel) rfl [.ref (ad r0), .ref (ad r1), .ref (ad r2)] (Nat.le_of_ble_eq_true rfl) (fun p e s m args below meth c ls QW S hR hG hl => w_5_driveToLeg_0 S hR hk_r0 hk_r1 hk_r2 hG hl hf)
set_option maxHeartbeats 4000000 in
set_option maxRecDepth 100000 in
theorem w_5_unitsForCell_0 {r0 : Nat} {Q : Int32 → St → Prop} {σ : St} {H : Heap} {locs : List Loc} {ls : Array Slot} (S : SC A D ac st p m c prog_7_method_7_code 1 s args "SweeperRounds$Round" R cells slots 1 14) (hR : RtI A D ac ad p l e R s m args below meth c prog_7_method_7_code cells slots QW Q) (hk_r0 : kd r0 = 5) (hG : DG A D ac ad s σ H locs) (hl : lv_has ls 1 [(0, .ref (ad r0))]) (hf : m_5_unitsForCell r0 Q σ) : W p l e R s m args below meth c H locs cells slots QW (F0 m 0 ls []) := by
  have hx := S.1.1
  have hb := S.1.2.1
  unfold m_5_unitsForCell at hf
  refine lv_bipush (v := (12 : Int32)) hx hb d_5_unitsForCell_0 (by decide) ?_
  refine lv_iconst (v := (1 : Int32)) hx hb d_5_unitsForCell_2 (by decide) ?_
  refine lv_aload_n hx hb d_5_unitsForCell_3 rfl (lv_at hl 0 rfl) ?_
  refine gf_5_9 S hG hk_r0 d_5_unitsForCell_4 ?_
  refine gf_5_104 S hG (kr_5_0 hk_r0) d_5_unitsForCell_7 ?_
  refine lv_iconst (v := (0 : Int32)) hx hb d_5_unitsForCell_10 (by decide) ?_
  refine mia S hG 26 rfl rfl (kr_8_5 (kr_5_0 hk_r0)) hf.1 d_5_unitsForCell_11 ?_
  have hf := hf.2
  refine mmx S hl.1 wm_556 wm_355 wm_20 wm_356 (by decide) (Nat.le_of_ble_eq_true rfl) d_5_unitsForCell_12 ?_
  refine lv_idiv hx hb d_5_unitsForCell_15 hf.1 ?_
  have hf := hf.2
  exact hR _ _ _ _ _ _ hG hf d_5_unitsForCell_16
theorem c_5_unitsForCell (l : Launch) {D : va_G} {ac : Nat → ClassId} {ad : Nat → Nat} {st : SS} {A : Nat → Prop} {σ : St} {r0 : Nat} {Q : Int32 → St → Prop} (hk_r0 : kd r0 = 5) (hf : m_5_unitsForCell r0 Q σ) : Met l y_5_unitsForCell (Cond.code y_5_unitsForCell prog_7_method_7_code 1 (some .int) :: wA) { frames := 1, cells := 0, slots := 0, locals := 14 } (va_Pc [.ref (ad r0)] (GSt A D ac ad st σ)) (va_Qi Q (GSt A D ac ad st) A) 0 0 A :=
  mkI l (by decide +kernel) rfl [.ref (ad r0)] (Nat.le_of_ble_eq_true rfl) (fun p e s m args below meth c ls QW S hR hG hl => w_5_unitsForCell_0 S hR hk_r0 hG hl hf)
set_option maxHeartbeats 4000000 in
set_option maxRecDepth 100000 in
theorem w_5_sweepOnce_0 {r0 : Nat} {r1 : Nat} {r2 : Nat} {x3 : Int32} {Q : Int32 → St → Prop} {σ : St} {H : Heap} {locs : List Loc} {ls : Array Slot} (S : SC A D ac st p m c prog_7_method_8_code 7 s args "SweeperRounds$Round" R cells slots 1 22) (hR : RtZ A D ac ad p l e R s m args below meth c prog_7_method_8_code cells slots QW Q) (hk_r0 : kd r0 = 5) (hk_r1 : kd r1 = 1) (hk_r2 : kd r2 = 6) (hG : DG A D ac ad s σ H locs) (hl : lv_has ls 7 [(0, .ref (ad r0)), (1, .ref (ad r1)), (2, .ref (ad r2)), (3, .int x3)]) (hf : m_5_sweepOnce r0 r1 r2 x3 Q σ) : W p l e R s m args below meth c H locs cells slots QW (F0 m 0 ls []) := by
  have hx := S.1.1
  have hb := S.1.2.1
  unfold m_5_sweepOnce at hf
  refine lv_aload_n hx hb d_5_sweepOnce_0 rfl (lv_at hl 2 rfl) ?_
  refine lv_iload_n hx hb d_5_sweepOnce_1 rfl (lv_at hl 3 rfl) ?_
  refine lv_aload_n hx hb d_5_sweepOnce_2 rfl (lv_at hl 0 rfl) ?_
  refine gf_5_9 S hG hk_r0 d_5_sweepOnce_3 ?_
  refine iv_5_128 S hl.1 hG (kr_5_0 hk_r0) (c_8_grip l (kr_5_0 hk_r0) hf) ⟨Nat.le_of_ble_eq_true rfl, Nat.le_of_ble_eq_true rfl⟩ (Nat.le_of_ble_eq_true rfl) d_5_sweepOnce_6 (fun v_2 σ_1 hf H locs hG => ?_)
  refine iv_5_131 S hl.1 hG hk_r2 (c_6_couldGive l hk_r2 hf) ⟨Nat.le_of_ble_eq_true rfl, Nat.le_of_ble_eq_true rfl⟩ (Nat.le_of_ble_eq_true rfl) d_5_sweepOnce_9 (fun v_4 σ_3 hf H locs hG => ?_)
  refine lv_istore (lv' := [(4, .int v_4), (0, .ref (ad r0)), (1, .ref (ad r1)), (2, .ref (ad r2)), (3, .int x3)]) hx hb d_5_sweepOnce_12 hl (by decide) rfl (fun ls hl => ?_)
  refine lv_iload hx hb d_5_sweepOnce_14 (lv_at hl 0 rfl) ?_
  refine lv_aload_n hx hb d_5_sweepOnce_16 rfl (lv_at hl 1 rfl) ?_
  refine gf_5_9 S hG hk_r0 d_5_sweepOnce_17 ?_
  refine iv_5_116 S hl.1 hG (kr_5_0 hk_r0) (c_8_room l (kr_5_0 hk_r0) hf) ⟨Nat.le_of_ble_eq_true rfl, Nat.le_of_ble_eq_true rfl⟩ (Nat.le_of_ble_eq_true rfl) d_5_sweepOnce_20 (fun v_6 σ_5 hf H locs hG => ?_)
  refine mmn S hl.1 wm_565 wm_345 wm_20 wm_346 (by decide) (Nat.le_of_ble_eq_true rfl) d_5_sweepOnce_23 ?_
  refine lv_topi (fun x5_7 ex5_7 => ?_)
  have hf := hf x5_7 ex5_7
  refine lv_istore (lv' := [(5, .int x5_7), (4, .int v_4), (0, .ref (ad r0)), (1, .ref (ad r1)), (2, .ref (ad r2)), (3, .int x3)]) hx hb d_5_sweepOnce_26 hl (by decide) rfl (fun ls hl => ?_)
  refine lv_aload_n hx hb d_5_sweepOnce_28 rfl (lv_at hl 4 rfl) ?_
  refine gf_5_137 S hG hk_r2 d_5_sweepOnce_29 ?_
  refine lv_iload_n hx hb d_5_sweepOnce_32 rfl (lv_at hl 5 rfl) ?_
  refine lv_dup2_11 hx hb d_5_sweepOnce_33 rfl rfl ?_
  refine mia S hG 20 rfl rfl (kr_6_3 hk_r2) hf.1 d_5_sweepOnce_34 ?_
  have hf := hf.2
  refine lv_iload hx hb d_5_sweepOnce_35 (lv_at hl 0 rfl) ?_
  refine lv_isub hx hb d_5_sweepOnce_37 ?_
  refine mis S hG 20 rfl rfl (kr_6_3 hk_r2) hf.1 d_5_sweepOnce_38 (fun σ_8 eσ_8 H locs hG => ?_)
  have hf := hf.2 σ_8 eσ_8
  refine lv_aload_n hx hb d_5_sweepOnce_39 rfl (lv_at hl 2 rfl) ?_
  refine gf_5_9 S hG hk_r0 d_5_sweepOnce_40 ?_
  refine lv_dup hx hb d_5_sweepOnce_43 rfl ?_
  refine gf_5_140 S hG (kr_5_0 hk_r0) d_5_sweepOnce_44 ?_
  refine lv_iload hx hb d_5_sweepOnce_47 (lv_at hl 0 rfl) ?_
  refine lv_iadd hx hb d_5_sweepOnce_49 ?_
  refine pf_5_140 S hG (kr_5_0 hk_r0) d_5_sweepOnce_50 (fun σ_9 eσ_9 H locs hG => ?_)
  have hf := hf σ_9 eσ_9
  refine lv_aload_n hx hb d_5_sweepOnce_53 rfl (lv_at hl 3 rfl) ?_
  refine lv_dup hx hb d_5_sweepOnce_54 rfl ?_
  refine gf_5_42 S hG hk_r1 d_5_sweepOnce_55 ?_
  refine lv_iload hx hb d_5_sweepOnce_58 (lv_at hl 0 rfl) ?_
  refine lv_iadd hx hb d_5_sweepOnce_60 ?_
  refine pf_5_42 S hG hk_r1 d_5_sweepOnce_61 (fun σ_10 eσ_10 H locs hG => ?_)
  have hf := hf σ_10 eσ_10
  refine lv_aload_n hx hb d_5_sweepOnce_64 rfl (lv_at hl 2 rfl) ?_
  refine gf_5_9 S hG hk_r0 d_5_sweepOnce_65 ?_
  refine gf_5_15 S hG (kr_5_0 hk_r0) d_5_sweepOnce_68 ?_
  refine lv_dup hx hb d_5_sweepOnce_71 rfl ?_
  refine gf_5_143 S hG (kr_8_9 (kr_5_0 hk_r0)) d_5_sweepOnce_72 ?_
  refine lv_iload hx hb d_5_sweepOnce_75 (lv_at hl 0 rfl) ?_
  refine lv_iadd hx hb d_5_sweepOnce_77 ?_
  refine pf_5_143 S hG (kr_8_9 (kr_5_0 hk_r0)) d_5_sweepOnce_78 (fun σ_11 eσ_11 H locs hG => ?_)
  have hf := hf σ_11 eσ_11
  refine lv_aload_n hx hb d_5_sweepOnce_81 rfl (lv_at hl 2 rfl) ?_
  refine gf_5_9 S hG hk_r0 d_5_sweepOnce_82 ?_
  refine gf_5_144 S hG (kr_5_0 hk_r0) d_5_sweepOnce_85 ?_
  refine lv_iconst (v := (1 : Int32)) hx hb d_5_sweepOnce_88 (by decide) ?_
  refine lv_iload hx hb d_5_sweepOnce_89 (lv_at hl 0 rfl) ?_
  refine lv_aload_n hx hb d_5_sweepOnce_91 rfl (lv_at hl 2 rfl) ?_
  refine gf_5_9 S hG hk_r0 d_5_sweepOnce_92 ?_
  refine gf_5_104 S hG (kr_5_0 hk_r0) d_5_sweepOnce_95 ?_
  refine lv_iconst (v := (0 : Int32)) hx hb d_5_sweepOnce_98 (by decide) ?_
  refine mia S hG 26 rfl rfl (kr_8_5 (kr_5_0 hk_r0)) hf.1 d_5_sweepOnce_99 ?_
  have hf := hf.2
  refine lv_imul hx hb d_5_sweepOnce_100 ?_
  refine lv_bipush (v := (20 : Int32)) hx hb d_5_sweepOnce_101 (by decide) ?_
  refine lv_idiv hx hb d_5_sweepOnce_103 (by decide) ?_
  refine lv_iadd hx hb d_5_sweepOnce_104 ?_
  refine mmn S hl.1 wm_565 wm_345 wm_20 wm_346 (by decide) (Nat.le_of_ble_eq_true rfl) d_5_sweepOnce_105 ?_
  refine lv_topi (fun x6_12 ex6_12 => ?_)
  have hf := hf x6_12 ex6_12
  refine lv_istore (lv' := [(6, .int x6_12), (5, .int x5_7), (4, .int v_4), (0, .ref (ad r0)), (1, .ref (ad r1)), (2, .ref (ad r2)), (3, .int x3)]) hx hb d_5_sweepOnce_108 hl (by decide) rfl (fun ls hl => ?_)
  refine lv_aload_n hx hb d_5_sweepOnce_110 rfl (lv_at hl 3 rfl) ?_
  refine gf_5_9 S hG hk_r0 d_5_sweepOnce_111 ?_
  refine lv_dup hx hb d_5_sweepOnce_114 rfl ?_
  refine gf_5_144 S hG (kr_5_0 hk_r0) d_5_sweepOnce_115 ?_
  refine lv_iload hx hb d_5_sweepOnce_118 (lv_at hl 0 rfl) ?_
  refine lv_isub hx hb d_5_sweepOnce_120 ?_
  refine pf_5_144 S hG (kr_5_0 hk_r0) d_5_sweepOnce_121 (fun σ_13 eσ_13 H locs hG => ?_)
  have hf := hf σ_13 eσ_13
  refine lv_aload_n hx hb d_5_sweepOnce_124 rfl (lv_at hl 3 rfl) ?_
  refine gf_5_9 S hG hk_r0 d_5_sweepOnce_125 ?_
  refine gf_5_15 S hG (kr_5_0 hk_r0) d_5_sweepOnce_128 ?_
  refine lv_dup hx hb d_5_sweepOnce_131 rfl ?_
  refine gf_5_147 S hG (kr_8_9 (kr_5_0 hk_r0)) d_5_sweepOnce_132 ?_
  refine lv_iload hx hb d_5_sweepOnce_135 (lv_at hl 0 rfl) ?_
  refine lv_iadd hx hb d_5_sweepOnce_137 ?_
  refine pf_5_147 S hG (kr_8_9 (kr_5_0 hk_r0)) d_5_sweepOnce_138 (fun σ_14 eσ_14 H locs hG => ?_)
  have hf := hf σ_14 eσ_14
  refine lv_iload hx hb d_5_sweepOnce_141 (lv_at hl 2 rfl) ?_
  refine lv_iload hx hb d_5_sweepOnce_143 (lv_at hl 1 rfl) ?_
  refine lv_icmp_ne (tgt := 152) hx hb d_5_sweepOnce_145 (by decide) (fun hc => ?_) (fun hc => ?_)
  · have hf := hf.1 hc
    refine lv_iconst (v := (0 : Int32)) hx hb d_5_sweepOnce_152 (by decide) ?_
    exact hR _ _ _ _ _ _ hG (by unfold isB; decide) hf d_5_sweepOnce_153
  · have hf := hf.2 hc
    refine lv_iconst (v := (1 : Int32)) hx hb d_5_sweepOnce_148 (by decide) ?_
    refine lv_goto (tgt := 153) hx hb d_5_sweepOnce_149 (by decide) ?_
    exact hR _ _ _ _ _ _ hG (by unfold isB; decide) hf d_5_sweepOnce_153
theorem c_5_sweepOnce (l : Launch) {D : va_G} {ac : Nat → ClassId} {ad : Nat → Nat} {st : SS} {A : Nat → Prop} {σ : St} {r0 : Nat} {r1 : Nat} {r2 : Nat} {x3 : Int32} {Q : Int32 → St → Prop} (hk_r0 : kd r0 = 5) (hk_r1 : kd r1 = 1) (hk_r2 : kd r2 = 6) (hf : m_5_sweepOnce r0 r1 r2 x3 Q σ) : Met l y_5_sweepOnce (Cond.code y_5_sweepOnce prog_7_method_8_code 7 (some .boolean) :: wA) { frames := 1, cells := 0, slots := 0, locals := 22 } (va_Pc [.ref (ad r0), .ref (ad r1), .ref (ad r2), .int x3] (GSt A D ac ad st σ)) (va_Qi Q (GSt A D ac ad st) A) 0 0 A :=
  mkZ l (by decide +kernel) rfl [.ref (ad r0), .ref (ad r1), .ref (ad r2), .int x3] (Nat.le_of_ble_eq_true rfl) (fun p e s m args below meth c ls QW S hR hG hl => w_5_sweepOnce_0 S hR hk_r0 hk_r1 hk_r2 hG hl hf)
end MB
end
section
theorem d_8_emptyHopper_0 : decode prog_10_method_18_code 0 = .ok (.aload_n 0, 1) := by decide +kernel
theorem d_8_emptyHopper_1 : decode prog_10_method_18_code 1 = .ok (.getfield 27, 3) := by decide +kernel
theorem d_8_emptyHopper_4 : decode prog_10_method_18_code 4 = .ok (.iconst 5, 1) := by decide +kernel
theorem d_8_emptyHopper_5 : decode prog_10_method_18_code 5 = .ok (.dup2, 1) := by decide +kernel
theorem d_8_emptyHopper_6 : decode prog_10_method_18_code 6 = .ok (.iaload, 1) := by decide +kernel
theorem d_8_emptyHopper_7 : decode prog_10_method_18_code 7 = .ok (.aload_n 0, 1) := by decide +kernel
theorem d_8_emptyHopper_8 : decode prog_10_method_18_code 8 = .ok (.getfield 69, 3) := by decide +kernel
theorem d_8_emptyHopper_11 : decode prog_10_method_18_code 11 = .ok (.iadd, 1) := by decide +kernel
theorem d_8_emptyHopper_12 : decode prog_10_method_18_code 12 = .ok (.iastore, 1) := by decide +kernel
theorem d_8_emptyHopper_13 : decode prog_10_method_18_code 13 = .ok (.aload_n 0, 1) := by decide +kernel
theorem d_8_emptyHopper_14 : decode prog_10_method_18_code 14 = .ok (.iconst 0, 1) := by decide +kernel
theorem d_8_emptyHopper_15 : decode prog_10_method_18_code 15 = .ok (.putfield 69, 3) := by decide +kernel
theorem d_8_emptyHopper_18 : decode prog_10_method_18_code 18 = .ok (.return_, 1) := by decide +kernel
def m_8_emptyHopper (r0 : Nat) (Q : St → Prop) (σ : St) : Prop :=
  vp_in (5 : Int32) 6 ∧ vp_in (5 : Int32) 6 ∧ ∀ σ_1 : St, σ_1 = wr σ (r0 + 4) ((5 : Int32)).toNatClampNeg ((σ.1 (r0 + 4) ((5 : Int32)).toNatClampNeg) + (σ.1 r0 7)) → ∀ σ_2 : St, σ_2 = wr σ_1 r0 7 (0 : Int32) → Q σ_2
theorem d_5_finishCell_0 : decode prog_7_method_6_code 0 = .ok (.aload_n 0, 1) := by decide +kernel
theorem d_5_finishCell_1 : decode prog_7_method_6_code 1 = .ok (.invokevirtual 108, 3) := by decide +kernel
theorem d_5_finishCell_4 : decode prog_7_method_6_code 4 = .ok (.istore 4, 2) := by decide +kernel
theorem d_5_finishCell_6 : decode prog_7_method_6_code 6 = .ok (.iconst 2, 1) := by decide +kernel
theorem d_5_finishCell_7 : decode prog_7_method_6_code 7 = .ok (.aload_n 2, 1) := by decide +kernel
theorem d_5_finishCell_8 : decode prog_7_method_6_code 8 = .ok (.invokevirtual 100, 3) := by decide +kernel
theorem d_5_finishCell_11 : decode prog_7_method_6_code 11 = .ok (.imul, 1) := by decide +kernel
theorem d_5_finishCell_12 : decode prog_7_method_6_code 12 = .ok (.bipush 100, 2) := by decide +kernel
theorem d_5_finishCell_14 : decode prog_7_method_6_code 14 = .ok (.iadd, 1) := by decide +kernel
theorem d_5_finishCell_15 : decode prog_7_method_6_code 15 = .ok (.istore 5, 2) := by decide +kernel
theorem d_5_finishCell_17 : decode prog_7_method_6_code 17 = .ok (.iconst 0, 1) := by decide +kernel
theorem d_5_finishCell_18 : decode prog_7_method_6_code 18 = .ok (.istore 6, 2) := by decide +kernel
theorem d_5_finishCell_20 : decode prog_7_method_6_code 20 = .ok (.iload 6, 2) := by decide +kernel
theorem d_5_finishCell_22 : decode prog_7_method_6_code 22 = .ok (.ldc 111, 2) := by decide +kernel
theorem d_5_finishCell_24 : decode prog_7_method_6_code 24 = .ok (.if_icmp .ge 133, 3) := by decide +kernel
theorem d_5_finishCell_27 : decode prog_7_method_6_code 27 = .ok (.aload_n 0, 1) := by decide +kernel
theorem d_5_finishCell_28 : decode prog_7_method_6_code 28 = .ok (.iload 4, 2) := by decide +kernel
theorem d_5_finishCell_30 : decode prog_7_method_6_code 30 = .ok (.aload_n 2, 1) := by decide +kernel
theorem d_5_finishCell_31 : decode prog_7_method_6_code 31 = .ok (.invokevirtual 85, 3) := by decide +kernel
theorem d_5_finishCell_34 : decode prog_7_method_6_code 34 = .ok (.ifCond .ne 5, 3) := by decide +kernel
theorem d_5_finishCell_37 : decode prog_7_method_6_code 37 = .ok (.iconst 2, 1) := by decide +kernel
theorem d_5_finishCell_38 : decode prog_7_method_6_code 38 = .ok (.ireturn, 1) := by decide +kernel
theorem d_5_finishCell_39 : decode prog_7_method_6_code 39 = .ok (.aload_n 0, 1) := by decide +kernel
theorem d_5_finishCell_40 : decode prog_7_method_6_code 40 = .ok (.getfield 9, 3) := by decide +kernel
theorem d_5_finishCell_43 : decode prog_7_method_6_code 43 = .ok (.getfield 15, 3) := by decide +kernel
theorem d_5_finishCell_46 : decode prog_7_method_6_code 46 = .ok (.dup, 1) := by decide +kernel
theorem d_5_finishCell_47 : decode prog_7_method_6_code 47 = .ok (.getfield 89, 3) := by decide +kernel
theorem d_5_finishCell_50 : decode prog_7_method_6_code 50 = .ok (.iload 4, 2) := by decide +kernel
theorem d_5_finishCell_52 : decode prog_7_method_6_code 52 = .ok (.iadd, 1) := by decide +kernel
theorem d_5_finishCell_53 : decode prog_7_method_6_code 53 = .ok (.putfield 89, 3) := by decide +kernel
theorem d_5_finishCell_56 : decode prog_7_method_6_code 56 = .ok (.aload_n 0, 1) := by decide +kernel
theorem d_5_finishCell_57 : decode prog_7_method_6_code 57 = .ok (.aload_n 1, 1) := by decide +kernel
theorem d_5_finishCell_58 : decode prog_7_method_6_code 58 = .ok (.aload_n 2, 1) := by decide +kernel
theorem d_5_finishCell_59 : decode prog_7_method_6_code 59 = .ok (.iload_n 3, 1) := by decide +kernel
theorem d_5_finishCell_60 : decode prog_7_method_6_code 60 = .ok (.invokevirtual 112, 3) := by decide +kernel
theorem d_5_finishCell_63 : decode prog_7_method_6_code 63 = .ok (.istore 7, 2) := by decide +kernel
theorem d_5_finishCell_65 : decode prog_7_method_6_code 65 = .ok (.iload 7, 2) := by decide +kernel
theorem d_5_finishCell_67 : decode prog_7_method_6_code 67 = .ok (.ifCond .eq 25, 3) := by decide +kernel
theorem d_5_finishCell_70 : decode prog_7_method_6_code 70 = .ok (.aload_n 1, 1) := by decide +kernel
theorem d_5_finishCell_71 : decode prog_7_method_6_code 71 = .ok (.dup, 1) := by decide +kernel
theorem d_5_finishCell_72 : decode prog_7_method_6_code 72 = .ok (.getfield 37, 3) := by decide +kernel
theorem d_5_finishCell_75 : decode prog_7_method_6_code 75 = .ok (.iconst 1, 1) := by decide +kernel
theorem d_5_finishCell_76 : decode prog_7_method_6_code 76 = .ok (.iadd, 1) := by decide +kernel
theorem d_5_finishCell_77 : decode prog_7_method_6_code 77 = .ok (.putfield 37, 3) := by decide +kernel
theorem d_5_finishCell_80 : decode prog_7_method_6_code 80 = .ok (.aload_n 0, 1) := by decide +kernel
theorem d_5_finishCell_81 : decode prog_7_method_6_code 81 = .ok (.getfield 9, 3) := by decide +kernel
theorem d_5_finishCell_84 : decode prog_7_method_6_code 84 = .ok (.invokevirtual 116, 3) := by decide +kernel
theorem d_5_finishCell_87 : decode prog_7_method_6_code 87 = .ok (.ifCond .le 5, 3) := by decide +kernel
theorem d_5_finishCell_90 : decode prog_7_method_6_code 90 = .ok (.iconst 0, 1) := by decide +kernel
theorem d_5_finishCell_91 : decode prog_7_method_6_code 91 = .ok (.ireturn, 1) := by decide +kernel
theorem d_5_finishCell_92 : decode prog_7_method_6_code 92 = .ok (.aload_n 0, 1) := by decide +kernel
theorem d_5_finishCell_93 : decode prog_7_method_6_code 93 = .ok (.iload 5, 2) := by decide +kernel
theorem d_5_finishCell_95 : decode prog_7_method_6_code 95 = .ok (.aload_n 2, 1) := by decide +kernel
theorem d_5_finishCell_96 : decode prog_7_method_6_code 96 = .ok (.invokevirtual 85, 3) := by decide +kernel
theorem d_5_finishCell_99 : decode prog_7_method_6_code 99 = .ok (.ifCond .ne 5, 3) := by decide +kernel
theorem d_5_finishCell_102 : decode prog_7_method_6_code 102 = .ok (.iconst 3, 1) := by decide +kernel
theorem d_5_finishCell_103 : decode prog_7_method_6_code 103 = .ok (.ireturn, 1) := by decide +kernel
theorem d_5_finishCell_104 : decode prog_7_method_6_code 104 = .ok (.aload_n 0, 1) := by decide +kernel
theorem d_5_finishCell_105 : decode prog_7_method_6_code 105 = .ok (.getfield 9, 3) := by decide +kernel
theorem d_5_finishCell_108 : decode prog_7_method_6_code 108 = .ok (.getfield 15, 3) := by decide +kernel
theorem d_5_finishCell_111 : decode prog_7_method_6_code 111 = .ok (.dup, 1) := by decide +kernel
theorem d_5_finishCell_112 : decode prog_7_method_6_code 112 = .ok (.getfield 89, 3) := by decide +kernel
theorem d_5_finishCell_115 : decode prog_7_method_6_code 115 = .ok (.iload 5, 2) := by decide +kernel
theorem d_5_finishCell_117 : decode prog_7_method_6_code 117 = .ok (.iadd, 1) := by decide +kernel
theorem d_5_finishCell_118 : decode prog_7_method_6_code 118 = .ok (.putfield 89, 3) := by decide +kernel
theorem d_5_finishCell_121 : decode prog_7_method_6_code 121 = .ok (.aload_n 0, 1) := by decide +kernel
theorem d_5_finishCell_122 : decode prog_7_method_6_code 122 = .ok (.getfield 9, 3) := by decide +kernel
theorem d_5_finishCell_125 : decode prog_7_method_6_code 125 = .ok (.getfield 15, 3) := by decide +kernel
theorem d_5_finishCell_128 : decode prog_7_method_6_code 128 = .ok (.dup, 1) := by decide +kernel
theorem d_5_finishCell_129 : decode prog_7_method_6_code 129 = .ok (.getfield 119, 3) := by decide +kernel
theorem d_5_finishCell_132 : decode prog_7_method_6_code 132 = .ok (.iconst 1, 1) := by decide +kernel
theorem d_5_finishCell_133 : decode prog_7_method_6_code 133 = .ok (.iadd, 1) := by decide +kernel
theorem d_5_finishCell_134 : decode prog_7_method_6_code 134 = .ok (.putfield 119, 3) := by decide +kernel
theorem d_5_finishCell_137 : decode prog_7_method_6_code 137 = .ok (.aload_n 0, 1) := by decide +kernel
theorem d_5_finishCell_138 : decode prog_7_method_6_code 138 = .ok (.getfield 9, 3) := by decide +kernel
theorem d_5_finishCell_141 : decode prog_7_method_6_code 141 = .ok (.invokevirtual 122, 3) := by decide +kernel
theorem d_5_finishCell_144 : decode prog_7_method_6_code 144 = .ok (.iload 7, 2) := by decide +kernel
theorem d_5_finishCell_146 : decode prog_7_method_6_code 146 = .ok (.ifCond .eq 5, 3) := by decide +kernel
theorem d_5_finishCell_149 : decode prog_7_method_6_code 149 = .ok (.iconst 0, 1) := by decide +kernel
theorem d_5_finishCell_150 : decode prog_7_method_6_code 150 = .ok (.ireturn, 1) := by decide +kernel
theorem d_5_finishCell_151 : decode prog_7_method_6_code 151 = .ok (.iinc 6 1, 3) := by decide +kernel
theorem d_5_finishCell_154 : decode prog_7_method_6_code 154 = .ok (.goto (-134), 3) := by decide +kernel
theorem d_5_finishCell_157 : decode prog_7_method_6_code 157 = .ok (.iconst 2, 1) := by decide +kernel
theorem d_5_finishCell_158 : decode prog_7_method_6_code 158 = .ok (.ireturn, 1) := by decide +kernel
def m_5_finishCell_92 (r0 : Nat) (r1 : Nat) (r2 : Nat) (x3 : Int32) (x4 : Int32) (x5 : Int32) (x6 : Int32) (x7 : Int32) (B20 : Int32 → St → Prop) (Q : Int32 → St → Prop) (σ : St) : Prop :=
  m_5_fits r0 x5 r2 (fun (v_2 : Int32) (σ_1 : St) => ((¬ v_2 = 0 → ∀ σ_3 : St, σ_3 = wr σ_1 ((rfR r0) + 5) 1 ((σ_1.1 ((rfR r0) + 5) 1) + x5) → ∀ σ_4 : St, σ_4 = wr σ_3 ((rfR r0) + 5) 2 ((σ_3.1 ((rfR r0) + 5) 2) + (1 : Int32)) → m_8_emptyHopper (rfR r0) (fun (σ_5 : St) => ((x7 = 0 → ∀ x6_7 : Int32, x6_7 = x6 + 1 → B20 x6_7 σ_5) ∧ (¬ x7 = 0 → Q (0 : Int32) σ_5))) σ_4) ∧ (v_2 = 0 → Q (3 : Int32) σ_1))) σ
def m_5_finishCell_20 (r0 : Nat) (r1 : Nat) (r2 : Nat) (x3 : Int32) (x4 : Int32) (x5 : Int32) (Q : Int32 → St → Prop) (B20 : Int32 → St → Prop) (x6 : Int32) (σ : St) : Prop :=
  (((1000000 : Int32) ≤ x6 → Q (2 : Int32) σ) ∧ (¬ (1000000 : Int32) ≤ x6 → m_5_fits r0 x4 r2 (fun (v_2 : Int32) (σ_1 : St) => ((¬ v_2 = 0 → ∀ σ_3 : St, σ_3 = wr σ_1 ((rfR r0) + 5) 1 ((σ_1.1 ((rfR r0) + 5) 1) + x4) → m_5_sweepOnce r0 r1 r2 x3 (fun (v_5 : Int32) (σ_4 : St) => ((v_5 = 0 → m_5_finishCell_92 r0 r1 r2 x3 x4 x5 x6 v_5 B20 Q   σ_4) ∧ (¬ v_5 = 0 → ∀ σ_6 : St, σ_6 = wr σ_4 r1 2 ((σ_4.1 r1 2) + (1 : Int32)) → m_8_room (rfR r0) (fun (v_8 : Int32) (σ_7 : St) => ((v_8 ≤ 0 → m_5_finishCell_92 r0 r1 r2 x3 x4 x5 x6 v_5 B20 Q   σ_7) ∧ (¬ v_8 ≤ 0 → Q (0 : Int32) σ_7))) σ_6))) σ_3) ∧ (v_2 = 0 → Q (2 : Int32) σ_1))) σ))
def m_5_finishCell (r0 : Nat) (r1 : Nat) (r2 : Nat) (x3 : Int32) (Q : Int32 → St → Prop) (σ : St) : Prop :=
  m_5_unitsForCell r0 (fun (v_2 : Int32) (σ_1 : St) => m_6_driveToDump r2 (fun (v_4 : Int32) (σ_3 : St) => ∀ x5_5 : Int32, x5_5 = (((2 : Int32) * v_4) + (100 : Int32)) → itN (m_5_finishCell_20 r0 r1 r2 x3 v_2 x5_5 Q) (fun _ _ => False) FU (0 : Int32) σ_3) σ_1) σ
theorem d_5_endShift_0 : decode prog_7_method_9_code 0 = .ok (.aload_n 0, 1) := by decide +kernel
theorem d_5_endShift_1 : decode prog_7_method_9_code 1 = .ok (.getfield 26, 3) := by decide +kernel
theorem d_5_endShift_4 : decode prog_7_method_9_code 4 = .ok (.iconst (-1), 1) := by decide +kernel
theorem d_5_endShift_5 : decode prog_7_method_9_code 5 = .ok (.if_icmp .eq 33, 3) := by decide +kernel
theorem d_5_endShift_8 : decode prog_7_method_9_code 8 = .ok (.aload_n 0, 1) := by decide +kernel
theorem d_5_endShift_9 : decode prog_7_method_9_code 9 = .ok (.getfield 9, 3) := by decide +kernel
theorem d_5_endShift_12 : decode prog_7_method_9_code 12 = .ok (.getfield 15, 3) := by decide +kernel
theorem d_5_endShift_15 : decode prog_7_method_9_code 15 = .ok (.dup, 1) := by decide +kernel
theorem d_5_endShift_16 : decode prog_7_method_9_code 16 = .ok (.getfield 89, 3) := by decide +kernel
theorem d_5_endShift_19 : decode prog_7_method_9_code 19 = .ok (.aload_n 0, 1) := by decide +kernel
theorem d_5_endShift_20 : decode prog_7_method_9_code 20 = .ok (.getfield 9, 3) := by decide +kernel
theorem d_5_endShift_23 : decode prog_7_method_9_code 23 = .ok (.getfield 48, 3) := by decide +kernel
theorem d_5_endShift_26 : decode prog_7_method_9_code 26 = .ok (.aload_n 0, 1) := by decide +kernel
theorem d_5_endShift_27 : decode prog_7_method_9_code 27 = .ok (.getfield 26, 3) := by decide +kernel
theorem d_5_endShift_30 : decode prog_7_method_9_code 30 = .ok (.aaload, 1) := by decide +kernel
theorem d_5_endShift_31 : decode prog_7_method_9_code 31 = .ok (.invokevirtual 100, 3) := by decide +kernel
theorem d_5_endShift_34 : decode prog_7_method_9_code 34 = .ok (.iadd, 1) := by decide +kernel
theorem d_5_endShift_35 : decode prog_7_method_9_code 35 = .ok (.putfield 89, 3) := by decide +kernel
theorem d_5_endShift_38 : decode prog_7_method_9_code 38 = .ok (.iconst 2, 1) := by decide +kernel
theorem d_5_endShift_39 : decode prog_7_method_9_code 39 = .ok (.aload_n 0, 1) := by decide +kernel
theorem d_5_endShift_40 : decode prog_7_method_9_code 40 = .ok (.getfield 9, 3) := by decide +kernel
theorem d_5_endShift_43 : decode prog_7_method_9_code 43 = .ok (.getfield 140, 3) := by decide +kernel
theorem d_5_endShift_46 : decode prog_7_method_9_code 46 = .ok (.imul, 1) := by decide +kernel
theorem d_5_endShift_47 : decode prog_7_method_9_code 47 = .ok (.aload_n 0, 1) := by decide +kernel
theorem d_5_endShift_48 : decode prog_7_method_9_code 48 = .ok (.getfield 9, 3) := by decide +kernel
theorem d_5_endShift_51 : decode prog_7_method_9_code 51 = .ok (.getfield 104, 3) := by decide +kernel
theorem d_5_endShift_54 : decode prog_7_method_9_code 54 = .ok (.iconst 1, 1) := by decide +kernel
theorem d_5_endShift_55 : decode prog_7_method_9_code 55 = .ok (.iaload, 1) := by decide +kernel
theorem d_5_endShift_56 : decode prog_7_method_9_code 56 = .ok (.if_icmp .lt 10, 3) := by decide +kernel
theorem d_5_endShift_59 : decode prog_7_method_9_code 59 = .ok (.aload_n 0, 1) := by decide +kernel
theorem d_5_endShift_60 : decode prog_7_method_9_code 60 = .ok (.getfield 9, 3) := by decide +kernel
theorem d_5_endShift_63 : decode prog_7_method_9_code 63 = .ok (.invokevirtual 122, 3) := by decide +kernel
theorem d_5_endShift_66 : decode prog_7_method_9_code 66 = .ok (.aload_n 0, 1) := by decide +kernel
theorem d_5_endShift_67 : decode prog_7_method_9_code 67 = .ok (.getfield 9, 3) := by decide +kernel
theorem d_5_endShift_70 : decode prog_7_method_9_code 70 = .ok (.getfield 144, 3) := by decide +kernel
theorem d_5_endShift_73 : decode prog_7_method_9_code 73 = .ok (.aload_n 0, 1) := by decide +kernel
theorem d_5_endShift_74 : decode prog_7_method_9_code 74 = .ok (.getfield 9, 3) := by decide +kernel
theorem d_5_endShift_77 : decode prog_7_method_9_code 77 = .ok (.getfield 104, 3) := by decide +kernel
theorem d_5_endShift_80 : decode prog_7_method_9_code 80 = .ok (.iconst 4, 1) := by decide +kernel
theorem d_5_endShift_81 : decode prog_7_method_9_code 81 = .ok (.iaload, 1) := by decide +kernel
theorem d_5_endShift_82 : decode prog_7_method_9_code 82 = .ok (.if_icmp .ge 38, 3) := by decide +kernel
theorem d_5_endShift_85 : decode prog_7_method_9_code 85 = .ok (.aload_n 0, 1) := by decide +kernel
theorem d_5_endShift_86 : decode prog_7_method_9_code 86 = .ok (.getfield 9, 3) := by decide +kernel
theorem d_5_endShift_89 : decode prog_7_method_9_code 89 = .ok (.getfield 104, 3) := by decide +kernel
theorem d_5_endShift_92 : decode prog_7_method_9_code 92 = .ok (.iconst 2, 1) := by decide +kernel
theorem d_5_endShift_93 : decode prog_7_method_9_code 93 = .ok (.iaload, 1) := by decide +kernel
theorem d_5_endShift_94 : decode prog_7_method_9_code 94 = .ok (.ifCond .le 26, 3) := by decide +kernel
theorem d_5_endShift_97 : decode prog_7_method_9_code 97 = .ok (.aload_n 0, 1) := by decide +kernel
theorem d_5_endShift_98 : decode prog_7_method_9_code 98 = .ok (.getfield 9, 3) := by decide +kernel
theorem d_5_endShift_101 : decode prog_7_method_9_code 101 = .ok (.sipush 1000, 3) := by decide +kernel
theorem d_5_endShift_104 : decode prog_7_method_9_code 104 = .ok (.putfield 144, 3) := by decide +kernel
theorem d_5_endShift_107 : decode prog_7_method_9_code 107 = .ok (.aload_n 0, 1) := by decide +kernel
theorem d_5_endShift_108 : decode prog_7_method_9_code 108 = .ok (.getfield 9, 3) := by decide +kernel
theorem d_5_endShift_111 : decode prog_7_method_9_code 111 = .ok (.getfield 104, 3) := by decide +kernel
theorem d_5_endShift_114 : decode prog_7_method_9_code 114 = .ok (.iconst 2, 1) := by decide +kernel
theorem d_5_endShift_115 : decode prog_7_method_9_code 115 = .ok (.dup2, 1) := by decide +kernel
theorem d_5_endShift_116 : decode prog_7_method_9_code 116 = .ok (.iaload, 1) := by decide +kernel
theorem d_5_endShift_117 : decode prog_7_method_9_code 117 = .ok (.iconst 1, 1) := by decide +kernel
theorem d_5_endShift_118 : decode prog_7_method_9_code 118 = .ok (.isub, 1) := by decide +kernel
theorem d_5_endShift_119 : decode prog_7_method_9_code 119 = .ok (.iastore, 1) := by decide +kernel
theorem d_5_endShift_120 : decode prog_7_method_9_code 120 = .ok (.aload_n 0, 1) := by decide +kernel
theorem d_5_endShift_121 : decode prog_7_method_9_code 121 = .ok (.getfield 9, 3) := by decide +kernel
theorem d_5_endShift_124 : decode prog_7_method_9_code 124 = .ok (.dup, 1) := by decide +kernel
theorem d_5_endShift_125 : decode prog_7_method_9_code 125 = .ok (.getfield 150, 3) := by decide +kernel
theorem d_5_endShift_128 : decode prog_7_method_9_code 128 = .ok (.iconst 1, 1) := by decide +kernel
theorem d_5_endShift_129 : decode prog_7_method_9_code 129 = .ok (.iadd, 1) := by decide +kernel
theorem d_5_endShift_130 : decode prog_7_method_9_code 130 = .ok (.putfield 150, 3) := by decide +kernel
theorem d_5_endShift_133 : decode prog_7_method_9_code 133 = .ok (.aload_n 0, 1) := by decide +kernel
theorem d_5_endShift_134 : decode prog_7_method_9_code 134 = .ok (.getfield 9, 3) := by decide +kernel
theorem d_5_endShift_137 : decode prog_7_method_9_code 137 = .ok (.iconst 1, 1) := by decide +kernel
theorem d_5_endShift_138 : decode prog_7_method_9_code 138 = .ok (.putfield 153, 3) := by decide +kernel
theorem d_5_endShift_141 : decode prog_7_method_9_code 141 = .ok (.return_, 1) := by decide +kernel
def m_5_endShift_120 (r0 : Nat) (Q : St → Prop) (σ : St) : Prop :=
  ∀ σ_1 : St, σ_1 = wr σ (rfR r0) 10 ((σ.1 (rfR r0) 10) + (1 : Int32)) → ∀ σ_2 : St, σ_2 = wr σ_1 (rfR r0) 4 (1 : Int32) → Q σ_2
def m_5_endShift_66 (r0 : Nat) (Q : St → Prop) (σ : St) : Prop :=
  vp_in (4 : Int32) 6 ∧ (((σ.1 ((rfR r0) + 3) ((4 : Int32)).toNatClampNeg) ≤ (σ.1 (rfR r0) 6) → m_5_endShift_120 r0 Q   σ) ∧ (¬ (σ.1 ((rfR r0) + 3) ((4 : Int32)).toNatClampNeg) ≤ (σ.1 (rfR r0) 6) → vp_in (2 : Int32) 6 ∧ (((σ.1 ((rfR r0) + 3) ((2 : Int32)).toNatClampNeg) ≤ 0 → m_5_endShift_120 r0 Q   σ) ∧ (¬ (σ.1 ((rfR r0) + 3) ((2 : Int32)).toNatClampNeg) ≤ 0 → ∀ σ_1 : St, σ_1 = wr σ (rfR r0) 6 (1000 : Int32) → vp_in (2 : Int32) 6 ∧ vp_in (2 : Int32) 6 ∧ ∀ σ_2 : St, σ_2 = wr σ_1 ((rfR r0) + 3) ((2 : Int32)).toNatClampNeg ((σ_1.1 ((rfR r0) + 3) ((2 : Int32)).toNatClampNeg) - (1 : Int32)) → m_5_endShift_120 r0 Q   σ_2))))
def m_5_endShift_38 (r0 : Nat) (Q : St → Prop) (σ : St) : Prop :=
  vp_in (1 : Int32) 6 ∧ ((((2 : Int32) * (σ.1 (rfR r0) 7)) < (σ.1 ((rfR r0) + 3) ((1 : Int32)).toNatClampNeg) → m_5_endShift_66 r0 Q   σ) ∧ (¬ ((2 : Int32) * (σ.1 (rfR r0) 7)) < (σ.1 ((rfR r0) + 3) ((1 : Int32)).toNatClampNeg) → m_8_emptyHopper (rfR r0) (fun (σ_1 : St) => m_5_endShift_66 r0 Q   σ_1) σ))
def m_5_endShift (r0 : Nat) (Q : St → Prop) (σ : St) : Prop :=
  (((σ.1 r0 1) = (-1 : Int32) → m_5_endShift_38 r0 Q   σ) ∧ (¬ (σ.1 r0 1) = (-1 : Int32) → vp_in (σ.1 r0 1) 6 ∧ m_6_driveToDump (((rfR r0) + 1) + 5 + 3 * ((σ.1 r0 1)).toNatClampNeg) (fun (v_3 : Int32) (σ_2 : St) => ∀ σ_4 : St, σ_4 = wr σ_2 ((rfR r0) + 5) 1 ((σ.1 ((rfR r0) + 5) 1) + v_3) → m_5_endShift_38 r0 Q   σ_4) σ))
theorem d_5_carryOut_0 : decode prog_7_method_2_code 0 = .ok (.aload_n 0, 1) := by decide +kernel
theorem d_5_carryOut_1 : decode prog_7_method_2_code 1 = .ok (.getfield 9, 3) := by decide +kernel
theorem d_5_carryOut_4 : decode prog_7_method_2_code 4 = .ok (.getfield 15, 3) := by decide +kernel
theorem d_5_carryOut_7 : decode prog_7_method_2_code 7 = .ok (.astore_n 1, 1) := by decide +kernel
theorem d_5_carryOut_8 : decode prog_7_method_2_code 8 = .ok (.aload_n 1, 1) := by decide +kernel
theorem d_5_carryOut_9 : decode prog_7_method_2_code 9 = .ok (.invokevirtual 21, 3) := by decide +kernel
theorem d_5_carryOut_12 : decode prog_7_method_2_code 12 = .ok (.aload_n 0, 1) := by decide +kernel
theorem d_5_carryOut_13 : decode prog_7_method_2_code 13 = .ok (.iconst (-1), 1) := by decide +kernel
theorem d_5_carryOut_14 : decode prog_7_method_2_code 14 = .ok (.putfield 26, 3) := by decide +kernel
theorem d_5_carryOut_17 : decode prog_7_method_2_code 17 = .ok (.iconst 0, 1) := by decide +kernel
theorem d_5_carryOut_18 : decode prog_7_method_2_code 18 = .ok (.istore_n 2, 1) := by decide +kernel
theorem d_5_carryOut_19 : decode prog_7_method_2_code 19 = .ok (.iload_n 2, 1) := by decide +kernel
theorem d_5_carryOut_20 : decode prog_7_method_2_code 20 = .ok (.aload_n 0, 1) := by decide +kernel
theorem d_5_carryOut_21 : decode prog_7_method_2_code 21 = .ok (.getfield 9, 3) := by decide +kernel
theorem d_5_carryOut_24 : decode prog_7_method_2_code 24 = .ok (.getfield 30, 3) := by decide +kernel
theorem d_5_carryOut_27 : decode prog_7_method_2_code 27 = .ok (.if_icmp .ge 35, 3) := by decide +kernel
theorem d_5_carryOut_30 : decode prog_7_method_2_code 30 = .ok (.aload_n 0, 1) := by decide +kernel
theorem d_5_carryOut_31 : decode prog_7_method_2_code 31 = .ok (.getfield 9, 3) := by decide +kernel
theorem d_5_carryOut_34 : decode prog_7_method_2_code 34 = .ok (.getfield 33, 3) := by decide +kernel
theorem d_5_carryOut_37 : decode prog_7_method_2_code 37 = .ok (.iload_n 2, 1) := by decide +kernel
theorem d_5_carryOut_38 : decode prog_7_method_2_code 38 = .ok (.aaload, 1) := by decide +kernel
theorem d_5_carryOut_39 : decode prog_7_method_2_code 39 = .ok (.iconst 0, 1) := by decide +kernel
theorem d_5_carryOut_40 : decode prog_7_method_2_code 40 = .ok (.putfield 37, 3) := by decide +kernel
theorem d_5_carryOut_43 : decode prog_7_method_2_code 43 = .ok (.aload_n 0, 1) := by decide +kernel
theorem d_5_carryOut_44 : decode prog_7_method_2_code 44 = .ok (.getfield 9, 3) := by decide +kernel
theorem d_5_carryOut_47 : decode prog_7_method_2_code 47 = .ok (.getfield 33, 3) := by decide +kernel
theorem d_5_carryOut_50 : decode prog_7_method_2_code 50 = .ok (.iload_n 2, 1) := by decide +kernel
theorem d_5_carryOut_51 : decode prog_7_method_2_code 51 = .ok (.aaload, 1) := by decide +kernel
theorem d_5_carryOut_52 : decode prog_7_method_2_code 52 = .ok (.iconst 0, 1) := by decide +kernel
theorem d_5_carryOut_53 : decode prog_7_method_2_code 53 = .ok (.putfield 42, 3) := by decide +kernel
theorem d_5_carryOut_56 : decode prog_7_method_2_code 56 = .ok (.iinc 2 1, 3) := by decide +kernel
theorem d_5_carryOut_59 : decode prog_7_method_2_code 59 = .ok (.goto (-40), 3) := by decide +kernel
theorem d_5_carryOut_62 : decode prog_7_method_2_code 62 = .ok (.iconst 0, 1) := by decide +kernel
theorem d_5_carryOut_63 : decode prog_7_method_2_code 63 = .ok (.istore_n 2, 1) := by decide +kernel
theorem d_5_carryOut_64 : decode prog_7_method_2_code 64 = .ok (.iload_n 2, 1) := by decide +kernel
theorem d_5_carryOut_65 : decode prog_7_method_2_code 65 = .ok (.aload_n 0, 1) := by decide +kernel
theorem d_5_carryOut_66 : decode prog_7_method_2_code 66 = .ok (.getfield 9, 3) := by decide +kernel
theorem d_5_carryOut_69 : decode prog_7_method_2_code 69 = .ok (.getfield 30, 3) := by decide +kernel
theorem d_5_carryOut_72 : decode prog_7_method_2_code 72 = .ok (.if_icmp .ge 115, 3) := by decide +kernel
theorem d_5_carryOut_75 : decode prog_7_method_2_code 75 = .ok (.aload_n 1, 1) := by decide +kernel
theorem d_5_carryOut_76 : decode prog_7_method_2_code 76 = .ok (.getfield 45, 3) := by decide +kernel
theorem d_5_carryOut_79 : decode prog_7_method_2_code 79 = .ok (.ifCond .ne 108, 3) := by decide +kernel
theorem d_5_carryOut_82 : decode prog_7_method_2_code 82 = .ok (.aload_n 0, 1) := by decide +kernel
theorem d_5_carryOut_83 : decode prog_7_method_2_code 83 = .ok (.getfield 9, 3) := by decide +kernel
theorem d_5_carryOut_86 : decode prog_7_method_2_code 86 = .ok (.getfield 33, 3) := by decide +kernel
theorem d_5_carryOut_89 : decode prog_7_method_2_code 89 = .ok (.iload_n 2, 1) := by decide +kernel
theorem d_5_carryOut_90 : decode prog_7_method_2_code 90 = .ok (.aaload, 1) := by decide +kernel
theorem d_5_carryOut_91 : decode prog_7_method_2_code 91 = .ok (.astore_n 3, 1) := by decide +kernel
theorem d_5_carryOut_92 : decode prog_7_method_2_code 92 = .ok (.aload_n 0, 1) := by decide +kernel
theorem d_5_carryOut_93 : decode prog_7_method_2_code 93 = .ok (.getfield 9, 3) := by decide +kernel
theorem d_5_carryOut_96 : decode prog_7_method_2_code 96 = .ok (.getfield 48, 3) := by decide +kernel
theorem d_5_carryOut_99 : decode prog_7_method_2_code 99 = .ok (.aload_n 3, 1) := by decide +kernel
theorem d_5_carryOut_100 : decode prog_7_method_2_code 100 = .ok (.getfield 52, 3) := by decide +kernel
theorem d_5_carryOut_103 : decode prog_7_method_2_code 103 = .ok (.aaload, 1) := by decide +kernel
theorem d_5_carryOut_104 : decode prog_7_method_2_code 104 = .ok (.astore 4, 2) := by decide +kernel
theorem d_5_carryOut_106 : decode prog_7_method_2_code 106 = .ok (.aload_n 1, 1) := by decide +kernel
theorem d_5_carryOut_107 : decode prog_7_method_2_code 107 = .ok (.aload_n 0, 1) := by decide +kernel
theorem d_5_carryOut_108 : decode prog_7_method_2_code 108 = .ok (.aload_n 3, 1) := by decide +kernel
theorem d_5_carryOut_109 : decode prog_7_method_2_code 109 = .ok (.aload 4, 2) := by decide +kernel
theorem d_5_carryOut_111 : decode prog_7_method_2_code 111 = .ok (.invokevirtual 55, 3) := by decide +kernel
theorem d_5_carryOut_114 : decode prog_7_method_2_code 114 = .ok (.putfield 45, 3) := by decide +kernel
theorem d_5_carryOut_117 : decode prog_7_method_2_code 117 = .ok (.iconst 0, 1) := by decide +kernel
theorem d_5_carryOut_118 : decode prog_7_method_2_code 118 = .ok (.istore 5, 2) := by decide +kernel
theorem d_5_carryOut_120 : decode prog_7_method_2_code 120 = .ok (.iload 5, 2) := by decide +kernel
theorem d_5_carryOut_122 : decode prog_7_method_2_code 122 = .ok (.aload 4, 2) := by decide +kernel
theorem d_5_carryOut_124 : decode prog_7_method_2_code 124 = .ok (.getfield 59, 3) := by decide +kernel
theorem d_5_carryOut_127 : decode prog_7_method_2_code 127 = .ok (.if_icmp .ge 36, 3) := by decide +kernel
theorem d_5_carryOut_130 : decode prog_7_method_2_code 130 = .ok (.aload_n 1, 1) := by decide +kernel
theorem d_5_carryOut_131 : decode prog_7_method_2_code 131 = .ok (.getfield 45, 3) := by decide +kernel
theorem d_5_carryOut_134 : decode prog_7_method_2_code 134 = .ok (.ifCond .ne 29, 3) := by decide +kernel
theorem d_5_carryOut_137 : decode prog_7_method_2_code 137 = .ok (.aload_n 1, 1) := by decide +kernel
theorem d_5_carryOut_138 : decode prog_7_method_2_code 138 = .ok (.aload_n 0, 1) := by decide +kernel
theorem d_5_carryOut_139 : decode prog_7_method_2_code 139 = .ok (.aload_n 3, 1) := by decide +kernel
theorem d_5_carryOut_140 : decode prog_7_method_2_code 140 = .ok (.aload 4, 2) := by decide +kernel
theorem d_5_carryOut_142 : decode prog_7_method_2_code 142 = .ok (.aload_n 3, 1) := by decide +kernel
theorem d_5_carryOut_143 : decode prog_7_method_2_code 143 = .ok (.getfield 64, 3) := by decide +kernel
theorem d_5_carryOut_146 : decode prog_7_method_2_code 146 = .ok (.iload 5, 2) := by decide +kernel
theorem d_5_carryOut_148 : decode prog_7_method_2_code 148 = .ok (.invokestatic 67, 3) := by decide +kernel
theorem d_5_carryOut_151 : decode prog_7_method_2_code 151 = .ok (.invokevirtual 71, 3) := by decide +kernel
theorem d_5_carryOut_154 : decode prog_7_method_2_code 154 = .ok (.putfield 45, 3) := by decide +kernel
theorem d_5_carryOut_157 : decode prog_7_method_2_code 157 = .ok (.iinc 5 1, 3) := by decide +kernel
theorem d_5_carryOut_160 : decode prog_7_method_2_code 160 = .ok (.goto (-40), 3) := by decide +kernel
theorem d_5_carryOut_163 : decode prog_7_method_2_code 163 = .ok (.aload_n 1, 1) := by decide +kernel
theorem d_5_carryOut_164 : decode prog_7_method_2_code 164 = .ok (.aload_n 1, 1) := by decide +kernel
theorem d_5_carryOut_165 : decode prog_7_method_2_code 165 = .ok (.getfield 45, 3) := by decide +kernel
theorem d_5_carryOut_168 : decode prog_7_method_2_code 168 = .ok (.ifCond .ne 9, 3) := by decide +kernel
theorem d_5_carryOut_171 : decode prog_7_method_2_code 171 = .ok (.iload_n 2, 1) := by decide +kernel
theorem d_5_carryOut_172 : decode prog_7_method_2_code 172 = .ok (.iconst 1, 1) := by decide +kernel
theorem d_5_carryOut_173 : decode prog_7_method_2_code 173 = .ok (.iadd, 1) := by decide +kernel
theorem d_5_carryOut_174 : decode prog_7_method_2_code 174 = .ok (.goto 4, 3) := by decide +kernel
theorem d_5_carryOut_177 : decode prog_7_method_2_code 177 = .ok (.iload_n 2, 1) := by decide +kernel
theorem d_5_carryOut_178 : decode prog_7_method_2_code 178 = .ok (.putfield 75, 3) := by decide +kernel
theorem d_5_carryOut_181 : decode prog_7_method_2_code 181 = .ok (.iinc 2 1, 3) := by decide +kernel
theorem d_5_carryOut_184 : decode prog_7_method_2_code 184 = .ok (.goto (-120), 3) := by decide +kernel
theorem d_5_carryOut_187 : decode prog_7_method_2_code 187 = .ok (.aload_n 0, 1) := by decide +kernel
theorem d_5_carryOut_188 : decode prog_7_method_2_code 188 = .ok (.invokevirtual 78, 3) := by decide +kernel
theorem d_5_carryOut_191 : decode prog_7_method_2_code 191 = .ok (.return_, 1) := by decide +kernel
def m_5_carryOut_187 (r0 : Nat) (Q : St → Prop) (σ : St) : Prop :=
  m_5_endShift r0 (fun (σ_1 : St) => Q σ_1) σ
def m_5_carryOut_178 (r0 : Nat) (r1 : Nat) (x2 : Int32) (B64 : Int32 → St → Prop) (Q : St → Prop) (t0 : Int32) (t1 : Nat) (σ : St) : Prop :=
  ∀ σ_1 : St, σ_1 = wr σ t1 5 t0 → ∀ x2_2 : Int32, x2_2 = x2 + 1 → B64 x2_2 σ_1
def m_5_carryOut_163 (r0 : Nat) (r1 : Nat) (x2 : Int32) (B64 : Int32 → St → Prop) (Q : St → Prop) (σ : St) : Prop :=
  ((¬ (σ.1 r1 0) = 0 → m_5_carryOut_178 r0 r1 x2 B64 Q  x2 r1 σ) ∧ ((σ.1 r1 0) = 0 → m_5_carryOut_178 r0 r1 x2 B64 Q  (x2 + (1 : Int32)) r1 σ))
def m_5_carryOut_120 (r0 : Nat) (r1 : Nat) (x2 : Int32) (r3 : Nat) (r4 : Nat) (B64 : Int32 → St → Prop) (Q : St → Prop) (B120 : Int32 → St → Prop) (x5 : Int32) (σ : St) : Prop :=
  (((σ.1 r4 0) ≤ x5 → m_5_carryOut_163 r0 r1 x2 B64 Q   σ) ∧ (¬ (σ.1 r4 0) ≤ x5 → ((¬ (σ.1 r1 0) = 0 → m_5_carryOut_163 r0 r1 x2 B64 Q   σ) ∧ ((σ.1 r1 0) = 0 → m_9_placeOf (σ.1 r3 1) x5 (fun (v_2 : Int32) (σ_1 : St) => m_5_finishCell r0 r3 r4 v_2 (fun (v_4 : Int32) (σ_3 : St) => ∀ σ_5 : St, σ_5 = wr σ_3 r1 0 v_4 → ∀ x5_6 : Int32, x5_6 = x5 + 1 → B120 x5_6 σ_5) σ_1) σ))))
def m_5_carryOut_64 (r0 : Nat) (r1 : Nat) (Q : St → Prop) (B64 : Int32 → St → Prop) (x2 : Int32) (σ : St) : Prop :=
  (((σ.1 (rfR r0) 3) ≤ x2 → m_5_carryOut_187 r0 Q   σ) ∧ (¬ (σ.1 (rfR r0) 3) ≤ x2 → ((¬ (σ.1 r1 0) = 0 → m_5_carryOut_187 r0 Q   σ) ∧ ((σ.1 r1 0) = 0 → vp_in x2 10 ∧ ∀ r3_2 : Nat, r3_2 = (((rfR r0) + 2) + 22 + (x2).toNatClampNeg) → vp_in (σ.1 r3_2 0) 6 ∧ ∀ r4_4 : Nat, r4_4 = (((rfR r0) + 1) + 5 + 3 * ((σ.1 r3_2 0)).toNatClampNeg) → m_5_driveToLeg r0 r3_2 r4_4 (fun (v_6 : Int32) (σ_5 : St) => ∀ σ_7 : St, σ_7 = wr σ_5 r1 0 v_6 → itN (m_5_carryOut_120 r0 r1 x2 r3_2 r4_4 B64 Q) (fun _ _ => False) FU (0 : Int32) σ_7) σ))))
def m_5_carryOut_19 (r0 : Nat) (r1 : Nat) (Q : St → Prop) (B19 : Int32 → St → Prop) (x2 : Int32) (σ : St) : Prop :=
  (((σ.1 (rfR r0) 3) ≤ x2 → itN (m_5_carryOut_64 r0 r1 Q) (fun _ _ => False) FU (0 : Int32) σ) ∧ (¬ (σ.1 (rfR r0) 3) ≤ x2 → vp_in x2 10 ∧ ∀ σ_2 : St, σ_2 = wr σ (((rfR r0) + 2) + 22 + (x2).toNatClampNeg) 2 (0 : Int32) → vp_in x2 10 ∧ ∀ σ_4 : St, σ_4 = wr σ_2 (((rfR r0) + 2) + 22 + (x2).toNatClampNeg) 3 (0 : Int32) → ∀ x2_5 : Int32, x2_5 = x2 + 1 → B19 x2_5 σ_4))
def m_5_carryOut (r0 : Nat) (Q : St → Prop) (σ : St) : Prop :=
  ∀ r1_1 : Nat, r1_1 = ((rfR r0) + 5) → m_4_clear r1_1 (fun (σ_2 : St) => ∀ σ_4 : St, σ_4 = wr σ_2 r0 1 (-1 : Int32) → itN (m_5_carryOut_19 r0 r1_1 Q) (fun _ _ => False) FU (0 : Int32) σ_4) σ
theorem d_9_shift_0 : decode prog_1_method_16_code 0 = .ok (.aload_n 0, 1) := by decide +kernel
theorem d_9_shift_1 : decode prog_1_method_16_code 1 = .ok (.getfield 42, 3) := by decide +kernel
theorem d_9_shift_4 : decode prog_1_method_16_code 4 = .ok (.aload_n 0, 1) := by decide +kernel
theorem d_9_shift_5 : decode prog_1_method_16_code 5 = .ok (.getfield 26, 3) := by decide +kernel
theorem d_9_shift_8 : decode prog_1_method_16_code 8 = .ok (.invokevirtual 80, 3) := by decide +kernel
theorem d_9_shift_11 : decode prog_1_method_16_code 11 = .ok (.aload_n 0, 1) := by decide +kernel
theorem d_9_shift_12 : decode prog_1_method_16_code 12 = .ok (.getfield 35, 3) := by decide +kernel
theorem d_9_shift_15 : decode prog_1_method_16_code 15 = .ok (.invokevirtual 208, 3) := by decide +kernel
theorem d_9_shift_18 : decode prog_1_method_16_code 18 = .ok (.aload_n 0, 1) := by decide +kernel
theorem d_9_shift_19 : decode prog_1_method_16_code 19 = .ok (.getfield 26, 3) := by decide +kernel
theorem d_9_shift_22 : decode prog_1_method_16_code 22 = .ok (.getfield 211, 3) := by decide +kernel
theorem d_9_shift_25 : decode prog_1_method_16_code 25 = .ok (.getfield 215, 3) := by decide +kernel
theorem d_9_shift_28 : decode prog_1_method_16_code 28 = .ok (.ireturn, 1) := by decide +kernel
def m_9_shift (r0 : Nat) (Q : Int32 → St → Prop) (σ : St) : Prop :=
  m_0_remember (r0 + 42) (r0 + 7) (fun (σ_1 : St) => m_5_carryOut (r0 + 41) (fun (σ_3 : St) => Q (σ_3.1 ((r0 + 7) + 5) 3) σ_3) σ_1) σ
theorem d_8_fallOn_0 : decode prog_10_method_19_code 0 = .ok (.aload_n 1, 1) := by decide +kernel
theorem d_8_fallOn_1 : decode prog_10_method_19_code 1 = .ok (.getfield 101, 3) := by decide +kernel
theorem d_8_fallOn_4 : decode prog_10_method_19_code 4 = .ok (.aload_n 0, 1) := by decide +kernel
theorem d_8_fallOn_5 : decode prog_10_method_19_code 5 = .ok (.getfield 23, 3) := by decide +kernel
theorem d_8_fallOn_8 : decode prog_10_method_19_code 8 = .ok (.iconst 5, 1) := by decide +kernel
theorem d_8_fallOn_9 : decode prog_10_method_19_code 9 = .ok (.iaload, 1) := by decide +kernel
theorem d_8_fallOn_10 : decode prog_10_method_19_code 10 = .ok (.imul, 1) := by decide +kernel
theorem d_8_fallOn_11 : decode prog_10_method_19_code 11 = .ok (.bipush 100, 2) := by decide +kernel
theorem d_8_fallOn_13 : decode prog_10_method_19_code 13 = .ok (.idiv, 1) := by decide +kernel
theorem d_8_fallOn_14 : decode prog_10_method_19_code 14 = .ok (.ireturn, 1) := by decide +kernel
def m_8_fallOn (r0 : Nat) (r1 : Nat) (Q : Int32 → St → Prop) (σ : St) : Prop :=
  vp_in (5 : Int32) 6 ∧ Q (((σ.1 r1 2) * (σ.1 (r0 + 3) ((5 : Int32)).toNatClampNeg)) / (100 : Int32)) σ
theorem d_6_putDirt_0 : decode prog_8_method_9_code 0 = .ok (.aload_n 0, 1) := by decide +kernel
theorem d_6_putDirt_1 : decode prog_8_method_9_code 1 = .ok (.getfield 9, 3) := by decide +kernel
theorem d_6_putDirt_4 : decode prog_8_method_9_code 4 = .ok (.iload_n 1, 1) := by decide +kernel
theorem d_6_putDirt_5 : decode prog_8_method_9_code 5 = .ok (.iaload, 1) := by decide +kernel
theorem d_6_putDirt_6 : decode prog_8_method_9_code 6 = .ok (.iload_n 2, 1) := by decide +kernel
theorem d_6_putDirt_7 : decode prog_8_method_9_code 7 = .ok (.iadd, 1) := by decide +kernel
theorem d_6_putDirt_8 : decode prog_8_method_9_code 8 = .ok (.istore_n 3, 1) := by decide +kernel
theorem d_6_putDirt_9 : decode prog_8_method_9_code 9 = .ok (.aload_n 0, 1) := by decide +kernel
theorem d_6_putDirt_10 : decode prog_8_method_9_code 10 = .ok (.getfield 9, 3) := by decide +kernel
theorem d_6_putDirt_13 : decode prog_8_method_9_code 13 = .ok (.iload_n 1, 1) := by decide +kernel
theorem d_6_putDirt_14 : decode prog_8_method_9_code 14 = .ok (.iload_n 3, 1) := by decide +kernel
theorem d_6_putDirt_15 : decode prog_8_method_9_code 15 = .ok (.bipush 99, 2) := by decide +kernel
theorem d_6_putDirt_17 : decode prog_8_method_9_code 17 = .ok (.invokestatic 42, 3) := by decide +kernel
theorem d_6_putDirt_20 : decode prog_8_method_9_code 20 = .ok (.iastore, 1) := by decide +kernel
theorem d_6_putDirt_21 : decode prog_8_method_9_code 21 = .ok (.iload_n 3, 1) := by decide +kernel
theorem d_6_putDirt_22 : decode prog_8_method_9_code 22 = .ok (.aload_n 0, 1) := by decide +kernel
theorem d_6_putDirt_23 : decode prog_8_method_9_code 23 = .ok (.getfield 9, 3) := by decide +kernel
theorem d_6_putDirt_26 : decode prog_8_method_9_code 26 = .ok (.iload_n 1, 1) := by decide +kernel
theorem d_6_putDirt_27 : decode prog_8_method_9_code 27 = .ok (.iaload, 1) := by decide +kernel
theorem d_6_putDirt_28 : decode prog_8_method_9_code 28 = .ok (.isub, 1) := by decide +kernel
theorem d_6_putDirt_29 : decode prog_8_method_9_code 29 = .ok (.ireturn, 1) := by decide +kernel
def m_6_putDirt (r0 : Nat) (x1 : Int32) (x2 : Int32) (Q : Int32 → St → Prop) (σ : St) : Prop :=
  vp_in x1 40 ∧ ∀ x3_1 : Int32, x3_1 = ((σ.1 (r0 + 1) (x1).toNatClampNeg) + x2) → vp_in x1 40 ∧ ∀ σ_2 : St, σ_2 = wr σ (r0 + 1) (x1).toNatClampNeg (if (99 : Int32) < x3_1 then (99 : Int32) else x3_1) → vp_in x1 40 ∧ Q (x3_1 - (σ_2.1 (r0 + 1) (x1).toNatClampNeg)) σ_2
theorem d_8_passNights_0 : decode prog_10_method_20_code 0 = .ok (.iconst 0, 1) := by decide +kernel
theorem d_8_passNights_1 : decode prog_10_method_20_code 1 = .ok (.istore_n 2, 1) := by decide +kernel
theorem d_8_passNights_2 : decode prog_10_method_20_code 2 = .ok (.iload_n 2, 1) := by decide +kernel
theorem d_8_passNights_3 : decode prog_10_method_20_code 3 = .ok (.aload_n 0, 1) := by decide +kernel
theorem d_8_passNights_4 : decode prog_10_method_20_code 4 = .ok (.getfield 52, 3) := by decide +kernel
theorem d_8_passNights_7 : decode prog_10_method_20_code 7 = .ok (.if_icmp .ge 90, 3) := by decide +kernel
theorem d_8_passNights_10 : decode prog_10_method_20_code 10 = .ok (.aload_n 0, 1) := by decide +kernel
theorem d_8_passNights_11 : decode prog_10_method_20_code 11 = .ok (.getfield 11, 3) := by decide +kernel
theorem d_8_passNights_14 : decode prog_10_method_20_code 14 = .ok (.iload_n 2, 1) := by decide +kernel
theorem d_8_passNights_15 : decode prog_10_method_20_code 15 = .ok (.aaload, 1) := by decide +kernel
theorem d_8_passNights_16 : decode prog_10_method_20_code 16 = .ok (.astore_n 3, 1) := by decide +kernel
theorem d_8_passNights_17 : decode prog_10_method_20_code 17 = .ok (.aload_n 0, 1) := by decide +kernel
theorem d_8_passNights_18 : decode prog_10_method_20_code 18 = .ok (.aload_n 3, 1) := by decide +kernel
theorem d_8_passNights_19 : decode prog_10_method_20_code 19 = .ok (.invokevirtual 123, 3) := by decide +kernel
theorem d_8_passNights_22 : decode prog_10_method_20_code 22 = .ok (.iload_n 1, 1) := by decide +kernel
theorem d_8_passNights_23 : decode prog_10_method_20_code 23 = .ok (.imul, 1) := by decide +kernel
theorem d_8_passNights_24 : decode prog_10_method_20_code 24 = .ok (.istore 4, 2) := by decide +kernel
theorem d_8_passNights_26 : decode prog_10_method_20_code 26 = .ok (.iconst 0, 1) := by decide +kernel
theorem d_8_passNights_27 : decode prog_10_method_20_code 27 = .ok (.istore 5, 2) := by decide +kernel
theorem d_8_passNights_29 : decode prog_10_method_20_code 29 = .ok (.iload 5, 2) := by decide +kernel
theorem d_8_passNights_31 : decode prog_10_method_20_code 31 = .ok (.aload_n 3, 1) := by decide +kernel
theorem d_8_passNights_32 : decode prog_10_method_20_code 32 = .ok (.getfield 85, 3) := by decide +kernel
theorem d_8_passNights_35 : decode prog_10_method_20_code 35 = .ok (.if_icmp .ge 56, 3) := by decide +kernel
theorem d_8_passNights_38 : decode prog_10_method_20_code 38 = .ok (.aload_n 0, 1) := by decide +kernel
theorem d_8_passNights_39 : decode prog_10_method_20_code 39 = .ok (.getfield 27, 3) := by decide +kernel
theorem d_8_passNights_42 : decode prog_10_method_20_code 42 = .ok (.iconst 3, 1) := by decide +kernel
theorem d_8_passNights_43 : decode prog_10_method_20_code 43 = .ok (.dup2, 1) := by decide +kernel
theorem d_8_passNights_44 : decode prog_10_method_20_code 44 = .ok (.iaload, 1) := by decide +kernel
theorem d_8_passNights_45 : decode prog_10_method_20_code 45 = .ok (.aload_n 3, 1) := by decide +kernel
theorem d_8_passNights_46 : decode prog_10_method_20_code 46 = .ok (.iconst 0, 1) := by decide +kernel
theorem d_8_passNights_47 : decode prog_10_method_20_code 47 = .ok (.iload 5, 2) := by decide +kernel
theorem d_8_passNights_49 : decode prog_10_method_20_code 49 = .ok (.invokestatic 127, 3) := by decide +kernel
theorem d_8_passNights_52 : decode prog_10_method_20_code 52 = .ok (.iload 4, 2) := by decide +kernel
theorem d_8_passNights_54 : decode prog_10_method_20_code 54 = .ok (.invokevirtual 130, 3) := by decide +kernel
theorem d_8_passNights_57 : decode prog_10_method_20_code 57 = .ok (.aload_n 3, 1) := by decide +kernel
theorem d_8_passNights_58 : decode prog_10_method_20_code 58 = .ok (.iconst 1, 1) := by decide +kernel
theorem d_8_passNights_59 : decode prog_10_method_20_code 59 = .ok (.iload 5, 2) := by decide +kernel
theorem d_8_passNights_61 : decode prog_10_method_20_code 61 = .ok (.invokestatic 127, 3) := by decide +kernel
theorem d_8_passNights_64 : decode prog_10_method_20_code 64 = .ok (.iload 4, 2) := by decide +kernel
theorem d_8_passNights_66 : decode prog_10_method_20_code 66 = .ok (.invokevirtual 130, 3) := by decide +kernel
theorem d_8_passNights_69 : decode prog_10_method_20_code 69 = .ok (.iadd, 1) := by decide +kernel
theorem d_8_passNights_70 : decode prog_10_method_20_code 70 = .ok (.iadd, 1) := by decide +kernel
theorem d_8_passNights_71 : decode prog_10_method_20_code 71 = .ok (.iastore, 1) := by decide +kernel
theorem d_8_passNights_72 : decode prog_10_method_20_code 72 = .ok (.aload_n 0, 1) := by decide +kernel
theorem d_8_passNights_73 : decode prog_10_method_20_code 73 = .ok (.getfield 27, 3) := by decide +kernel
theorem d_8_passNights_76 : decode prog_10_method_20_code 76 = .ok (.iconst 1, 1) := by decide +kernel
theorem d_8_passNights_77 : decode prog_10_method_20_code 77 = .ok (.dup2, 1) := by decide +kernel
theorem d_8_passNights_78 : decode prog_10_method_20_code 78 = .ok (.iaload, 1) := by decide +kernel
theorem d_8_passNights_79 : decode prog_10_method_20_code 79 = .ok (.iconst 2, 1) := by decide +kernel
theorem d_8_passNights_80 : decode prog_10_method_20_code 80 = .ok (.iload 4, 2) := by decide +kernel
theorem d_8_passNights_82 : decode prog_10_method_20_code 82 = .ok (.imul, 1) := by decide +kernel
theorem d_8_passNights_83 : decode prog_10_method_20_code 83 = .ok (.iadd, 1) := by decide +kernel
theorem d_8_passNights_84 : decode prog_10_method_20_code 84 = .ok (.iastore, 1) := by decide +kernel
theorem d_8_passNights_85 : decode prog_10_method_20_code 85 = .ok (.iinc 5 1, 3) := by decide +kernel
theorem d_8_passNights_88 : decode prog_10_method_20_code 88 = .ok (.goto (-59), 3) := by decide +kernel
theorem d_8_passNights_91 : decode prog_10_method_20_code 91 = .ok (.iinc 2 1, 3) := by decide +kernel
theorem d_8_passNights_94 : decode prog_10_method_20_code 94 = .ok (.goto (-92), 3) := by decide +kernel
theorem d_8_passNights_97 : decode prog_10_method_20_code 97 = .ok (.aload_n 0, 1) := by decide +kernel
theorem d_8_passNights_98 : decode prog_10_method_20_code 98 = .ok (.dup, 1) := by decide +kernel
theorem d_8_passNights_99 : decode prog_10_method_20_code 99 = .ok (.getfield 78, 3) := by decide +kernel
theorem d_8_passNights_102 : decode prog_10_method_20_code 102 = .ok (.iload_n 1, 1) := by decide +kernel
theorem d_8_passNights_103 : decode prog_10_method_20_code 103 = .ok (.iadd, 1) := by decide +kernel
theorem d_8_passNights_104 : decode prog_10_method_20_code 104 = .ok (.putfield 78, 3) := by decide +kernel
theorem d_8_passNights_107 : decode prog_10_method_20_code 107 = .ok (.return_, 1) := by decide +kernel
def m_8_passNights_29 (r0 : Nat) (x1 : Int32) (x2 : Int32) (r3 : Nat) (x4 : Int32) (B2 : Int32 → St → Prop) (Q : St → Prop) (B29 : Int32 → St → Prop) (x5 : Int32) (σ : St) : Prop :=
  (((σ.1 r3 0) ≤ x5 → ∀ x2_1 : Int32, x2_1 = x2 + 1 → B2 x2_1 σ) ∧ (¬ (σ.1 r3 0) ≤ x5 → vp_in (3 : Int32) 6 ∧ m_9_placeOf (0 : Int32) x5 (fun (v_3 : Int32) (σ_2 : St) => m_6_putDirt r3 v_3 x4 (fun (v_5 : Int32) (σ_4 : St) => m_9_placeOf (1 : Int32) x5 (fun (v_7 : Int32) (σ_6 : St) => m_6_putDirt r3 v_7 x4 (fun (v_9 : Int32) (σ_8 : St) => vp_in (3 : Int32) 6 ∧ ∀ σ_10 : St, σ_10 = wr σ_8 (r0 + 4) ((3 : Int32)).toNatClampNeg ((σ.1 (r0 + 4) ((3 : Int32)).toNatClampNeg) + (v_5 + v_9)) → vp_in (1 : Int32) 6 ∧ vp_in (1 : Int32) 6 ∧ ∀ σ_11 : St, σ_11 = wr σ_10 (r0 + 4) ((1 : Int32)).toNatClampNeg ((σ_10.1 (r0 + 4) ((1 : Int32)).toNatClampNeg) + ((2 : Int32) * x4)) → ∀ x5_12 : Int32, x5_12 = x5 + 1 → B29 x5_12 σ_11) σ_6) σ_4) σ_2) σ))
def m_8_passNights_2 (r0 : Nat) (x1 : Int32) (Q : St → Prop) (B2 : Int32 → St → Prop) (x2 : Int32) (σ : St) : Prop :=
  (((σ.1 r0 1) ≤ x2 → ∀ σ_1 : St, σ_1 = wr σ r0 11 ((σ.1 r0 11) + x1) → Q σ_1) ∧ (¬ (σ.1 r0 1) ≤ x2 → vp_in x2 6 ∧ ∀ r3_3 : Nat, r3_3 = ((r0 + 1) + 5 + 3 * (x2).toNatClampNeg) → m_8_fallOn r0 r3_3 (fun (v_5 : Int32) (σ_4 : St) => ∀ x4_6 : Int32, x4_6 = (v_5 * x1) → itN (m_8_passNights_29 r0 x1 x2 r3_3 x4_6 B2 Q) (fun _ _ => False) FU (0 : Int32) σ_4) σ))
def m_8_passNights (r0 : Nat) (x1 : Int32) (Q : St → Prop) (σ : St) : Prop :=
  itN (m_8_passNights_2 r0 x1 Q) (fun _ _ => False) FU (0 : Int32) σ
theorem d_6_allDirt_0 : decode prog_8_method_5_code 0 = .ok (.aload_n 0, 1) := by decide +kernel
theorem d_6_allDirt_1 : decode prog_8_method_5_code 1 = .ok (.iconst 0, 1) := by decide +kernel
theorem d_6_allDirt_2 : decode prog_8_method_5_code 2 = .ok (.invokevirtual 33, 3) := by decide +kernel
theorem d_6_allDirt_5 : decode prog_8_method_5_code 5 = .ok (.aload_n 0, 1) := by decide +kernel
theorem d_6_allDirt_6 : decode prog_8_method_5_code 6 = .ok (.iconst 1, 1) := by decide +kernel
theorem d_6_allDirt_7 : decode prog_8_method_5_code 7 = .ok (.invokevirtual 33, 3) := by decide +kernel
theorem d_6_allDirt_10 : decode prog_8_method_5_code 10 = .ok (.iadd, 1) := by decide +kernel
theorem d_6_allDirt_11 : decode prog_8_method_5_code 11 = .ok (.ireturn, 1) := by decide +kernel
def m_6_allDirt (r0 : Nat) (Q : Int32 → St → Prop) (σ : St) : Prop :=
  m_6_dirtOfSide r0 (0 : Int32) (fun (v_2 : Int32) (σ_1 : St) => m_6_dirtOfSide r0 (1 : Int32) (fun (v_4 : Int32) (σ_3 : St) => Q (v_2 + v_4) σ_3) σ_1) σ
theorem d_8_dirtOnStreets_0 : decode prog_10_method_6_code 0 = .ok (.iconst 0, 1) := by decide +kernel
theorem d_8_dirtOnStreets_1 : decode prog_10_method_6_code 1 = .ok (.istore_n 1, 1) := by decide +kernel
theorem d_8_dirtOnStreets_2 : decode prog_10_method_6_code 2 = .ok (.iconst 0, 1) := by decide +kernel
theorem d_8_dirtOnStreets_3 : decode prog_10_method_6_code 3 = .ok (.istore_n 2, 1) := by decide +kernel
theorem d_8_dirtOnStreets_4 : decode prog_10_method_6_code 4 = .ok (.iload_n 2, 1) := by decide +kernel
theorem d_8_dirtOnStreets_5 : decode prog_10_method_6_code 5 = .ok (.aload_n 0, 1) := by decide +kernel
theorem d_8_dirtOnStreets_6 : decode prog_10_method_6_code 6 = .ok (.getfield 52, 3) := by decide +kernel
theorem d_8_dirtOnStreets_9 : decode prog_10_method_6_code 9 = .ok (.if_icmp .ge 21, 3) := by decide +kernel
theorem d_8_dirtOnStreets_12 : decode prog_10_method_6_code 12 = .ok (.iload_n 1, 1) := by decide +kernel
theorem d_8_dirtOnStreets_13 : decode prog_10_method_6_code 13 = .ok (.aload_n 0, 1) := by decide +kernel
theorem d_8_dirtOnStreets_14 : decode prog_10_method_6_code 14 = .ok (.getfield 11, 3) := by decide +kernel
theorem d_8_dirtOnStreets_17 : decode prog_10_method_6_code 17 = .ok (.iload_n 2, 1) := by decide +kernel
theorem d_8_dirtOnStreets_18 : decode prog_10_method_6_code 18 = .ok (.aaload, 1) := by decide +kernel
theorem d_8_dirtOnStreets_19 : decode prog_10_method_6_code 19 = .ok (.invokevirtual 88, 3) := by decide +kernel
theorem d_8_dirtOnStreets_22 : decode prog_10_method_6_code 22 = .ok (.iadd, 1) := by decide +kernel
theorem d_8_dirtOnStreets_23 : decode prog_10_method_6_code 23 = .ok (.istore_n 1, 1) := by decide +kernel
theorem d_8_dirtOnStreets_24 : decode prog_10_method_6_code 24 = .ok (.iinc 2 1, 3) := by decide +kernel
theorem d_8_dirtOnStreets_27 : decode prog_10_method_6_code 27 = .ok (.goto (-23), 3) := by decide +kernel
theorem d_8_dirtOnStreets_30 : decode prog_10_method_6_code 30 = .ok (.iload_n 1, 1) := by decide +kernel
theorem d_8_dirtOnStreets_31 : decode prog_10_method_6_code 31 = .ok (.ireturn, 1) := by decide +kernel
def m_8_dirtOnStreets_4 (r0 : Nat) (Q : Int32 → St → Prop) (B4 : Int32 → Int32 → St → Prop) (x1 : Int32) (x2 : Int32) (σ : St) : Prop :=
  (((σ.1 r0 1) ≤ x2 → Q x1 σ) ∧ (¬ (σ.1 r0 1) ≤ x2 → vp_in x2 6 ∧ m_6_allDirt ((r0 + 1) + 5 + 3 * (x2).toNatClampNeg) (fun (v_3 : Int32) (σ_2 : St) => ∀ x1_4 : Int32, x1_4 = (x1 + v_3) → ∀ x2_5 : Int32, x2_5 = x2 + 1 → B4 x1_4 x2_5 σ_2) σ))
def m_8_dirtOnStreets (r0 : Nat) (Q : Int32 → St → Prop) (σ : St) : Prop :=
  itN (m_8_dirtOnStreets_4 r0 Q) (fun _ _ _ => False) FU (0 : Int32) (0 : Int32) σ
theorem d_9_night_0 : decode prog_1_method_17_code 0 = .ok (.iload_n 1, 1) := by decide +kernel
theorem d_9_night_1 : decode prog_1_method_17_code 1 = .ok (.iconst 1, 1) := by decide +kernel
theorem d_9_night_2 : decode prog_1_method_17_code 2 = .ok (.if_icmp .lt 9, 3) := by decide +kernel
theorem d_9_night_5 : decode prog_1_method_17_code 5 = .ok (.iload_n 1, 1) := by decide +kernel
theorem d_9_night_6 : decode prog_1_method_17_code 6 = .ok (.bipush 30, 2) := by decide +kernel
theorem d_9_night_8 : decode prog_1_method_17_code 8 = .ok (.if_icmp .le 5, 3) := by decide +kernel
theorem d_9_night_11 : decode prog_1_method_17_code 11 = .ok (.iconst (-1), 1) := by decide +kernel
theorem d_9_night_12 : decode prog_1_method_17_code 12 = .ok (.ireturn, 1) := by decide +kernel
theorem d_9_night_13 : decode prog_1_method_17_code 13 = .ok (.aload_n 0, 1) := by decide +kernel
theorem d_9_night_14 : decode prog_1_method_17_code 14 = .ok (.getfield 42, 3) := by decide +kernel
theorem d_9_night_17 : decode prog_1_method_17_code 17 = .ok (.aload_n 0, 1) := by decide +kernel
theorem d_9_night_18 : decode prog_1_method_17_code 18 = .ok (.getfield 26, 3) := by decide +kernel
theorem d_9_night_21 : decode prog_1_method_17_code 21 = .ok (.invokevirtual 80, 3) := by decide +kernel
theorem d_9_night_24 : decode prog_1_method_17_code 24 = .ok (.aload_n 0, 1) := by decide +kernel
theorem d_9_night_25 : decode prog_1_method_17_code 25 = .ok (.getfield 26, 3) := by decide +kernel
theorem d_9_night_28 : decode prog_1_method_17_code 28 = .ok (.iload_n 1, 1) := by decide +kernel
theorem d_9_night_29 : decode prog_1_method_17_code 29 = .ok (.invokevirtual 218, 3) := by decide +kernel
theorem d_9_night_32 : decode prog_1_method_17_code 32 = .ok (.aload_n 0, 1) := by decide +kernel
theorem d_9_night_33 : decode prog_1_method_17_code 33 = .ok (.getfield 26, 3) := by decide +kernel
theorem d_9_night_36 : decode prog_1_method_17_code 36 = .ok (.invokevirtual 221, 3) := by decide +kernel
theorem d_9_night_39 : decode prog_1_method_17_code 39 = .ok (.ireturn, 1) := by decide +kernel
def m_9_night (r0 : Nat) (x1 : Int32) (Q : Int32 → St → Prop) (σ : St) : Prop :=
  ((x1 < (1 : Int32) → Q (-1 : Int32) σ) ∧ (¬ x1 < (1 : Int32) → ((x1 ≤ (30 : Int32) → m_0_remember (r0 + 42) (r0 + 7) (fun (σ_1 : St) => m_8_passNights (r0 + 7) x1 (fun (σ_3 : St) => m_8_dirtOnStreets (r0 + 7) (fun (v_6 : Int32) (σ_5 : St) => Q v_6 σ_5) σ_3) σ_1) σ) ∧ (¬ x1 ≤ (30 : Int32) → Q (-1 : Int32) σ))))
theorem d_6_washSide_0 : decode prog_8_method_10_code 0 = .ok (.iconst 0, 1) := by decide +kernel
theorem d_6_washSide_1 : decode prog_8_method_10_code 1 = .ok (.istore_n 3, 1) := by decide +kernel
theorem d_6_washSide_2 : decode prog_8_method_10_code 2 = .ok (.aload_n 0, 1) := by decide +kernel
theorem d_6_washSide_3 : decode prog_8_method_10_code 3 = .ok (.getfield 19, 3) := by decide +kernel
theorem d_6_washSide_6 : decode prog_8_method_10_code 6 = .ok (.iconst 1, 1) := by decide +kernel
theorem d_6_washSide_7 : decode prog_8_method_10_code 7 = .ok (.isub, 1) := by decide +kernel
theorem d_6_washSide_8 : decode prog_8_method_10_code 8 = .ok (.istore 4, 2) := by decide +kernel
theorem d_6_washSide_10 : decode prog_8_method_10_code 10 = .ok (.iload 4, 2) := by decide +kernel
theorem d_6_washSide_12 : decode prog_8_method_10_code 12 = .ok (.ifCond .lt 86, 3) := by decide +kernel
theorem d_6_washSide_15 : decode prog_8_method_10_code 15 = .ok (.iload_n 1, 1) := by decide +kernel
theorem d_6_washSide_16 : decode prog_8_method_10_code 16 = .ok (.iload 4, 2) := by decide +kernel
theorem d_6_washSide_18 : decode prog_8_method_10_code 18 = .ok (.invokestatic 29, 3) := by decide +kernel
theorem d_6_washSide_21 : decode prog_8_method_10_code 21 = .ok (.istore 5, 2) := by decide +kernel
theorem d_6_washSide_23 : decode prog_8_method_10_code 23 = .ok (.aload_n 0, 1) := by decide +kernel
theorem d_6_washSide_24 : decode prog_8_method_10_code 24 = .ok (.getfield 15, 3) := by decide +kernel
theorem d_6_washSide_27 : decode prog_8_method_10_code 27 = .ok (.iload 5, 2) := by decide +kernel
theorem d_6_washSide_29 : decode prog_8_method_10_code 29 = .ok (.baload, 1) := by decide +kernel
theorem d_6_washSide_30 : decode prog_8_method_10_code 30 = .ok (.ifCond .eq 7, 3) := by decide +kernel
theorem d_6_washSide_33 : decode prog_8_method_10_code 33 = .ok (.iconst 0, 1) := by decide +kernel
theorem d_6_washSide_34 : decode prog_8_method_10_code 34 = .ok (.goto 15, 3) := by decide +kernel
theorem d_6_washSide_37 : decode prog_8_method_10_code 37 = .ok (.aload_n 0, 1) := by decide +kernel
theorem d_6_washSide_38 : decode prog_8_method_10_code 38 = .ok (.getfield 9, 3) := by decide +kernel
theorem d_6_washSide_41 : decode prog_8_method_10_code 41 = .ok (.iload 5, 2) := by decide +kernel
theorem d_6_washSide_43 : decode prog_8_method_10_code 43 = .ok (.iaload, 1) := by decide +kernel
theorem d_6_washSide_44 : decode prog_8_method_10_code 44 = .ok (.iload_n 2, 1) := by decide +kernel
theorem d_6_washSide_45 : decode prog_8_method_10_code 45 = .ok (.imul, 1) := by decide +kernel
theorem d_6_washSide_46 : decode prog_8_method_10_code 46 = .ok (.bipush 100, 2) := by decide +kernel
theorem d_6_washSide_48 : decode prog_8_method_10_code 48 = .ok (.idiv, 1) := by decide +kernel
theorem d_6_washSide_49 : decode prog_8_method_10_code 49 = .ok (.istore 6, 2) := by decide +kernel
theorem d_6_washSide_51 : decode prog_8_method_10_code 51 = .ok (.aload_n 0, 1) := by decide +kernel
theorem d_6_washSide_52 : decode prog_8_method_10_code 52 = .ok (.getfield 9, 3) := by decide +kernel
theorem d_6_washSide_55 : decode prog_8_method_10_code 55 = .ok (.iload 5, 2) := by decide +kernel
theorem d_6_washSide_57 : decode prog_8_method_10_code 57 = .ok (.dup2, 1) := by decide +kernel
theorem d_6_washSide_58 : decode prog_8_method_10_code 58 = .ok (.iaload, 1) := by decide +kernel
theorem d_6_washSide_59 : decode prog_8_method_10_code 59 = .ok (.iload 6, 2) := by decide +kernel
theorem d_6_washSide_61 : decode prog_8_method_10_code 61 = .ok (.isub, 1) := by decide +kernel
theorem d_6_washSide_62 : decode prog_8_method_10_code 62 = .ok (.iastore, 1) := by decide +kernel
theorem d_6_washSide_63 : decode prog_8_method_10_code 63 = .ok (.iload_n 3, 1) := by decide +kernel
theorem d_6_washSide_64 : decode prog_8_method_10_code 64 = .ok (.iload 4, 2) := by decide +kernel
theorem d_6_washSide_66 : decode prog_8_method_10_code 66 = .ok (.aload_n 0, 1) := by decide +kernel
theorem d_6_washSide_67 : decode prog_8_method_10_code 67 = .ok (.getfield 19, 3) := by decide +kernel
theorem d_6_washSide_70 : decode prog_8_method_10_code 70 = .ok (.iconst 1, 1) := by decide +kernel
theorem d_6_washSide_71 : decode prog_8_method_10_code 71 = .ok (.isub, 1) := by decide +kernel
theorem d_6_washSide_72 : decode prog_8_method_10_code 72 = .ok (.if_icmp .ne 8, 3) := by decide +kernel
theorem d_6_washSide_75 : decode prog_8_method_10_code 75 = .ok (.iload 6, 2) := by decide +kernel
theorem d_6_washSide_77 : decode prog_8_method_10_code 77 = .ok (.goto 13, 3) := by decide +kernel
theorem d_6_washSide_80 : decode prog_8_method_10_code 80 = .ok (.aload_n 0, 1) := by decide +kernel
theorem d_6_washSide_81 : decode prog_8_method_10_code 81 = .ok (.iload 5, 2) := by decide +kernel
theorem d_6_washSide_83 : decode prog_8_method_10_code 83 = .ok (.iconst 1, 1) := by decide +kernel
theorem d_6_washSide_84 : decode prog_8_method_10_code 84 = .ok (.iadd, 1) := by decide +kernel
theorem d_6_washSide_85 : decode prog_8_method_10_code 85 = .ok (.iload 6, 2) := by decide +kernel
theorem d_6_washSide_87 : decode prog_8_method_10_code 87 = .ok (.invokevirtual 45, 3) := by decide +kernel
theorem d_6_washSide_90 : decode prog_8_method_10_code 90 = .ok (.iadd, 1) := by decide +kernel
theorem d_6_washSide_91 : decode prog_8_method_10_code 91 = .ok (.istore_n 3, 1) := by decide +kernel
theorem d_6_washSide_92 : decode prog_8_method_10_code 92 = .ok (.iinc 4 (-1), 3) := by decide +kernel
theorem d_6_washSide_95 : decode prog_8_method_10_code 95 = .ok (.goto (-85), 3) := by decide +kernel
theorem d_6_washSide_98 : decode prog_8_method_10_code 98 = .ok (.iload_n 3, 1) := by decide +kernel
theorem d_6_washSide_99 : decode prog_8_method_10_code 99 = .ok (.ireturn, 1) := by decide +kernel
def m_6_washSide_49 (r0 : Nat) (x1 : Int32) (x2 : Int32) (x3 : Int32) (x4 : Int32) (x5 : Int32) (B10 : Int32 → Int32 → St → Prop) (Q : Int32 → St → Prop) (t0 : Int32) (σ : St) : Prop :=
  vp_in x5 40 ∧ vp_in x5 40 ∧ ∀ σ_1 : St, σ_1 = wr σ (r0 + 1) (x5).toNatClampNeg ((σ.1 (r0 + 1) (x5).toNatClampNeg) - t0) → ((¬ x4 = ((σ_1.1 r0 0) - (1 : Int32)) → m_6_putDirt r0 (x5 + (1 : Int32)) t0 (fun (v_3 : Int32) (σ_2 : St) => ∀ x3_4 : Int32, x3_4 = (x3 + v_3) → ∀ x4_5 : Int32, x4_5 = x4 + (-1) → B10 x3_4 x4_5 σ_2) σ_1) ∧ (x4 = ((σ_1.1 r0 0) - (1 : Int32)) → ∀ x3_6 : Int32, x3_6 = (x3 + t0) → ∀ x4_7 : Int32, x4_7 = x4 + (-1) → B10 x3_6 x4_7 σ_1))
def m_6_washSide_10 (r0 : Nat) (x1 : Int32) (x2 : Int32) (Q : Int32 → St → Prop) (B10 : Int32 → Int32 → St → Prop) (x3 : Int32) (x4 : Int32) (σ : St) : Prop :=
  ((x4 < 0 → Q x3 σ) ∧ (¬ x4 < 0 → m_9_placeOf x1 x4 (fun (v_2 : Int32) (σ_1 : St) => vp_in v_2 40 ∧ (((σ_1.1 (r0 + 2) (v_2).toNatClampNeg) = 0 → vp_in v_2 40 ∧ m_6_washSide_49 r0 x1 x2 x3 x4 v_2 B10 Q  (((σ_1.1 (r0 + 1) (v_2).toNatClampNeg) * x2) / (100 : Int32)) σ_1) ∧ (¬ (σ_1.1 (r0 + 2) (v_2).toNatClampNeg) = 0 → m_6_washSide_49 r0 x1 x2 x3 x4 v_2 B10 Q  (0 : Int32) σ_1))) σ))
def m_6_washSide (r0 : Nat) (x1 : Int32) (x2 : Int32) (Q : Int32 → St → Prop) (σ : St) : Prop :=
  ∀ x4_1 : Int32, x4_1 = ((σ.1 r0 0) - (1 : Int32)) → itN (m_6_washSide_10 r0 x1 x2 Q) (fun _ _ _ => False) FU (0 : Int32) x4_1 σ
theorem d_8_washStreets_0 : decode prog_10_method_21_code 0 = .ok (.iconst 0, 1) := by decide +kernel
theorem d_8_washStreets_1 : decode prog_10_method_21_code 1 = .ok (.istore_n 2, 1) := by decide +kernel
theorem d_8_washStreets_2 : decode prog_10_method_21_code 2 = .ok (.iconst 0, 1) := by decide +kernel
theorem d_8_washStreets_3 : decode prog_10_method_21_code 3 = .ok (.istore_n 3, 1) := by decide +kernel
theorem d_8_washStreets_4 : decode prog_10_method_21_code 4 = .ok (.iload_n 3, 1) := by decide +kernel
theorem d_8_washStreets_5 : decode prog_10_method_21_code 5 = .ok (.aload_n 0, 1) := by decide +kernel
theorem d_8_washStreets_6 : decode prog_10_method_21_code 6 = .ok (.getfield 52, 3) := by decide +kernel
theorem d_8_washStreets_9 : decode prog_10_method_21_code 9 = .ok (.if_icmp .ge 35, 3) := by decide +kernel
theorem d_8_washStreets_12 : decode prog_10_method_21_code 12 = .ok (.iload_n 2, 1) := by decide +kernel
theorem d_8_washStreets_13 : decode prog_10_method_21_code 13 = .ok (.aload_n 0, 1) := by decide +kernel
theorem d_8_washStreets_14 : decode prog_10_method_21_code 14 = .ok (.getfield 11, 3) := by decide +kernel
theorem d_8_washStreets_17 : decode prog_10_method_21_code 17 = .ok (.iload_n 3, 1) := by decide +kernel
theorem d_8_washStreets_18 : decode prog_10_method_21_code 18 = .ok (.aaload, 1) := by decide +kernel
theorem d_8_washStreets_19 : decode prog_10_method_21_code 19 = .ok (.iconst 0, 1) := by decide +kernel
theorem d_8_washStreets_20 : decode prog_10_method_21_code 20 = .ok (.iload_n 1, 1) := by decide +kernel
theorem d_8_washStreets_21 : decode prog_10_method_21_code 21 = .ok (.invokevirtual 133, 3) := by decide +kernel
theorem d_8_washStreets_24 : decode prog_10_method_21_code 24 = .ok (.aload_n 0, 1) := by decide +kernel
theorem d_8_washStreets_25 : decode prog_10_method_21_code 25 = .ok (.getfield 11, 3) := by decide +kernel
theorem d_8_washStreets_28 : decode prog_10_method_21_code 28 = .ok (.iload_n 3, 1) := by decide +kernel
theorem d_8_washStreets_29 : decode prog_10_method_21_code 29 = .ok (.aaload, 1) := by decide +kernel
theorem d_8_washStreets_30 : decode prog_10_method_21_code 30 = .ok (.iconst 1, 1) := by decide +kernel
theorem d_8_washStreets_31 : decode prog_10_method_21_code 31 = .ok (.iload_n 1, 1) := by decide +kernel
theorem d_8_washStreets_32 : decode prog_10_method_21_code 32 = .ok (.invokevirtual 133, 3) := by decide +kernel
theorem d_8_washStreets_35 : decode prog_10_method_21_code 35 = .ok (.iadd, 1) := by decide +kernel
theorem d_8_washStreets_36 : decode prog_10_method_21_code 36 = .ok (.iadd, 1) := by decide +kernel
theorem d_8_washStreets_37 : decode prog_10_method_21_code 37 = .ok (.istore_n 2, 1) := by decide +kernel
theorem d_8_washStreets_38 : decode prog_10_method_21_code 38 = .ok (.iinc 3 1, 3) := by decide +kernel
theorem d_8_washStreets_41 : decode prog_10_method_21_code 41 = .ok (.goto (-37), 3) := by decide +kernel
theorem d_8_washStreets_44 : decode prog_10_method_21_code 44 = .ok (.aload_n 0, 1) := by decide +kernel
theorem d_8_washStreets_45 : decode prog_10_method_21_code 45 = .ok (.getfield 27, 3) := by decide +kernel
theorem d_8_washStreets_48 : decode prog_10_method_21_code 48 = .ok (.iconst 4, 1) := by decide +kernel
theorem d_8_washStreets_49 : decode prog_10_method_21_code 49 = .ok (.dup2, 1) := by decide +kernel
theorem d_8_washStreets_50 : decode prog_10_method_21_code 50 = .ok (.iaload, 1) := by decide +kernel
theorem d_8_washStreets_51 : decode prog_10_method_21_code 51 = .ok (.iload_n 2, 1) := by decide +kernel
theorem d_8_washStreets_52 : decode prog_10_method_21_code 52 = .ok (.iadd, 1) := by decide +kernel
theorem d_8_washStreets_53 : decode prog_10_method_21_code 53 = .ok (.iastore, 1) := by decide +kernel
theorem d_8_washStreets_54 : decode prog_10_method_21_code 54 = .ok (.iload_n 2, 1) := by decide +kernel
theorem d_8_washStreets_55 : decode prog_10_method_21_code 55 = .ok (.ireturn, 1) := by decide +kernel
def m_8_washStreets_4 (r0 : Nat) (x1 : Int32) (Q : Int32 → St → Prop) (B4 : Int32 → Int32 → St → Prop) (x2 : Int32) (x3 : Int32) (σ : St) : Prop :=
  (((σ.1 r0 1) ≤ x3 → vp_in (4 : Int32) 6 ∧ vp_in (4 : Int32) 6 ∧ ∀ σ_1 : St, σ_1 = wr σ (r0 + 4) ((4 : Int32)).toNatClampNeg ((σ.1 (r0 + 4) ((4 : Int32)).toNatClampNeg) + x2) → Q x2 σ_1) ∧ (¬ (σ.1 r0 1) ≤ x3 → vp_in x3 6 ∧ m_6_washSide ((r0 + 1) + 5 + 3 * (x3).toNatClampNeg) (0 : Int32) x1 (fun (v_4 : Int32) (σ_3 : St) => vp_in x3 6 ∧ m_6_washSide ((r0 + 1) + 5 + 3 * (x3).toNatClampNeg) (1 : Int32) x1 (fun (v_7 : Int32) (σ_6 : St) => ∀ x2_8 : Int32, x2_8 = (x2 + (v_4 + v_7)) → ∀ x3_9 : Int32, x3_9 = x3 + 1 → B4 x2_8 x3_9 σ_6) σ_3) σ))
def m_8_washStreets (r0 : Nat) (x1 : Int32) (Q : Int32 → St → Prop) (σ : St) : Prop :=
  itN (m_8_washStreets_4 r0 x1 Q) (fun _ _ _ => False) FU (0 : Int32) (0 : Int32) σ
section MB
variable {p : Program} {l : Launch} {e : Env} {R : Room} {s : State} {m : MethodId} {args : Array Value} {below : List Frame} {meth : Method} {c : Code} {cells slots : Nat} {QW : State → Prop}
variable {D : va_G} {ac : Nat → ClassId} {ad : Nat → Nat} {st : SS} {A : Nat → Prop}
set_option maxHeartbeats 4000000 in
set_option maxRecDepth 100000 in
theorem w_8_emptyHopper_0 {r0 : Nat} {Q : St → Prop} {σ : St} {H : Heap} {locs : List Loc} {ls : Array Slot} (S : SC A D ac st p m c prog_10_method_18_code 1 s args "SweeperRounds$World" R cells slots 0 0) (hR : RtV A D ac ad p l e R s m args below meth c prog_10_method_18_code cells slots QW Q) (hk_r0 : kd r0 = 8) (hG : DG A D ac ad s σ H locs) (hl : lv_has ls 1 [(0, .ref (ad r0))]) (hf : m_8_emptyHopper r0 Q σ) : W p l e R s m args below meth c H locs cells slots QW (F0 m 0 ls []) := by
  have hx := S.1.1
  have hb := S.1.2.1
  unfold m_8_emptyHopper at hf
  refine lv_aload_n hx hb d_8_emptyHopper_0 rfl (lv_at hl 0 rfl) ?_
  refine gf_8_27 S hG hk_r0 d_8_emptyHopper_1 ?_
  refine lv_iconst (v := (5 : Int32)) hx hb d_8_emptyHopper_4 (by decide) ?_
  refine lv_dup2_11 hx hb d_8_emptyHopper_5 rfl rfl ?_
  refine mia S hG 27 rfl rfl (kr_8_8 hk_r0) hf.1 d_8_emptyHopper_6 ?_
  have hf := hf.2
  refine lv_aload_n hx hb d_8_emptyHopper_7 rfl (lv_at hl 0 rfl) ?_
  refine gf_8_69 S hG hk_r0 d_8_emptyHopper_8 ?_
  refine lv_iadd hx hb d_8_emptyHopper_11 ?_
  refine mis S hG 27 rfl rfl (kr_8_8 hk_r0) hf.1 d_8_emptyHopper_12 (fun σ_1 eσ_1 H locs hG => ?_)
  have hf := hf.2 σ_1 eσ_1
  refine lv_aload_n hx hb d_8_emptyHopper_13 rfl (lv_at hl 0 rfl) ?_
  refine lv_iconst (v := (0 : Int32)) hx hb d_8_emptyHopper_14 (by decide) ?_
  refine pf_8_69 S hG hk_r0 d_8_emptyHopper_15 (fun σ_2 eσ_2 H locs hG => ?_)
  have hf := hf σ_2 eσ_2
  exact hR _ _ _ _ _ hG hf d_8_emptyHopper_18
theorem c_8_emptyHopper (l : Launch) {D : va_G} {ac : Nat → ClassId} {ad : Nat → Nat} {st : SS} {A : Nat → Prop} {σ : St} {r0 : Nat} {Q : St → Prop} (hk_r0 : kd r0 = 8) (hf : m_8_emptyHopper r0 Q σ) : Met l y_8_emptyHopper (Cond.code y_8_emptyHopper prog_10_method_18_code 1 none :: wA) { frames := 0, cells := 0, slots := 0, locals := 0 } (va_Pc [.ref (ad r0)] (GSt A D ac ad st σ)) (va_Qv Q (GSt A D ac ad st) A) 0 0 A :=
  mkV l (by decide +kernel) rfl [.ref (ad r0)] (Nat.le_of_ble_eq_true rfl) (fun p e s m args below meth c ls QW S hR hG hl => w_8_emptyHopper_0 S hR hk_r0 hG hl hf)
set_option maxHeartbeats 4000000 in
set_option maxRecDepth 100000 in
theorem w_5_finishCell_92 {r0 : Nat} {r1 : Nat} {r2 : Nat} {x3 : Int32} {x4 : Int32} {x5 : Int32} {x6 : Int32} {x7 : Int32} {B20 : Int32 → St → Prop} {Q : Int32 → St → Prop} {σ : St} {H : Heap} {locs : List Loc} {ls : Array Slot} (S : SC A D ac st p m c prog_7_method_6_code 8 s args "SweeperRounds$Round" R cells slots 2 48) (hR : RtI A D ac ad p l e R s m args below meth c prog_7_method_6_code cells slots QW Q) (hk_r0 : kd r0 = 5) (hk_r1 : kd r1 = 1) (hk_r2 : kd r2 = 6) (hB20 : ∀ (x6 : Int32) (σ : St) (H : Heap) (locs : List Loc) (ls : Array Slot), DG A D ac ad s σ H locs → lv_has ls 8 [(0, .ref (ad r0)), (1, .ref (ad r1)), (2, .ref (ad r2)), (3, .int x3), (4, .int x4), (5, .int x5), (6, .int x6)] → B20 x6 σ → W p l e R s m args below meth c H locs cells slots QW (F0 m 20 ls [])) (hG : DG A D ac ad s σ H locs) (hl : lv_has ls 8 [(0, .ref (ad r0)), (1, .ref (ad r1)), (2, .ref (ad r2)), (3, .int x3), (4, .int x4), (5, .int x5), (6, .int x6), (7, .int x7)]) (hf : m_5_finishCell_92 r0 r1 r2 x3 x4 x5 x6 x7 B20 Q σ) : W p l e R s m args below meth c H locs cells slots QW (F0 m 92 ls []) := by
  have hx := S.1.1
  have hb := S.1.2.1
  unfold m_5_finishCell_92 at hf
  refine lv_aload_n hx hb d_5_finishCell_92 rfl (lv_at hl 0 rfl) ?_
  refine lv_iload hx hb d_5_finishCell_93 (lv_at hl 5 rfl) ?_
  refine lv_aload_n hx hb d_5_finishCell_95 rfl (lv_at hl 2 rfl) ?_
  refine iv_5_85 S hl.1 hG hk_r0 (c_5_fits l hk_r0 hk_r2 hf) ⟨Nat.le_of_ble_eq_true rfl, Nat.le_of_ble_eq_true rfl⟩ (Nat.le_of_ble_eq_true rfl) d_5_finishCell_96 (fun v_2 σ_1 hf H locs hG => ?_)
  refine lv_if_ne (tgt := 104) hx hb d_5_finishCell_99 (by decide) (fun hc => ?_) (fun hc => ?_)
  · have hf := hf.1 hc
    refine lv_aload_n hx hb d_5_finishCell_104 rfl (lv_at hl 0 rfl) ?_
    refine gf_5_9 S hG hk_r0 d_5_finishCell_105 ?_
    refine gf_5_15 S hG (kr_5_0 hk_r0) d_5_finishCell_108 ?_
    refine lv_dup hx hb d_5_finishCell_111 rfl ?_
    refine gf_5_89 S hG (kr_8_9 (kr_5_0 hk_r0)) d_5_finishCell_112 ?_
    refine lv_iload hx hb d_5_finishCell_115 (lv_at hl 5 rfl) ?_
    refine lv_iadd hx hb d_5_finishCell_117 ?_
    refine pf_5_89 S hG (kr_8_9 (kr_5_0 hk_r0)) d_5_finishCell_118 (fun σ_3 eσ_3 H locs hG => ?_)
    have hf := hf σ_3 eσ_3
    refine lv_aload_n hx hb d_5_finishCell_121 rfl (lv_at hl 0 rfl) ?_
    refine gf_5_9 S hG hk_r0 d_5_finishCell_122 ?_
    refine gf_5_15 S hG (kr_5_0 hk_r0) d_5_finishCell_125 ?_
    refine lv_dup hx hb d_5_finishCell_128 rfl ?_
    refine gf_5_119 S hG (kr_8_9 (kr_5_0 hk_r0)) d_5_finishCell_129 ?_
    refine lv_iconst (v := (1 : Int32)) hx hb d_5_finishCell_132 (by decide) ?_
    refine lv_iadd hx hb d_5_finishCell_133 ?_
    refine pf_5_119 S hG (kr_8_9 (kr_5_0 hk_r0)) d_5_finishCell_134 (fun σ_4 eσ_4 H locs hG => ?_)
    have hf := hf σ_4 eσ_4
    refine lv_aload_n hx hb d_5_finishCell_137 rfl (lv_at hl 0 rfl) ?_
    refine gf_5_9 S hG hk_r0 d_5_finishCell_138 ?_
    refine iv_5_122 S hl.1 hG (kr_5_0 hk_r0) (c_8_emptyHopper l (kr_5_0 hk_r0) hf) ⟨Nat.le_of_ble_eq_true rfl, Nat.le_of_ble_eq_true rfl⟩ (Nat.le_of_ble_eq_true rfl) d_5_finishCell_141 (fun σ_5 hf H locs hG => ?_)
    refine lv_iload hx hb d_5_finishCell_144 (lv_at hl 7 rfl) ?_
    refine lv_if_eq (tgt := 151) hx hb d_5_finishCell_146 (by decide) (fun hc => ?_) (fun hc => ?_)
    · have hf := hf.1 hc
      obtain ⟨x6_7, ex6_7⟩ : ∃ y : Int32, y = x6 + 1 := ⟨_, rfl⟩
      have hf := hf x6_7 ex6_7
      refine lv_iinc (v := x6_7) (lv' := [(6, .int x6_7), (0, .ref (ad r0)), (1, .ref (ad r1)), (2, .ref (ad r2)), (3, .int x3), (4, .int x4), (5, .int x5), (7, .int x7)]) hx hb d_5_finishCell_151 hl (k := 6) rfl (by rw [ex6_7]; rfl) (by decide) rfl (fun ls hl => ?_)
      refine lv_goto (tgt := 20) hx hb d_5_finishCell_154 (by decide) ?_
      exact hB20 _ _ _ _ _   hG (lv_sub hl [1, 2, 3, 4, 5, 6, 0] rfl) hf
    · have hf := hf.2 hc
      refine lv_iconst (v := (0 : Int32)) hx hb d_5_finishCell_149 (by decide) ?_
      exact hR _ _ _ _ _ _ hG hf d_5_finishCell_150
  · have hf := hf.2 hc
    refine lv_iconst (v := (3 : Int32)) hx hb d_5_finishCell_102 (by decide) ?_
    exact hR _ _ _ _ _ _ hG hf d_5_finishCell_103
set_option maxHeartbeats 4000000 in
set_option maxRecDepth 100000 in
theorem w_5_finishCell_20 {r0 : Nat} {r1 : Nat} {r2 : Nat} {x3 : Int32} {x4 : Int32} {x5 : Int32} {Q : Int32 → St → Prop} {B20 : Int32 → St → Prop} {x6 : Int32} {σ : St} {H : Heap} {locs : List Loc} {ls : Array Slot} (S : SC A D ac st p m c prog_7_method_6_code 8 s args "SweeperRounds$Round" R cells slots 2 48) (hR : RtI A D ac ad p l e R s m args below meth c prog_7_method_6_code cells slots QW Q) (hk_r0 : kd r0 = 5) (hk_r1 : kd r1 = 1) (hk_r2 : kd r2 = 6) (hB20 : ∀ (x6 : Int32) (σ : St) (H : Heap) (locs : List Loc) (ls : Array Slot), DG A D ac ad s σ H locs → lv_has ls 8 [(0, .ref (ad r0)), (1, .ref (ad r1)), (2, .ref (ad r2)), (3, .int x3), (4, .int x4), (5, .int x5), (6, .int x6)] → B20 x6 σ → W p l e R s m args below meth c H locs cells slots QW (F0 m 20 ls [])) (hG : DG A D ac ad s σ H locs) (hl : lv_has ls 8 [(0, .ref (ad r0)), (1, .ref (ad r1)), (2, .ref (ad r2)), (3, .int x3), (4, .int x4), (5, .int x5), (6, .int x6)]) (hf : m_5_finishCell_20 r0 r1 r2 x3 x4 x5 Q B20 x6 σ) : W p l e R s m args below meth c H locs cells slots QW (F0 m 20 ls []) := by
  have hx := S.1.1
  have hb := S.1.2.1
  unfold m_5_finishCell_20 at hf
  refine lv_iload hx hb d_5_finishCell_20 (lv_at hl 6 rfl) ?_
  refine lv_ldc (v := 1000000) hx hb S.1.2.2.2.1 (S.1.2.2.2.2 _ wm_557) d_5_finishCell_22 ?_
  refine lv_icmp_ge (tgt := 157) hx hb d_5_finishCell_24 (by decide) (fun hc => ?_) (fun hc => ?_)
  · have hf := hf.1 hc
    refine lv_iconst (v := (2 : Int32)) hx hb d_5_finishCell_157 (by decide) ?_
    exact hR _ _ _ _ _ _ hG hf d_5_finishCell_158
  · have hf := hf.2 hc
    refine lv_aload_n hx hb d_5_finishCell_27 rfl (lv_at hl 0 rfl) ?_
    refine lv_iload hx hb d_5_finishCell_28 (lv_at hl 4 rfl) ?_
    refine lv_aload_n hx hb d_5_finishCell_30 rfl (lv_at hl 2 rfl) ?_
    refine iv_5_85 S hl.1 hG hk_r0 (c_5_fits l hk_r0 hk_r2 hf) ⟨Nat.le_of_ble_eq_true rfl, Nat.le_of_ble_eq_true rfl⟩ (Nat.le_of_ble_eq_true rfl) d_5_finishCell_31 (fun v_2 σ_1 hf H locs hG => ?_)
    refine lv_if_ne (tgt := 39) hx hb d_5_finishCell_34 (by decide) (fun hc => ?_) (fun hc => ?_)
    · have hf := hf.1 hc
      refine lv_aload_n hx hb d_5_finishCell_39 rfl (lv_at hl 0 rfl) ?_
      refine gf_5_9 S hG hk_r0 d_5_finishCell_40 ?_
      refine gf_5_15 S hG (kr_5_0 hk_r0) d_5_finishCell_43 ?_
      refine lv_dup hx hb d_5_finishCell_46 rfl ?_
      refine gf_5_89 S hG (kr_8_9 (kr_5_0 hk_r0)) d_5_finishCell_47 ?_
      refine lv_iload hx hb d_5_finishCell_50 (lv_at hl 4 rfl) ?_
      refine lv_iadd hx hb d_5_finishCell_52 ?_
      refine pf_5_89 S hG (kr_8_9 (kr_5_0 hk_r0)) d_5_finishCell_53 (fun σ_3 eσ_3 H locs hG => ?_)
      have hf := hf σ_3 eσ_3
      refine lv_aload_n hx hb d_5_finishCell_56 rfl (lv_at hl 0 rfl) ?_
      refine lv_aload_n hx hb d_5_finishCell_57 rfl (lv_at hl 1 rfl) ?_
      refine lv_aload_n hx hb d_5_finishCell_58 rfl (lv_at hl 2 rfl) ?_
      refine lv_iload_n hx hb d_5_finishCell_59 rfl (lv_at hl 3 rfl) ?_
      refine iv_5_112 S hl.1 hG hk_r0 (c_5_sweepOnce l hk_r0 hk_r1 hk_r2 hf) ⟨Nat.le_of_ble_eq_true rfl, Nat.le_of_ble_eq_true rfl⟩ (Nat.le_of_ble_eq_true rfl) d_5_finishCell_60 (fun v_5 σ_4 hf H locs hG => ?_)
      refine lv_istore (lv' := [(7, .int v_5), (0, .ref (ad r0)), (1, .ref (ad r1)), (2, .ref (ad r2)), (3, .int x3), (4, .int x4), (5, .int x5), (6, .int x6)]) hx hb d_5_finishCell_63 hl (by decide) rfl (fun ls hl => ?_)
      refine lv_iload hx hb d_5_finishCell_65 (lv_at hl 0 rfl) ?_
      refine lv_if_eq (tgt := 92) hx hb d_5_finishCell_67 (by decide) (fun hc => ?_) (fun hc => ?_)
      · have hf := hf.1 hc
        exact w_5_finishCell_92 S hR hk_r0 hk_r1 hk_r2   hB20 hG (lv_sub hl [1, 2, 3, 4, 5, 6, 7, 0] rfl) hf
      · have hf := hf.2 hc
        refine lv_aload_n hx hb d_5_finishCell_70 rfl (lv_at hl 2 rfl) ?_
        refine lv_dup hx hb d_5_finishCell_71 rfl ?_
        refine gf_5_37 S hG hk_r1 d_5_finishCell_72 ?_
        refine lv_iconst (v := (1 : Int32)) hx hb d_5_finishCell_75 (by decide) ?_
        refine lv_iadd hx hb d_5_finishCell_76 ?_
        refine pf_5_37 S hG hk_r1 d_5_finishCell_77 (fun σ_6 eσ_6 H locs hG => ?_)
        have hf := hf σ_6 eσ_6
        refine lv_aload_n hx hb d_5_finishCell_80 rfl (lv_at hl 1 rfl) ?_
        refine gf_5_9 S hG hk_r0 d_5_finishCell_81 ?_
        refine iv_5_116 S hl.1 hG (kr_5_0 hk_r0) (c_8_room l (kr_5_0 hk_r0) hf) ⟨Nat.le_of_ble_eq_true rfl, Nat.le_of_ble_eq_true rfl⟩ (Nat.le_of_ble_eq_true rfl) d_5_finishCell_84 (fun v_8 σ_7 hf H locs hG => ?_)
        refine lv_if_le (tgt := 92) hx hb d_5_finishCell_87 (by decide) (fun hc => ?_) (fun hc => ?_)
        · have hf := hf.1 hc
          exact w_5_finishCell_92 S hR hk_r0 hk_r1 hk_r2   hB20 hG (lv_sub hl [1, 2, 3, 4, 5, 6, 7, 0] rfl) hf
        · have hf := hf.2 hc
          refine lv_iconst (v := (0 : Int32)) hx hb d_5_finishCell_90 (by decide) ?_
          exact hR _ _ _ _ _ _ hG hf d_5_finishCell_91
    · have hf := hf.2 hc
      refine lv_iconst (v := (2 : Int32)) hx hb d_5_finishCell_37 (by decide) ?_
      exact hR _ _ _ _ _ _ hG hf d_5_finishCell_38
set_option maxHeartbeats 4000000 in
set_option maxRecDepth 100000 in
theorem lp_5_finishCell_20 {r0 : Nat} {r1 : Nat} {r2 : Nat} {x3 : Int32} {x4 : Int32} {x5 : Int32} {Q : Int32 → St → Prop} (S : SC A D ac st p m c prog_7_method_6_code 8 s args "SweeperRounds$Round" R cells slots 2 48) (hR : RtI A D ac ad p l e R s m args below meth c prog_7_method_6_code cells slots QW Q) (hk_r0 : kd r0 = 5) (hk_r1 : kd r1 = 1) (hk_r2 : kd r2 = 6) : ∀ (n : Nat) (x6 : Int32) (σ : St) (H : Heap) (locs : List Loc) (ls : Array Slot), DG A D ac ad s σ H locs → lv_has ls 8 [(0, .ref (ad r0)), (1, .ref (ad r1)), (2, .ref (ad r2)), (3, .int x3), (4, .int x4), (5, .int x5), (6, .int x6)] → itN (m_5_finishCell_20 r0 r1 r2 x3 x4 x5 Q) (fun _ _ => False) n x6 σ → W p l e R s m args below meth c H locs cells slots QW (F0 m 20 ls []) := by
  intro n
  induction n with
  | zero =>
    intro x6 σ H locs ls  hG hl hf
    exact hf.elim
  | succ n ih =>
    intro x6 σ H locs ls  hG hl hf
    exact w_5_finishCell_20 S hR hk_r0 hk_r1 hk_r2  ih hG hl hf
set_option maxHeartbeats 4000000 in
set_option maxRecDepth 100000 in
theorem w_5_finishCell_0 {r0 : Nat} {r1 : Nat} {r2 : Nat} {x3 : Int32} {Q : Int32 → St → Prop} {σ : St} {H : Heap} {locs : List Loc} {ls : Array Slot} (S : SC A D ac st p m c prog_7_method_6_code 8 s args "SweeperRounds$Round" R cells slots 2 48) (hR : RtI A D ac ad p l e R s m args below meth c prog_7_method_6_code cells slots QW Q) (hk_r0 : kd r0 = 5) (hk_r1 : kd r1 = 1) (hk_r2 : kd r2 = 6) (hG : DG A D ac ad s σ H locs) (hl : lv_has ls 8 [(0, .ref (ad r0)), (1, .ref (ad r1)), (2, .ref (ad r2)), (3, .int x3)]) (hf : m_5_finishCell r0 r1 r2 x3 Q σ) : W p l e R s m args below meth c H locs cells slots QW (F0 m 0 ls []) := by
  have hx := S.1.1
  have hb := S.1.2.1
  unfold m_5_finishCell at hf
  refine lv_aload_n hx hb d_5_finishCell_0 rfl (lv_at hl 0 rfl) ?_
  refine iv_5_108 S hl.1 hG hk_r0 (c_5_unitsForCell l hk_r0 hf) ⟨Nat.le_of_ble_eq_true rfl, Nat.le_of_ble_eq_true rfl⟩ (Nat.le_of_ble_eq_true rfl) d_5_finishCell_1 (fun v_2 σ_1 hf H locs hG => ?_)
  refine lv_istore (lv' := [(4, .int v_2), (0, .ref (ad r0)), (1, .ref (ad r1)), (2, .ref (ad r2)), (3, .int x3)]) hx hb d_5_finishCell_4 hl (by decide) rfl (fun ls hl => ?_)
  refine lv_iconst (v := (2 : Int32)) hx hb d_5_finishCell_6 (by decide) ?_
  refine lv_aload_n hx hb d_5_finishCell_7 rfl (lv_at hl 3 rfl) ?_
  refine iv_5_100 S hl.1 hG hk_r2 (c_6_driveToDump l hk_r2 hf) ⟨Nat.le_of_ble_eq_true rfl, Nat.le_of_ble_eq_true rfl⟩ (Nat.le_of_ble_eq_true rfl) d_5_finishCell_8 (fun v_4 σ_3 hf H locs hG => ?_)
  refine lv_imul hx hb d_5_finishCell_11 ?_
  refine lv_bipush (v := (100 : Int32)) hx hb d_5_finishCell_12 (by decide) ?_
  refine lv_iadd hx hb d_5_finishCell_14 ?_
  refine lv_topi (fun x5_5 ex5_5 => ?_)
  have hf := hf x5_5 ex5_5
  refine lv_istore (lv' := [(5, .int x5_5), (4, .int v_2), (0, .ref (ad r0)), (1, .ref (ad r1)), (2, .ref (ad r2)), (3, .int x3)]) hx hb d_5_finishCell_15 hl (by decide) rfl (fun ls hl => ?_)
  refine lv_iconst (v := (0 : Int32)) hx hb d_5_finishCell_17 (by decide) ?_
  refine lv_istore (lv' := [(6, .int (0 : Int32)), (5, .int x5_5), (4, .int v_2), (0, .ref (ad r0)), (1, .ref (ad r1)), (2, .ref (ad r2)), (3, .int x3)]) hx hb d_5_finishCell_18 hl (by decide) rfl (fun ls hl => ?_)
  exact lp_5_finishCell_20 S hR hk_r0 hk_r1 hk_r2  FU _ _ _ _ _  hG (lv_sub hl [3, 4, 5, 6, 2, 1, 0] rfl) hf
theorem c_5_finishCell (l : Launch) {D : va_G} {ac : Nat → ClassId} {ad : Nat → Nat} {st : SS} {A : Nat → Prop} {σ : St} {r0 : Nat} {r1 : Nat} {r2 : Nat} {x3 : Int32} {Q : Int32 → St → Prop} (hk_r0 : kd r0 = 5) (hk_r1 : kd r1 = 1) (hk_r2 : kd r2 = 6) (hf : m_5_finishCell r0 r1 r2 x3 Q σ) : Met l y_5_finishCell (Cond.code y_5_finishCell prog_7_method_6_code 8 (some .int) :: wA) { frames := 2, cells := 0, slots := 0, locals := 48 } (va_Pc [.ref (ad r0), .ref (ad r1), .ref (ad r2), .int x3] (GSt A D ac ad st σ)) (va_Qi Q (GSt A D ac ad st) A) 0 0 A :=
  mkI l (by decide +kernel) rfl [.ref (ad r0), .ref (ad r1), .ref (ad r2), .int x3] (Nat.le_of_ble_eq_true rfl) (fun p e s m args below meth c ls QW S hR hG hl => w_5_finishCell_0 S hR hk_r0 hk_r1 hk_r2 hG hl hf)
set_option maxHeartbeats 4000000 in
set_option maxRecDepth 100000 in
theorem w_5_endShift_120 {r0 : Nat} {Q : St → Prop} {σ : St} {H : Heap} {locs : List Loc} {ls : Array Slot} (S : SC A D ac st p m c prog_7_method_9_code 1 s args "SweeperRounds$Round" R cells slots 1 20) (hR : RtV A D ac ad p l e R s m args below meth c prog_7_method_9_code cells slots QW Q) (hk_r0 : kd r0 = 5) (hG : DG A D ac ad s σ H locs) (hl : lv_has ls 1 [(0, .ref (ad r0))]) (hf : m_5_endShift_120 r0 Q σ) : W p l e R s m args below meth c H locs cells slots QW (F0 m 120 ls []) := by
  have hx := S.1.1
  have hb := S.1.2.1
  unfold m_5_endShift_120 at hf
  refine lv_aload_n hx hb d_5_endShift_120 rfl (lv_at hl 0 rfl) ?_
  refine gf_5_9 S hG hk_r0 d_5_endShift_121 ?_
  refine lv_dup hx hb d_5_endShift_124 rfl ?_
  refine gf_5_150 S hG (kr_5_0 hk_r0) d_5_endShift_125 ?_
  refine lv_iconst (v := (1 : Int32)) hx hb d_5_endShift_128 (by decide) ?_
  refine lv_iadd hx hb d_5_endShift_129 ?_
  refine pf_5_150 S hG (kr_5_0 hk_r0) d_5_endShift_130 (fun σ_1 eσ_1 H locs hG => ?_)
  have hf := hf σ_1 eσ_1
  refine lv_aload_n hx hb d_5_endShift_133 rfl (lv_at hl 0 rfl) ?_
  refine gf_5_9 S hG hk_r0 d_5_endShift_134 ?_
  refine lv_iconst (v := (1 : Int32)) hx hb d_5_endShift_137 (by decide) ?_
  refine pf_5_153 S hG (kr_5_0 hk_r0) (by unfold isB; decide) d_5_endShift_138 (fun σ_2 eσ_2 H locs hG => ?_)
  have hf := hf σ_2 eσ_2
  exact hR _ _ _ _ _ hG hf d_5_endShift_141
set_option maxHeartbeats 4000000 in
set_option maxRecDepth 100000 in
theorem w_5_endShift_66 {r0 : Nat} {Q : St → Prop} {σ : St} {H : Heap} {locs : List Loc} {ls : Array Slot} (S : SC A D ac st p m c prog_7_method_9_code 1 s args "SweeperRounds$Round" R cells slots 1 20) (hR : RtV A D ac ad p l e R s m args below meth c prog_7_method_9_code cells slots QW Q) (hk_r0 : kd r0 = 5) (hG : DG A D ac ad s σ H locs) (hl : lv_has ls 1 [(0, .ref (ad r0))]) (hf : m_5_endShift_66 r0 Q σ) : W p l e R s m args below meth c H locs cells slots QW (F0 m 66 ls []) := by
  have hx := S.1.1
  have hb := S.1.2.1
  unfold m_5_endShift_66 at hf
  refine lv_aload_n hx hb d_5_endShift_66 rfl (lv_at hl 0 rfl) ?_
  refine gf_5_9 S hG hk_r0 d_5_endShift_67 ?_
  refine gf_5_144 S hG (kr_5_0 hk_r0) d_5_endShift_70 ?_
  refine lv_aload_n hx hb d_5_endShift_73 rfl (lv_at hl 0 rfl) ?_
  refine gf_5_9 S hG hk_r0 d_5_endShift_74 ?_
  refine gf_5_104 S hG (kr_5_0 hk_r0) d_5_endShift_77 ?_
  refine lv_iconst (v := (4 : Int32)) hx hb d_5_endShift_80 (by decide) ?_
  refine mia S hG 26 rfl rfl (kr_8_5 (kr_5_0 hk_r0)) hf.1 d_5_endShift_81 ?_
  have hf := hf.2
  refine lv_icmp_ge (tgt := 120) hx hb d_5_endShift_82 (by decide) (fun hc => ?_) (fun hc => ?_)
  · have hf := hf.1 hc
    exact w_5_endShift_120 S hR hk_r0    hG (lv_sub hl [0] rfl) hf
  · have hf := hf.2 hc
    refine lv_aload_n hx hb d_5_endShift_85 rfl (lv_at hl 0 rfl) ?_
    refine gf_5_9 S hG hk_r0 d_5_endShift_86 ?_
    refine gf_5_104 S hG (kr_5_0 hk_r0) d_5_endShift_89 ?_
    refine lv_iconst (v := (2 : Int32)) hx hb d_5_endShift_92 (by decide) ?_
    refine mia S hG 26 rfl rfl (kr_8_5 (kr_5_0 hk_r0)) hf.1 d_5_endShift_93 ?_
    have hf := hf.2
    refine lv_if_le (tgt := 120) hx hb d_5_endShift_94 (by decide) (fun hc => ?_) (fun hc => ?_)
    · have hf := hf.1 hc
      exact w_5_endShift_120 S hR hk_r0    hG (lv_sub hl [0] rfl) hf
    · have hf := hf.2 hc
      refine lv_aload_n hx hb d_5_endShift_97 rfl (lv_at hl 0 rfl) ?_
      refine gf_5_9 S hG hk_r0 d_5_endShift_98 ?_
      refine lv_sipush (v := (1000 : Int32)) hx hb d_5_endShift_101 (by decide) ?_
      refine pf_5_144 S hG (kr_5_0 hk_r0) d_5_endShift_104 (fun σ_1 eσ_1 H locs hG => ?_)
      have hf := hf σ_1 eσ_1
      refine lv_aload_n hx hb d_5_endShift_107 rfl (lv_at hl 0 rfl) ?_
      refine gf_5_9 S hG hk_r0 d_5_endShift_108 ?_
      refine gf_5_104 S hG (kr_5_0 hk_r0) d_5_endShift_111 ?_
      refine lv_iconst (v := (2 : Int32)) hx hb d_5_endShift_114 (by decide) ?_
      refine lv_dup2_11 hx hb d_5_endShift_115 rfl rfl ?_
      refine mia S hG 26 rfl rfl (kr_8_5 (kr_5_0 hk_r0)) hf.1 d_5_endShift_116 ?_
      have hf := hf.2
      refine lv_iconst (v := (1 : Int32)) hx hb d_5_endShift_117 (by decide) ?_
      refine lv_isub hx hb d_5_endShift_118 ?_
      refine mis S hG 26 rfl rfl (kr_8_5 (kr_5_0 hk_r0)) hf.1 d_5_endShift_119 (fun σ_2 eσ_2 H locs hG => ?_)
      have hf := hf.2 σ_2 eσ_2
      exact w_5_endShift_120 S hR hk_r0    hG (lv_sub hl [0] rfl) hf
set_option maxHeartbeats 4000000 in
set_option maxRecDepth 100000 in
theorem w_5_endShift_38 {r0 : Nat} {Q : St → Prop} {σ : St} {H : Heap} {locs : List Loc} {ls : Array Slot} (S : SC A D ac st p m c prog_7_method_9_code 1 s args "SweeperRounds$Round" R cells slots 1 20) (hR : RtV A D ac ad p l e R s m args below meth c prog_7_method_9_code cells slots QW Q) (hk_r0 : kd r0 = 5) (hG : DG A D ac ad s σ H locs) (hl : lv_has ls 1 [(0, .ref (ad r0))]) (hf : m_5_endShift_38 r0 Q σ) : W p l e R s m args below meth c H locs cells slots QW (F0 m 38 ls []) := by
  have hx := S.1.1
  have hb := S.1.2.1
  unfold m_5_endShift_38 at hf
  refine lv_iconst (v := (2 : Int32)) hx hb d_5_endShift_38 (by decide) ?_
  refine lv_aload_n hx hb d_5_endShift_39 rfl (lv_at hl 0 rfl) ?_
  refine gf_5_9 S hG hk_r0 d_5_endShift_40 ?_
  refine gf_5_140 S hG (kr_5_0 hk_r0) d_5_endShift_43 ?_
  refine lv_imul hx hb d_5_endShift_46 ?_
  refine lv_aload_n hx hb d_5_endShift_47 rfl (lv_at hl 0 rfl) ?_
  refine gf_5_9 S hG hk_r0 d_5_endShift_48 ?_
  refine gf_5_104 S hG (kr_5_0 hk_r0) d_5_endShift_51 ?_
  refine lv_iconst (v := (1 : Int32)) hx hb d_5_endShift_54 (by decide) ?_
  refine mia S hG 26 rfl rfl (kr_8_5 (kr_5_0 hk_r0)) hf.1 d_5_endShift_55 ?_
  have hf := hf.2
  refine lv_icmp_lt (tgt := 66) hx hb d_5_endShift_56 (by decide) (fun hc => ?_) (fun hc => ?_)
  · have hf := hf.1 hc
    exact w_5_endShift_66 S hR hk_r0    hG (lv_sub hl [0] rfl) hf
  · have hf := hf.2 hc
    refine lv_aload_n hx hb d_5_endShift_59 rfl (lv_at hl 0 rfl) ?_
    refine gf_5_9 S hG hk_r0 d_5_endShift_60 ?_
    refine iv_5_122 S hl.1 hG (kr_5_0 hk_r0) (c_8_emptyHopper l (kr_5_0 hk_r0) hf) ⟨Nat.le_of_ble_eq_true rfl, Nat.le_of_ble_eq_true rfl⟩ (Nat.le_of_ble_eq_true rfl) d_5_endShift_63 (fun σ_1 hf H locs hG => ?_)
    exact w_5_endShift_66 S hR hk_r0    hG (lv_sub hl [0] rfl) hf
set_option maxHeartbeats 4000000 in
set_option maxRecDepth 100000 in
theorem w_5_endShift_0 {r0 : Nat} {Q : St → Prop} {σ : St} {H : Heap} {locs : List Loc} {ls : Array Slot} (S : SC A D ac st p m c prog_7_method_9_code 1 s args "SweeperRounds$Round" R cells slots 1 20) (hR : RtV A D ac ad p l e R s m args below meth c prog_7_method_9_code cells slots QW Q) (hk_r0 : kd r0 = 5) (hG : DG A D ac ad s σ H locs) (hl : lv_has ls 1 [(0, .ref (ad r0))]) (hf : m_5_endShift r0 Q σ) : W p l e R s m args below meth c H locs cells slots QW (F0 m 0 ls []) := by
  have hx := S.1.1
  have hb := S.1.2.1
  unfold m_5_endShift at hf
  refine lv_aload_n hx hb d_5_endShift_0 rfl (lv_at hl 0 rfl) ?_
  refine gf_5_26 S hG hk_r0 d_5_endShift_1 ?_
  refine lv_iconst (v := (-1 : Int32)) hx hb d_5_endShift_4 (by decide) ?_
  refine lv_icmp_eq (tgt := 38) hx hb d_5_endShift_5 (by decide) (fun hc => ?_) (fun hc => ?_)
  · have hf := hf.1 hc
    exact w_5_endShift_38 S hR hk_r0    hG (lv_sub hl [0] rfl) hf
  · have hf := hf.2 hc
    refine lv_aload_n hx hb d_5_endShift_8 rfl (lv_at hl 0 rfl) ?_
    refine gf_5_9 S hG hk_r0 d_5_endShift_9 ?_
    refine gf_5_15 S hG (kr_5_0 hk_r0) d_5_endShift_12 ?_
    refine lv_dup hx hb d_5_endShift_15 rfl ?_
    refine gf_5_89 S hG (kr_8_9 (kr_5_0 hk_r0)) d_5_endShift_16 ?_
    refine lv_aload_n hx hb d_5_endShift_19 rfl (lv_at hl 0 rfl) ?_
    refine gf_5_9 S hG hk_r0 d_5_endShift_20 ?_
    refine gf_5_48 S hG (kr_5_0 hk_r0) d_5_endShift_23 ?_
    refine lv_aload_n hx hb d_5_endShift_26 rfl (lv_at hl 0 rfl) ?_
    refine gf_5_26 S hG hk_r0 d_5_endShift_27 ?_
    refine mq3 S hG (kr_8_0 (kr_5_0 hk_r0)) hf.1 d_5_endShift_30 ?_
    have hi_1 := vin_lt hf.1
    have hf := hf.2
    refine iv_5_100 S hl.1 hG (ke_23 (kr_8_0 (kr_5_0 hk_r0)) hi_1) (c_6_driveToDump l (ke_23 (kr_8_0 (kr_5_0 hk_r0)) hi_1) hf) ⟨Nat.le_of_ble_eq_true rfl, Nat.le_of_ble_eq_true rfl⟩ (Nat.le_of_ble_eq_true rfl) d_5_endShift_31 (fun v_3 σ_2 hf H locs hG => ?_)
    refine lv_iadd hx hb d_5_endShift_34 ?_
    refine pf_5_89 S hG (kr_8_9 (kr_5_0 hk_r0)) d_5_endShift_35 (fun σ_4 eσ_4 H locs hG => ?_)
    have hf := hf σ_4 eσ_4
    exact w_5_endShift_38 S hR hk_r0    hG (lv_sub hl [0] rfl) hf
theorem c_5_endShift (l : Launch) {D : va_G} {ac : Nat → ClassId} {ad : Nat → Nat} {st : SS} {A : Nat → Prop} {σ : St} {r0 : Nat} {Q : St → Prop} (hk_r0 : kd r0 = 5) (hf : m_5_endShift r0 Q σ) : Met l y_5_endShift (Cond.code y_5_endShift prog_7_method_9_code 1 none :: wA) { frames := 1, cells := 0, slots := 0, locals := 20 } (va_Pc [.ref (ad r0)] (GSt A D ac ad st σ)) (va_Qv Q (GSt A D ac ad st) A) 0 0 A :=
  mkV l (by decide +kernel) rfl [.ref (ad r0)] (Nat.le_of_ble_eq_true rfl) (fun p e s m args below meth c ls QW S hR hG hl => w_5_endShift_0 S hR hk_r0 hG hl hf)
set_option maxHeartbeats 4000000 in
set_option maxRecDepth 100000 in
theorem w_5_carryOut_187 {r0 : Nat} {Q : St → Prop} {σ : St} {H : Heap} {locs : List Loc} {ls : Array Slot} (S : SC A D ac st p m c prog_7_method_2_code 6 s args "SweeperRounds$Round" R cells slots 3 75) (hR : RtV A D ac ad p l e R s m args below meth c prog_7_method_2_code cells slots QW Q) (hk_r0 : kd r0 = 5) (hG : DG A D ac ad s σ H locs) (hl : lv_has ls 6 [(0, .ref (ad r0))]) (hf : m_5_carryOut_187 r0 Q σ) : W p l e R s m args below meth c H locs cells slots QW (F0 m 187 ls []) := by
  have hx := S.1.1
  have hb := S.1.2.1
  unfold m_5_carryOut_187 at hf
  refine lv_aload_n hx hb d_5_carryOut_187 rfl (lv_at hl 0 rfl) ?_
  refine iv_5_78 S hl.1 hG hk_r0 (c_5_endShift l hk_r0 hf) ⟨Nat.le_of_ble_eq_true rfl, Nat.le_of_ble_eq_true rfl⟩ (Nat.le_of_ble_eq_true rfl) d_5_carryOut_188 (fun σ_1 hf H locs hG => ?_)
  exact hR _ _ _ _ _ hG hf d_5_carryOut_191
set_option maxHeartbeats 4000000 in
set_option maxRecDepth 100000 in
theorem w_5_carryOut_178 {r0 : Nat} {r1 : Nat} {x2 : Int32} {B64 : Int32 → St → Prop} {Q : St → Prop} {t0 : Int32} {t1 : Nat} {σ : St} {H : Heap} {locs : List Loc} {ls : Array Slot} (S : SC A D ac st p m c prog_7_method_2_code 6 s args "SweeperRounds$Round" R cells slots 3 75) (hR : RtV A D ac ad p l e R s m args below meth c prog_7_method_2_code cells slots QW Q) (hk_r0 : kd r0 = 5) (hk_r1 : kd r1 = 4) (hk_t1 : kd t1 = 4) (hB64 : ∀ (x2 : Int32) (σ : St) (H : Heap) (locs : List Loc) (ls : Array Slot), DG A D ac ad s σ H locs → lv_has ls 6 [(0, .ref (ad r0)), (1, .ref (ad r1)), (2, .int x2)] → B64 x2 σ → W p l e R s m args below meth c H locs cells slots QW (F0 m 64 ls [])) (hG : DG A D ac ad s σ H locs) (hl : lv_has ls 6 [(0, .ref (ad r0)), (1, .ref (ad r1)), (2, .int x2)]) (hf : m_5_carryOut_178 r0 r1 x2 B64 Q t0 t1 σ) : W p l e R s m args below meth c H locs cells slots QW (F0 m 178 ls [.int t0, .ref (ad t1)]) := by
  have hx := S.1.1
  have hb := S.1.2.1
  unfold m_5_carryOut_178 at hf
  refine pf_5_75 S hG hk_t1 d_5_carryOut_178 (fun σ_1 eσ_1 H locs hG => ?_)
  have hf := hf σ_1 eσ_1
  obtain ⟨x2_2, ex2_2⟩ : ∃ y : Int32, y = x2 + 1 := ⟨_, rfl⟩
  have hf := hf x2_2 ex2_2
  refine lv_iinc (v := x2_2) (lv' := [(2, .int x2_2), (0, .ref (ad r0)), (1, .ref (ad r1))]) hx hb d_5_carryOut_181 hl (k := 2) rfl (by rw [ex2_2]; rfl) (by decide) rfl (fun ls hl => ?_)
  refine lv_goto (tgt := 64) hx hb d_5_carryOut_184 (by decide) ?_
  exact hB64 _ _ _ _ _   hG (lv_sub hl [1, 2, 0] rfl) hf
set_option maxHeartbeats 4000000 in
set_option maxRecDepth 100000 in
theorem w_5_carryOut_163 {r0 : Nat} {r1 : Nat} {x2 : Int32} {B64 : Int32 → St → Prop} {Q : St → Prop} {σ : St} {H : Heap} {locs : List Loc} {ls : Array Slot} (S : SC A D ac st p m c prog_7_method_2_code 6 s args "SweeperRounds$Round" R cells slots 3 75) (hR : RtV A D ac ad p l e R s m args below meth c prog_7_method_2_code cells slots QW Q) (hk_r0 : kd r0 = 5) (hk_r1 : kd r1 = 4) (hB64 : ∀ (x2 : Int32) (σ : St) (H : Heap) (locs : List Loc) (ls : Array Slot), DG A D ac ad s σ H locs → lv_has ls 6 [(0, .ref (ad r0)), (1, .ref (ad r1)), (2, .int x2)] → B64 x2 σ → W p l e R s m args below meth c H locs cells slots QW (F0 m 64 ls [])) (hG : DG A D ac ad s σ H locs) (hl : lv_has ls 6 [(0, .ref (ad r0)), (1, .ref (ad r1)), (2, .int x2)]) (hf : m_5_carryOut_163 r0 r1 x2 B64 Q σ) : W p l e R s m args below meth c H locs cells slots QW (F0 m 163 ls []) := by
  have hx := S.1.1
  have hb := S.1.2.1
  unfold m_5_carryOut_163 at hf
  refine lv_aload_n hx hb d_5_carryOut_163 rfl (lv_at hl 1 rfl) ?_
  refine lv_aload_n hx hb d_5_carryOut_164 rfl (lv_at hl 1 rfl) ?_
  refine gf_5_45 S hG hk_r1 d_5_carryOut_165 ?_
  refine lv_if_ne (tgt := 177) hx hb d_5_carryOut_168 (by decide) (fun hc => ?_) (fun hc => ?_)
  · have hf := hf.1 hc
    refine lv_iload_n hx hb d_5_carryOut_177 rfl (lv_at hl 2 rfl) ?_
    exact w_5_carryOut_178 S hR hk_r0 hk_r1  hk_r1 hB64 hG (lv_sub hl [0, 1, 2] rfl) hf
  · have hf := hf.2 hc
    refine lv_iload_n hx hb d_5_carryOut_171 rfl (lv_at hl 2 rfl) ?_
    refine lv_iconst (v := (1 : Int32)) hx hb d_5_carryOut_172 (by decide) ?_
    refine lv_iadd hx hb d_5_carryOut_173 ?_
    refine lv_goto (tgt := 178) hx hb d_5_carryOut_174 (by decide) ?_
    exact w_5_carryOut_178 S hR hk_r0 hk_r1  hk_r1 hB64 hG (lv_sub hl [0, 1, 2] rfl) hf
set_option maxHeartbeats 4000000 in
set_option maxRecDepth 100000 in
theorem w_5_carryOut_120 {r0 : Nat} {r1 : Nat} {x2 : Int32} {r3 : Nat} {r4 : Nat} {B64 : Int32 → St → Prop} {Q : St → Prop} {B120 : Int32 → St → Prop} {x5 : Int32} {σ : St} {H : Heap} {locs : List Loc} {ls : Array Slot} (S : SC A D ac st p m c prog_7_method_2_code 6 s args "SweeperRounds$Round" R cells slots 3 75) (hR : RtV A D ac ad p l e R s m args below meth c prog_7_method_2_code cells slots QW Q) (hk_r0 : kd r0 = 5) (hk_r1 : kd r1 = 4) (hk_r3 : kd r3 = 1) (hk_r4 : kd r4 = 6) (hB64 : ∀ (x2 : Int32) (σ : St) (H : Heap) (locs : List Loc) (ls : Array Slot), DG A D ac ad s σ H locs → lv_has ls 6 [(0, .ref (ad r0)), (1, .ref (ad r1)), (2, .int x2)] → B64 x2 σ → W p l e R s m args below meth c H locs cells slots QW (F0 m 64 ls [])) (hB120 : ∀ (x5 : Int32) (σ : St) (H : Heap) (locs : List Loc) (ls : Array Slot), DG A D ac ad s σ H locs → lv_has ls 6 [(0, .ref (ad r0)), (1, .ref (ad r1)), (2, .int x2), (3, .ref (ad r3)), (4, .ref (ad r4)), (5, .int x5)] → B120 x5 σ → W p l e R s m args below meth c H locs cells slots QW (F0 m 120 ls [])) (hG : DG A D ac ad s σ H locs) (hl : lv_has ls 6 [(0, .ref (ad r0)), (1, .ref (ad r1)), (2, .int x2), (3, .ref (ad r3)), (4, .ref (ad r4)), (5, .int x5)]) (hf : m_5_carryOut_120 r0 r1 x2 r3 r4 B64 Q B120 x5 σ) : W p l e R s m args below meth c H locs cells slots QW (F0 m 120 ls []) := by
  have hx := S.1.1
  have hb := S.1.2.1
  unfold m_5_carryOut_120 at hf
  refine lv_iload hx hb d_5_carryOut_120 (lv_at hl 5 rfl) ?_
  refine lv_aload hx hb d_5_carryOut_122 (lv_at hl 4 rfl) ?_
  refine gf_5_59 S hG hk_r4 d_5_carryOut_124 ?_
  refine lv_icmp_ge (tgt := 163) hx hb d_5_carryOut_127 (by decide) (fun hc => ?_) (fun hc => ?_)
  · have hf := hf.1 hc
    exact w_5_carryOut_163 S hR hk_r0 hk_r1   hB64 hG (lv_sub hl [0, 1, 2] rfl) hf
  · have hf := hf.2 hc
    refine lv_aload_n hx hb d_5_carryOut_130 rfl (lv_at hl 1 rfl) ?_
    refine gf_5_45 S hG hk_r1 d_5_carryOut_131 ?_
    refine lv_if_ne (tgt := 163) hx hb d_5_carryOut_134 (by decide) (fun hc => ?_) (fun hc => ?_)
    · have hf := hf.1 hc
      exact w_5_carryOut_163 S hR hk_r0 hk_r1   hB64 hG (lv_sub hl [0, 1, 2] rfl) hf
    · have hf := hf.2 hc
      refine lv_aload_n hx hb d_5_carryOut_137 rfl (lv_at hl 1 rfl) ?_
      refine lv_aload_n hx hb d_5_carryOut_138 rfl (lv_at hl 0 rfl) ?_
      refine lv_aload_n hx hb d_5_carryOut_139 rfl (lv_at hl 3 rfl) ?_
      refine lv_aload hx hb d_5_carryOut_140 (lv_at hl 4 rfl) ?_
      refine lv_aload_n hx hb d_5_carryOut_142 rfl (lv_at hl 3 rfl) ?_
      refine gf_5_64 S hG hk_r3 d_5_carryOut_143 ?_
      refine lv_iload hx hb d_5_carryOut_146 (lv_at hl 5 rfl) ?_
      refine iv_5_67 S hl.1 hG  (c_9_placeOf l  hf) ⟨Nat.le_of_ble_eq_true rfl, Nat.le_of_ble_eq_true rfl⟩ (Nat.le_of_ble_eq_true rfl) d_5_carryOut_148 (fun v_2 σ_1 hf H locs hG => ?_)
      refine iv_5_71 S hl.1 hG hk_r0 (c_5_finishCell l hk_r0 hk_r3 hk_r4 hf) ⟨Nat.le_of_ble_eq_true rfl, Nat.le_of_ble_eq_true rfl⟩ (Nat.le_of_ble_eq_true rfl) d_5_carryOut_151 (fun v_4 σ_3 hf H locs hG => ?_)
      refine pf_5_45 S hG hk_r1 d_5_carryOut_154 (fun σ_5 eσ_5 H locs hG => ?_)
      have hf := hf σ_5 eσ_5
      obtain ⟨x5_6, ex5_6⟩ : ∃ y : Int32, y = x5 + 1 := ⟨_, rfl⟩
      have hf := hf x5_6 ex5_6
      refine lv_iinc (v := x5_6) (lv' := [(5, .int x5_6), (0, .ref (ad r0)), (1, .ref (ad r1)), (2, .int x2), (3, .ref (ad r3)), (4, .ref (ad r4))]) hx hb d_5_carryOut_157 hl (k := 5) rfl (by rw [ex5_6]; rfl) (by decide) rfl (fun ls hl => ?_)
      refine lv_goto (tgt := 120) hx hb d_5_carryOut_160 (by decide) ?_
      exact hB120 _ _ _ _ _   hG (lv_sub hl [1, 2, 3, 4, 5, 0] rfl) hf
set_option maxHeartbeats 4000000 in
set_option maxRecDepth 100000 in
theorem lp_5_carryOut_120 {r0 : Nat} {r1 : Nat} {x2 : Int32} {r3 : Nat} {r4 : Nat} {B64 : Int32 → St → Prop} {Q : St → Prop} (S : SC A D ac st p m c prog_7_method_2_code 6 s args "SweeperRounds$Round" R cells slots 3 75) (hR : RtV A D ac ad p l e R s m args below meth c prog_7_method_2_code cells slots QW Q) (hk_r0 : kd r0 = 5) (hk_r1 : kd r1 = 4) (hk_r3 : kd r3 = 1) (hk_r4 : kd r4 = 6) (hB64 : ∀ (x2 : Int32) (σ : St) (H : Heap) (locs : List Loc) (ls : Array Slot), DG A D ac ad s σ H locs → lv_has ls 6 [(0, .ref (ad r0)), (1, .ref (ad r1)), (2, .int x2)] → B64 x2 σ → W p l e R s m args below meth c H locs cells slots QW (F0 m 64 ls [])) : ∀ (n : Nat) (x5 : Int32) (σ : St) (H : Heap) (locs : List Loc) (ls : Array Slot), DG A D ac ad s σ H locs → lv_has ls 6 [(0, .ref (ad r0)), (1, .ref (ad r1)), (2, .int x2), (3, .ref (ad r3)), (4, .ref (ad r4)), (5, .int x5)] → itN (m_5_carryOut_120 r0 r1 x2 r3 r4 B64 Q) (fun _ _ => False) n x5 σ → W p l e R s m args below meth c H locs cells slots QW (F0 m 120 ls []) := by
  intro n
  induction n with
  | zero =>
    intro x5 σ H locs ls  hG hl hf
    exact hf.elim
  | succ n ih =>
    intro x5 σ H locs ls  hG hl hf
    exact w_5_carryOut_120 S hR hk_r0 hk_r1 hk_r3 hk_r4 hB64 ih hG hl hf
set_option maxHeartbeats 4000000 in
set_option maxRecDepth 100000 in
theorem w_5_carryOut_64 {r0 : Nat} {r1 : Nat} {Q : St → Prop} {B64 : Int32 → St → Prop} {x2 : Int32} {σ : St} {H : Heap} {locs : List Loc} {ls : Array Slot} (S : SC A D ac st p m c prog_7_method_2_code 6 s args "SweeperRounds$Round" R cells slots 3 75) (hR : RtV A D ac ad p l e R s m args below meth c prog_7_method_2_code cells slots QW Q) (hk_r0 : kd r0 = 5) (hk_r1 : kd r1 = 4) (hB64 : ∀ (x2 : Int32) (σ : St) (H : Heap) (locs : List Loc) (ls : Array Slot), DG A D ac ad s σ H locs → lv_has ls 6 [(0, .ref (ad r0)), (1, .ref (ad r1)), (2, .int x2)] → B64 x2 σ → W p l e R s m args below meth c H locs cells slots QW (F0 m 64 ls [])) (hG : DG A D ac ad s σ H locs) (hl : lv_has ls 6 [(0, .ref (ad r0)), (1, .ref (ad r1)), (2, .int x2)]) (hf : m_5_carryOut_64 r0 r1 Q B64 x2 σ) : W p l e R s m args below meth c H locs cells slots QW (F0 m 64 ls []) := by
  have hx := S.1.1
  have hb := S.1.2.1
  unfold m_5_carryOut_64 at hf
  refine lv_iload_n hx hb d_5_carryOut_64 rfl (lv_at hl 2 rfl) ?_
  refine lv_aload_n hx hb d_5_carryOut_65 rfl (lv_at hl 0 rfl) ?_
  refine gf_5_9 S hG hk_r0 d_5_carryOut_66 ?_
  refine gf_5_30 S hG (kr_5_0 hk_r0) d_5_carryOut_69 ?_
  refine lv_icmp_ge (tgt := 187) hx hb d_5_carryOut_72 (by decide) (fun hc => ?_) (fun hc => ?_)
  · have hf := hf.1 hc
    exact w_5_carryOut_187 S hR hk_r0    hG (lv_sub hl [0] rfl) hf
  · have hf := hf.2 hc
    refine lv_aload_n hx hb d_5_carryOut_75 rfl (lv_at hl 1 rfl) ?_
    refine gf_5_45 S hG hk_r1 d_5_carryOut_76 ?_
    refine lv_if_ne (tgt := 187) hx hb d_5_carryOut_79 (by decide) (fun hc => ?_) (fun hc => ?_)
    · have hf := hf.1 hc
      exact w_5_carryOut_187 S hR hk_r0    hG (lv_sub hl [0] rfl) hf
    · have hf := hf.2 hc
      refine lv_aload_n hx hb d_5_carryOut_82 rfl (lv_at hl 0 rfl) ?_
      refine gf_5_9 S hG hk_r0 d_5_carryOut_83 ?_
      refine gf_5_33 S hG (kr_5_0 hk_r0) d_5_carryOut_86 ?_
      refine lv_iload_n hx hb d_5_carryOut_89 rfl (lv_at hl 2 rfl) ?_
      refine mq4 S hG (kr_8_2 (kr_5_0 hk_r0)) hf.1 d_5_carryOut_90 ?_
      have hi_1 := vin_lt hf.1
      have hf := hf.2
      refine lv_topr (fun r3_2 er3_2 => ?_)
      have hf := hf r3_2 er3_2
      have hk_r3_2 : kd r3_2 = 1 := er3_2 ▸ (ke_24 (kr_8_2 (kr_5_0 hk_r0)) hi_1)
      refine lv_astore_n (lv' := [(3, .ref (ad r3_2)), (0, .ref (ad r0)), (1, .ref (ad r1)), (2, .int x2)]) hx hb d_5_carryOut_91 rfl hl (by decide) rfl (fun ls hl => ?_)
      refine lv_aload_n hx hb d_5_carryOut_92 rfl (lv_at hl 1 rfl) ?_
      refine gf_5_9 S hG hk_r0 d_5_carryOut_93 ?_
      refine gf_5_48 S hG (kr_5_0 hk_r0) d_5_carryOut_96 ?_
      refine lv_aload_n hx hb d_5_carryOut_99 rfl (lv_at hl 0 rfl) ?_
      refine gf_5_52 S hG hk_r3_2 d_5_carryOut_100 ?_
      refine mq3 S hG (kr_8_0 (kr_5_0 hk_r0)) hf.1 d_5_carryOut_103 ?_
      have hi_3 := vin_lt hf.1
      have hf := hf.2
      refine lv_topr (fun r4_4 er4_4 => ?_)
      have hf := hf r4_4 er4_4
      have hk_r4_4 : kd r4_4 = 6 := er4_4 ▸ (ke_23 (kr_8_0 (kr_5_0 hk_r0)) hi_3)
      refine lv_astore (lv' := [(4, .ref (ad r4_4)), (3, .ref (ad r3_2)), (0, .ref (ad r0)), (1, .ref (ad r1)), (2, .int x2)]) hx hb d_5_carryOut_104 hl (by decide) rfl (fun ls hl => ?_)
      refine lv_aload_n hx hb d_5_carryOut_106 rfl (lv_at hl 3 rfl) ?_
      refine lv_aload_n hx hb d_5_carryOut_107 rfl (lv_at hl 2 rfl) ?_
      refine lv_aload_n hx hb d_5_carryOut_108 rfl (lv_at hl 1 rfl) ?_
      refine lv_aload hx hb d_5_carryOut_109 (lv_at hl 0 rfl) ?_
      refine iv_5_55 S hl.1 hG hk_r0 (c_5_driveToLeg l hk_r0 hk_r3_2 hk_r4_4 hf) ⟨Nat.le_of_ble_eq_true rfl, Nat.le_of_ble_eq_true rfl⟩ (Nat.le_of_ble_eq_true rfl) d_5_carryOut_111 (fun v_6 σ_5 hf H locs hG => ?_)
      refine pf_5_45 S hG hk_r1 d_5_carryOut_114 (fun σ_7 eσ_7 H locs hG => ?_)
      have hf := hf σ_7 eσ_7
      refine lv_iconst (v := (0 : Int32)) hx hb d_5_carryOut_117 (by decide) ?_
      refine lv_istore (lv' := [(5, .int (0 : Int32)), (4, .ref (ad r4_4)), (3, .ref (ad r3_2)), (0, .ref (ad r0)), (1, .ref (ad r1)), (2, .int x2)]) hx hb d_5_carryOut_118 hl (by decide) rfl (fun ls hl => ?_)
      exact lp_5_carryOut_120 S hR hk_r0 hk_r1 hk_r3_2 hk_r4_4 hB64 FU _ _ _ _ _  hG (lv_sub hl [3, 4, 5, 2, 1, 0] rfl) hf
set_option maxHeartbeats 4000000 in
set_option maxRecDepth 100000 in
theorem lp_5_carryOut_64 {r0 : Nat} {r1 : Nat} {Q : St → Prop} (S : SC A D ac st p m c prog_7_method_2_code 6 s args "SweeperRounds$Round" R cells slots 3 75) (hR : RtV A D ac ad p l e R s m args below meth c prog_7_method_2_code cells slots QW Q) (hk_r0 : kd r0 = 5) (hk_r1 : kd r1 = 4) : ∀ (n : Nat) (x2 : Int32) (σ : St) (H : Heap) (locs : List Loc) (ls : Array Slot), DG A D ac ad s σ H locs → lv_has ls 6 [(0, .ref (ad r0)), (1, .ref (ad r1)), (2, .int x2)] → itN (m_5_carryOut_64 r0 r1 Q) (fun _ _ => False) n x2 σ → W p l e R s m args below meth c H locs cells slots QW (F0 m 64 ls []) := by
  intro n
  induction n with
  | zero =>
    intro x2 σ H locs ls  hG hl hf
    exact hf.elim
  | succ n ih =>
    intro x2 σ H locs ls  hG hl hf
    exact w_5_carryOut_64 S hR hk_r0 hk_r1  ih hG hl hf
set_option maxHeartbeats 4000000 in
set_option maxRecDepth 100000 in
theorem w_5_carryOut_19 {r0 : Nat} {r1 : Nat} {Q : St → Prop} {B19 : Int32 → St → Prop} {x2 : Int32} {σ : St} {H : Heap} {locs : List Loc} {ls : Array Slot} (S : SC A D ac st p m c prog_7_method_2_code 6 s args "SweeperRounds$Round" R cells slots 3 75) (hR : RtV A D ac ad p l e R s m args below meth c prog_7_method_2_code cells slots QW Q) (hk_r0 : kd r0 = 5) (hk_r1 : kd r1 = 4) (hB19 : ∀ (x2 : Int32) (σ : St) (H : Heap) (locs : List Loc) (ls : Array Slot), DG A D ac ad s σ H locs → lv_has ls 6 [(0, .ref (ad r0)), (1, .ref (ad r1)), (2, .int x2)] → B19 x2 σ → W p l e R s m args below meth c H locs cells slots QW (F0 m 19 ls [])) (hG : DG A D ac ad s σ H locs) (hl : lv_has ls 6 [(0, .ref (ad r0)), (1, .ref (ad r1)), (2, .int x2)]) (hf : m_5_carryOut_19 r0 r1 Q B19 x2 σ) : W p l e R s m args below meth c H locs cells slots QW (F0 m 19 ls []) := by
  have hx := S.1.1
  have hb := S.1.2.1
  unfold m_5_carryOut_19 at hf
  refine lv_iload_n hx hb d_5_carryOut_19 rfl (lv_at hl 2 rfl) ?_
  refine lv_aload_n hx hb d_5_carryOut_20 rfl (lv_at hl 0 rfl) ?_
  refine gf_5_9 S hG hk_r0 d_5_carryOut_21 ?_
  refine gf_5_30 S hG (kr_5_0 hk_r0) d_5_carryOut_24 ?_
  refine lv_icmp_ge (tgt := 62) hx hb d_5_carryOut_27 (by decide) (fun hc => ?_) (fun hc => ?_)
  · have hf := hf.1 hc
    refine lv_iconst (v := (0 : Int32)) hx hb d_5_carryOut_62 (by decide) ?_
    refine lv_istore_n (lv' := [(2, .int (0 : Int32)), (0, .ref (ad r0)), (1, .ref (ad r1))]) hx hb d_5_carryOut_63 rfl hl (by decide) rfl (fun ls hl => ?_)
    exact lp_5_carryOut_64 S hR hk_r0 hk_r1  FU _ _ _ _ _  hG (lv_sub hl [1, 2, 0] rfl) hf
  · have hf := hf.2 hc
    refine lv_aload_n hx hb d_5_carryOut_30 rfl (lv_at hl 0 rfl) ?_
    refine gf_5_9 S hG hk_r0 d_5_carryOut_31 ?_
    refine gf_5_33 S hG (kr_5_0 hk_r0) d_5_carryOut_34 ?_
    refine lv_iload_n hx hb d_5_carryOut_37 rfl (lv_at hl 2 rfl) ?_
    refine mq4 S hG (kr_8_2 (kr_5_0 hk_r0)) hf.1 d_5_carryOut_38 ?_
    have hi_1 := vin_lt hf.1
    have hf := hf.2
    refine lv_iconst (v := (0 : Int32)) hx hb d_5_carryOut_39 (by decide) ?_
    refine pf_5_37 S hG (ke_24 (kr_8_2 (kr_5_0 hk_r0)) hi_1) d_5_carryOut_40 (fun σ_2 eσ_2 H locs hG => ?_)
    have hf := hf σ_2 eσ_2
    refine lv_aload_n hx hb d_5_carryOut_43 rfl (lv_at hl 0 rfl) ?_
    refine gf_5_9 S hG hk_r0 d_5_carryOut_44 ?_
    refine gf_5_33 S hG (kr_5_0 hk_r0) d_5_carryOut_47 ?_
    refine lv_iload_n hx hb d_5_carryOut_50 rfl (lv_at hl 2 rfl) ?_
    refine mq4 S hG (kr_8_2 (kr_5_0 hk_r0)) hf.1 d_5_carryOut_51 ?_
    have hi_3 := vin_lt hf.1
    have hf := hf.2
    refine lv_iconst (v := (0 : Int32)) hx hb d_5_carryOut_52 (by decide) ?_
    refine pf_5_42 S hG (ke_24 (kr_8_2 (kr_5_0 hk_r0)) hi_3) d_5_carryOut_53 (fun σ_4 eσ_4 H locs hG => ?_)
    have hf := hf σ_4 eσ_4
    obtain ⟨x2_5, ex2_5⟩ : ∃ y : Int32, y = x2 + 1 := ⟨_, rfl⟩
    have hf := hf x2_5 ex2_5
    refine lv_iinc (v := x2_5) (lv' := [(2, .int x2_5), (0, .ref (ad r0)), (1, .ref (ad r1))]) hx hb d_5_carryOut_56 hl (k := 2) rfl (by rw [ex2_5]; rfl) (by decide) rfl (fun ls hl => ?_)
    refine lv_goto (tgt := 19) hx hb d_5_carryOut_59 (by decide) ?_
    exact hB19 _ _ _ _ _   hG (lv_sub hl [1, 2, 0] rfl) hf
set_option maxHeartbeats 4000000 in
set_option maxRecDepth 100000 in
theorem lp_5_carryOut_19 {r0 : Nat} {r1 : Nat} {Q : St → Prop} (S : SC A D ac st p m c prog_7_method_2_code 6 s args "SweeperRounds$Round" R cells slots 3 75) (hR : RtV A D ac ad p l e R s m args below meth c prog_7_method_2_code cells slots QW Q) (hk_r0 : kd r0 = 5) (hk_r1 : kd r1 = 4) : ∀ (n : Nat) (x2 : Int32) (σ : St) (H : Heap) (locs : List Loc) (ls : Array Slot), DG A D ac ad s σ H locs → lv_has ls 6 [(0, .ref (ad r0)), (1, .ref (ad r1)), (2, .int x2)] → itN (m_5_carryOut_19 r0 r1 Q) (fun _ _ => False) n x2 σ → W p l e R s m args below meth c H locs cells slots QW (F0 m 19 ls []) := by
  intro n
  induction n with
  | zero =>
    intro x2 σ H locs ls  hG hl hf
    exact hf.elim
  | succ n ih =>
    intro x2 σ H locs ls  hG hl hf
    exact w_5_carryOut_19 S hR hk_r0 hk_r1  ih hG hl hf
set_option maxHeartbeats 4000000 in
set_option maxRecDepth 100000 in
theorem w_5_carryOut_0 {r0 : Nat} {Q : St → Prop} {σ : St} {H : Heap} {locs : List Loc} {ls : Array Slot} (S : SC A D ac st p m c prog_7_method_2_code 6 s args "SweeperRounds$Round" R cells slots 3 75) (hR : RtV A D ac ad p l e R s m args below meth c prog_7_method_2_code cells slots QW Q) (hk_r0 : kd r0 = 5) (hG : DG A D ac ad s σ H locs) (hl : lv_has ls 6 [(0, .ref (ad r0))]) (hf : m_5_carryOut r0 Q σ) : W p l e R s m args below meth c H locs cells slots QW (F0 m 0 ls []) := by
  have hx := S.1.1
  have hb := S.1.2.1
  unfold m_5_carryOut at hf
  refine lv_aload_n hx hb d_5_carryOut_0 rfl (lv_at hl 0 rfl) ?_
  refine gf_5_9 S hG hk_r0 d_5_carryOut_1 ?_
  refine gf_5_15 S hG (kr_5_0 hk_r0) d_5_carryOut_4 ?_
  refine lv_topr (fun r1_1 er1_1 => ?_)
  have hf := hf r1_1 er1_1
  have hk_r1_1 : kd r1_1 = 4 := er1_1 ▸ (kr_8_9 (kr_5_0 hk_r0))
  refine lv_astore_n (lv' := [(1, .ref (ad r1_1)), (0, .ref (ad r0))]) hx hb d_5_carryOut_7 rfl hl (by decide) rfl (fun ls hl => ?_)
  refine lv_aload_n hx hb d_5_carryOut_8 rfl (lv_at hl 0 rfl) ?_
  refine iv_5_21 S hl.1 hG hk_r1_1 (c_4_clear l hk_r1_1 hf) ⟨Nat.le_of_ble_eq_true rfl, Nat.le_of_ble_eq_true rfl⟩ (Nat.le_of_ble_eq_true rfl) d_5_carryOut_9 (fun σ_2 hf H locs hG => ?_)
  refine lv_aload_n hx hb d_5_carryOut_12 rfl (lv_at hl 1 rfl) ?_
  refine lv_iconst (v := (-1 : Int32)) hx hb d_5_carryOut_13 (by decide) ?_
  refine pf_5_26 S hG hk_r0 d_5_carryOut_14 (fun σ_4 eσ_4 H locs hG => ?_)
  have hf := hf σ_4 eσ_4
  refine lv_iconst (v := (0 : Int32)) hx hb d_5_carryOut_17 (by decide) ?_
  refine lv_istore_n (lv' := [(2, .int (0 : Int32)), (1, .ref (ad r1_1)), (0, .ref (ad r0))]) hx hb d_5_carryOut_18 rfl hl (by decide) rfl (fun ls hl => ?_)
  exact lp_5_carryOut_19 S hR hk_r0 hk_r1_1  FU _ _ _ _ _  hG (lv_sub hl [2, 1, 0] rfl) hf
theorem c_5_carryOut (l : Launch) {D : va_G} {ac : Nat → ClassId} {ad : Nat → Nat} {st : SS} {A : Nat → Prop} {σ : St} {r0 : Nat} {Q : St → Prop} (hk_r0 : kd r0 = 5) (hf : m_5_carryOut r0 Q σ) : Met l y_5_carryOut (Cond.code y_5_carryOut prog_7_method_2_code 6 none :: wA) { frames := 3, cells := 0, slots := 0, locals := 75 } (va_Pc [.ref (ad r0)] (GSt A D ac ad st σ)) (va_Qv Q (GSt A D ac ad st) A) 0 0 A :=
  mkV l (by decide +kernel) rfl [.ref (ad r0)] (Nat.le_of_ble_eq_true rfl) (fun p e s m args below meth c ls QW S hR hG hl => w_5_carryOut_0 S hR hk_r0 hG hl hf)
set_option maxHeartbeats 4000000 in
set_option maxRecDepth 100000 in
theorem w_9_shift_0 {r0 : Nat} {Q : Int32 → St → Prop} {σ : St} {H : Heap} {locs : List Loc} {ls : Array Slot} (S : SC A D ac st p m c prog_1_method_16_code 1 s args "SweeperRounds" R cells slots 4 100) (hR : RtI A D ac ad p l e R s m args below meth c prog_1_method_16_code cells slots QW Q) (hk_r0 : kd r0 = 9) (hG : DG A D ac ad s σ H locs) (hl : lv_has ls 1 [(0, .ref (ad r0))]) (hf : m_9_shift r0 Q σ) : W p l e R s m args below meth c H locs cells slots QW (F0 m 0 ls []) := by
  have hx := S.1.1
  have hb := S.1.2.1
  unfold m_9_shift at hf
  refine lv_aload_n hx hb d_9_shift_0 rfl (lv_at hl 0 rfl) ?_
  refine gf_9_42 S hG hk_r0 d_9_shift_1 ?_
  refine lv_aload_n hx hb d_9_shift_4 rfl (lv_at hl 0 rfl) ?_
  refine gf_9_26 S hG hk_r0 d_9_shift_5 ?_
  refine iv_9_80 S hl.1 hG (kr_9_4 hk_r0) (c_0_remember l (kr_9_4 hk_r0) (kr_9_2 hk_r0) hf) ⟨Nat.le_of_ble_eq_true rfl, Nat.le_of_ble_eq_true rfl⟩ (Nat.le_of_ble_eq_true rfl) d_9_shift_8 (fun σ_1 hf H locs hG => ?_)
  refine lv_aload_n hx hb d_9_shift_11 rfl (lv_at hl 0 rfl) ?_
  refine gf_9_35 S hG hk_r0 d_9_shift_12 ?_
  refine iv_9_208 S hl.1 hG (kr_9_3 hk_r0) (c_5_carryOut l (kr_9_3 hk_r0) hf) ⟨Nat.le_of_ble_eq_true rfl, Nat.le_of_ble_eq_true rfl⟩ (Nat.le_of_ble_eq_true rfl) d_9_shift_15 (fun σ_3 hf H locs hG => ?_)
  refine lv_aload_n hx hb d_9_shift_18 rfl (lv_at hl 0 rfl) ?_
  refine gf_9_26 S hG hk_r0 d_9_shift_19 ?_
  refine gf_9_211 S hG (kr_9_2 hk_r0) d_9_shift_22 ?_
  refine gf_9_215 S hG (kr_8_9 (kr_9_2 hk_r0)) d_9_shift_25 ?_
  exact hR _ _ _ _ _ _ hG hf d_9_shift_28
theorem c_9_shift (l : Launch) {D : va_G} {ac : Nat → ClassId} {ad : Nat → Nat} {st : SS} {A : Nat → Prop} {σ : St} {r0 : Nat} {Q : Int32 → St → Prop} (hk_r0 : kd r0 = 9) (hf : m_9_shift r0 Q σ) : Met l y_9_shift (Cond.code y_9_shift prog_1_method_16_code 1 (some .int) :: wA) { frames := 4, cells := 0, slots := 0, locals := 100 } (va_Pc [.ref (ad r0)] (GSt A D ac ad st σ)) (va_Qi Q (GSt A D ac ad st) A) 0 0 A :=
  mkI l (by decide +kernel) rfl [.ref (ad r0)] (Nat.le_of_ble_eq_true rfl) (fun p e s m args below meth c ls QW S hR hG hl => w_9_shift_0 S hR hk_r0 hG hl hf)
set_option maxHeartbeats 4000000 in
set_option maxRecDepth 100000 in
theorem w_8_fallOn_0 {r0 : Nat} {r1 : Nat} {Q : Int32 → St → Prop} {σ : St} {H : Heap} {locs : List Loc} {ls : Array Slot} (S : SC A D ac st p m c prog_10_method_19_code 2 s args "SweeperRounds$World" R cells slots 0 0) (hR : RtI A D ac ad p l e R s m args below meth c prog_10_method_19_code cells slots QW Q) (hk_r0 : kd r0 = 8) (hk_r1 : kd r1 = 6) (hG : DG A D ac ad s σ H locs) (hl : lv_has ls 2 [(0, .ref (ad r0)), (1, .ref (ad r1))]) (hf : m_8_fallOn r0 r1 Q σ) : W p l e R s m args below meth c H locs cells slots QW (F0 m 0 ls []) := by
  have hx := S.1.1
  have hb := S.1.2.1
  unfold m_8_fallOn at hf
  refine lv_aload_n hx hb d_8_fallOn_0 rfl (lv_at hl 1 rfl) ?_
  refine gf_8_101 S hG hk_r1 d_8_fallOn_1 ?_
  refine lv_aload_n hx hb d_8_fallOn_4 rfl (lv_at hl 0 rfl) ?_
  refine gf_8_23 S hG hk_r0 d_8_fallOn_5 ?_
  refine lv_iconst (v := (5 : Int32)) hx hb d_8_fallOn_8 (by decide) ?_
  refine mia S hG 26 rfl rfl (kr_8_5 hk_r0) hf.1 d_8_fallOn_9 ?_
  have hf := hf.2
  refine lv_imul hx hb d_8_fallOn_10 ?_
  refine lv_bipush (v := (100 : Int32)) hx hb d_8_fallOn_11 (by decide) ?_
  refine lv_idiv hx hb d_8_fallOn_13 (by decide) ?_
  exact hR _ _ _ _ _ _ hG hf d_8_fallOn_14
theorem c_8_fallOn (l : Launch) {D : va_G} {ac : Nat → ClassId} {ad : Nat → Nat} {st : SS} {A : Nat → Prop} {σ : St} {r0 : Nat} {r1 : Nat} {Q : Int32 → St → Prop} (hk_r0 : kd r0 = 8) (hk_r1 : kd r1 = 6) (hf : m_8_fallOn r0 r1 Q σ) : Met l y_8_fallOn (Cond.code y_8_fallOn prog_10_method_19_code 2 (some .int) :: wA) { frames := 0, cells := 0, slots := 0, locals := 0 } (va_Pc [.ref (ad r0), .ref (ad r1)] (GSt A D ac ad st σ)) (va_Qi Q (GSt A D ac ad st) A) 0 0 A :=
  mkI l (by decide +kernel) rfl [.ref (ad r0), .ref (ad r1)] (Nat.le_of_ble_eq_true rfl) (fun p e s m args below meth c ls QW S hR hG hl => w_8_fallOn_0 S hR hk_r0 hk_r1 hG hl hf)
set_option maxHeartbeats 4000000 in
set_option maxRecDepth 100000 in
theorem w_6_putDirt_0 {r0 : Nat} {x1 : Int32} {x2 : Int32} {Q : Int32 → St → Prop} {σ : St} {H : Heap} {locs : List Loc} {ls : Array Slot} (S : SC A D ac st p m c prog_8_method_9_code 4 s args "SweeperRounds$Street" R cells slots 1 15) (hR : RtI A D ac ad p l e R s m args below meth c prog_8_method_9_code cells slots QW Q) (hk_r0 : kd r0 = 6) (hG : DG A D ac ad s σ H locs) (hl : lv_has ls 4 [(0, .ref (ad r0)), (1, .int x1), (2, .int x2)]) (hf : m_6_putDirt r0 x1 x2 Q σ) : W p l e R s m args below meth c H locs cells slots QW (F0 m 0 ls []) := by
  have hx := S.1.1
  have hb := S.1.2.1
  unfold m_6_putDirt at hf
  refine lv_aload_n hx hb d_6_putDirt_0 rfl (lv_at hl 0 rfl) ?_
  refine gf_6_9 S hG hk_r0 d_6_putDirt_1 ?_
  refine lv_iload_n hx hb d_6_putDirt_4 rfl (lv_at hl 1 rfl) ?_
  refine mia S hG 20 rfl rfl (kr_6_3 hk_r0) hf.1 d_6_putDirt_5 ?_
  have hf := hf.2
  refine lv_iload_n hx hb d_6_putDirt_6 rfl (lv_at hl 2 rfl) ?_
  refine lv_iadd hx hb d_6_putDirt_7 ?_
  refine lv_topi (fun x3_1 ex3_1 => ?_)
  have hf := hf x3_1 ex3_1
  refine lv_istore_n (lv' := [(3, .int x3_1), (0, .ref (ad r0)), (1, .int x1), (2, .int x2)]) hx hb d_6_putDirt_8 rfl hl (by decide) rfl (fun ls hl => ?_)
  refine lv_aload_n hx hb d_6_putDirt_9 rfl (lv_at hl 1 rfl) ?_
  refine gf_6_9 S hG hk_r0 d_6_putDirt_10 ?_
  refine lv_iload_n hx hb d_6_putDirt_13 rfl (lv_at hl 2 rfl) ?_
  refine lv_iload_n hx hb d_6_putDirt_14 rfl (lv_at hl 0 rfl) ?_
  refine lv_bipush (v := (99 : Int32)) hx hb d_6_putDirt_15 (by decide) ?_
  refine mmn S hl.1 wm_438 wm_345 wm_20 wm_346 (by decide) (Nat.le_of_ble_eq_true rfl) d_6_putDirt_17 ?_
  refine mis S hG 20 rfl rfl (kr_6_3 hk_r0) hf.1 d_6_putDirt_20 (fun σ_2 eσ_2 H locs hG => ?_)
  have hf := hf.2 σ_2 eσ_2
  refine lv_iload_n hx hb d_6_putDirt_21 rfl (lv_at hl 0 rfl) ?_
  refine lv_aload_n hx hb d_6_putDirt_22 rfl (lv_at hl 1 rfl) ?_
  refine gf_6_9 S hG hk_r0 d_6_putDirt_23 ?_
  refine lv_iload_n hx hb d_6_putDirt_26 rfl (lv_at hl 2 rfl) ?_
  refine mia S hG 20 rfl rfl (kr_6_3 hk_r0) hf.1 d_6_putDirt_27 ?_
  have hf := hf.2
  refine lv_isub hx hb d_6_putDirt_28 ?_
  exact hR _ _ _ _ _ _ hG hf d_6_putDirt_29
theorem c_6_putDirt (l : Launch) {D : va_G} {ac : Nat → ClassId} {ad : Nat → Nat} {st : SS} {A : Nat → Prop} {σ : St} {r0 : Nat} {x1 : Int32} {x2 : Int32} {Q : Int32 → St → Prop} (hk_r0 : kd r0 = 6) (hf : m_6_putDirt r0 x1 x2 Q σ) : Met l y_6_putDirt (Cond.code y_6_putDirt prog_8_method_9_code 4 (some .int) :: wA) { frames := 1, cells := 0, slots := 0, locals := 15 } (va_Pc [.ref (ad r0), .int x1, .int x2] (GSt A D ac ad st σ)) (va_Qi Q (GSt A D ac ad st) A) 0 0 A :=
  mkI l (by decide +kernel) rfl [.ref (ad r0), .int x1, .int x2] (Nat.le_of_ble_eq_true rfl) (fun p e s m args below meth c ls QW S hR hG hl => w_6_putDirt_0 S hR hk_r0 hG hl hf)
set_option maxHeartbeats 4000000 in
set_option maxRecDepth 100000 in
theorem w_8_passNights_29 {r0 : Nat} {x1 : Int32} {x2 : Int32} {r3 : Nat} {x4 : Int32} {B2 : Int32 → St → Prop} {Q : St → Prop} {B29 : Int32 → St → Prop} {x5 : Int32} {σ : St} {H : Heap} {locs : List Loc} {ls : Array Slot} (S : SC A D ac st p m c prog_10_method_20_code 6 s args "SweeperRounds$World" R cells slots 2 38) (hR : RtV A D ac ad p l e R s m args below meth c prog_10_method_20_code cells slots QW Q) (hk_r0 : kd r0 = 8) (hk_r3 : kd r3 = 6) (hB2 : ∀ (x2 : Int32) (σ : St) (H : Heap) (locs : List Loc) (ls : Array Slot), DG A D ac ad s σ H locs → lv_has ls 6 [(0, .ref (ad r0)), (1, .int x1), (2, .int x2)] → B2 x2 σ → W p l e R s m args below meth c H locs cells slots QW (F0 m 2 ls [])) (hB29 : ∀ (x5 : Int32) (σ : St) (H : Heap) (locs : List Loc) (ls : Array Slot), DG A D ac ad s σ H locs → lv_has ls 6 [(0, .ref (ad r0)), (1, .int x1), (2, .int x2), (3, .ref (ad r3)), (4, .int x4), (5, .int x5)] → B29 x5 σ → W p l e R s m args below meth c H locs cells slots QW (F0 m 29 ls [])) (hG : DG A D ac ad s σ H locs) (hl : lv_has ls 6 [(0, .ref (ad r0)), (1, .int x1), (2, .int x2), (3, .ref (ad r3)), (4, .int x4), (5, .int x5)]) (hf : m_8_passNights_29 r0 x1 x2 r3 x4 B2 Q B29 x5 σ) : W p l e R s m args below meth c H locs cells slots QW (F0 m 29 ls []) := by
  have hx := S.1.1
  have hb := S.1.2.1
  unfold m_8_passNights_29 at hf
  refine lv_iload hx hb d_8_passNights_29 (lv_at hl 5 rfl) ?_
  refine lv_aload_n hx hb d_8_passNights_31 rfl (lv_at hl 3 rfl) ?_
  refine gf_8_85 S hG hk_r3 d_8_passNights_32 ?_
  refine lv_icmp_ge (tgt := 91) hx hb d_8_passNights_35 (by decide) (fun hc => ?_) (fun hc => ?_)
  · have hf := hf.1 hc
    obtain ⟨x2_1, ex2_1⟩ : ∃ y : Int32, y = x2 + 1 := ⟨_, rfl⟩
    have hf := hf x2_1 ex2_1
    refine lv_iinc (v := x2_1) (lv' := [(2, .int x2_1), (0, .ref (ad r0)), (1, .int x1), (3, .ref (ad r3)), (4, .int x4), (5, .int x5)]) hx hb d_8_passNights_91 hl (k := 2) rfl (by rw [ex2_1]; rfl) (by decide) rfl (fun ls hl => ?_)
    refine lv_goto (tgt := 2) hx hb d_8_passNights_94 (by decide) ?_
    exact hB2 _ _ _ _ _   hG (lv_sub hl [1, 2, 0] rfl) hf
  · have hf := hf.2 hc
    refine lv_aload_n hx hb d_8_passNights_38 rfl (lv_at hl 0 rfl) ?_
    refine gf_8_27 S hG hk_r0 d_8_passNights_39 ?_
    refine lv_iconst (v := (3 : Int32)) hx hb d_8_passNights_42 (by decide) ?_
    refine lv_dup2_11 hx hb d_8_passNights_43 rfl rfl ?_
    refine mia S hG 27 rfl rfl (kr_8_8 hk_r0) hf.1 d_8_passNights_44 ?_
    have hf := hf.2
    refine lv_aload_n hx hb d_8_passNights_45 rfl (lv_at hl 3 rfl) ?_
    refine lv_iconst (v := (0 : Int32)) hx hb d_8_passNights_46 (by decide) ?_
    refine lv_iload hx hb d_8_passNights_47 (lv_at hl 5 rfl) ?_
    refine iv_8_127 S hl.1 hG  (c_9_placeOf l  hf) ⟨Nat.le_of_ble_eq_true rfl, Nat.le_of_ble_eq_true rfl⟩ (Nat.le_of_ble_eq_true rfl) d_8_passNights_49 (fun v_3 σ_2 hf H locs hG => ?_)
    refine lv_iload hx hb d_8_passNights_52 (lv_at hl 4 rfl) ?_
    refine iv_8_130 S hl.1 hG hk_r3 (c_6_putDirt l hk_r3 hf) ⟨Nat.le_of_ble_eq_true rfl, Nat.le_of_ble_eq_true rfl⟩ (Nat.le_of_ble_eq_true rfl) d_8_passNights_54 (fun v_5 σ_4 hf H locs hG => ?_)
    refine lv_aload_n hx hb d_8_passNights_57 rfl (lv_at hl 3 rfl) ?_
    refine lv_iconst (v := (1 : Int32)) hx hb d_8_passNights_58 (by decide) ?_
    refine lv_iload hx hb d_8_passNights_59 (lv_at hl 5 rfl) ?_
    refine iv_8_127 S hl.1 hG  (c_9_placeOf l  hf) ⟨Nat.le_of_ble_eq_true rfl, Nat.le_of_ble_eq_true rfl⟩ (Nat.le_of_ble_eq_true rfl) d_8_passNights_61 (fun v_7 σ_6 hf H locs hG => ?_)
    refine lv_iload hx hb d_8_passNights_64 (lv_at hl 4 rfl) ?_
    refine iv_8_130 S hl.1 hG hk_r3 (c_6_putDirt l hk_r3 hf) ⟨Nat.le_of_ble_eq_true rfl, Nat.le_of_ble_eq_true rfl⟩ (Nat.le_of_ble_eq_true rfl) d_8_passNights_66 (fun v_9 σ_8 hf H locs hG => ?_)
    refine lv_iadd hx hb d_8_passNights_69 ?_
    refine lv_iadd hx hb d_8_passNights_70 ?_
    refine mis S hG 27 rfl rfl (kr_8_8 hk_r0) hf.1 d_8_passNights_71 (fun σ_10 eσ_10 H locs hG => ?_)
    have hf := hf.2 σ_10 eσ_10
    refine lv_aload_n hx hb d_8_passNights_72 rfl (lv_at hl 0 rfl) ?_
    refine gf_8_27 S hG hk_r0 d_8_passNights_73 ?_
    refine lv_iconst (v := (1 : Int32)) hx hb d_8_passNights_76 (by decide) ?_
    refine lv_dup2_11 hx hb d_8_passNights_77 rfl rfl ?_
    refine mia S hG 27 rfl rfl (kr_8_8 hk_r0) hf.1 d_8_passNights_78 ?_
    have hf := hf.2
    refine lv_iconst (v := (2 : Int32)) hx hb d_8_passNights_79 (by decide) ?_
    refine lv_iload hx hb d_8_passNights_80 (lv_at hl 4 rfl) ?_
    refine lv_imul hx hb d_8_passNights_82 ?_
    refine lv_iadd hx hb d_8_passNights_83 ?_
    refine mis S hG 27 rfl rfl (kr_8_8 hk_r0) hf.1 d_8_passNights_84 (fun σ_11 eσ_11 H locs hG => ?_)
    have hf := hf.2 σ_11 eσ_11
    obtain ⟨x5_12, ex5_12⟩ : ∃ y : Int32, y = x5 + 1 := ⟨_, rfl⟩
    have hf := hf x5_12 ex5_12
    refine lv_iinc (v := x5_12) (lv' := [(5, .int x5_12), (0, .ref (ad r0)), (1, .int x1), (2, .int x2), (3, .ref (ad r3)), (4, .int x4)]) hx hb d_8_passNights_85 hl (k := 5) rfl (by rw [ex5_12]; rfl) (by decide) rfl (fun ls hl => ?_)
    refine lv_goto (tgt := 29) hx hb d_8_passNights_88 (by decide) ?_
    exact hB29 _ _ _ _ _   hG (lv_sub hl [1, 2, 3, 4, 5, 0] rfl) hf
set_option maxHeartbeats 4000000 in
set_option maxRecDepth 100000 in
theorem lp_8_passNights_29 {r0 : Nat} {x1 : Int32} {x2 : Int32} {r3 : Nat} {x4 : Int32} {B2 : Int32 → St → Prop} {Q : St → Prop} (S : SC A D ac st p m c prog_10_method_20_code 6 s args "SweeperRounds$World" R cells slots 2 38) (hR : RtV A D ac ad p l e R s m args below meth c prog_10_method_20_code cells slots QW Q) (hk_r0 : kd r0 = 8) (hk_r3 : kd r3 = 6) (hB2 : ∀ (x2 : Int32) (σ : St) (H : Heap) (locs : List Loc) (ls : Array Slot), DG A D ac ad s σ H locs → lv_has ls 6 [(0, .ref (ad r0)), (1, .int x1), (2, .int x2)] → B2 x2 σ → W p l e R s m args below meth c H locs cells slots QW (F0 m 2 ls [])) : ∀ (n : Nat) (x5 : Int32) (σ : St) (H : Heap) (locs : List Loc) (ls : Array Slot), DG A D ac ad s σ H locs → lv_has ls 6 [(0, .ref (ad r0)), (1, .int x1), (2, .int x2), (3, .ref (ad r3)), (4, .int x4), (5, .int x5)] → itN (m_8_passNights_29 r0 x1 x2 r3 x4 B2 Q) (fun _ _ => False) n x5 σ → W p l e R s m args below meth c H locs cells slots QW (F0 m 29 ls []) := by
  intro n
  induction n with
  | zero =>
    intro x5 σ H locs ls  hG hl hf
    exact hf.elim
  | succ n ih =>
    intro x5 σ H locs ls  hG hl hf
    exact w_8_passNights_29 S hR hk_r0 hk_r3 hB2 ih hG hl hf
set_option maxHeartbeats 4000000 in
set_option maxRecDepth 100000 in
theorem w_8_passNights_2 {r0 : Nat} {x1 : Int32} {Q : St → Prop} {B2 : Int32 → St → Prop} {x2 : Int32} {σ : St} {H : Heap} {locs : List Loc} {ls : Array Slot} (S : SC A D ac st p m c prog_10_method_20_code 6 s args "SweeperRounds$World" R cells slots 2 38) (hR : RtV A D ac ad p l e R s m args below meth c prog_10_method_20_code cells slots QW Q) (hk_r0 : kd r0 = 8) (hB2 : ∀ (x2 : Int32) (σ : St) (H : Heap) (locs : List Loc) (ls : Array Slot), DG A D ac ad s σ H locs → lv_has ls 6 [(0, .ref (ad r0)), (1, .int x1), (2, .int x2)] → B2 x2 σ → W p l e R s m args below meth c H locs cells slots QW (F0 m 2 ls [])) (hG : DG A D ac ad s σ H locs) (hl : lv_has ls 6 [(0, .ref (ad r0)), (1, .int x1), (2, .int x2)]) (hf : m_8_passNights_2 r0 x1 Q B2 x2 σ) : W p l e R s m args below meth c H locs cells slots QW (F0 m 2 ls []) := by
  have hx := S.1.1
  have hb := S.1.2.1
  unfold m_8_passNights_2 at hf
  refine lv_iload_n hx hb d_8_passNights_2 rfl (lv_at hl 2 rfl) ?_
  refine lv_aload_n hx hb d_8_passNights_3 rfl (lv_at hl 0 rfl) ?_
  refine gf_8_52 S hG hk_r0 d_8_passNights_4 ?_
  refine lv_icmp_ge (tgt := 97) hx hb d_8_passNights_7 (by decide) (fun hc => ?_) (fun hc => ?_)
  · have hf := hf.1 hc
    refine lv_aload_n hx hb d_8_passNights_97 rfl (lv_at hl 0 rfl) ?_
    refine lv_dup hx hb d_8_passNights_98 rfl ?_
    refine gf_8_78 S hG hk_r0 d_8_passNights_99 ?_
    refine lv_iload_n hx hb d_8_passNights_102 rfl (lv_at hl 1 rfl) ?_
    refine lv_iadd hx hb d_8_passNights_103 ?_
    refine pf_8_78 S hG hk_r0 d_8_passNights_104 (fun σ_1 eσ_1 H locs hG => ?_)
    have hf := hf σ_1 eσ_1
    exact hR _ _ _ _ _ hG hf d_8_passNights_107
  · have hf := hf.2 hc
    refine lv_aload_n hx hb d_8_passNights_10 rfl (lv_at hl 0 rfl) ?_
    refine gf_8_11 S hG hk_r0 d_8_passNights_11 ?_
    refine lv_iload_n hx hb d_8_passNights_14 rfl (lv_at hl 2 rfl) ?_
    refine mq3 S hG (kr_8_0 hk_r0) hf.1 d_8_passNights_15 ?_
    have hi_2 := vin_lt hf.1
    have hf := hf.2
    refine lv_topr (fun r3_3 er3_3 => ?_)
    have hf := hf r3_3 er3_3
    have hk_r3_3 : kd r3_3 = 6 := er3_3 ▸ (ke_23 (kr_8_0 hk_r0) hi_2)
    refine lv_astore_n (lv' := [(3, .ref (ad r3_3)), (0, .ref (ad r0)), (1, .int x1), (2, .int x2)]) hx hb d_8_passNights_16 rfl hl (by decide) rfl (fun ls hl => ?_)
    refine lv_aload_n hx hb d_8_passNights_17 rfl (lv_at hl 1 rfl) ?_
    refine lv_aload_n hx hb d_8_passNights_18 rfl (lv_at hl 0 rfl) ?_
    refine iv_8_123 S hl.1 hG hk_r0 (c_8_fallOn l hk_r0 hk_r3_3 hf) ⟨Nat.le_of_ble_eq_true rfl, Nat.le_of_ble_eq_true rfl⟩ (Nat.le_of_ble_eq_true rfl) d_8_passNights_19 (fun v_5 σ_4 hf H locs hG => ?_)
    refine lv_iload_n hx hb d_8_passNights_22 rfl (lv_at hl 2 rfl) ?_
    refine lv_imul hx hb d_8_passNights_23 ?_
    refine lv_topi (fun x4_6 ex4_6 => ?_)
    have hf := hf x4_6 ex4_6
    refine lv_istore (lv' := [(4, .int x4_6), (3, .ref (ad r3_3)), (0, .ref (ad r0)), (1, .int x1), (2, .int x2)]) hx hb d_8_passNights_24 hl (by decide) rfl (fun ls hl => ?_)
    refine lv_iconst (v := (0 : Int32)) hx hb d_8_passNights_26 (by decide) ?_
    refine lv_istore (lv' := [(5, .int (0 : Int32)), (4, .int x4_6), (3, .ref (ad r3_3)), (0, .ref (ad r0)), (1, .int x1), (2, .int x2)]) hx hb d_8_passNights_27 hl (by decide) rfl (fun ls hl => ?_)
    exact lp_8_passNights_29 S hR hk_r0 hk_r3_3 hB2 FU _ _ _ _ _  hG (lv_sub hl [3, 4, 5, 2, 1, 0] rfl) hf
set_option maxHeartbeats 4000000 in
set_option maxRecDepth 100000 in
theorem lp_8_passNights_2 {r0 : Nat} {x1 : Int32} {Q : St → Prop} (S : SC A D ac st p m c prog_10_method_20_code 6 s args "SweeperRounds$World" R cells slots 2 38) (hR : RtV A D ac ad p l e R s m args below meth c prog_10_method_20_code cells slots QW Q) (hk_r0 : kd r0 = 8) : ∀ (n : Nat) (x2 : Int32) (σ : St) (H : Heap) (locs : List Loc) (ls : Array Slot), DG A D ac ad s σ H locs → lv_has ls 6 [(0, .ref (ad r0)), (1, .int x1), (2, .int x2)] → itN (m_8_passNights_2 r0 x1 Q) (fun _ _ => False) n x2 σ → W p l e R s m args below meth c H locs cells slots QW (F0 m 2 ls []) := by
  intro n
  induction n with
  | zero =>
    intro x2 σ H locs ls  hG hl hf
    exact hf.elim
  | succ n ih =>
    intro x2 σ H locs ls  hG hl hf
    exact w_8_passNights_2 S hR hk_r0  ih hG hl hf
set_option maxHeartbeats 4000000 in
set_option maxRecDepth 100000 in
theorem w_8_passNights_0 {r0 : Nat} {x1 : Int32} {Q : St → Prop} {σ : St} {H : Heap} {locs : List Loc} {ls : Array Slot} (S : SC A D ac st p m c prog_10_method_20_code 6 s args "SweeperRounds$World" R cells slots 2 38) (hR : RtV A D ac ad p l e R s m args below meth c prog_10_method_20_code cells slots QW Q) (hk_r0 : kd r0 = 8) (hG : DG A D ac ad s σ H locs) (hl : lv_has ls 6 [(0, .ref (ad r0)), (1, .int x1)]) (hf : m_8_passNights r0 x1 Q σ) : W p l e R s m args below meth c H locs cells slots QW (F0 m 0 ls []) := by
  have hx := S.1.1
  have hb := S.1.2.1
  unfold m_8_passNights at hf
  refine lv_iconst (v := (0 : Int32)) hx hb d_8_passNights_0 (by decide) ?_
  refine lv_istore_n (lv' := [(2, .int (0 : Int32)), (0, .ref (ad r0)), (1, .int x1)]) hx hb d_8_passNights_1 rfl hl (by decide) rfl (fun ls hl => ?_)
  exact lp_8_passNights_2 S hR hk_r0  FU _ _ _ _ _  hG (lv_sub hl [1, 2, 0] rfl) hf
theorem c_8_passNights (l : Launch) {D : va_G} {ac : Nat → ClassId} {ad : Nat → Nat} {st : SS} {A : Nat → Prop} {σ : St} {r0 : Nat} {x1 : Int32} {Q : St → Prop} (hk_r0 : kd r0 = 8) (hf : m_8_passNights r0 x1 Q σ) : Met l y_8_passNights (Cond.code y_8_passNights prog_10_method_20_code 6 none :: wA) { frames := 2, cells := 0, slots := 0, locals := 38 } (va_Pc [.ref (ad r0), .int x1] (GSt A D ac ad st σ)) (va_Qv Q (GSt A D ac ad st) A) 0 0 A :=
  mkV l (by decide +kernel) rfl [.ref (ad r0), .int x1] (Nat.le_of_ble_eq_true rfl) (fun p e s m args below meth c ls QW S hR hG hl => w_8_passNights_0 S hR hk_r0 hG hl hf)
set_option maxHeartbeats 4000000 in
set_option maxRecDepth 100000 in
theorem w_6_allDirt_0 {r0 : Nat} {Q : Int32 → St → Prop} {σ : St} {H : Heap} {locs : List Loc} {ls : Array Slot} (S : SC A D ac st p m c prog_8_method_5_code 1 s args "SweeperRounds$Street" R cells slots 2 44) (hR : RtI A D ac ad p l e R s m args below meth c prog_8_method_5_code cells slots QW Q) (hk_r0 : kd r0 = 6) (hG : DG A D ac ad s σ H locs) (hl : lv_has ls 1 [(0, .ref (ad r0))]) (hf : m_6_allDirt r0 Q σ) : W p l e R s m args below meth c H locs cells slots QW (F0 m 0 ls []) := by
  have hx := S.1.1
  have hb := S.1.2.1
  unfold m_6_allDirt at hf
  refine lv_aload_n hx hb d_6_allDirt_0 rfl (lv_at hl 0 rfl) ?_
  refine lv_iconst (v := (0 : Int32)) hx hb d_6_allDirt_1 (by decide) ?_
  refine iv_6_33 S hl.1 hG hk_r0 (c_6_dirtOfSide l hk_r0 hf) ⟨Nat.le_of_ble_eq_true rfl, Nat.le_of_ble_eq_true rfl⟩ (Nat.le_of_ble_eq_true rfl) d_6_allDirt_2 (fun v_2 σ_1 hf H locs hG => ?_)
  refine lv_aload_n hx hb d_6_allDirt_5 rfl (lv_at hl 0 rfl) ?_
  refine lv_iconst (v := (1 : Int32)) hx hb d_6_allDirt_6 (by decide) ?_
  refine iv_6_33 S hl.1 hG hk_r0 (c_6_dirtOfSide l hk_r0 hf) ⟨Nat.le_of_ble_eq_true rfl, Nat.le_of_ble_eq_true rfl⟩ (Nat.le_of_ble_eq_true rfl) d_6_allDirt_7 (fun v_4 σ_3 hf H locs hG => ?_)
  refine lv_iadd hx hb d_6_allDirt_10 ?_
  exact hR _ _ _ _ _ _ hG hf d_6_allDirt_11
theorem c_6_allDirt (l : Launch) {D : va_G} {ac : Nat → ClassId} {ad : Nat → Nat} {st : SS} {A : Nat → Prop} {σ : St} {r0 : Nat} {Q : Int32 → St → Prop} (hk_r0 : kd r0 = 6) (hf : m_6_allDirt r0 Q σ) : Met l y_6_allDirt (Cond.code y_6_allDirt prog_8_method_5_code 1 (some .int) :: wA) { frames := 2, cells := 0, slots := 0, locals := 44 } (va_Pc [.ref (ad r0)] (GSt A D ac ad st σ)) (va_Qi Q (GSt A D ac ad st) A) 0 0 A :=
  mkI l (by decide +kernel) rfl [.ref (ad r0)] (Nat.le_of_ble_eq_true rfl) (fun p e s m args below meth c ls QW S hR hG hl => w_6_allDirt_0 S hR hk_r0 hG hl hf)
set_option maxHeartbeats 4000000 in
set_option maxRecDepth 100000 in
theorem w_8_dirtOnStreets_4 {r0 : Nat} {Q : Int32 → St → Prop} {B4 : Int32 → Int32 → St → Prop} {x1 : Int32} {x2 : Int32} {σ : St} {H : Heap} {locs : List Loc} {ls : Array Slot} (S : SC A D ac st p m c prog_10_method_6_code 3 s args "SweeperRounds$World" R cells slots 3 64) (hR : RtI A D ac ad p l e R s m args below meth c prog_10_method_6_code cells slots QW Q) (hk_r0 : kd r0 = 8) (hB4 : ∀ (x1 : Int32) (x2 : Int32) (σ : St) (H : Heap) (locs : List Loc) (ls : Array Slot), DG A D ac ad s σ H locs → lv_has ls 3 [(0, .ref (ad r0)), (1, .int x1), (2, .int x2)] → B4 x1 x2 σ → W p l e R s m args below meth c H locs cells slots QW (F0 m 4 ls [])) (hG : DG A D ac ad s σ H locs) (hl : lv_has ls 3 [(0, .ref (ad r0)), (1, .int x1), (2, .int x2)]) (hf : m_8_dirtOnStreets_4 r0 Q B4 x1 x2 σ) : W p l e R s m args below meth c H locs cells slots QW (F0 m 4 ls []) := by
  have hx := S.1.1
  have hb := S.1.2.1
  unfold m_8_dirtOnStreets_4 at hf
  refine lv_iload_n hx hb d_8_dirtOnStreets_4 rfl (lv_at hl 2 rfl) ?_
  refine lv_aload_n hx hb d_8_dirtOnStreets_5 rfl (lv_at hl 0 rfl) ?_
  refine gf_8_52 S hG hk_r0 d_8_dirtOnStreets_6 ?_
  refine lv_icmp_ge (tgt := 30) hx hb d_8_dirtOnStreets_9 (by decide) (fun hc => ?_) (fun hc => ?_)
  · have hf := hf.1 hc
    refine lv_iload_n hx hb d_8_dirtOnStreets_30 rfl (lv_at hl 1 rfl) ?_
    exact hR _ _ _ _ _ _ hG hf d_8_dirtOnStreets_31
  · have hf := hf.2 hc
    refine lv_iload_n hx hb d_8_dirtOnStreets_12 rfl (lv_at hl 1 rfl) ?_
    refine lv_aload_n hx hb d_8_dirtOnStreets_13 rfl (lv_at hl 0 rfl) ?_
    refine gf_8_11 S hG hk_r0 d_8_dirtOnStreets_14 ?_
    refine lv_iload_n hx hb d_8_dirtOnStreets_17 rfl (lv_at hl 2 rfl) ?_
    refine mq3 S hG (kr_8_0 hk_r0) hf.1 d_8_dirtOnStreets_18 ?_
    have hi_1 := vin_lt hf.1
    have hf := hf.2
    refine iv_8_88 S hl.1 hG (ke_23 (kr_8_0 hk_r0) hi_1) (c_6_allDirt l (ke_23 (kr_8_0 hk_r0) hi_1) hf) ⟨Nat.le_of_ble_eq_true rfl, Nat.le_of_ble_eq_true rfl⟩ (Nat.le_of_ble_eq_true rfl) d_8_dirtOnStreets_19 (fun v_3 σ_2 hf H locs hG => ?_)
    refine lv_iadd hx hb d_8_dirtOnStreets_22 ?_
    refine lv_topi (fun x1_4 ex1_4 => ?_)
    have hf := hf x1_4 ex1_4
    refine lv_istore_n (lv' := [(1, .int x1_4), (0, .ref (ad r0)), (2, .int x2)]) hx hb d_8_dirtOnStreets_23 rfl hl (by decide) rfl (fun ls hl => ?_)
    obtain ⟨x2_5, ex2_5⟩ : ∃ y : Int32, y = x2 + 1 := ⟨_, rfl⟩
    have hf := hf x2_5 ex2_5
    refine lv_iinc (v := x2_5) (lv' := [(2, .int x2_5), (1, .int x1_4), (0, .ref (ad r0))]) hx hb d_8_dirtOnStreets_24 hl (k := 2) rfl (by rw [ex2_5]; rfl) (by decide) rfl (fun ls hl => ?_)
    refine lv_goto (tgt := 4) hx hb d_8_dirtOnStreets_27 (by decide) ?_
    exact hB4 _ _ _ _ _ _   hG (lv_sub hl [2, 1, 0] rfl) hf
set_option maxHeartbeats 4000000 in
set_option maxRecDepth 100000 in
theorem lp_8_dirtOnStreets_4 {r0 : Nat} {Q : Int32 → St → Prop} (S : SC A D ac st p m c prog_10_method_6_code 3 s args "SweeperRounds$World" R cells slots 3 64) (hR : RtI A D ac ad p l e R s m args below meth c prog_10_method_6_code cells slots QW Q) (hk_r0 : kd r0 = 8) : ∀ (n : Nat) (x1 : Int32) (x2 : Int32) (σ : St) (H : Heap) (locs : List Loc) (ls : Array Slot), DG A D ac ad s σ H locs → lv_has ls 3 [(0, .ref (ad r0)), (1, .int x1), (2, .int x2)] → itN (m_8_dirtOnStreets_4 r0 Q) (fun _ _ _ => False) n x1 x2 σ → W p l e R s m args below meth c H locs cells slots QW (F0 m 4 ls []) := by
  intro n
  induction n with
  | zero =>
    intro x1 x2 σ H locs ls  hG hl hf
    exact hf.elim
  | succ n ih =>
    intro x1 x2 σ H locs ls  hG hl hf
    exact w_8_dirtOnStreets_4 S hR hk_r0  ih hG hl hf
set_option maxHeartbeats 4000000 in
set_option maxRecDepth 100000 in
theorem w_8_dirtOnStreets_0 {r0 : Nat} {Q : Int32 → St → Prop} {σ : St} {H : Heap} {locs : List Loc} {ls : Array Slot} (S : SC A D ac st p m c prog_10_method_6_code 3 s args "SweeperRounds$World" R cells slots 3 64) (hR : RtI A D ac ad p l e R s m args below meth c prog_10_method_6_code cells slots QW Q) (hk_r0 : kd r0 = 8) (hG : DG A D ac ad s σ H locs) (hl : lv_has ls 3 [(0, .ref (ad r0))]) (hf : m_8_dirtOnStreets r0 Q σ) : W p l e R s m args below meth c H locs cells slots QW (F0 m 0 ls []) := by
  have hx := S.1.1
  have hb := S.1.2.1
  unfold m_8_dirtOnStreets at hf
  refine lv_iconst (v := (0 : Int32)) hx hb d_8_dirtOnStreets_0 (by decide) ?_
  refine lv_istore_n (lv' := [(1, .int (0 : Int32)), (0, .ref (ad r0))]) hx hb d_8_dirtOnStreets_1 rfl hl (by decide) rfl (fun ls hl => ?_)
  refine lv_iconst (v := (0 : Int32)) hx hb d_8_dirtOnStreets_2 (by decide) ?_
  refine lv_istore_n (lv' := [(2, .int (0 : Int32)), (1, .int (0 : Int32)), (0, .ref (ad r0))]) hx hb d_8_dirtOnStreets_3 rfl hl (by decide) rfl (fun ls hl => ?_)
  exact lp_8_dirtOnStreets_4 S hR hk_r0  FU _ _ _ _ _ _  hG (lv_sub hl [2, 1, 0] rfl) hf
theorem c_8_dirtOnStreets (l : Launch) {D : va_G} {ac : Nat → ClassId} {ad : Nat → Nat} {st : SS} {A : Nat → Prop} {σ : St} {r0 : Nat} {Q : Int32 → St → Prop} (hk_r0 : kd r0 = 8) (hf : m_8_dirtOnStreets r0 Q σ) : Met l y_8_dirtOnStreets (Cond.code y_8_dirtOnStreets prog_10_method_6_code 3 (some .int) :: wA) { frames := 3, cells := 0, slots := 0, locals := 64 } (va_Pc [.ref (ad r0)] (GSt A D ac ad st σ)) (va_Qi Q (GSt A D ac ad st) A) 0 0 A :=
  mkI l (by decide +kernel) rfl [.ref (ad r0)] (Nat.le_of_ble_eq_true rfl) (fun p e s m args below meth c ls QW S hR hG hl => w_8_dirtOnStreets_0 S hR hk_r0 hG hl hf)
set_option maxHeartbeats 4000000 in
set_option maxRecDepth 100000 in
theorem w_9_night_0 {r0 : Nat} {x1 : Int32} {Q : Int32 → St → Prop} {σ : St} {H : Heap} {locs : List Loc} {ls : Array Slot} (S : SC A D ac st p m c prog_1_method_17_code 2 s args "SweeperRounds" R cells slots 4 86) (hR : RtI A D ac ad p l e R s m args below meth c prog_1_method_17_code cells slots QW Q) (hk_r0 : kd r0 = 9) (hG : DG A D ac ad s σ H locs) (hl : lv_has ls 2 [(0, .ref (ad r0)), (1, .int x1)]) (hf : m_9_night r0 x1 Q σ) : W p l e R s m args below meth c H locs cells slots QW (F0 m 0 ls []) := by
  have hx := S.1.1
  have hb := S.1.2.1
  unfold m_9_night at hf
  refine lv_iload_n hx hb d_9_night_0 rfl (lv_at hl 1 rfl) ?_
  refine lv_iconst (v := (1 : Int32)) hx hb d_9_night_1 (by decide) ?_
  refine lv_icmp_lt (tgt := 11) hx hb d_9_night_2 (by decide) (fun hc => ?_) (fun hc => ?_)
  · have hf := hf.1 hc
    refine lv_iconst (v := (-1 : Int32)) hx hb d_9_night_11 (by decide) ?_
    exact hR _ _ _ _ _ _ hG hf d_9_night_12
  · have hf := hf.2 hc
    refine lv_iload_n hx hb d_9_night_5 rfl (lv_at hl 1 rfl) ?_
    refine lv_bipush (v := (30 : Int32)) hx hb d_9_night_6 (by decide) ?_
    refine lv_icmp_le (tgt := 13) hx hb d_9_night_8 (by decide) (fun hc => ?_) (fun hc => ?_)
    · have hf := hf.1 hc
      refine lv_aload_n hx hb d_9_night_13 rfl (lv_at hl 0 rfl) ?_
      refine gf_9_42 S hG hk_r0 d_9_night_14 ?_
      refine lv_aload_n hx hb d_9_night_17 rfl (lv_at hl 0 rfl) ?_
      refine gf_9_26 S hG hk_r0 d_9_night_18 ?_
      refine iv_9_80 S hl.1 hG (kr_9_4 hk_r0) (c_0_remember l (kr_9_4 hk_r0) (kr_9_2 hk_r0) hf) ⟨Nat.le_of_ble_eq_true rfl, Nat.le_of_ble_eq_true rfl⟩ (Nat.le_of_ble_eq_true rfl) d_9_night_21 (fun σ_1 hf H locs hG => ?_)
      refine lv_aload_n hx hb d_9_night_24 rfl (lv_at hl 0 rfl) ?_
      refine gf_9_26 S hG hk_r0 d_9_night_25 ?_
      refine lv_iload_n hx hb d_9_night_28 rfl (lv_at hl 1 rfl) ?_
      refine iv_9_218 S hl.1 hG (kr_9_2 hk_r0) (c_8_passNights l (kr_9_2 hk_r0) hf) ⟨Nat.le_of_ble_eq_true rfl, Nat.le_of_ble_eq_true rfl⟩ (Nat.le_of_ble_eq_true rfl) d_9_night_29 (fun σ_3 hf H locs hG => ?_)
      refine lv_aload_n hx hb d_9_night_32 rfl (lv_at hl 0 rfl) ?_
      refine gf_9_26 S hG hk_r0 d_9_night_33 ?_
      refine iv_9_221 S hl.1 hG (kr_9_2 hk_r0) (c_8_dirtOnStreets l (kr_9_2 hk_r0) hf) ⟨Nat.le_of_ble_eq_true rfl, Nat.le_of_ble_eq_true rfl⟩ (Nat.le_of_ble_eq_true rfl) d_9_night_36 (fun v_6 σ_5 hf H locs hG => ?_)
      exact hR _ _ _ _ _ _ hG hf d_9_night_39
    · have hf := hf.2 hc
      refine lv_iconst (v := (-1 : Int32)) hx hb d_9_night_11 (by decide) ?_
      exact hR _ _ _ _ _ _ hG hf d_9_night_12
theorem c_9_night (l : Launch) {D : va_G} {ac : Nat → ClassId} {ad : Nat → Nat} {st : SS} {A : Nat → Prop} {σ : St} {r0 : Nat} {x1 : Int32} {Q : Int32 → St → Prop} (hk_r0 : kd r0 = 9) (hf : m_9_night r0 x1 Q σ) : Met l y_9_night (Cond.code y_9_night prog_1_method_17_code 2 (some .int) :: wA) { frames := 4, cells := 0, slots := 0, locals := 86 } (va_Pc [.ref (ad r0), .int x1] (GSt A D ac ad st σ)) (va_Qi Q (GSt A D ac ad st) A) 0 0 A :=
  mkI l (by decide +kernel) rfl [.ref (ad r0), .int x1] (Nat.le_of_ble_eq_true rfl) (fun p e s m args below meth c ls QW S hR hG hl => w_9_night_0 S hR hk_r0 hG hl hf)
set_option maxHeartbeats 4000000 in
set_option maxRecDepth 100000 in
theorem w_6_washSide_49 {r0 : Nat} {x1 : Int32} {x2 : Int32} {x3 : Int32} {x4 : Int32} {x5 : Int32} {B10 : Int32 → Int32 → St → Prop} {Q : Int32 → St → Prop} {t0 : Int32} {σ : St} {H : Heap} {locs : List Loc} {ls : Array Slot} (S : SC A D ac st p m c prog_8_method_10_code 7 s args "SweeperRounds$Street" R cells slots 2 38) (hR : RtI A D ac ad p l e R s m args below meth c prog_8_method_10_code cells slots QW Q) (hk_r0 : kd r0 = 6) (hB10 : ∀ (x3 : Int32) (x4 : Int32) (σ : St) (H : Heap) (locs : List Loc) (ls : Array Slot), DG A D ac ad s σ H locs → lv_has ls 7 [(0, .ref (ad r0)), (1, .int x1), (2, .int x2), (3, .int x3), (4, .int x4)] → B10 x3 x4 σ → W p l e R s m args below meth c H locs cells slots QW (F0 m 10 ls [])) (hG : DG A D ac ad s σ H locs) (hl : lv_has ls 7 [(0, .ref (ad r0)), (1, .int x1), (2, .int x2), (3, .int x3), (4, .int x4), (5, .int x5)]) (hf : m_6_washSide_49 r0 x1 x2 x3 x4 x5 B10 Q t0 σ) : W p l e R s m args below meth c H locs cells slots QW (F0 m 49 ls [.int t0]) := by
  have hx := S.1.1
  have hb := S.1.2.1
  unfold m_6_washSide_49 at hf
  refine lv_istore (lv' := [(6, .int t0), (0, .ref (ad r0)), (1, .int x1), (2, .int x2), (3, .int x3), (4, .int x4), (5, .int x5)]) hx hb d_6_washSide_49 hl (by decide) rfl (fun ls hl => ?_)
  refine lv_aload_n hx hb d_6_washSide_51 rfl (lv_at hl 1 rfl) ?_
  refine gf_6_9 S hG hk_r0 d_6_washSide_52 ?_
  refine lv_iload hx hb d_6_washSide_55 (lv_at hl 6 rfl) ?_
  refine lv_dup2_11 hx hb d_6_washSide_57 rfl rfl ?_
  refine mia S hG 20 rfl rfl (kr_6_3 hk_r0) hf.1 d_6_washSide_58 ?_
  have hf := hf.2
  refine lv_iload hx hb d_6_washSide_59 (lv_at hl 0 rfl) ?_
  refine lv_isub hx hb d_6_washSide_61 ?_
  refine mis S hG 20 rfl rfl (kr_6_3 hk_r0) hf.1 d_6_washSide_62 (fun σ_1 eσ_1 H locs hG => ?_)
  have hf := hf.2 σ_1 eσ_1
  refine lv_iload_n hx hb d_6_washSide_63 rfl (lv_at hl 4 rfl) ?_
  refine lv_iload hx hb d_6_washSide_64 (lv_at hl 5 rfl) ?_
  refine lv_aload_n hx hb d_6_washSide_66 rfl (lv_at hl 1 rfl) ?_
  refine gf_6_19 S hG hk_r0 d_6_washSide_67 ?_
  refine lv_iconst (v := (1 : Int32)) hx hb d_6_washSide_70 (by decide) ?_
  refine lv_isub hx hb d_6_washSide_71 ?_
  refine lv_icmp_ne (tgt := 80) hx hb d_6_washSide_72 (by decide) (fun hc => ?_) (fun hc => ?_)
  · have hf := hf.1 hc
    refine lv_aload_n hx hb d_6_washSide_80 rfl (lv_at hl 1 rfl) ?_
    refine lv_iload hx hb d_6_washSide_81 (lv_at hl 6 rfl) ?_
    refine lv_iconst (v := (1 : Int32)) hx hb d_6_washSide_83 (by decide) ?_
    refine lv_iadd hx hb d_6_washSide_84 ?_
    refine lv_iload hx hb d_6_washSide_85 (lv_at hl 0 rfl) ?_
    refine iv_6_45 S hl.1 hG hk_r0 (c_6_putDirt l hk_r0 hf) ⟨Nat.le_of_ble_eq_true rfl, Nat.le_of_ble_eq_true rfl⟩ (Nat.le_of_ble_eq_true rfl) d_6_washSide_87 (fun v_3 σ_2 hf H locs hG => ?_)
    refine lv_iadd hx hb d_6_washSide_90 ?_
    refine lv_topi (fun x3_4 ex3_4 => ?_)
    have hf := hf x3_4 ex3_4
    refine lv_istore_n (lv' := [(3, .int x3_4), (6, .int t0), (0, .ref (ad r0)), (1, .int x1), (2, .int x2), (4, .int x4), (5, .int x5)]) hx hb d_6_washSide_91 rfl hl (by decide) rfl (fun ls hl => ?_)
    obtain ⟨x4_5, ex4_5⟩ : ∃ y : Int32, y = x4 + (-1) := ⟨_, rfl⟩
    have hf := hf x4_5 ex4_5
    refine lv_iinc (v := x4_5) (lv' := [(4, .int x4_5), (3, .int x3_4), (6, .int t0), (0, .ref (ad r0)), (1, .int x1), (2, .int x2), (5, .int x5)]) hx hb d_6_washSide_92 hl (k := 5) rfl (by rw [ex4_5]; rfl) (by decide) rfl (fun ls hl => ?_)
    refine lv_goto (tgt := 10) hx hb d_6_washSide_95 (by decide) ?_
    exact hB10 _ _ _ _ _ _   hG (lv_sub hl [3, 4, 5, 1, 0] rfl) hf
  · have hf := hf.2 hc
    refine lv_iload hx hb d_6_washSide_75 (lv_at hl 0 rfl) ?_
    refine lv_goto (tgt := 90) hx hb d_6_washSide_77 (by decide) ?_
    refine lv_iadd hx hb d_6_washSide_90 ?_
    refine lv_topi (fun x3_6 ex3_6 => ?_)
    have hf := hf x3_6 ex3_6
    refine lv_istore_n (lv' := [(3, .int x3_6), (6, .int t0), (0, .ref (ad r0)), (1, .int x1), (2, .int x2), (4, .int x4), (5, .int x5)]) hx hb d_6_washSide_91 rfl hl (by decide) rfl (fun ls hl => ?_)
    obtain ⟨x4_7, ex4_7⟩ : ∃ y : Int32, y = x4 + (-1) := ⟨_, rfl⟩
    have hf := hf x4_7 ex4_7
    refine lv_iinc (v := x4_7) (lv' := [(4, .int x4_7), (3, .int x3_6), (6, .int t0), (0, .ref (ad r0)), (1, .int x1), (2, .int x2), (5, .int x5)]) hx hb d_6_washSide_92 hl (k := 5) rfl (by rw [ex4_7]; rfl) (by decide) rfl (fun ls hl => ?_)
    refine lv_goto (tgt := 10) hx hb d_6_washSide_95 (by decide) ?_
    exact hB10 _ _ _ _ _ _   hG (lv_sub hl [3, 4, 5, 1, 0] rfl) hf
set_option maxHeartbeats 4000000 in
set_option maxRecDepth 100000 in
theorem w_6_washSide_10 {r0 : Nat} {x1 : Int32} {x2 : Int32} {Q : Int32 → St → Prop} {B10 : Int32 → Int32 → St → Prop} {x3 : Int32} {x4 : Int32} {σ : St} {H : Heap} {locs : List Loc} {ls : Array Slot} (S : SC A D ac st p m c prog_8_method_10_code 7 s args "SweeperRounds$Street" R cells slots 2 38) (hR : RtI A D ac ad p l e R s m args below meth c prog_8_method_10_code cells slots QW Q) (hk_r0 : kd r0 = 6) (hB10 : ∀ (x3 : Int32) (x4 : Int32) (σ : St) (H : Heap) (locs : List Loc) (ls : Array Slot), DG A D ac ad s σ H locs → lv_has ls 7 [(0, .ref (ad r0)), (1, .int x1), (2, .int x2), (3, .int x3), (4, .int x4)] → B10 x3 x4 σ → W p l e R s m args below meth c H locs cells slots QW (F0 m 10 ls [])) (hG : DG A D ac ad s σ H locs) (hl : lv_has ls 7 [(0, .ref (ad r0)), (1, .int x1), (2, .int x2), (3, .int x3), (4, .int x4)]) (hf : m_6_washSide_10 r0 x1 x2 Q B10 x3 x4 σ) : W p l e R s m args below meth c H locs cells slots QW (F0 m 10 ls []) := by
  have hx := S.1.1
  have hb := S.1.2.1
  unfold m_6_washSide_10 at hf
  refine lv_iload hx hb d_6_washSide_10 (lv_at hl 4 rfl) ?_
  refine lv_if_lt (tgt := 98) hx hb d_6_washSide_12 (by decide) (fun hc => ?_) (fun hc => ?_)
  · have hf := hf.1 hc
    refine lv_iload_n hx hb d_6_washSide_98 rfl (lv_at hl 3 rfl) ?_
    exact hR _ _ _ _ _ _ hG hf d_6_washSide_99
  · have hf := hf.2 hc
    refine lv_iload_n hx hb d_6_washSide_15 rfl (lv_at hl 1 rfl) ?_
    refine lv_iload hx hb d_6_washSide_16 (lv_at hl 4 rfl) ?_
    refine iv_6_29 S hl.1 hG  (c_9_placeOf l  hf) ⟨Nat.le_of_ble_eq_true rfl, Nat.le_of_ble_eq_true rfl⟩ (Nat.le_of_ble_eq_true rfl) d_6_washSide_18 (fun v_2 σ_1 hf H locs hG => ?_)
    refine lv_istore (lv' := [(5, .int v_2), (0, .ref (ad r0)), (1, .int x1), (2, .int x2), (3, .int x3), (4, .int x4)]) hx hb d_6_washSide_21 hl (by decide) rfl (fun ls hl => ?_)
    refine lv_aload_n hx hb d_6_washSide_23 rfl (lv_at hl 1 rfl) ?_
    refine gf_6_15 S hG hk_r0 d_6_washSide_24 ?_
    refine lv_iload hx hb d_6_washSide_27 (lv_at hl 0 rfl) ?_
    refine mza S hG (kr_6_4 hk_r0) hf.1 d_6_washSide_29 ?_
    have hf := hf.2
    refine lv_if_eq (tgt := 37) hx hb d_6_washSide_30 (by decide) (fun hc => ?_) (fun hc => ?_)
    · have hf := hf.1 hc
      refine lv_aload_n hx hb d_6_washSide_37 rfl (lv_at hl 1 rfl) ?_
      refine gf_6_9 S hG hk_r0 d_6_washSide_38 ?_
      refine lv_iload hx hb d_6_washSide_41 (lv_at hl 0 rfl) ?_
      refine mia S hG 20 rfl rfl (kr_6_3 hk_r0) hf.1 d_6_washSide_43 ?_
      have hf := hf.2
      refine lv_iload_n hx hb d_6_washSide_44 rfl (lv_at hl 3 rfl) ?_
      refine lv_imul hx hb d_6_washSide_45 ?_
      refine lv_bipush (v := (100 : Int32)) hx hb d_6_washSide_46 (by decide) ?_
      refine lv_idiv hx hb d_6_washSide_48 (by decide) ?_
      exact w_6_washSide_49 S hR hk_r0   hB10 hG (lv_sub hl [1, 2, 3, 4, 5, 0] rfl) hf
    · have hf := hf.2 hc
      refine lv_iconst (v := (0 : Int32)) hx hb d_6_washSide_33 (by decide) ?_
      refine lv_goto (tgt := 49) hx hb d_6_washSide_34 (by decide) ?_
      exact w_6_washSide_49 S hR hk_r0   hB10 hG (lv_sub hl [1, 2, 3, 4, 5, 0] rfl) hf
set_option maxHeartbeats 4000000 in
set_option maxRecDepth 100000 in
theorem lp_6_washSide_10 {r0 : Nat} {x1 : Int32} {x2 : Int32} {Q : Int32 → St → Prop} (S : SC A D ac st p m c prog_8_method_10_code 7 s args "SweeperRounds$Street" R cells slots 2 38) (hR : RtI A D ac ad p l e R s m args below meth c prog_8_method_10_code cells slots QW Q) (hk_r0 : kd r0 = 6) : ∀ (n : Nat) (x3 : Int32) (x4 : Int32) (σ : St) (H : Heap) (locs : List Loc) (ls : Array Slot), DG A D ac ad s σ H locs → lv_has ls 7 [(0, .ref (ad r0)), (1, .int x1), (2, .int x2), (3, .int x3), (4, .int x4)] → itN (m_6_washSide_10 r0 x1 x2 Q) (fun _ _ _ => False) n x3 x4 σ → W p l e R s m args below meth c H locs cells slots QW (F0 m 10 ls []) := by
  intro n
  induction n with
  | zero =>
    intro x3 x4 σ H locs ls  hG hl hf
    exact hf.elim
  | succ n ih =>
    intro x3 x4 σ H locs ls  hG hl hf
    exact w_6_washSide_10 S hR hk_r0  ih hG hl hf
set_option maxHeartbeats 4000000 in
set_option maxRecDepth 100000 in
theorem w_6_washSide_0 {r0 : Nat} {x1 : Int32} {x2 : Int32} {Q : Int32 → St → Prop} {σ : St} {H : Heap} {locs : List Loc} {ls : Array Slot} (S : SC A D ac st p m c prog_8_method_10_code 7 s args "SweeperRounds$Street" R cells slots 2 38) (hR : RtI A D ac ad p l e R s m args below meth c prog_8_method_10_code cells slots QW Q) (hk_r0 : kd r0 = 6) (hG : DG A D ac ad s σ H locs) (hl : lv_has ls 7 [(0, .ref (ad r0)), (1, .int x1), (2, .int x2)]) (hf : m_6_washSide r0 x1 x2 Q σ) : W p l e R s m args below meth c H locs cells slots QW (F0 m 0 ls []) := by
  have hx := S.1.1
  have hb := S.1.2.1
  unfold m_6_washSide at hf
  refine lv_iconst (v := (0 : Int32)) hx hb d_6_washSide_0 (by decide) ?_
  refine lv_istore_n (lv' := [(3, .int (0 : Int32)), (0, .ref (ad r0)), (1, .int x1), (2, .int x2)]) hx hb d_6_washSide_1 rfl hl (by decide) rfl (fun ls hl => ?_)
  refine lv_aload_n hx hb d_6_washSide_2 rfl (lv_at hl 1 rfl) ?_
  refine gf_6_19 S hG hk_r0 d_6_washSide_3 ?_
  refine lv_iconst (v := (1 : Int32)) hx hb d_6_washSide_6 (by decide) ?_
  refine lv_isub hx hb d_6_washSide_7 ?_
  refine lv_topi (fun x4_1 ex4_1 => ?_)
  have hf := hf x4_1 ex4_1
  refine lv_istore (lv' := [(4, .int x4_1), (3, .int (0 : Int32)), (0, .ref (ad r0)), (1, .int x1), (2, .int x2)]) hx hb d_6_washSide_8 hl (by decide) rfl (fun ls hl => ?_)
  exact lp_6_washSide_10 S hR hk_r0  FU _ _ _ _ _ _  hG (lv_sub hl [2, 3, 4, 1, 0] rfl) hf
theorem c_6_washSide (l : Launch) {D : va_G} {ac : Nat → ClassId} {ad : Nat → Nat} {st : SS} {A : Nat → Prop} {σ : St} {r0 : Nat} {x1 : Int32} {x2 : Int32} {Q : Int32 → St → Prop} (hk_r0 : kd r0 = 6) (hf : m_6_washSide r0 x1 x2 Q σ) : Met l y_6_washSide (Cond.code y_6_washSide prog_8_method_10_code 7 (some .int) :: wA) { frames := 2, cells := 0, slots := 0, locals := 38 } (va_Pc [.ref (ad r0), .int x1, .int x2] (GSt A D ac ad st σ)) (va_Qi Q (GSt A D ac ad st) A) 0 0 A :=
  mkI l (by decide +kernel) rfl [.ref (ad r0), .int x1, .int x2] (Nat.le_of_ble_eq_true rfl) (fun p e s m args below meth c ls QW S hR hG hl => w_6_washSide_0 S hR hk_r0 hG hl hf)
set_option maxHeartbeats 4000000 in
set_option maxRecDepth 100000 in
theorem w_8_washStreets_4 {r0 : Nat} {x1 : Int32} {Q : Int32 → St → Prop} {B4 : Int32 → Int32 → St → Prop} {x2 : Int32} {x3 : Int32} {σ : St} {H : Heap} {locs : List Loc} {ls : Array Slot} (S : SC A D ac st p m c prog_10_method_21_code 4 s args "SweeperRounds$World" R cells slots 3 64) (hR : RtI A D ac ad p l e R s m args below meth c prog_10_method_21_code cells slots QW Q) (hk_r0 : kd r0 = 8) (hB4 : ∀ (x2 : Int32) (x3 : Int32) (σ : St) (H : Heap) (locs : List Loc) (ls : Array Slot), DG A D ac ad s σ H locs → lv_has ls 4 [(0, .ref (ad r0)), (1, .int x1), (2, .int x2), (3, .int x3)] → B4 x2 x3 σ → W p l e R s m args below meth c H locs cells slots QW (F0 m 4 ls [])) (hG : DG A D ac ad s σ H locs) (hl : lv_has ls 4 [(0, .ref (ad r0)), (1, .int x1), (2, .int x2), (3, .int x3)]) (hf : m_8_washStreets_4 r0 x1 Q B4 x2 x3 σ) : W p l e R s m args below meth c H locs cells slots QW (F0 m 4 ls []) := by
  have hx := S.1.1
  have hb := S.1.2.1
  unfold m_8_washStreets_4 at hf
  refine lv_iload_n hx hb d_8_washStreets_4 rfl (lv_at hl 3 rfl) ?_
  refine lv_aload_n hx hb d_8_washStreets_5 rfl (lv_at hl 0 rfl) ?_
  refine gf_8_52 S hG hk_r0 d_8_washStreets_6 ?_
  refine lv_icmp_ge (tgt := 44) hx hb d_8_washStreets_9 (by decide) (fun hc => ?_) (fun hc => ?_)
  · have hf := hf.1 hc
    refine lv_aload_n hx hb d_8_washStreets_44 rfl (lv_at hl 0 rfl) ?_
    refine gf_8_27 S hG hk_r0 d_8_washStreets_45 ?_
    refine lv_iconst (v := (4 : Int32)) hx hb d_8_washStreets_48 (by decide) ?_
    refine lv_dup2_11 hx hb d_8_washStreets_49 rfl rfl ?_
    refine mia S hG 27 rfl rfl (kr_8_8 hk_r0) hf.1 d_8_washStreets_50 ?_
    have hf := hf.2
    refine lv_iload_n hx hb d_8_washStreets_51 rfl (lv_at hl 2 rfl) ?_
    refine lv_iadd hx hb d_8_washStreets_52 ?_
    refine mis S hG 27 rfl rfl (kr_8_8 hk_r0) hf.1 d_8_washStreets_53 (fun σ_1 eσ_1 H locs hG => ?_)
    have hf := hf.2 σ_1 eσ_1
    refine lv_iload_n hx hb d_8_washStreets_54 rfl (lv_at hl 2 rfl) ?_
    exact hR _ _ _ _ _ _ hG hf d_8_washStreets_55
  · have hf := hf.2 hc
    refine lv_iload_n hx hb d_8_washStreets_12 rfl (lv_at hl 2 rfl) ?_
    refine lv_aload_n hx hb d_8_washStreets_13 rfl (lv_at hl 0 rfl) ?_
    refine gf_8_11 S hG hk_r0 d_8_washStreets_14 ?_
    refine lv_iload_n hx hb d_8_washStreets_17 rfl (lv_at hl 3 rfl) ?_
    refine mq3 S hG (kr_8_0 hk_r0) hf.1 d_8_washStreets_18 ?_
    have hi_2 := vin_lt hf.1
    have hf := hf.2
    refine lv_iconst (v := (0 : Int32)) hx hb d_8_washStreets_19 (by decide) ?_
    refine lv_iload_n hx hb d_8_washStreets_20 rfl (lv_at hl 1 rfl) ?_
    refine iv_8_133 S hl.1 hG (ke_23 (kr_8_0 hk_r0) hi_2) (c_6_washSide l (ke_23 (kr_8_0 hk_r0) hi_2) hf) ⟨Nat.le_of_ble_eq_true rfl, Nat.le_of_ble_eq_true rfl⟩ (Nat.le_of_ble_eq_true rfl) d_8_washStreets_21 (fun v_4 σ_3 hf H locs hG => ?_)
    refine lv_aload_n hx hb d_8_washStreets_24 rfl (lv_at hl 0 rfl) ?_
    refine gf_8_11 S hG hk_r0 d_8_washStreets_25 ?_
    refine lv_iload_n hx hb d_8_washStreets_28 rfl (lv_at hl 3 rfl) ?_
    refine mq3 S hG (kr_8_0 hk_r0) hf.1 d_8_washStreets_29 ?_
    have hi_5 := vin_lt hf.1
    have hf := hf.2
    refine lv_iconst (v := (1 : Int32)) hx hb d_8_washStreets_30 (by decide) ?_
    refine lv_iload_n hx hb d_8_washStreets_31 rfl (lv_at hl 1 rfl) ?_
    refine iv_8_133 S hl.1 hG (ke_23 (kr_8_0 hk_r0) hi_5) (c_6_washSide l (ke_23 (kr_8_0 hk_r0) hi_5) hf) ⟨Nat.le_of_ble_eq_true rfl, Nat.le_of_ble_eq_true rfl⟩ (Nat.le_of_ble_eq_true rfl) d_8_washStreets_32 (fun v_7 σ_6 hf H locs hG => ?_)
    refine lv_iadd hx hb d_8_washStreets_35 ?_
    refine lv_iadd hx hb d_8_washStreets_36 ?_
    refine lv_topi (fun x2_8 ex2_8 => ?_)
    have hf := hf x2_8 ex2_8
    refine lv_istore_n (lv' := [(2, .int x2_8), (0, .ref (ad r0)), (1, .int x1), (3, .int x3)]) hx hb d_8_washStreets_37 rfl hl (by decide) rfl (fun ls hl => ?_)
    obtain ⟨x3_9, ex3_9⟩ : ∃ y : Int32, y = x3 + 1 := ⟨_, rfl⟩
    have hf := hf x3_9 ex3_9
    refine lv_iinc (v := x3_9) (lv' := [(3, .int x3_9), (2, .int x2_8), (0, .ref (ad r0)), (1, .int x1)]) hx hb d_8_washStreets_38 hl (k := 3) rfl (by rw [ex3_9]; rfl) (by decide) rfl (fun ls hl => ?_)
    refine lv_goto (tgt := 4) hx hb d_8_washStreets_41 (by decide) ?_
    exact hB4 _ _ _ _ _ _   hG (lv_sub hl [2, 3, 1, 0] rfl) hf
set_option maxHeartbeats 4000000 in
set_option maxRecDepth 100000 in
theorem lp_8_washStreets_4 {r0 : Nat} {x1 : Int32} {Q : Int32 → St → Prop} (S : SC A D ac st p m c prog_10_method_21_code 4 s args "SweeperRounds$World" R cells slots 3 64) (hR : RtI A D ac ad p l e R s m args below meth c prog_10_method_21_code cells slots QW Q) (hk_r0 : kd r0 = 8) : ∀ (n : Nat) (x2 : Int32) (x3 : Int32) (σ : St) (H : Heap) (locs : List Loc) (ls : Array Slot), DG A D ac ad s σ H locs → lv_has ls 4 [(0, .ref (ad r0)), (1, .int x1), (2, .int x2), (3, .int x3)] → itN (m_8_washStreets_4 r0 x1 Q) (fun _ _ _ => False) n x2 x3 σ → W p l e R s m args below meth c H locs cells slots QW (F0 m 4 ls []) := by
  intro n
  induction n with
  | zero =>
    intro x2 x3 σ H locs ls  hG hl hf
    exact hf.elim
  | succ n ih =>
    intro x2 x3 σ H locs ls  hG hl hf
    exact w_8_washStreets_4 S hR hk_r0  ih hG hl hf
set_option maxHeartbeats 4000000 in
set_option maxRecDepth 100000 in
theorem w_8_washStreets_0 {r0 : Nat} {x1 : Int32} {Q : Int32 → St → Prop} {σ : St} {H : Heap} {locs : List Loc} {ls : Array Slot} (S : SC A D ac st p m c prog_10_method_21_code 4 s args "SweeperRounds$World" R cells slots 3 64) (hR : RtI A D ac ad p l e R s m args below meth c prog_10_method_21_code cells slots QW Q) (hk_r0 : kd r0 = 8) (hG : DG A D ac ad s σ H locs) (hl : lv_has ls 4 [(0, .ref (ad r0)), (1, .int x1)]) (hf : m_8_washStreets r0 x1 Q σ) : W p l e R s m args below meth c H locs cells slots QW (F0 m 0 ls []) := by
  have hx := S.1.1
  have hb := S.1.2.1
  unfold m_8_washStreets at hf
  refine lv_iconst (v := (0 : Int32)) hx hb d_8_washStreets_0 (by decide) ?_
  refine lv_istore_n (lv' := [(2, .int (0 : Int32)), (0, .ref (ad r0)), (1, .int x1)]) hx hb d_8_washStreets_1 rfl hl (by decide) rfl (fun ls hl => ?_)
  refine lv_iconst (v := (0 : Int32)) hx hb d_8_washStreets_2 (by decide) ?_
  refine lv_istore_n (lv' := [(3, .int (0 : Int32)), (2, .int (0 : Int32)), (0, .ref (ad r0)), (1, .int x1)]) hx hb d_8_washStreets_3 rfl hl (by decide) rfl (fun ls hl => ?_)
  exact lp_8_washStreets_4 S hR hk_r0  FU _ _ _ _ _ _  hG (lv_sub hl [2, 3, 1, 0] rfl) hf
theorem c_8_washStreets (l : Launch) {D : va_G} {ac : Nat → ClassId} {ad : Nat → Nat} {st : SS} {A : Nat → Prop} {σ : St} {r0 : Nat} {x1 : Int32} {Q : Int32 → St → Prop} (hk_r0 : kd r0 = 8) (hf : m_8_washStreets r0 x1 Q σ) : Met l y_8_washStreets (Cond.code y_8_washStreets prog_10_method_21_code 4 (some .int) :: wA) { frames := 3, cells := 0, slots := 0, locals := 64 } (va_Pc [.ref (ad r0), .int x1] (GSt A D ac ad st σ)) (va_Qi Q (GSt A D ac ad st) A) 0 0 A :=
  mkI l (by decide +kernel) rfl [.ref (ad r0), .int x1] (Nat.le_of_ble_eq_true rfl) (fun p e s m args below meth c ls QW S hR hG hl => w_8_washStreets_0 S hR hk_r0 hG hl hf)
end MB
end
section
theorem d_9_rain_0 : decode prog_1_method_18_code 0 = .ok (.iload_n 1, 1) := by decide +kernel
theorem d_9_rain_1 : decode prog_1_method_18_code 1 = .ok (.iconst 1, 1) := by decide +kernel
theorem d_9_rain_2 : decode prog_1_method_18_code 2 = .ok (.if_icmp .lt 9, 3) := by decide +kernel
theorem d_9_rain_5 : decode prog_1_method_18_code 5 = .ok (.iload_n 1, 1) := by decide +kernel
theorem d_9_rain_6 : decode prog_1_method_18_code 6 = .ok (.bipush 100, 2) := by decide +kernel
theorem d_9_rain_8 : decode prog_1_method_18_code 8 = .ok (.if_icmp .le 5, 3) := by decide +kernel
theorem d_9_rain_11 : decode prog_1_method_18_code 11 = .ok (.iconst (-1), 1) := by decide +kernel
theorem d_9_rain_12 : decode prog_1_method_18_code 12 = .ok (.ireturn, 1) := by decide +kernel
theorem d_9_rain_13 : decode prog_1_method_18_code 13 = .ok (.aload_n 0, 1) := by decide +kernel
theorem d_9_rain_14 : decode prog_1_method_18_code 14 = .ok (.getfield 42, 3) := by decide +kernel
theorem d_9_rain_17 : decode prog_1_method_18_code 17 = .ok (.aload_n 0, 1) := by decide +kernel
theorem d_9_rain_18 : decode prog_1_method_18_code 18 = .ok (.getfield 26, 3) := by decide +kernel
theorem d_9_rain_21 : decode prog_1_method_18_code 21 = .ok (.invokevirtual 80, 3) := by decide +kernel
theorem d_9_rain_24 : decode prog_1_method_18_code 24 = .ok (.aload_n 0, 1) := by decide +kernel
theorem d_9_rain_25 : decode prog_1_method_18_code 25 = .ok (.getfield 26, 3) := by decide +kernel
theorem d_9_rain_28 : decode prog_1_method_18_code 28 = .ok (.iload_n 1, 1) := by decide +kernel
theorem d_9_rain_29 : decode prog_1_method_18_code 29 = .ok (.invokevirtual 224, 3) := by decide +kernel
theorem d_9_rain_32 : decode prog_1_method_18_code 32 = .ok (.ireturn, 1) := by decide +kernel
def m_9_rain (r0 : Nat) (x1 : Int32) (Q : Int32 → St → Prop) (σ : St) : Prop :=
  ((x1 < (1 : Int32) → Q (-1 : Int32) σ) ∧ (¬ x1 < (1 : Int32) → ((x1 ≤ (100 : Int32) → m_0_remember (r0 + 42) (r0 + 7) (fun (σ_1 : St) => m_8_washStreets (r0 + 7) x1 (fun (v_4 : Int32) (σ_3 : St) => Q v_4 σ_3) σ_1) σ) ∧ (¬ x1 ≤ (100 : Int32) → Q (-1 : Int32) σ))))
theorem d_9_latest_0 : decode prog_1_method_19_code 0 = .ok (.iload_n 1, 1) := by decide +kernel
theorem d_9_latest_1 : decode prog_1_method_19_code 1 = .ok (.ifCond .lt 8, 3) := by decide +kernel
theorem d_9_latest_4 : decode prog_1_method_19_code 4 = .ok (.iload_n 1, 1) := by decide +kernel
theorem d_9_latest_5 : decode prog_1_method_19_code 5 = .ok (.iconst 5, 1) := by decide +kernel
theorem d_9_latest_6 : decode prog_1_method_19_code 6 = .ok (.if_icmp .le 5, 3) := by decide +kernel
theorem d_9_latest_9 : decode prog_1_method_19_code 9 = .ok (.iconst (-1), 1) := by decide +kernel
theorem d_9_latest_10 : decode prog_1_method_19_code 10 = .ok (.ireturn, 1) := by decide +kernel
theorem d_9_latest_11 : decode prog_1_method_19_code 11 = .ok (.aload_n 0, 1) := by decide +kernel
theorem d_9_latest_12 : decode prog_1_method_19_code 12 = .ok (.getfield 26, 3) := by decide +kernel
theorem d_9_latest_15 : decode prog_1_method_19_code 15 = .ok (.getfield 227, 3) := by decide +kernel
theorem d_9_latest_18 : decode prog_1_method_19_code 18 = .ok (.ifCond .ne 6, 3) := by decide +kernel
theorem d_9_latest_21 : decode prog_1_method_19_code 21 = .ok (.bipush (-9), 2) := by decide +kernel
theorem d_9_latest_23 : decode prog_1_method_19_code 23 = .ok (.ireturn, 1) := by decide +kernel
theorem d_9_latest_24 : decode prog_1_method_19_code 24 = .ok (.iload_n 1, 1) := by decide +kernel
theorem d_9_latest_25 : decode prog_1_method_19_code 25 = .ok (.tableswitch 90 0 4 #[35, 46, 57, 68, 79], 35) := by decide +kernel
theorem d_9_latest_60 : decode prog_1_method_19_code 60 = .ok (.aload_n 0, 1) := by decide +kernel
theorem d_9_latest_61 : decode prog_1_method_19_code 61 = .ok (.getfield 26, 3) := by decide +kernel
theorem d_9_latest_64 : decode prog_1_method_19_code 64 = .ok (.getfield 211, 3) := by decide +kernel
theorem d_9_latest_67 : decode prog_1_method_19_code 67 = .ok (.getfield 230, 3) := by decide +kernel
theorem d_9_latest_70 : decode prog_1_method_19_code 70 = .ok (.ireturn, 1) := by decide +kernel
theorem d_9_latest_71 : decode prog_1_method_19_code 71 = .ok (.aload_n 0, 1) := by decide +kernel
theorem d_9_latest_72 : decode prog_1_method_19_code 72 = .ok (.getfield 26, 3) := by decide +kernel
theorem d_9_latest_75 : decode prog_1_method_19_code 75 = .ok (.getfield 211, 3) := by decide +kernel
theorem d_9_latest_78 : decode prog_1_method_19_code 78 = .ok (.getfield 233, 3) := by decide +kernel
theorem d_9_latest_81 : decode prog_1_method_19_code 81 = .ok (.ireturn, 1) := by decide +kernel
theorem d_9_latest_82 : decode prog_1_method_19_code 82 = .ok (.aload_n 0, 1) := by decide +kernel
theorem d_9_latest_83 : decode prog_1_method_19_code 83 = .ok (.getfield 26, 3) := by decide +kernel
theorem d_9_latest_86 : decode prog_1_method_19_code 86 = .ok (.getfield 211, 3) := by decide +kernel
theorem d_9_latest_89 : decode prog_1_method_19_code 89 = .ok (.getfield 236, 3) := by decide +kernel
theorem d_9_latest_92 : decode prog_1_method_19_code 92 = .ok (.ireturn, 1) := by decide +kernel
theorem d_9_latest_93 : decode prog_1_method_19_code 93 = .ok (.aload_n 0, 1) := by decide +kernel
theorem d_9_latest_94 : decode prog_1_method_19_code 94 = .ok (.getfield 26, 3) := by decide +kernel
theorem d_9_latest_97 : decode prog_1_method_19_code 97 = .ok (.getfield 211, 3) := by decide +kernel
theorem d_9_latest_100 : decode prog_1_method_19_code 100 = .ok (.getfield 215, 3) := by decide +kernel
theorem d_9_latest_103 : decode prog_1_method_19_code 103 = .ok (.ireturn, 1) := by decide +kernel
theorem d_9_latest_104 : decode prog_1_method_19_code 104 = .ok (.aload_n 0, 1) := by decide +kernel
theorem d_9_latest_105 : decode prog_1_method_19_code 105 = .ok (.getfield 26, 3) := by decide +kernel
theorem d_9_latest_108 : decode prog_1_method_19_code 108 = .ok (.getfield 211, 3) := by decide +kernel
theorem d_9_latest_111 : decode prog_1_method_19_code 111 = .ok (.getfield 239, 3) := by decide +kernel
theorem d_9_latest_114 : decode prog_1_method_19_code 114 = .ok (.ireturn, 1) := by decide +kernel
theorem d_9_latest_115 : decode prog_1_method_19_code 115 = .ok (.aload_n 0, 1) := by decide +kernel
theorem d_9_latest_116 : decode prog_1_method_19_code 116 = .ok (.getfield 26, 3) := by decide +kernel
theorem d_9_latest_119 : decode prog_1_method_19_code 119 = .ok (.getfield 211, 3) := by decide +kernel
theorem d_9_latest_122 : decode prog_1_method_19_code 122 = .ok (.getfield 242, 3) := by decide +kernel
theorem d_9_latest_125 : decode prog_1_method_19_code 125 = .ok (.ireturn, 1) := by decide +kernel
def m_9_latest (r0 : Nat) (x1 : Int32) (Q : Int32 → St → Prop) (σ : St) : Prop :=
  ((x1 < 0 → Q (-1 : Int32) σ) ∧ (¬ x1 < 0 → ((x1 ≤ (5 : Int32) → ((¬ (σ.1 (r0 + 7) 10) = 0 → (((x1.toInt < 0 ∨ 4 < x1.toInt) → Q (σ.1 ((r0 + 7) + 5) 5) σ) ∧ (x1 = 0 → Q (σ.1 ((r0 + 7) + 5) 0) σ) ∧ (x1 = 1 → Q (σ.1 ((r0 + 7) + 5) 1) σ) ∧ (x1 = 2 → Q (σ.1 ((r0 + 7) + 5) 2) σ) ∧ (x1 = 3 → Q (σ.1 ((r0 + 7) + 5) 3) σ) ∧ (x1 = 4 → Q (σ.1 ((r0 + 7) + 5) 4) σ))) ∧ ((σ.1 (r0 + 7) 10) = 0 → Q (-9 : Int32) σ))) ∧ (¬ x1 ≤ (5 : Int32) → Q (-1 : Int32) σ))))
theorem d_9_trySpeed_0 : decode prog_1_method_30_code 0 = .ok (.aload_n 0, 1) := by decide +kernel
theorem d_9_trySpeed_1 : decode prog_1_method_30_code 1 = .ok (.getfield 46, 3) := by decide +kernel
theorem d_9_trySpeed_4 : decode prog_1_method_30_code 4 = .ok (.aload_n 0, 1) := by decide +kernel
theorem d_9_trySpeed_5 : decode prog_1_method_30_code 5 = .ok (.getfield 26, 3) := by decide +kernel
theorem d_9_trySpeed_8 : decode prog_1_method_30_code 8 = .ok (.invokevirtual 317, 3) := by decide +kernel
theorem d_9_trySpeed_11 : decode prog_1_method_30_code 11 = .ok (.aload_n 0, 1) := by decide +kernel
theorem d_9_trySpeed_12 : decode prog_1_method_30_code 12 = .ok (.getfield 46, 3) := by decide +kernel
theorem d_9_trySpeed_15 : decode prog_1_method_30_code 15 = .ok (.getfield 174, 3) := by decide +kernel
theorem d_9_trySpeed_18 : decode prog_1_method_30_code 18 = .ok (.iconst 0, 1) := by decide +kernel
theorem d_9_trySpeed_19 : decode prog_1_method_30_code 19 = .ok (.iload_n 1, 1) := by decide +kernel
theorem d_9_trySpeed_20 : decode prog_1_method_30_code 20 = .ok (.iastore, 1) := by decide +kernel
theorem d_9_trySpeed_21 : decode prog_1_method_30_code 21 = .ok (.aload_n 0, 1) := by decide +kernel
theorem d_9_trySpeed_22 : decode prog_1_method_30_code 22 = .ok (.getfield 49, 3) := by decide +kernel
theorem d_9_trySpeed_25 : decode prog_1_method_30_code 25 = .ok (.invokevirtual 208, 3) := by decide +kernel
theorem d_9_trySpeed_28 : decode prog_1_method_30_code 28 = .ok (.return_, 1) := by decide +kernel
def m_9_trySpeed (r0 : Nat) (x1 : Int32) (Q : St → Prop) (σ : St) : Prop :=
  m_8_copyFrom (r0 + 316) (r0 + 7) (fun (σ_1 : St) => vp_in (0 : Int32) 6 ∧ ∀ σ_3 : St, σ_3 = wr σ_1 ((r0 + 316) + 3) ((0 : Int32)).toNatClampNeg x1 → m_5_carryOut (r0 + 350) (fun (σ_4 : St) => Q σ_4) σ_3) σ
theorem d_9_ifSpeed_0 : decode prog_1_method_20_code 0 = .ok (.iload_n 1, 1) := by decide +kernel
theorem d_9_ifSpeed_1 : decode prog_1_method_20_code 1 = .ok (.iconst 1, 1) := by decide +kernel
theorem d_9_ifSpeed_2 : decode prog_1_method_20_code 2 = .ok (.if_icmp .lt 8, 3) := by decide +kernel
theorem d_9_ifSpeed_5 : decode prog_1_method_20_code 5 = .ok (.iload_n 1, 1) := by decide +kernel
theorem d_9_ifSpeed_6 : decode prog_1_method_20_code 6 = .ok (.iconst 4, 1) := by decide +kernel
theorem d_9_ifSpeed_7 : decode prog_1_method_20_code 7 = .ok (.if_icmp .le 5, 3) := by decide +kernel
theorem d_9_ifSpeed_10 : decode prog_1_method_20_code 10 = .ok (.iconst (-1), 1) := by decide +kernel
theorem d_9_ifSpeed_11 : decode prog_1_method_20_code 11 = .ok (.ireturn, 1) := by decide +kernel
theorem d_9_ifSpeed_12 : decode prog_1_method_20_code 12 = .ok (.aload_n 0, 1) := by decide +kernel
theorem d_9_ifSpeed_13 : decode prog_1_method_20_code 13 = .ok (.iload_n 1, 1) := by decide +kernel
theorem d_9_ifSpeed_14 : decode prog_1_method_20_code 14 = .ok (.invokevirtual 245, 3) := by decide +kernel
theorem d_9_ifSpeed_17 : decode prog_1_method_20_code 17 = .ok (.aload_n 0, 1) := by decide +kernel
theorem d_9_ifSpeed_18 : decode prog_1_method_20_code 18 = .ok (.getfield 46, 3) := by decide +kernel
theorem d_9_ifSpeed_21 : decode prog_1_method_20_code 21 = .ok (.getfield 211, 3) := by decide +kernel
theorem d_9_ifSpeed_24 : decode prog_1_method_20_code 24 = .ok (.getfield 215, 3) := by decide +kernel
theorem d_9_ifSpeed_27 : decode prog_1_method_20_code 27 = .ok (.ireturn, 1) := by decide +kernel
def m_9_ifSpeed (r0 : Nat) (x1 : Int32) (Q : Int32 → St → Prop) (σ : St) : Prop :=
  ((x1 < (1 : Int32) → Q (-1 : Int32) σ) ∧ (¬ x1 < (1 : Int32) → ((x1 ≤ (4 : Int32) → m_9_trySpeed r0 x1 (fun (σ_1 : St) => Q (σ_1.1 ((r0 + 316) + 5) 3) σ_1) σ) ∧ (¬ x1 ≤ (4 : Int32) → Q (-1 : Int32) σ))))
theorem d_9_account_0 : decode prog_1_method_24_code 0 = .ok (.iload_n 1, 1) := by decide +kernel
theorem d_9_account_1 : decode prog_1_method_24_code 1 = .ok (.ifCond .lt 9, 3) := by decide +kernel
theorem d_9_account_4 : decode prog_1_method_24_code 4 = .ok (.iload_n 1, 1) := by decide +kernel
theorem d_9_account_5 : decode prog_1_method_24_code 5 = .ok (.bipush 6, 2) := by decide +kernel
theorem d_9_account_7 : decode prog_1_method_24_code 7 = .ok (.if_icmp .le 5, 3) := by decide +kernel
theorem d_9_account_10 : decode prog_1_method_24_code 10 = .ok (.iconst (-1), 1) := by decide +kernel
theorem d_9_account_11 : decode prog_1_method_24_code 11 = .ok (.ireturn, 1) := by decide +kernel
theorem d_9_account_12 : decode prog_1_method_24_code 12 = .ok (.iload_n 1, 1) := by decide +kernel
theorem d_9_account_13 : decode prog_1_method_24_code 13 = .ok (.bipush 6, 2) := by decide +kernel
theorem d_9_account_15 : decode prog_1_method_24_code 15 = .ok (.if_icmp .ge 15, 3) := by decide +kernel
theorem d_9_account_18 : decode prog_1_method_24_code 18 = .ok (.aload_n 0, 1) := by decide +kernel
theorem d_9_account_19 : decode prog_1_method_24_code 19 = .ok (.getfield 26, 3) := by decide +kernel
theorem d_9_account_22 : decode prog_1_method_24_code 22 = .ok (.getfield 265, 3) := by decide +kernel
theorem d_9_account_25 : decode prog_1_method_24_code 25 = .ok (.iload_n 1, 1) := by decide +kernel
theorem d_9_account_26 : decode prog_1_method_24_code 26 = .ok (.iaload, 1) := by decide +kernel
theorem d_9_account_27 : decode prog_1_method_24_code 27 = .ok (.goto 10, 3) := by decide +kernel
theorem d_9_account_30 : decode prog_1_method_24_code 30 = .ok (.aload_n 0, 1) := by decide +kernel
theorem d_9_account_31 : decode prog_1_method_24_code 31 = .ok (.getfield 26, 3) := by decide +kernel
theorem d_9_account_34 : decode prog_1_method_24_code 34 = .ok (.invokevirtual 221, 3) := by decide +kernel
theorem d_9_account_37 : decode prog_1_method_24_code 37 = .ok (.ireturn, 1) := by decide +kernel
def m_9_account (r0 : Nat) (x1 : Int32) (Q : Int32 → St → Prop) (σ : St) : Prop :=
  ((x1 < 0 → Q (-1 : Int32) σ) ∧ (¬ x1 < 0 → ((x1 ≤ (6 : Int32) → (((6 : Int32) ≤ x1 → m_8_dirtOnStreets (r0 + 7) (fun (v_2 : Int32) (σ_1 : St) => Q v_2 σ_1) σ) ∧ (¬ (6 : Int32) ≤ x1 → vp_in x1 6 ∧ Q (σ.1 ((r0 + 7) + 4) (x1).toNatClampNeg) σ))) ∧ (¬ x1 ≤ (6 : Int32) → Q (-1 : Int32) σ))))
theorem d_9_count_0 : decode prog_1_method_26_code 0 = .ok (.iload_n 1, 1) := by decide +kernel
theorem d_9_count_1 : decode prog_1_method_26_code 1 = .ok (.tableswitch 207 0 14 #[75, 83, 91, 101, 109, 117, 127, 137, 147, 157, 167, 175, 183, 191, 199], 75) := by decide +kernel
theorem d_9_count_76 : decode prog_1_method_26_code 76 = .ok (.aload_n 0, 1) := by decide +kernel
theorem d_9_count_77 : decode prog_1_method_26_code 77 = .ok (.getfield 26, 3) := by decide +kernel
theorem d_9_count_80 : decode prog_1_method_26_code 80 = .ok (.getfield 70, 3) := by decide +kernel
theorem d_9_count_83 : decode prog_1_method_26_code 83 = .ok (.ireturn, 1) := by decide +kernel
theorem d_9_count_84 : decode prog_1_method_26_code 84 = .ok (.aload_n 0, 1) := by decide +kernel
theorem d_9_count_85 : decode prog_1_method_26_code 85 = .ok (.getfield 26, 3) := by decide +kernel
theorem d_9_count_88 : decode prog_1_method_26_code 88 = .ok (.getfield 108, 3) := by decide +kernel
theorem d_9_count_91 : decode prog_1_method_26_code 91 = .ok (.ireturn, 1) := by decide +kernel
theorem d_9_count_92 : decode prog_1_method_26_code 92 = .ok (.aload_n 0, 1) := by decide +kernel
theorem d_9_count_93 : decode prog_1_method_26_code 93 = .ok (.getfield 26, 3) := by decide +kernel
theorem d_9_count_96 : decode prog_1_method_26_code 96 = .ok (.getfield 174, 3) := by decide +kernel
theorem d_9_count_99 : decode prog_1_method_26_code 99 = .ok (.iconst 0, 1) := by decide +kernel
theorem d_9_count_100 : decode prog_1_method_26_code 100 = .ok (.iaload, 1) := by decide +kernel
theorem d_9_count_101 : decode prog_1_method_26_code 101 = .ok (.ireturn, 1) := by decide +kernel
theorem d_9_count_102 : decode prog_1_method_26_code 102 = .ok (.aload_n 0, 1) := by decide +kernel
theorem d_9_count_103 : decode prog_1_method_26_code 103 = .ok (.getfield 26, 3) := by decide +kernel
theorem d_9_count_106 : decode prog_1_method_26_code 106 = .ok (.getfield 274, 3) := by decide +kernel
theorem d_9_count_109 : decode prog_1_method_26_code 109 = .ok (.ireturn, 1) := by decide +kernel
theorem d_9_count_110 : decode prog_1_method_26_code 110 = .ok (.aload_n 0, 1) := by decide +kernel
theorem d_9_count_111 : decode prog_1_method_26_code 111 = .ok (.getfield 26, 3) := by decide +kernel
theorem d_9_count_114 : decode prog_1_method_26_code 114 = .ok (.getfield 277, 3) := by decide +kernel
theorem d_9_count_117 : decode prog_1_method_26_code 117 = .ok (.ireturn, 1) := by decide +kernel
theorem d_9_count_118 : decode prog_1_method_26_code 118 = .ok (.aload_n 0, 1) := by decide +kernel
theorem d_9_count_119 : decode prog_1_method_26_code 119 = .ok (.getfield 26, 3) := by decide +kernel
theorem d_9_count_122 : decode prog_1_method_26_code 122 = .ok (.getfield 174, 3) := by decide +kernel
theorem d_9_count_125 : decode prog_1_method_26_code 125 = .ok (.iconst 1, 1) := by decide +kernel
theorem d_9_count_126 : decode prog_1_method_26_code 126 = .ok (.iaload, 1) := by decide +kernel
theorem d_9_count_127 : decode prog_1_method_26_code 127 = .ok (.ireturn, 1) := by decide +kernel
theorem d_9_count_128 : decode prog_1_method_26_code 128 = .ok (.aload_n 0, 1) := by decide +kernel
theorem d_9_count_129 : decode prog_1_method_26_code 129 = .ok (.getfield 26, 3) := by decide +kernel
theorem d_9_count_132 : decode prog_1_method_26_code 132 = .ok (.getfield 174, 3) := by decide +kernel
theorem d_9_count_135 : decode prog_1_method_26_code 135 = .ok (.iconst 2, 1) := by decide +kernel
theorem d_9_count_136 : decode prog_1_method_26_code 136 = .ok (.iaload, 1) := by decide +kernel
theorem d_9_count_137 : decode prog_1_method_26_code 137 = .ok (.ireturn, 1) := by decide +kernel
theorem d_9_count_138 : decode prog_1_method_26_code 138 = .ok (.aload_n 0, 1) := by decide +kernel
theorem d_9_count_139 : decode prog_1_method_26_code 139 = .ok (.getfield 26, 3) := by decide +kernel
theorem d_9_count_142 : decode prog_1_method_26_code 142 = .ok (.getfield 174, 3) := by decide +kernel
theorem d_9_count_145 : decode prog_1_method_26_code 145 = .ok (.iconst 3, 1) := by decide +kernel
theorem d_9_count_146 : decode prog_1_method_26_code 146 = .ok (.iaload, 1) := by decide +kernel
theorem d_9_count_147 : decode prog_1_method_26_code 147 = .ok (.ireturn, 1) := by decide +kernel
theorem d_9_count_148 : decode prog_1_method_26_code 148 = .ok (.aload_n 0, 1) := by decide +kernel
theorem d_9_count_149 : decode prog_1_method_26_code 149 = .ok (.getfield 26, 3) := by decide +kernel
theorem d_9_count_152 : decode prog_1_method_26_code 152 = .ok (.getfield 174, 3) := by decide +kernel
theorem d_9_count_155 : decode prog_1_method_26_code 155 = .ok (.iconst 4, 1) := by decide +kernel
theorem d_9_count_156 : decode prog_1_method_26_code 156 = .ok (.iaload, 1) := by decide +kernel
theorem d_9_count_157 : decode prog_1_method_26_code 157 = .ok (.ireturn, 1) := by decide +kernel
theorem d_9_count_158 : decode prog_1_method_26_code 158 = .ok (.aload_n 0, 1) := by decide +kernel
theorem d_9_count_159 : decode prog_1_method_26_code 159 = .ok (.getfield 26, 3) := by decide +kernel
theorem d_9_count_162 : decode prog_1_method_26_code 162 = .ok (.getfield 174, 3) := by decide +kernel
theorem d_9_count_165 : decode prog_1_method_26_code 165 = .ok (.iconst 5, 1) := by decide +kernel
theorem d_9_count_166 : decode prog_1_method_26_code 166 = .ok (.iaload, 1) := by decide +kernel
theorem d_9_count_167 : decode prog_1_method_26_code 167 = .ok (.ireturn, 1) := by decide +kernel
theorem d_9_count_168 : decode prog_1_method_26_code 168 = .ok (.aload_n 0, 1) := by decide +kernel
theorem d_9_count_169 : decode prog_1_method_26_code 169 = .ok (.getfield 26, 3) := by decide +kernel
theorem d_9_count_172 : decode prog_1_method_26_code 172 = .ok (.invokevirtual 134, 3) := by decide +kernel
theorem d_9_count_175 : decode prog_1_method_26_code 175 = .ok (.ireturn, 1) := by decide +kernel
theorem d_9_count_176 : decode prog_1_method_26_code 176 = .ok (.aload_n 0, 1) := by decide +kernel
theorem d_9_count_177 : decode prog_1_method_26_code 177 = .ok (.getfield 26, 3) := by decide +kernel
theorem d_9_count_180 : decode prog_1_method_26_code 180 = .ok (.getfield 227, 3) := by decide +kernel
theorem d_9_count_183 : decode prog_1_method_26_code 183 = .ok (.ireturn, 1) := by decide +kernel
theorem d_9_count_184 : decode prog_1_method_26_code 184 = .ok (.aload_n 0, 1) := by decide +kernel
theorem d_9_count_185 : decode prog_1_method_26_code 185 = .ok (.getfield 26, 3) := by decide +kernel
theorem d_9_count_188 : decode prog_1_method_26_code 188 = .ok (.getfield 280, 3) := by decide +kernel
theorem d_9_count_191 : decode prog_1_method_26_code 191 = .ok (.ireturn, 1) := by decide +kernel
theorem d_9_count_192 : decode prog_1_method_26_code 192 = .ok (.aload_n 0, 1) := by decide +kernel
theorem d_9_count_193 : decode prog_1_method_26_code 193 = .ok (.getfield 10, 3) := by decide +kernel
theorem d_9_count_196 : decode prog_1_method_26_code 196 = .ok (.getfield 63, 3) := by decide +kernel
theorem d_9_count_199 : decode prog_1_method_26_code 199 = .ok (.ireturn, 1) := by decide +kernel
theorem d_9_count_200 : decode prog_1_method_26_code 200 = .ok (.aload_n 0, 1) := by decide +kernel
theorem d_9_count_201 : decode prog_1_method_26_code 201 = .ok (.getfield 42, 3) := by decide +kernel
theorem d_9_count_204 : decode prog_1_method_26_code 204 = .ok (.getfield 268, 3) := by decide +kernel
theorem d_9_count_207 : decode prog_1_method_26_code 207 = .ok (.ireturn, 1) := by decide +kernel
theorem d_9_count_208 : decode prog_1_method_26_code 208 = .ok (.iconst (-1), 1) := by decide +kernel
theorem d_9_count_209 : decode prog_1_method_26_code 209 = .ok (.ireturn, 1) := by decide +kernel
def m_9_count (r0 : Nat) (x1 : Int32) (Q : Int32 → St → Prop) (σ : St) : Prop :=
  (((x1.toInt < 0 ∨ 14 < x1.toInt) → Q (-1 : Int32) σ) ∧ (x1 = 0 → Q (σ.1 (r0 + 7) 1) σ) ∧ (x1 = 1 → Q (σ.1 (r0 + 7) 3) σ) ∧ (x1 = 2 → vp_in (0 : Int32) 6 ∧ Q (σ.1 ((r0 + 7) + 3) ((0 : Int32)).toNatClampNeg) σ) ∧ (x1 = 3 → Q (σ.1 (r0 + 7) 6) σ) ∧ (x1 = 4 → Q (σ.1 (r0 + 7) 7) σ) ∧ (x1 = 5 → vp_in (1 : Int32) 6 ∧ Q (σ.1 ((r0 + 7) + 3) ((1 : Int32)).toNatClampNeg) σ) ∧ (x1 = 6 → vp_in (2 : Int32) 6 ∧ Q (σ.1 ((r0 + 7) + 3) ((2 : Int32)).toNatClampNeg) σ) ∧ (x1 = 7 → vp_in (3 : Int32) 6 ∧ Q (σ.1 ((r0 + 7) + 3) ((3 : Int32)).toNatClampNeg) σ) ∧ (x1 = 8 → vp_in (4 : Int32) 6 ∧ Q (σ.1 ((r0 + 7) + 3) ((4 : Int32)).toNatClampNeg) σ) ∧ (x1 = 9 → vp_in (5 : Int32) 6 ∧ Q (σ.1 ((r0 + 7) + 3) ((5 : Int32)).toNatClampNeg) σ) ∧ (x1 = 10 → m_8_grip (r0 + 7) (fun (v_3 : Int32) (σ_2 : St) => Q v_3 σ_2) σ) ∧ (x1 = 11 → Q (σ.1 (r0 + 7) 10) σ) ∧ (x1 = 12 → Q (σ.1 (r0 + 7) 11) σ) ∧ (x1 = 13 → Q (σ.1 (r0 + 1) 1) σ) ∧ (x1 = 14 → Q (σ.1 (r0 + 42) 2) σ))
section MB
variable {p : Program} {l : Launch} {e : Env} {R : Room} {s : State} {m : MethodId} {args : Array Value} {below : List Frame} {meth : Method} {c : Code} {cells slots : Nat} {QW : State → Prop}
variable {D : va_G} {ac : Nat → ClassId} {ad : Nat → Nat} {st : SS} {A : Nat → Prop}
set_option maxHeartbeats 4000000 in
set_option maxRecDepth 100000 in
theorem w_9_rain_0 {r0 : Nat} {x1 : Int32} {Q : Int32 → St → Prop} {σ : St} {H : Heap} {locs : List Loc} {ls : Array Slot} (S : SC A D ac st p m c prog_1_method_18_code 2 s args "SweeperRounds" R cells slots 4 87) (hR : RtI A D ac ad p l e R s m args below meth c prog_1_method_18_code cells slots QW Q) (hk_r0 : kd r0 = 9) (hG : DG A D ac ad s σ H locs) (hl : lv_has ls 2 [(0, .ref (ad r0)), (1, .int x1)]) (hf : m_9_rain r0 x1 Q σ) : W p l e R s m args below meth c H locs cells slots QW (F0 m 0 ls []) := by
  have hx := S.1.1
  have hb := S.1.2.1
  unfold m_9_rain at hf
  refine lv_iload_n hx hb d_9_rain_0 rfl (lv_at hl 1 rfl) ?_
  refine lv_iconst (v := (1 : Int32)) hx hb d_9_rain_1 (by decide) ?_
  refine lv_icmp_lt (tgt := 11) hx hb d_9_rain_2 (by decide) (fun hc => ?_) (fun hc => ?_)
  · have hf := hf.1 hc
    refine lv_iconst (v := (-1 : Int32)) hx hb d_9_rain_11 (by decide) ?_
    exact hR _ _ _ _ _ _ hG hf d_9_rain_12
  · have hf := hf.2 hc
    refine lv_iload_n hx hb d_9_rain_5 rfl (lv_at hl 1 rfl) ?_
    refine lv_bipush (v := (100 : Int32)) hx hb d_9_rain_6 (by decide) ?_
    refine lv_icmp_le (tgt := 13) hx hb d_9_rain_8 (by decide) (fun hc => ?_) (fun hc => ?_)
    · have hf := hf.1 hc
      refine lv_aload_n hx hb d_9_rain_13 rfl (lv_at hl 0 rfl) ?_
      refine gf_9_42 S hG hk_r0 d_9_rain_14 ?_
      refine lv_aload_n hx hb d_9_rain_17 rfl (lv_at hl 0 rfl) ?_
      refine gf_9_26 S hG hk_r0 d_9_rain_18 ?_
      refine iv_9_80 S hl.1 hG (kr_9_4 hk_r0) (c_0_remember l (kr_9_4 hk_r0) (kr_9_2 hk_r0) hf) ⟨Nat.le_of_ble_eq_true rfl, Nat.le_of_ble_eq_true rfl⟩ (Nat.le_of_ble_eq_true rfl) d_9_rain_21 (fun σ_1 hf H locs hG => ?_)
      refine lv_aload_n hx hb d_9_rain_24 rfl (lv_at hl 0 rfl) ?_
      refine gf_9_26 S hG hk_r0 d_9_rain_25 ?_
      refine lv_iload_n hx hb d_9_rain_28 rfl (lv_at hl 1 rfl) ?_
      refine iv_9_224 S hl.1 hG (kr_9_2 hk_r0) (c_8_washStreets l (kr_9_2 hk_r0) hf) ⟨Nat.le_of_ble_eq_true rfl, Nat.le_of_ble_eq_true rfl⟩ (Nat.le_of_ble_eq_true rfl) d_9_rain_29 (fun v_4 σ_3 hf H locs hG => ?_)
      exact hR _ _ _ _ _ _ hG hf d_9_rain_32
    · have hf := hf.2 hc
      refine lv_iconst (v := (-1 : Int32)) hx hb d_9_rain_11 (by decide) ?_
      exact hR _ _ _ _ _ _ hG hf d_9_rain_12
theorem c_9_rain (l : Launch) {D : va_G} {ac : Nat → ClassId} {ad : Nat → Nat} {st : SS} {A : Nat → Prop} {σ : St} {r0 : Nat} {x1 : Int32} {Q : Int32 → St → Prop} (hk_r0 : kd r0 = 9) (hf : m_9_rain r0 x1 Q σ) : Met l y_9_rain (Cond.code y_9_rain prog_1_method_18_code 2 (some .int) :: wA) { frames := 4, cells := 0, slots := 0, locals := 87 } (va_Pc [.ref (ad r0), .int x1] (GSt A D ac ad st σ)) (va_Qi Q (GSt A D ac ad st) A) 0 0 A :=
  mkI l (by decide +kernel) rfl [.ref (ad r0), .int x1] (Nat.le_of_ble_eq_true rfl) (fun p e s m args below meth c ls QW S hR hG hl => w_9_rain_0 S hR hk_r0 hG hl hf)
set_option maxHeartbeats 4000000 in
set_option maxRecDepth 100000 in
theorem w_9_latest_0 {r0 : Nat} {x1 : Int32} {Q : Int32 → St → Prop} {σ : St} {H : Heap} {locs : List Loc} {ls : Array Slot} (S : SC A D ac st p m c prog_1_method_19_code 2 s args "SweeperRounds" R cells slots 0 0) (hR : RtI A D ac ad p l e R s m args below meth c prog_1_method_19_code cells slots QW Q) (hk_r0 : kd r0 = 9) (hG : DG A D ac ad s σ H locs) (hl : lv_has ls 2 [(0, .ref (ad r0)), (1, .int x1)]) (hf : m_9_latest r0 x1 Q σ) : W p l e R s m args below meth c H locs cells slots QW (F0 m 0 ls []) := by
  have hx := S.1.1
  have hb := S.1.2.1
  unfold m_9_latest at hf
  refine lv_iload_n hx hb d_9_latest_0 rfl (lv_at hl 1 rfl) ?_
  refine lv_if_lt (tgt := 9) hx hb d_9_latest_1 (by decide) (fun hc => ?_) (fun hc => ?_)
  · have hf := hf.1 hc
    refine lv_iconst (v := (-1 : Int32)) hx hb d_9_latest_9 (by decide) ?_
    exact hR _ _ _ _ _ _ hG hf d_9_latest_10
  · have hf := hf.2 hc
    refine lv_iload_n hx hb d_9_latest_4 rfl (lv_at hl 1 rfl) ?_
    refine lv_iconst (v := (5 : Int32)) hx hb d_9_latest_5 (by decide) ?_
    refine lv_icmp_le (tgt := 11) hx hb d_9_latest_6 (by decide) (fun hc => ?_) (fun hc => ?_)
    · have hf := hf.1 hc
      refine lv_aload_n hx hb d_9_latest_11 rfl (lv_at hl 0 rfl) ?_
      refine gf_9_26 S hG hk_r0 d_9_latest_12 ?_
      refine gf_9_227 S hG (kr_9_2 hk_r0) d_9_latest_15 ?_
      refine lv_if_ne (tgt := 24) hx hb d_9_latest_18 (by decide) (fun hc => ?_) (fun hc => ?_)
      · have hf := hf.1 hc
        refine lv_iload_n hx hb d_9_latest_24 rfl (lv_at hl 1 rfl) ?_
        refine lv_topi (fun q_1 eq_1 => ?_)
        rcases sw_0_4 q_1 with hq_1 | hq_1 | hq_1 | hq_1 | hq_1 | hq_1
        · rw [eq_1] at hq_1 ⊢
          refine lv_tableOut (tgt := 115) hx hb d_9_latest_25 hq_1 (by decide) ?_
          have hf := hf.1 hq_1
          refine lv_aload_n hx hb d_9_latest_115 rfl (lv_at hl 0 rfl) ?_
          refine gf_9_26 S hG hk_r0 d_9_latest_116 ?_
          refine gf_9_211 S hG (kr_9_2 hk_r0) d_9_latest_119 ?_
          refine gf_9_242 S hG (kr_8_9 (kr_9_2 hk_r0)) d_9_latest_122 ?_
          exact hR _ _ _ _ _ _ hG hf d_9_latest_125
        · subst hq_1
          refine lv_tableIn (off := 35) (tgt := 60) hx hb d_9_latest_25 (by decide) (by decide) (by decide) (by decide) ?_
          have hf := hf.2.1 eq_1.symm
          refine lv_aload_n hx hb d_9_latest_60 rfl (lv_at hl 0 rfl) ?_
          refine gf_9_26 S hG hk_r0 d_9_latest_61 ?_
          refine gf_9_211 S hG (kr_9_2 hk_r0) d_9_latest_64 ?_
          refine gf_9_230 S hG (kr_8_9 (kr_9_2 hk_r0)) d_9_latest_67 ?_
          exact hR _ _ _ _ _ _ hG hf d_9_latest_70
        · subst hq_1
          refine lv_tableIn (off := 46) (tgt := 71) hx hb d_9_latest_25 (by decide) (by decide) (by decide) (by decide) ?_
          have hf := hf.2.2.1 eq_1.symm
          refine lv_aload_n hx hb d_9_latest_71 rfl (lv_at hl 0 rfl) ?_
          refine gf_9_26 S hG hk_r0 d_9_latest_72 ?_
          refine gf_9_211 S hG (kr_9_2 hk_r0) d_9_latest_75 ?_
          refine gf_9_233 S hG (kr_8_9 (kr_9_2 hk_r0)) d_9_latest_78 ?_
          exact hR _ _ _ _ _ _ hG hf d_9_latest_81
        · subst hq_1
          refine lv_tableIn (off := 57) (tgt := 82) hx hb d_9_latest_25 (by decide) (by decide) (by decide) (by decide) ?_
          have hf := hf.2.2.2.1 eq_1.symm
          refine lv_aload_n hx hb d_9_latest_82 rfl (lv_at hl 0 rfl) ?_
          refine gf_9_26 S hG hk_r0 d_9_latest_83 ?_
          refine gf_9_211 S hG (kr_9_2 hk_r0) d_9_latest_86 ?_
          refine gf_9_236 S hG (kr_8_9 (kr_9_2 hk_r0)) d_9_latest_89 ?_
          exact hR _ _ _ _ _ _ hG hf d_9_latest_92
        · subst hq_1
          refine lv_tableIn (off := 68) (tgt := 93) hx hb d_9_latest_25 (by decide) (by decide) (by decide) (by decide) ?_
          have hf := hf.2.2.2.2.1 eq_1.symm
          refine lv_aload_n hx hb d_9_latest_93 rfl (lv_at hl 0 rfl) ?_
          refine gf_9_26 S hG hk_r0 d_9_latest_94 ?_
          refine gf_9_211 S hG (kr_9_2 hk_r0) d_9_latest_97 ?_
          refine gf_9_215 S hG (kr_8_9 (kr_9_2 hk_r0)) d_9_latest_100 ?_
          exact hR _ _ _ _ _ _ hG hf d_9_latest_103
        · subst hq_1
          refine lv_tableIn (off := 79) (tgt := 104) hx hb d_9_latest_25 (by decide) (by decide) (by decide) (by decide) ?_
          have hf := hf.2.2.2.2.2 eq_1.symm
          refine lv_aload_n hx hb d_9_latest_104 rfl (lv_at hl 0 rfl) ?_
          refine gf_9_26 S hG hk_r0 d_9_latest_105 ?_
          refine gf_9_211 S hG (kr_9_2 hk_r0) d_9_latest_108 ?_
          refine gf_9_239 S hG (kr_8_9 (kr_9_2 hk_r0)) d_9_latest_111 ?_
          exact hR _ _ _ _ _ _ hG hf d_9_latest_114
      · have hf := hf.2 hc
        refine lv_bipush (v := (-9 : Int32)) hx hb d_9_latest_21 (by decide) ?_
        exact hR _ _ _ _ _ _ hG hf d_9_latest_23
    · have hf := hf.2 hc
      refine lv_iconst (v := (-1 : Int32)) hx hb d_9_latest_9 (by decide) ?_
      exact hR _ _ _ _ _ _ hG hf d_9_latest_10
theorem c_9_latest (l : Launch) {D : va_G} {ac : Nat → ClassId} {ad : Nat → Nat} {st : SS} {A : Nat → Prop} {σ : St} {r0 : Nat} {x1 : Int32} {Q : Int32 → St → Prop} (hk_r0 : kd r0 = 9) (hf : m_9_latest r0 x1 Q σ) : Met l y_9_latest (Cond.code y_9_latest prog_1_method_19_code 2 (some .int) :: wA) { frames := 0, cells := 0, slots := 0, locals := 0 } (va_Pc [.ref (ad r0), .int x1] (GSt A D ac ad st σ)) (va_Qi Q (GSt A D ac ad st) A) 0 0 A :=
  mkI l (by decide +kernel) rfl [.ref (ad r0), .int x1] (Nat.le_of_ble_eq_true rfl) (fun p e s m args below meth c ls QW S hR hG hl => w_9_latest_0 S hR hk_r0 hG hl hf)
set_option maxHeartbeats 4000000 in
set_option maxRecDepth 100000 in
theorem w_9_trySpeed_0 {r0 : Nat} {x1 : Int32} {Q : St → Prop} {σ : St} {H : Heap} {locs : List Loc} {ls : Array Slot} (S : SC A D ac st p m c prog_1_method_30_code 2 s args "SweeperRounds" R cells slots 4 100) (hR : RtV A D ac ad p l e R s m args below meth c prog_1_method_30_code cells slots QW Q) (hk_r0 : kd r0 = 9) (hG : DG A D ac ad s σ H locs) (hl : lv_has ls 2 [(0, .ref (ad r0)), (1, .int x1)]) (hf : m_9_trySpeed r0 x1 Q σ) : W p l e R s m args below meth c H locs cells slots QW (F0 m 0 ls []) := by
  have hx := S.1.1
  have hb := S.1.2.1
  unfold m_9_trySpeed at hf
  refine lv_aload_n hx hb d_9_trySpeed_0 rfl (lv_at hl 0 rfl) ?_
  refine gf_9_46 S hG hk_r0 d_9_trySpeed_1 ?_
  refine lv_aload_n hx hb d_9_trySpeed_4 rfl (lv_at hl 0 rfl) ?_
  refine gf_9_26 S hG hk_r0 d_9_trySpeed_5 ?_
  refine iv_9_317 S hl.1 hG (kr_9_5 hk_r0) (c_8_copyFrom l (kr_9_5 hk_r0) (kr_9_2 hk_r0) hf) ⟨Nat.le_of_ble_eq_true rfl, Nat.le_of_ble_eq_true rfl⟩ (Nat.le_of_ble_eq_true rfl) d_9_trySpeed_8 (fun σ_1 hf H locs hG => ?_)
  refine lv_aload_n hx hb d_9_trySpeed_11 rfl (lv_at hl 0 rfl) ?_
  refine gf_9_46 S hG hk_r0 d_9_trySpeed_12 ?_
  refine gf_9_174 S hG (kr_9_5 hk_r0) d_9_trySpeed_15 ?_
  refine lv_iconst (v := (0 : Int32)) hx hb d_9_trySpeed_18 (by decide) ?_
  refine lv_iload_n hx hb d_9_trySpeed_19 rfl (lv_at hl 1 rfl) ?_
  refine mis S hG 26 rfl rfl (kr_8_5 (kr_9_5 hk_r0)) hf.1 d_9_trySpeed_20 (fun σ_3 eσ_3 H locs hG => ?_)
  have hf := hf.2 σ_3 eσ_3
  refine lv_aload_n hx hb d_9_trySpeed_21 rfl (lv_at hl 0 rfl) ?_
  refine gf_9_49 S hG hk_r0 d_9_trySpeed_22 ?_
  refine iv_9_208 S hl.1 hG (kr_9_6 hk_r0) (c_5_carryOut l (kr_9_6 hk_r0) hf) ⟨Nat.le_of_ble_eq_true rfl, Nat.le_of_ble_eq_true rfl⟩ (Nat.le_of_ble_eq_true rfl) d_9_trySpeed_25 (fun σ_4 hf H locs hG => ?_)
  exact hR _ _ _ _ _ hG hf d_9_trySpeed_28
theorem c_9_trySpeed (l : Launch) {D : va_G} {ac : Nat → ClassId} {ad : Nat → Nat} {st : SS} {A : Nat → Prop} {σ : St} {r0 : Nat} {x1 : Int32} {Q : St → Prop} (hk_r0 : kd r0 = 9) (hf : m_9_trySpeed r0 x1 Q σ) : Met l y_9_trySpeed (Cond.code y_9_trySpeed prog_1_method_30_code 2 none :: wA) { frames := 4, cells := 0, slots := 0, locals := 100 } (va_Pc [.ref (ad r0), .int x1] (GSt A D ac ad st σ)) (va_Qv Q (GSt A D ac ad st) A) 0 0 A :=
  mkV l (by decide +kernel) rfl [.ref (ad r0), .int x1] (Nat.le_of_ble_eq_true rfl) (fun p e s m args below meth c ls QW S hR hG hl => w_9_trySpeed_0 S hR hk_r0 hG hl hf)
set_option maxHeartbeats 4000000 in
set_option maxRecDepth 100000 in
theorem w_9_ifSpeed_0 {r0 : Nat} {x1 : Int32} {Q : Int32 → St → Prop} {σ : St} {H : Heap} {locs : List Loc} {ls : Array Slot} (S : SC A D ac st p m c prog_1_method_20_code 2 s args "SweeperRounds" R cells slots 5 121) (hR : RtI A D ac ad p l e R s m args below meth c prog_1_method_20_code cells slots QW Q) (hk_r0 : kd r0 = 9) (hG : DG A D ac ad s σ H locs) (hl : lv_has ls 2 [(0, .ref (ad r0)), (1, .int x1)]) (hf : m_9_ifSpeed r0 x1 Q σ) : W p l e R s m args below meth c H locs cells slots QW (F0 m 0 ls []) := by
  have hx := S.1.1
  have hb := S.1.2.1
  unfold m_9_ifSpeed at hf
  refine lv_iload_n hx hb d_9_ifSpeed_0 rfl (lv_at hl 1 rfl) ?_
  refine lv_iconst (v := (1 : Int32)) hx hb d_9_ifSpeed_1 (by decide) ?_
  refine lv_icmp_lt (tgt := 10) hx hb d_9_ifSpeed_2 (by decide) (fun hc => ?_) (fun hc => ?_)
  · have hf := hf.1 hc
    refine lv_iconst (v := (-1 : Int32)) hx hb d_9_ifSpeed_10 (by decide) ?_
    exact hR _ _ _ _ _ _ hG hf d_9_ifSpeed_11
  · have hf := hf.2 hc
    refine lv_iload_n hx hb d_9_ifSpeed_5 rfl (lv_at hl 1 rfl) ?_
    refine lv_iconst (v := (4 : Int32)) hx hb d_9_ifSpeed_6 (by decide) ?_
    refine lv_icmp_le (tgt := 12) hx hb d_9_ifSpeed_7 (by decide) (fun hc => ?_) (fun hc => ?_)
    · have hf := hf.1 hc
      refine lv_aload_n hx hb d_9_ifSpeed_12 rfl (lv_at hl 0 rfl) ?_
      refine lv_iload_n hx hb d_9_ifSpeed_13 rfl (lv_at hl 1 rfl) ?_
      refine iv_9_245 S hl.1 hG hk_r0 (c_9_trySpeed l hk_r0 hf) ⟨Nat.le_of_ble_eq_true rfl, Nat.le_of_ble_eq_true rfl⟩ (Nat.le_of_ble_eq_true rfl) d_9_ifSpeed_14 (fun σ_1 hf H locs hG => ?_)
      refine lv_aload_n hx hb d_9_ifSpeed_17 rfl (lv_at hl 0 rfl) ?_
      refine gf_9_46 S hG hk_r0 d_9_ifSpeed_18 ?_
      refine gf_9_211 S hG (kr_9_5 hk_r0) d_9_ifSpeed_21 ?_
      refine gf_9_215 S hG (kr_8_9 (kr_9_5 hk_r0)) d_9_ifSpeed_24 ?_
      exact hR _ _ _ _ _ _ hG hf d_9_ifSpeed_27
    · have hf := hf.2 hc
      refine lv_iconst (v := (-1 : Int32)) hx hb d_9_ifSpeed_10 (by decide) ?_
      exact hR _ _ _ _ _ _ hG hf d_9_ifSpeed_11
theorem c_9_ifSpeed (l : Launch) {D : va_G} {ac : Nat → ClassId} {ad : Nat → Nat} {st : SS} {A : Nat → Prop} {σ : St} {r0 : Nat} {x1 : Int32} {Q : Int32 → St → Prop} (hk_r0 : kd r0 = 9) (hf : m_9_ifSpeed r0 x1 Q σ) : Met l y_9_ifSpeed (Cond.code y_9_ifSpeed prog_1_method_20_code 2 (some .int) :: wA) { frames := 5, cells := 0, slots := 0, locals := 121 } (va_Pc [.ref (ad r0), .int x1] (GSt A D ac ad st σ)) (va_Qi Q (GSt A D ac ad st) A) 0 0 A :=
  mkI l (by decide +kernel) rfl [.ref (ad r0), .int x1] (Nat.le_of_ble_eq_true rfl) (fun p e s m args below meth c ls QW S hR hG hl => w_9_ifSpeed_0 S hR hk_r0 hG hl hf)
set_option maxHeartbeats 4000000 in
set_option maxRecDepth 100000 in
theorem w_9_account_0 {r0 : Nat} {x1 : Int32} {Q : Int32 → St → Prop} {σ : St} {H : Heap} {locs : List Loc} {ls : Array Slot} (S : SC A D ac st p m c prog_1_method_24_code 2 s args "SweeperRounds" R cells slots 4 86) (hR : RtI A D ac ad p l e R s m args below meth c prog_1_method_24_code cells slots QW Q) (hk_r0 : kd r0 = 9) (hG : DG A D ac ad s σ H locs) (hl : lv_has ls 2 [(0, .ref (ad r0)), (1, .int x1)]) (hf : m_9_account r0 x1 Q σ) : W p l e R s m args below meth c H locs cells slots QW (F0 m 0 ls []) := by
  have hx := S.1.1
  have hb := S.1.2.1
  unfold m_9_account at hf
  refine lv_iload_n hx hb d_9_account_0 rfl (lv_at hl 1 rfl) ?_
  refine lv_if_lt (tgt := 10) hx hb d_9_account_1 (by decide) (fun hc => ?_) (fun hc => ?_)
  · have hf := hf.1 hc
    refine lv_iconst (v := (-1 : Int32)) hx hb d_9_account_10 (by decide) ?_
    exact hR _ _ _ _ _ _ hG hf d_9_account_11
  · have hf := hf.2 hc
    refine lv_iload_n hx hb d_9_account_4 rfl (lv_at hl 1 rfl) ?_
    refine lv_bipush (v := (6 : Int32)) hx hb d_9_account_5 (by decide) ?_
    refine lv_icmp_le (tgt := 12) hx hb d_9_account_7 (by decide) (fun hc => ?_) (fun hc => ?_)
    · have hf := hf.1 hc
      refine lv_iload_n hx hb d_9_account_12 rfl (lv_at hl 1 rfl) ?_
      refine lv_bipush (v := (6 : Int32)) hx hb d_9_account_13 (by decide) ?_
      refine lv_icmp_ge (tgt := 30) hx hb d_9_account_15 (by decide) (fun hc => ?_) (fun hc => ?_)
      · have hf := hf.1 hc
        refine lv_aload_n hx hb d_9_account_30 rfl (lv_at hl 0 rfl) ?_
        refine gf_9_26 S hG hk_r0 d_9_account_31 ?_
        refine iv_9_221 S hl.1 hG (kr_9_2 hk_r0) (c_8_dirtOnStreets l (kr_9_2 hk_r0) hf) ⟨Nat.le_of_ble_eq_true rfl, Nat.le_of_ble_eq_true rfl⟩ (Nat.le_of_ble_eq_true rfl) d_9_account_34 (fun v_2 σ_1 hf H locs hG => ?_)
        exact hR _ _ _ _ _ _ hG hf d_9_account_37
      · have hf := hf.2 hc
        refine lv_aload_n hx hb d_9_account_18 rfl (lv_at hl 0 rfl) ?_
        refine gf_9_26 S hG hk_r0 d_9_account_19 ?_
        refine gf_9_265 S hG (kr_9_2 hk_r0) d_9_account_22 ?_
        refine lv_iload_n hx hb d_9_account_25 rfl (lv_at hl 1 rfl) ?_
        refine mia S hG 27 rfl rfl (kr_8_8 (kr_9_2 hk_r0)) hf.1 d_9_account_26 ?_
        have hf := hf.2
        refine lv_goto (tgt := 37) hx hb d_9_account_27 (by decide) ?_
        exact hR _ _ _ _ _ _ hG hf d_9_account_37
    · have hf := hf.2 hc
      refine lv_iconst (v := (-1 : Int32)) hx hb d_9_account_10 (by decide) ?_
      exact hR _ _ _ _ _ _ hG hf d_9_account_11
theorem c_9_account (l : Launch) {D : va_G} {ac : Nat → ClassId} {ad : Nat → Nat} {st : SS} {A : Nat → Prop} {σ : St} {r0 : Nat} {x1 : Int32} {Q : Int32 → St → Prop} (hk_r0 : kd r0 = 9) (hf : m_9_account r0 x1 Q σ) : Met l y_9_account (Cond.code y_9_account prog_1_method_24_code 2 (some .int) :: wA) { frames := 4, cells := 0, slots := 0, locals := 86 } (va_Pc [.ref (ad r0), .int x1] (GSt A D ac ad st σ)) (va_Qi Q (GSt A D ac ad st) A) 0 0 A :=
  mkI l (by decide +kernel) rfl [.ref (ad r0), .int x1] (Nat.le_of_ble_eq_true rfl) (fun p e s m args below meth c ls QW S hR hG hl => w_9_account_0 S hR hk_r0 hG hl hf)
set_option maxHeartbeats 4000000 in
set_option maxRecDepth 100000 in
theorem w_9_count_0 {r0 : Nat} {x1 : Int32} {Q : Int32 → St → Prop} {σ : St} {H : Heap} {locs : List Loc} {ls : Array Slot} (S : SC A D ac st p m c prog_1_method_26_code 2 s args "SweeperRounds" R cells slots 1 20) (hR : RtI A D ac ad p l e R s m args below meth c prog_1_method_26_code cells slots QW Q) (hk_r0 : kd r0 = 9) (hG : DG A D ac ad s σ H locs) (hl : lv_has ls 2 [(0, .ref (ad r0)), (1, .int x1)]) (hf : m_9_count r0 x1 Q σ) : W p l e R s m args below meth c H locs cells slots QW (F0 m 0 ls []) := by
  have hx := S.1.1
  have hb := S.1.2.1
  unfold m_9_count at hf
  refine lv_iload_n hx hb d_9_count_0 rfl (lv_at hl 1 rfl) ?_
  refine lv_topi (fun q_1 eq_1 => ?_)
  rcases sw_0_14 q_1 with hq_1 | hq_1 | hq_1 | hq_1 | hq_1 | hq_1 | hq_1 | hq_1 | hq_1 | hq_1 | hq_1 | hq_1 | hq_1 | hq_1 | hq_1 | hq_1
  · rw [eq_1] at hq_1 ⊢
    refine lv_tableOut (tgt := 208) hx hb d_9_count_1 hq_1 (by decide) ?_
    have hf := hf.1 hq_1
    refine lv_iconst (v := (-1 : Int32)) hx hb d_9_count_208 (by decide) ?_
    exact hR _ _ _ _ _ _ hG hf d_9_count_209
  · subst hq_1
    refine lv_tableIn (off := 75) (tgt := 76) hx hb d_9_count_1 (by decide) (by decide) (by decide) (by decide) ?_
    have hf := hf.2.1 eq_1.symm
    refine lv_aload_n hx hb d_9_count_76 rfl (lv_at hl 0 rfl) ?_
    refine gf_9_26 S hG hk_r0 d_9_count_77 ?_
    refine gf_9_70 S hG (kr_9_2 hk_r0) d_9_count_80 ?_
    exact hR _ _ _ _ _ _ hG hf d_9_count_83
  · subst hq_1
    refine lv_tableIn (off := 83) (tgt := 84) hx hb d_9_count_1 (by decide) (by decide) (by decide) (by decide) ?_
    have hf := hf.2.2.1 eq_1.symm
    refine lv_aload_n hx hb d_9_count_84 rfl (lv_at hl 0 rfl) ?_
    refine gf_9_26 S hG hk_r0 d_9_count_85 ?_
    refine gf_9_108 S hG (kr_9_2 hk_r0) d_9_count_88 ?_
    exact hR _ _ _ _ _ _ hG hf d_9_count_91
  · subst hq_1
    refine lv_tableIn (off := 91) (tgt := 92) hx hb d_9_count_1 (by decide) (by decide) (by decide) (by decide) ?_
    have hf := hf.2.2.2.1 eq_1.symm
    refine lv_aload_n hx hb d_9_count_92 rfl (lv_at hl 0 rfl) ?_
    refine gf_9_26 S hG hk_r0 d_9_count_93 ?_
    refine gf_9_174 S hG (kr_9_2 hk_r0) d_9_count_96 ?_
    refine lv_iconst (v := (0 : Int32)) hx hb d_9_count_99 (by decide) ?_
    refine mia S hG 26 rfl rfl (kr_8_5 (kr_9_2 hk_r0)) hf.1 d_9_count_100 ?_
    have hf := hf.2
    exact hR _ _ _ _ _ _ hG hf d_9_count_101
  · subst hq_1
    refine lv_tableIn (off := 101) (tgt := 102) hx hb d_9_count_1 (by decide) (by decide) (by decide) (by decide) ?_
    have hf := hf.2.2.2.2.1 eq_1.symm
    refine lv_aload_n hx hb d_9_count_102 rfl (lv_at hl 0 rfl) ?_
    refine gf_9_26 S hG hk_r0 d_9_count_103 ?_
    refine gf_9_274 S hG (kr_9_2 hk_r0) d_9_count_106 ?_
    exact hR _ _ _ _ _ _ hG hf d_9_count_109
  · subst hq_1
    refine lv_tableIn (off := 109) (tgt := 110) hx hb d_9_count_1 (by decide) (by decide) (by decide) (by decide) ?_
    have hf := hf.2.2.2.2.2.1 eq_1.symm
    refine lv_aload_n hx hb d_9_count_110 rfl (lv_at hl 0 rfl) ?_
    refine gf_9_26 S hG hk_r0 d_9_count_111 ?_
    refine gf_9_277 S hG (kr_9_2 hk_r0) d_9_count_114 ?_
    exact hR _ _ _ _ _ _ hG hf d_9_count_117
  · subst hq_1
    refine lv_tableIn (off := 117) (tgt := 118) hx hb d_9_count_1 (by decide) (by decide) (by decide) (by decide) ?_
    have hf := hf.2.2.2.2.2.2.1 eq_1.symm
    refine lv_aload_n hx hb d_9_count_118 rfl (lv_at hl 0 rfl) ?_
    refine gf_9_26 S hG hk_r0 d_9_count_119 ?_
    refine gf_9_174 S hG (kr_9_2 hk_r0) d_9_count_122 ?_
    refine lv_iconst (v := (1 : Int32)) hx hb d_9_count_125 (by decide) ?_
    refine mia S hG 26 rfl rfl (kr_8_5 (kr_9_2 hk_r0)) hf.1 d_9_count_126 ?_
    have hf := hf.2
    exact hR _ _ _ _ _ _ hG hf d_9_count_127
  · subst hq_1
    refine lv_tableIn (off := 127) (tgt := 128) hx hb d_9_count_1 (by decide) (by decide) (by decide) (by decide) ?_
    have hf := hf.2.2.2.2.2.2.2.1 eq_1.symm
    refine lv_aload_n hx hb d_9_count_128 rfl (lv_at hl 0 rfl) ?_
    refine gf_9_26 S hG hk_r0 d_9_count_129 ?_
    refine gf_9_174 S hG (kr_9_2 hk_r0) d_9_count_132 ?_
    refine lv_iconst (v := (2 : Int32)) hx hb d_9_count_135 (by decide) ?_
    refine mia S hG 26 rfl rfl (kr_8_5 (kr_9_2 hk_r0)) hf.1 d_9_count_136 ?_
    have hf := hf.2
    exact hR _ _ _ _ _ _ hG hf d_9_count_137
  · subst hq_1
    refine lv_tableIn (off := 137) (tgt := 138) hx hb d_9_count_1 (by decide) (by decide) (by decide) (by decide) ?_
    have hf := hf.2.2.2.2.2.2.2.2.1 eq_1.symm
    refine lv_aload_n hx hb d_9_count_138 rfl (lv_at hl 0 rfl) ?_
    refine gf_9_26 S hG hk_r0 d_9_count_139 ?_
    refine gf_9_174 S hG (kr_9_2 hk_r0) d_9_count_142 ?_
    refine lv_iconst (v := (3 : Int32)) hx hb d_9_count_145 (by decide) ?_
    refine mia S hG 26 rfl rfl (kr_8_5 (kr_9_2 hk_r0)) hf.1 d_9_count_146 ?_
    have hf := hf.2
    exact hR _ _ _ _ _ _ hG hf d_9_count_147
  · subst hq_1
    refine lv_tableIn (off := 147) (tgt := 148) hx hb d_9_count_1 (by decide) (by decide) (by decide) (by decide) ?_
    have hf := hf.2.2.2.2.2.2.2.2.2.1 eq_1.symm
    refine lv_aload_n hx hb d_9_count_148 rfl (lv_at hl 0 rfl) ?_
    refine gf_9_26 S hG hk_r0 d_9_count_149 ?_
    refine gf_9_174 S hG (kr_9_2 hk_r0) d_9_count_152 ?_
    refine lv_iconst (v := (4 : Int32)) hx hb d_9_count_155 (by decide) ?_
    refine mia S hG 26 rfl rfl (kr_8_5 (kr_9_2 hk_r0)) hf.1 d_9_count_156 ?_
    have hf := hf.2
    exact hR _ _ _ _ _ _ hG hf d_9_count_157
  · subst hq_1
    refine lv_tableIn (off := 157) (tgt := 158) hx hb d_9_count_1 (by decide) (by decide) (by decide) (by decide) ?_
    have hf := hf.2.2.2.2.2.2.2.2.2.2.1 eq_1.symm
    refine lv_aload_n hx hb d_9_count_158 rfl (lv_at hl 0 rfl) ?_
    refine gf_9_26 S hG hk_r0 d_9_count_159 ?_
    refine gf_9_174 S hG (kr_9_2 hk_r0) d_9_count_162 ?_
    refine lv_iconst (v := (5 : Int32)) hx hb d_9_count_165 (by decide) ?_
    refine mia S hG 26 rfl rfl (kr_8_5 (kr_9_2 hk_r0)) hf.1 d_9_count_166 ?_
    have hf := hf.2
    exact hR _ _ _ _ _ _ hG hf d_9_count_167
  · subst hq_1
    refine lv_tableIn (off := 167) (tgt := 168) hx hb d_9_count_1 (by decide) (by decide) (by decide) (by decide) ?_
    have hf := hf.2.2.2.2.2.2.2.2.2.2.2.1 eq_1.symm
    refine lv_aload_n hx hb d_9_count_168 rfl (lv_at hl 0 rfl) ?_
    refine gf_9_26 S hG hk_r0 d_9_count_169 ?_
    refine iv_9_134 S hl.1 hG (kr_9_2 hk_r0) (c_8_grip l (kr_9_2 hk_r0) hf) ⟨Nat.le_of_ble_eq_true rfl, Nat.le_of_ble_eq_true rfl⟩ (Nat.le_of_ble_eq_true rfl) d_9_count_172 (fun v_3 σ_2 hf H locs hG => ?_)
    exact hR _ _ _ _ _ _ hG hf d_9_count_175
  · subst hq_1
    refine lv_tableIn (off := 175) (tgt := 176) hx hb d_9_count_1 (by decide) (by decide) (by decide) (by decide) ?_
    have hf := hf.2.2.2.2.2.2.2.2.2.2.2.2.1 eq_1.symm
    refine lv_aload_n hx hb d_9_count_176 rfl (lv_at hl 0 rfl) ?_
    refine gf_9_26 S hG hk_r0 d_9_count_177 ?_
    refine gf_9_227 S hG (kr_9_2 hk_r0) d_9_count_180 ?_
    exact hR _ _ _ _ _ _ hG hf d_9_count_183
  · subst hq_1
    refine lv_tableIn (off := 183) (tgt := 184) hx hb d_9_count_1 (by decide) (by decide) (by decide) (by decide) ?_
    have hf := hf.2.2.2.2.2.2.2.2.2.2.2.2.2.1 eq_1.symm
    refine lv_aload_n hx hb d_9_count_184 rfl (lv_at hl 0 rfl) ?_
    refine gf_9_26 S hG hk_r0 d_9_count_185 ?_
    refine gf_9_280 S hG (kr_9_2 hk_r0) d_9_count_188 ?_
    exact hR _ _ _ _ _ _ hG hf d_9_count_191
  · subst hq_1
    refine lv_tableIn (off := 191) (tgt := 192) hx hb d_9_count_1 (by decide) (by decide) (by decide) (by decide) ?_
    have hf := hf.2.2.2.2.2.2.2.2.2.2.2.2.2.2.1 eq_1.symm
    refine lv_aload_n hx hb d_9_count_192 rfl (lv_at hl 0 rfl) ?_
    refine gf_9_10 S hG hk_r0 d_9_count_193 ?_
    refine gf_9_63 S hG (kr_9_0 hk_r0) d_9_count_196 ?_
    exact hR _ _ _ _ _ _ hG hf d_9_count_199
  · subst hq_1
    refine lv_tableIn (off := 199) (tgt := 200) hx hb d_9_count_1 (by decide) (by decide) (by decide) (by decide) ?_
    have hf := hf.2.2.2.2.2.2.2.2.2.2.2.2.2.2.2 eq_1.symm
    refine lv_aload_n hx hb d_9_count_200 rfl (lv_at hl 0 rfl) ?_
    refine gf_9_42 S hG hk_r0 d_9_count_201 ?_
    refine gf_9_268 S hG (kr_9_4 hk_r0) d_9_count_204 ?_
    exact hR _ _ _ _ _ _ hG hf d_9_count_207
theorem c_9_count (l : Launch) {D : va_G} {ac : Nat → ClassId} {ad : Nat → Nat} {st : SS} {A : Nat → Prop} {σ : St} {r0 : Nat} {x1 : Int32} {Q : Int32 → St → Prop} (hk_r0 : kd r0 = 9) (hf : m_9_count r0 x1 Q σ) : Met l y_9_count (Cond.code y_9_count prog_1_method_26_code 2 (some .int) :: wA) { frames := 1, cells := 0, slots := 0, locals := 20 } (va_Pc [.ref (ad r0), .int x1] (GSt A D ac ad st σ)) (va_Qi Q (GSt A D ac ad st) A) 0 0 A :=
  mkI l (by decide +kernel) rfl [.ref (ad r0), .int x1] (Nat.le_of_ble_eq_true rfl) (fun p e s m args below meth c ls QW S hR hG hl => w_9_count_0 S hR hk_r0 hG hl hf)
end MB
end
section
theorem d_L_town_0 : decode method_4_code 0 = .ok (.iconst 0, 1) := by decide +kernel
theorem d_L_town_1 : decode method_4_code 1 = .ok (.istore 5, 2) := by decide +kernel
theorem d_L_town_3 : decode method_4_code 3 = .ok (.iload 5, 2) := by decide +kernel
theorem d_L_town_5 : decode method_4_code 5 = .ok (.iload_n 3, 1) := by decide +kernel
theorem d_L_town_6 : decode method_4_code 6 = .ok (.if_icmp .ge 204, 3) := by decide +kernel
theorem d_L_town_9 : decode method_4_code 9 = .ok (.aload_n 1, 1) := by decide +kernel
theorem d_L_town_10 : decode method_4_code 10 = .ok (.iload_n 2, 1) := by decide +kernel
theorem d_L_town_11 : decode method_4_code 11 = .ok (.iload 5, 2) := by decide +kernel
theorem d_L_town_13 : decode method_4_code 13 = .ok (.iadd, 1) := by decide +kernel
theorem d_L_town_14 : decode method_4_code 14 = .ok (.invokestatic 10, 3) := by decide +kernel
theorem d_L_town_17 : decode method_4_code 17 = .ok (.istore 6, 2) := by decide +kernel
theorem d_L_town_19 : decode method_4_code 19 = .ok (.iconst 1, 1) := by decide +kernel
theorem d_L_town_20 : decode method_4_code 20 = .ok (.iload 6, 2) := by decide +kernel
theorem d_L_town_22 : decode method_4_code 22 = .ok (.bipush 6, 2) := by decide +kernel
theorem d_L_town_24 : decode method_4_code 24 = .ok (.invokestatic 16, 3) := by decide +kernel
theorem d_L_town_27 : decode method_4_code 27 = .ok (.iadd, 1) := by decide +kernel
theorem d_L_town_28 : decode method_4_code 28 = .ok (.istore 7, 2) := by decide +kernel
theorem d_L_town_30 : decode method_4_code 30 = .ok (.aload_n 0, 1) := by decide +kernel
theorem d_L_town_31 : decode method_4_code 31 = .ok (.iload 7, 2) := by decide +kernel
theorem d_L_town_33 : decode method_4_code 33 = .ok (.iload 6, 2) := by decide +kernel
theorem d_L_town_35 : decode method_4_code 35 = .ok (.iconst 3, 1) := by decide +kernel
theorem d_L_town_36 : decode method_4_code 36 = .ok (.ishr, 1) := by decide +kernel
theorem d_L_town_37 : decode method_4_code 37 = .ok (.iload 6, 2) := by decide +kernel
theorem d_L_town_39 : decode method_4_code 39 = .ok (.bipush 9, 2) := by decide +kernel
theorem d_L_town_41 : decode method_4_code 41 = .ok (.ishr, 1) := by decide +kernel
theorem d_L_town_42 : decode method_4_code 42 = .ok (.iconst 3, 1) := by decide +kernel
theorem d_L_town_43 : decode method_4_code 43 = .ok (.invokestatic 16, 3) := by decide +kernel
theorem d_L_town_46 : decode method_4_code 46 = .ok (.ifCond .ne 8, 3) := by decide +kernel
theorem d_L_town_49 : decode method_4_code 49 = .ok (.bipush 61, 2) := by decide +kernel
theorem d_L_town_51 : decode method_4_code 51 = .ok (.goto 5, 3) := by decide +kernel
theorem d_L_town_54 : decode method_4_code 54 = .ok (.bipush 10, 2) := by decide +kernel
theorem d_L_town_56 : decode method_4_code 56 = .ok (.invokestatic 16, 3) := by decide +kernel
theorem d_L_town_59 : decode method_4_code 59 = .ok (.iload 6, 2) := by decide +kernel
theorem d_L_town_61 : decode method_4_code 61 = .ok (.bipush 11, 2) := by decide +kernel
theorem d_L_town_63 : decode method_4_code 63 = .ok (.ishr, 1) := by decide +kernel
theorem d_L_town_64 : decode method_4_code 64 = .ok (.bipush 10, 2) := by decide +kernel
theorem d_L_town_66 : decode method_4_code 66 = .ok (.invokestatic 16, 3) := by decide +kernel
theorem d_L_town_69 : decode method_4_code 69 = .ok (.invokevirtual 20, 3) := by decide +kernel
theorem d_L_town_72 : decode method_4_code 72 = .ok (.iload 5, 2) := by decide +kernel
theorem d_L_town_74 : decode method_4_code 74 = .ok (.if_icmp .eq 5, 3) := by decide +kernel
theorem d_L_town_77 : decode method_4_code 77 = .ok (.iconst 0, 1) := by decide +kernel
theorem d_L_town_78 : decode method_4_code 78 = .ok (.ireturn, 1) := by decide +kernel
theorem d_L_town_79 : decode method_4_code 79 = .ok (.iconst 0, 1) := by decide +kernel
theorem d_L_town_80 : decode method_4_code 80 = .ok (.istore 8, 2) := by decide +kernel
theorem d_L_town_82 : decode method_4_code 82 = .ok (.iload 8, 2) := by decide +kernel
theorem d_L_town_84 : decode method_4_code 84 = .ok (.iconst 2, 1) := by decide +kernel
theorem d_L_town_85 : decode method_4_code 85 = .ok (.iload 7, 2) := by decide +kernel
theorem d_L_town_87 : decode method_4_code 87 = .ok (.imul, 1) := by decide +kernel
theorem d_L_town_88 : decode method_4_code 88 = .ok (.if_icmp .ge 116, 3) := by decide +kernel
theorem d_L_town_91 : decode method_4_code 91 = .ok (.aload_n 1, 1) := by decide +kernel
theorem d_L_town_92 : decode method_4_code 92 = .ok (.iload_n 2, 1) := by decide +kernel
theorem d_L_town_93 : decode method_4_code 93 = .ok (.iconst 3, 1) := by decide +kernel
theorem d_L_town_94 : decode method_4_code 94 = .ok (.iadd, 1) := by decide +kernel
theorem d_L_town_95 : decode method_4_code 95 = .ok (.iload 8, 2) := by decide +kernel
theorem d_L_town_97 : decode method_4_code 97 = .ok (.bipush 6, 2) := by decide +kernel
theorem d_L_town_99 : decode method_4_code 99 = .ok (.irem, 1) := by decide +kernel
theorem d_L_town_100 : decode method_4_code 100 = .ok (.iadd, 1) := by decide +kernel
theorem d_L_town_101 : decode method_4_code 101 = .ok (.invokestatic 10, 3) := by decide +kernel
theorem d_L_town_104 : decode method_4_code 104 = .ok (.iconst 3, 1) := by decide +kernel
theorem d_L_town_105 : decode method_4_code 105 = .ok (.iload 5, 2) := by decide +kernel
end
section
theorem d_L_town_107 : decode method_4_code 107 = .ok (.imul, 1) := by decide +kernel
theorem d_L_town_108 : decode method_4_code 108 = .ok (.iload 8, 2) := by decide +kernel
theorem d_L_town_110 : decode method_4_code 110 = .ok (.bipush 6, 2) := by decide +kernel
theorem d_L_town_112 : decode method_4_code 112 = .ok (.idiv, 1) := by decide +kernel
theorem d_L_town_113 : decode method_4_code 113 = .ok (.iadd, 1) := by decide +kernel
theorem d_L_town_114 : decode method_4_code 114 = .ok (.ishr, 1) := by decide +kernel
theorem d_L_town_115 : decode method_4_code 115 = .ok (.istore 9, 2) := by decide +kernel
theorem d_L_town_117 : decode method_4_code 117 = .ok (.iload 9, 2) := by decide +kernel
theorem d_L_town_119 : decode method_4_code 119 = .ok (.iload 9, 2) := by decide +kernel
theorem d_L_town_121 : decode method_4_code 121 = .ok (.bipush 9, 2) := by decide +kernel
theorem d_L_town_123 : decode method_4_code 123 = .ok (.ishr, 1) := by decide +kernel
theorem d_L_town_124 : decode method_4_code 124 = .ok (.iconst 3, 1) := by decide +kernel
theorem d_L_town_125 : decode method_4_code 125 = .ok (.invokestatic 16, 3) := by decide +kernel
theorem d_L_town_128 : decode method_4_code 128 = .ok (.ifCond .ne 8, 3) := by decide +kernel
theorem d_L_town_131 : decode method_4_code 131 = .ok (.bipush 100, 2) := by decide +kernel
theorem d_L_town_133 : decode method_4_code 133 = .ok (.goto 5, 3) := by decide +kernel
theorem d_L_town_136 : decode method_4_code 136 = .ok (.bipush 40, 2) := by decide +kernel
theorem d_L_town_138 : decode method_4_code 138 = .ok (.invokestatic 16, 3) := by decide +kernel
theorem d_L_town_141 : decode method_4_code 141 = .ok (.istore 10, 2) := by decide +kernel
theorem d_L_town_143 : decode method_4_code 143 = .ok (.aload_n 0, 1) := by decide +kernel
theorem d_L_town_144 : decode method_4_code 144 = .ok (.iload 5, 2) := by decide +kernel
theorem d_L_town_146 : decode method_4_code 146 = .ok (.iload 8, 2) := by decide +kernel
theorem d_L_town_148 : decode method_4_code 148 = .ok (.iload 7, 2) := by decide +kernel
theorem d_L_town_150 : decode method_4_code 150 = .ok (.idiv, 1) := by decide +kernel
theorem d_L_town_151 : decode method_4_code 151 = .ok (.iload 8, 2) := by decide +kernel
theorem d_L_town_153 : decode method_4_code 153 = .ok (.iload 7, 2) := by decide +kernel
theorem d_L_town_155 : decode method_4_code 155 = .ok (.irem, 1) := by decide +kernel
theorem d_L_town_156 : decode method_4_code 156 = .ok (.iload 10, 2) := by decide +kernel
theorem d_L_town_158 : decode method_4_code 158 = .ok (.invokevirtual 26, 3) := by decide +kernel
theorem d_L_town_161 : decode method_4_code 161 = .ok (.ifCond .ne 35, 3) := by decide +kernel
theorem d_L_town_164 : decode method_4_code 164 = .ok (.iload 9, 2) := by decide +kernel
theorem d_L_town_166 : decode method_4_code 166 = .ok (.bipush 12, 2) := by decide +kernel
theorem d_L_town_168 : decode method_4_code 168 = .ok (.ishr, 1) := by decide +kernel
theorem d_L_town_169 : decode method_4_code 169 = .ok (.iconst 5, 1) := by decide +kernel
theorem d_L_town_170 : decode method_4_code 170 = .ok (.invokestatic 16, 3) := by decide +kernel
theorem d_L_town_173 : decode method_4_code 173 = .ok (.ifCond .ne 25, 3) := by decide +kernel
theorem d_L_town_176 : decode method_4_code 176 = .ok (.aload_n 0, 1) := by decide +kernel
theorem d_L_town_177 : decode method_4_code 177 = .ok (.iload 5, 2) := by decide +kernel
theorem d_L_town_179 : decode method_4_code 179 = .ok (.iload 8, 2) := by decide +kernel
theorem d_L_town_181 : decode method_4_code 181 = .ok (.iload 7, 2) := by decide +kernel
theorem d_L_town_183 : decode method_4_code 183 = .ok (.idiv, 1) := by decide +kernel
theorem d_L_town_184 : decode method_4_code 184 = .ok (.iload 8, 2) := by decide +kernel
theorem d_L_town_186 : decode method_4_code 186 = .ok (.iload 7, 2) := by decide +kernel
theorem d_L_town_188 : decode method_4_code 188 = .ok (.irem, 1) := by decide +kernel
theorem d_L_town_189 : decode method_4_code 189 = .ok (.iconst 1, 1) := by decide +kernel
theorem d_L_town_190 : decode method_4_code 190 = .ok (.invokevirtual 30, 3) := by decide +kernel
theorem d_L_town_193 : decode method_4_code 193 = .ok (.ifCond .eq 5, 3) := by decide +kernel
theorem d_L_town_196 : decode method_4_code 196 = .ok (.iconst 0, 1) := by decide +kernel
theorem d_L_town_197 : decode method_4_code 197 = .ok (.ireturn, 1) := by decide +kernel
theorem d_L_town_198 : decode method_4_code 198 = .ok (.iinc 8 1, 3) := by decide +kernel
theorem d_L_town_201 : decode method_4_code 201 = .ok (.goto (-119), 3) := by decide +kernel
theorem d_L_town_204 : decode method_4_code 204 = .ok (.iinc 5 1, 3) := by decide +kernel
theorem d_L_town_207 : decode method_4_code 207 = .ok (.goto (-204), 3) := by decide +kernel
theorem d_L_town_210 : decode method_4_code 210 = .ok (.aload_n 1, 1) := by decide +kernel
theorem d_L_town_211 : decode method_4_code 211 = .ok (.iload_n 2, 1) := by decide +kernel
theorem d_L_town_212 : decode method_4_code 212 = .ok (.bipush 9, 2) := by decide +kernel
theorem d_L_town_214 : decode method_4_code 214 = .ok (.iadd, 1) := by decide +kernel
theorem d_L_town_215 : decode method_4_code 215 = .ok (.invokestatic 10, 3) := by decide +kernel
theorem d_L_town_218 : decode method_4_code 218 = .ok (.istore 5, 2) := by decide +kernel
theorem d_L_town_220 : decode method_4_code 220 = .ok (.iconst 0, 1) := by decide +kernel
end
section
theorem d_L_town_221 : decode method_4_code 221 = .ok (.istore 6, 2) := by decide +kernel
theorem d_L_town_223 : decode method_4_code 223 = .ok (.iload 6, 2) := by decide +kernel
theorem d_L_town_225 : decode method_4_code 225 = .ok (.iload 4, 2) := by decide +kernel
theorem d_L_town_227 : decode method_4_code 227 = .ok (.if_icmp .ge 43, 3) := by decide +kernel
theorem d_L_town_230 : decode method_4_code 230 = .ok (.aload_n 0, 1) := by decide +kernel
theorem d_L_town_231 : decode method_4_code 231 = .ok (.iload 5, 2) := by decide +kernel
theorem d_L_town_233 : decode method_4_code 233 = .ok (.iconst 3, 1) := by decide +kernel
theorem d_L_town_234 : decode method_4_code 234 = .ok (.iload 6, 2) := by decide +kernel
theorem d_L_town_236 : decode method_4_code 236 = .ok (.imul, 1) := by decide +kernel
theorem d_L_town_237 : decode method_4_code 237 = .ok (.ishr, 1) := by decide +kernel
theorem d_L_town_238 : decode method_4_code 238 = .ok (.iload_n 3, 1) := by decide +kernel
theorem d_L_town_239 : decode method_4_code 239 = .ok (.invokestatic 16, 3) := by decide +kernel
theorem d_L_town_242 : decode method_4_code 242 = .ok (.iload 5, 2) := by decide +kernel
theorem d_L_town_244 : decode method_4_code 244 = .ok (.bipush 16, 2) := by decide +kernel
theorem d_L_town_246 : decode method_4_code 246 = .ok (.iload 6, 2) := by decide +kernel
theorem d_L_town_248 : decode method_4_code 248 = .ok (.iadd, 1) := by decide +kernel
theorem d_L_town_249 : decode method_4_code 249 = .ok (.ishr, 1) := by decide +kernel
theorem d_L_town_250 : decode method_4_code 250 = .ok (.iconst 2, 1) := by decide +kernel
theorem d_L_town_251 : decode method_4_code 251 = .ok (.invokestatic 16, 3) := by decide +kernel
theorem d_L_town_254 : decode method_4_code 254 = .ok (.invokevirtual 34, 3) := by decide +kernel
theorem d_L_town_257 : decode method_4_code 257 = .ok (.iload 6, 2) := by decide +kernel
theorem d_L_town_259 : decode method_4_code 259 = .ok (.if_icmp .eq 5, 3) := by decide +kernel
theorem d_L_town_262 : decode method_4_code 262 = .ok (.iconst 0, 1) := by decide +kernel
theorem d_L_town_263 : decode method_4_code 263 = .ok (.ireturn, 1) := by decide +kernel
theorem d_L_town_264 : decode method_4_code 264 = .ok (.iinc 6 1, 3) := by decide +kernel
theorem d_L_town_267 : decode method_4_code 267 = .ok (.goto (-44), 3) := by decide +kernel
theorem d_L_town_270 : decode method_4_code 270 = .ok (.aload_n 1, 1) := by decide +kernel
theorem d_L_town_271 : decode method_4_code 271 = .ok (.iload_n 2, 1) := by decide +kernel
theorem d_L_town_272 : decode method_4_code 272 = .ok (.bipush 10, 2) := by decide +kernel
theorem d_L_town_274 : decode method_4_code 274 = .ok (.iadd, 1) := by decide +kernel
theorem d_L_town_275 : decode method_4_code 275 = .ok (.invokestatic 10, 3) := by decide +kernel
theorem d_L_town_278 : decode method_4_code 278 = .ok (.istore 6, 2) := by decide +kernel
theorem d_L_town_280 : decode method_4_code 280 = .ok (.aload_n 0, 1) := by decide +kernel
theorem d_L_town_281 : decode method_4_code 281 = .ok (.iconst 0, 1) := by decide +kernel
theorem d_L_town_282 : decode method_4_code 282 = .ok (.iconst 1, 1) := by decide +kernel
theorem d_L_town_283 : decode method_4_code 283 = .ok (.iload 6, 2) := by decide +kernel
theorem d_L_town_285 : decode method_4_code 285 = .ok (.iconst 4, 1) := by decide +kernel
theorem d_L_town_286 : decode method_4_code 286 = .ok (.invokestatic 16, 3) := by decide +kernel
theorem d_L_town_289 : decode method_4_code 289 = .ok (.iadd, 1) := by decide +kernel
theorem d_L_town_290 : decode method_4_code 290 = .ok (.invokevirtual 37, 3) := by decide +kernel
theorem d_L_town_293 : decode method_4_code 293 = .ok (.iconst 2, 1) := by decide +kernel
theorem d_L_town_294 : decode method_4_code 294 = .ok (.if_icmp .ne 131, 3) := by decide +kernel
theorem d_L_town_297 : decode method_4_code 297 = .ok (.aload_n 0, 1) := by decide +kernel
theorem d_L_town_298 : decode method_4_code 298 = .ok (.iconst 1, 1) := by decide +kernel
theorem d_L_town_299 : decode method_4_code 299 = .ok (.bipush 20, 2) := by decide +kernel
theorem d_L_town_301 : decode method_4_code 301 = .ok (.iload 6, 2) := by decide +kernel
theorem d_L_town_303 : decode method_4_code 303 = .ok (.iconst 2, 1) := by decide +kernel
theorem d_L_town_304 : decode method_4_code 304 = .ok (.ishr, 1) := by decide +kernel
theorem d_L_town_305 : decode method_4_code 305 = .ok (.iload 6, 2) := by decide +kernel
theorem d_L_town_307 : decode method_4_code 307 = .ok (.bipush 20, 2) := by decide +kernel
theorem d_L_town_309 : decode method_4_code 309 = .ok (.ishr, 1) := by decide +kernel
theorem d_L_town_310 : decode method_4_code 310 = .ok (.iconst 2, 1) := by decide +kernel
theorem d_L_town_311 : decode method_4_code 311 = .ok (.invokestatic 16, 3) := by decide +kernel
theorem d_L_town_314 : decode method_4_code 314 = .ok (.ifCond .ne 8, 3) := by decide +kernel
theorem d_L_town_317 : decode method_4_code 317 = .ok (.bipush 60, 2) := by decide +kernel
theorem d_L_town_319 : decode method_4_code 319 = .ok (.goto 6, 3) := by decide +kernel
theorem d_L_town_322 : decode method_4_code 322 = .ok (.sipush 400, 3) := by decide +kernel
theorem d_L_town_325 : decode method_4_code 325 = .ok (.invokestatic 16, 3) := by decide +kernel
theorem d_L_town_328 : decode method_4_code 328 = .ok (.iadd, 1) := by decide +kernel
theorem d_L_town_329 : decode method_4_code 329 = .ok (.invokevirtual 37, 3) := by decide +kernel
end
section
theorem d_L_town_332 : decode method_4_code 332 = .ok (.sipush 300, 3) := by decide +kernel
theorem d_L_town_335 : decode method_4_code 335 = .ok (.if_icmp .ne 90, 3) := by decide +kernel
theorem d_L_town_338 : decode method_4_code 338 = .ok (.aload_n 0, 1) := by decide +kernel
theorem d_L_town_339 : decode method_4_code 339 = .ok (.iconst 3, 1) := by decide +kernel
theorem d_L_town_340 : decode method_4_code 340 = .ok (.bipush 100, 2) := by decide +kernel
theorem d_L_town_342 : decode method_4_code 342 = .ok (.iload 6, 2) := by decide +kernel
theorem d_L_town_344 : decode method_4_code 344 = .ok (.bipush 8, 2) := by decide +kernel
theorem d_L_town_346 : decode method_4_code 346 = .ok (.ishr, 1) := by decide +kernel
theorem d_L_town_347 : decode method_4_code 347 = .ok (.iload 6, 2) := by decide +kernel
theorem d_L_town_349 : decode method_4_code 349 = .ok (.bipush 21, 2) := by decide +kernel
theorem d_L_town_351 : decode method_4_code 351 = .ok (.ishr, 1) := by decide +kernel
theorem d_L_town_352 : decode method_4_code 352 = .ok (.iconst 2, 1) := by decide +kernel
theorem d_L_town_353 : decode method_4_code 353 = .ok (.invokestatic 16, 3) := by decide +kernel
theorem d_L_town_356 : decode method_4_code 356 = .ok (.ifCond .ne 9, 3) := by decide +kernel
theorem d_L_town_359 : decode method_4_code 359 = .ok (.sipush 900, 3) := by decide +kernel
theorem d_L_town_362 : decode method_4_code 362 = .ok (.goto 6, 3) := by decide +kernel
theorem d_L_town_365 : decode method_4_code 365 = .ok (.sipush 3000, 3) := by decide +kernel
theorem d_L_town_368 : decode method_4_code 368 = .ok (.invokestatic 16, 3) := by decide +kernel
theorem d_L_town_371 : decode method_4_code 371 = .ok (.iadd, 1) := by decide +kernel
theorem d_L_town_372 : decode method_4_code 372 = .ok (.invokevirtual 37, 3) := by decide +kernel
theorem d_L_town_375 : decode method_4_code 375 = .ok (.sipush 2400, 3) := by decide +kernel
theorem d_L_town_378 : decode method_4_code 378 = .ok (.if_icmp .ne 47, 3) := by decide +kernel
theorem d_L_town_381 : decode method_4_code 381 = .ok (.aload_n 0, 1) := by decide +kernel
theorem d_L_town_382 : decode method_4_code 382 = .ok (.iconst 4, 1) := by decide +kernel
theorem d_L_town_383 : decode method_4_code 383 = .ok (.iload 6, 2) := by decide +kernel
theorem d_L_town_385 : decode method_4_code 385 = .ok (.bipush 12, 2) := by decide +kernel
theorem d_L_town_387 : decode method_4_code 387 = .ok (.ishr, 1) := by decide +kernel
theorem d_L_town_388 : decode method_4_code 388 = .ok (.sipush 1001, 3) := by decide +kernel
theorem d_L_town_391 : decode method_4_code 391 = .ok (.invokestatic 16, 3) := by decide +kernel
theorem d_L_town_394 : decode method_4_code 394 = .ok (.invokevirtual 37, 3) := by decide +kernel
theorem d_L_town_397 : decode method_4_code 397 = .ok (.sipush 200, 3) := by decide +kernel
theorem d_L_town_400 : decode method_4_code 400 = .ok (.if_icmp .ne 25, 3) := by decide +kernel
theorem d_L_town_403 : decode method_4_code 403 = .ok (.aload_n 0, 1) := by decide +kernel
theorem d_L_town_404 : decode method_4_code 404 = .ok (.iconst 2, 1) := by decide +kernel
theorem d_L_town_405 : decode method_4_code 405 = .ok (.iload 6, 2) := by decide +kernel
theorem d_L_town_407 : decode method_4_code 407 = .ok (.bipush 16, 2) := by decide +kernel
theorem d_L_town_409 : decode method_4_code 409 = .ok (.ishr, 1) := by decide +kernel
theorem d_L_town_410 : decode method_4_code 410 = .ok (.iconst 3, 1) := by decide +kernel
theorem d_L_town_411 : decode method_4_code 411 = .ok (.invokestatic 16, 3) := by decide +kernel
theorem d_L_town_414 : decode method_4_code 414 = .ok (.invokevirtual 37, 3) := by decide +kernel
theorem d_L_town_417 : decode method_4_code 417 = .ok (.iconst 1, 1) := by decide +kernel
theorem d_L_town_418 : decode method_4_code 418 = .ok (.if_icmp .ne 7, 3) := by decide +kernel
theorem d_L_town_421 : decode method_4_code 421 = .ok (.iconst 1, 1) := by decide +kernel
theorem d_L_town_422 : decode method_4_code 422 = .ok (.goto 4, 3) := by decide +kernel
theorem d_L_town_425 : decode method_4_code 425 = .ok (.iconst 0, 1) := by decide +kernel
theorem d_L_town_426 : decode method_4_code 426 = .ok (.ireturn, 1) := by decide +kernel
end
section
theorem d_L_cell_0 : decode method_2_code 0 = .ok (.iload_n 1, 1) := by decide +kernel
theorem d_L_cell_1 : decode method_2_code 1 = .ok (.aload_n 0, 1) := by decide +kernel
theorem d_L_cell_2 : decode method_2_code 2 = .ok (.arraylength, 1) := by decide +kernel
theorem d_L_cell_3 : decode method_2_code 3 = .ok (.if_icmp .ge 9, 3) := by decide +kernel
theorem d_L_cell_6 : decode method_2_code 6 = .ok (.aload_n 0, 1) := by decide +kernel
theorem d_L_cell_7 : decode method_2_code 7 = .ok (.iload_n 1, 1) := by decide +kernel
theorem d_L_cell_8 : decode method_2_code 8 = .ok (.iaload, 1) := by decide +kernel
theorem d_L_cell_9 : decode method_2_code 9 = .ok (.goto 10, 3) := by decide +kernel
theorem d_L_cell_12 : decode method_2_code 12 = .ok (.ldc 7, 2) := by decide +kernel
theorem d_L_cell_14 : decode method_2_code 14 = .ok (.iload_n 1, 1) := by decide +kernel
theorem d_L_cell_15 : decode method_2_code 15 = .ok (.imul, 1) := by decide +kernel
theorem d_L_cell_16 : decode method_2_code 16 = .ok (.ldc 8, 2) := by decide +kernel
theorem d_L_cell_18 : decode method_2_code 18 = .ok (.iadd, 1) := by decide +kernel
theorem d_L_cell_19 : decode method_2_code 19 = .ok (.ireturn, 1) := by decide +kernel
def m_L_cell (x1 : Int32) (L : Nat) (xs : Nat → Int32) (Q : Int32 → St → Prop) (σ : St) : Prop :=
  (((Int32.ofNat L) ≤ x1 → Q (((86028157 : Int32) * x1) + (32452867 : Int32)) σ) ∧ (¬ (Int32.ofNat L) ≤ x1 → vp_in x1 L ∧ Q (xs (x1).toNatClampNeg) σ))
theorem d_L_low_0 : decode method_3_code 0 = .ok (.iload_n 0, 1) := by decide +kernel
theorem d_L_low_1 : decode method_3_code 1 = .ok (.ldc 9, 2) := by decide +kernel
theorem d_L_low_3 : decode method_3_code 3 = .ok (.iand, 1) := by decide +kernel
theorem d_L_low_4 : decode method_3_code 4 = .ok (.iload_n 1, 1) := by decide +kernel
theorem d_L_low_5 : decode method_3_code 5 = .ok (.irem, 1) := by decide +kernel
theorem d_L_low_6 : decode method_3_code 6 = .ok (.ireturn, 1) := by decide +kernel
def m_L_low (x0 : Int32) (x1 : Int32) (Q : Int32 → St → Prop) (σ : St) : Prop :=
  ¬ x1 = 0 ∧ Q ((x0 &&& (2147483647 : Int32)) - (x0 &&& (2147483647 : Int32)) / x1 * x1) σ
def m_L_town_368 (r0 : Nat) (x6 : Int32) (L : Nat) (xs : Nat → Int32) (Q : Int32 → St → Prop) (t0 : Int32) (t1 : Int32) (t2 : Int32) (t3 : Int32) (t4 : Nat) (σ : St) : Prop :=
  m_L_low t1 t0 (fun (v_2 : Int32) (σ_1 : St) => m_9_set t4 t3 (t2 + v_2) (fun (v_4 : Int32) (σ_3 : St) => ((¬ v_4 = (2400 : Int32) → Q (0 : Int32) σ_3) ∧ (v_4 = (2400 : Int32) → m_L_low (x6 >>> ((12 : Int32) &&& 31)) (1001 : Int32) (fun (v_6 : Int32) (σ_5 : St) => m_9_set r0 (4 : Int32) v_6 (fun (v_8 : Int32) (σ_7 : St) => ((¬ v_8 = (200 : Int32) → Q (0 : Int32) σ_7) ∧ (v_8 = (200 : Int32) → m_L_low (x6 >>> ((16 : Int32) &&& 31)) (3 : Int32) (fun (v_10 : Int32) (σ_9 : St) => m_9_set r0 (2 : Int32) v_10 (fun (v_12 : Int32) (σ_11 : St) => ((¬ v_12 = (1 : Int32) → Q (0 : Int32) σ_11) ∧ (v_12 = (1 : Int32) → Q (1 : Int32) σ_11))) σ_9) σ_7))) σ_5) σ_3))) σ_1) σ
def m_L_town_325 (r0 : Nat) (x6 : Int32) (L : Nat) (xs : Nat → Int32) (Q : Int32 → St → Prop) (t0 : Int32) (t1 : Int32) (t2 : Int32) (t3 : Int32) (t4 : Nat) (σ : St) : Prop :=
  m_L_low t1 t0 (fun (v_2 : Int32) (σ_1 : St) => m_9_set t4 t3 (t2 + v_2) (fun (v_4 : Int32) (σ_3 : St) => ((¬ v_4 = (300 : Int32) → Q (0 : Int32) σ_3) ∧ (v_4 = (300 : Int32) → m_L_low (x6 >>> ((21 : Int32) &&& 31)) (2 : Int32) (fun (v_6 : Int32) (σ_5 : St) => ((¬ v_6 = 0 → m_L_town_368 r0 x6 L xs Q  (3000 : Int32) (x6 >>> ((8 : Int32) &&& 31)) (100 : Int32) (3 : Int32) r0 σ_5) ∧ (v_6 = 0 → m_L_town_368 r0 x6 L xs Q  (900 : Int32) (x6 >>> ((8 : Int32) &&& 31)) (100 : Int32) (3 : Int32) r0 σ_5))) σ_3))) σ_1) σ
def m_L_town_223 (r0 : Nat) (x2 : Int32) (x3 : Int32) (x4 : Int32) (x5 : Int32) (L : Nat) (xs : Nat → Int32) (Q : Int32 → St → Prop) (B223 : Int32 → St → Prop) (x6 : Int32) (σ : St) : Prop :=
  ((x4 ≤ x6 → m_L_cell (x2 + (10 : Int32)) L xs (fun (v_2 : Int32) (σ_1 : St) => m_L_low v_2 (4 : Int32) (fun (v_4 : Int32) (σ_3 : St) => m_9_set r0 (0 : Int32) ((1 : Int32) + v_4) (fun (v_6 : Int32) (σ_5 : St) => ((¬ v_6 = (2 : Int32) → Q (0 : Int32) σ_5) ∧ (v_6 = (2 : Int32) → m_L_low (v_2 >>> ((20 : Int32) &&& 31)) (2 : Int32) (fun (v_8 : Int32) (σ_7 : St) => ((¬ v_8 = 0 → m_L_town_325 r0 v_2 L xs Q  (400 : Int32) (v_2 >>> ((2 : Int32) &&& 31)) (20 : Int32) (1 : Int32) r0 σ_7) ∧ (v_8 = 0 → m_L_town_325 r0 v_2 L xs Q  (60 : Int32) (v_2 >>> ((2 : Int32) &&& 31)) (20 : Int32) (1 : Int32) r0 σ_7))) σ_5))) σ_3) σ_1) σ) ∧ (¬ x4 ≤ x6 → m_L_low (x5 >>> (((3 : Int32) * x6) &&& 31)) x3 (fun (v_10 : Int32) (σ_9 : St) => m_L_low (x5 >>> (((16 : Int32) + x6) &&& 31)) (2 : Int32) (fun (v_12 : Int32) (σ_11 : St) => m_9_addLeg r0 v_10 v_12 (fun (v_14 : Int32) (σ_13 : St) => ((v_14 = x6 → ∀ x6_15 : Int32, x6_15 = x6 + 1 → B223 x6_15 σ_13) ∧ (¬ v_14 = x6 → Q (0 : Int32) σ_13))) σ_11) σ_9) σ))
def m_L_town_138 (r0 : Nat) (x2 : Int32) (x3 : Int32) (x4 : Int32) (x5 : Int32) (x7 : Int32) (x8 : Int32) (x9 : Int32) (B3 : Int32 → St → Prop) (B82 : Int32 → St → Prop) (L : Nat) (xs : Nat → Int32) (Q : Int32 → St → Prop) (t0 : Int32) (t1 : Int32) (σ : St) : Prop :=
  m_L_low t1 t0 (fun (v_2 : Int32) (σ_1 : St) => ¬ x7 = 0 ∧ ¬ x7 = 0 ∧ m_9_lay r0 x5 (x8 / x7) (x8 - x8 / x7 * x7) v_2 (fun (v_4 : Int32) (σ_3 : St) => ((¬ v_4 = 0 → Q (0 : Int32) σ_3) ∧ (v_4 = 0 → m_L_low (x9 >>> ((12 : Int32) &&& 31)) (5 : Int32) (fun (v_6 : Int32) (σ_5 : St) => ((¬ v_6 = 0 → ∀ x8_7 : Int32, x8_7 = x8 + 1 → B82 x8_7 σ_5) ∧ (v_6 = 0 → ¬ x7 = 0 ∧ ¬ x7 = 0 ∧ m_9_park r0 x5 (x8 / x7) (x8 - x8 / x7 * x7) (1 : Int32) (fun (v_9 : Int32) (σ_8 : St) => ((v_9 = 0 → ∀ x8_10 : Int32, x8_10 = x8 + 1 → B82 x8_10 σ_8) ∧ (¬ v_9 = 0 → Q (0 : Int32) σ_8))) σ_5))) σ_3))) σ_1) σ
def m_L_town_82 (r0 : Nat) (x2 : Int32) (x3 : Int32) (x4 : Int32) (x5 : Int32) (x7 : Int32) (B3 : Int32 → St → Prop) (L : Nat) (xs : Nat → Int32) (Q : Int32 → St → Prop) (B82 : Int32 → St → Prop) (x8 : Int32) (σ : St) : Prop :=
  ((((2 : Int32) * x7) ≤ x8 → ∀ x5_1 : Int32, x5_1 = x5 + 1 → B3 x5_1 σ) ∧ (¬ ((2 : Int32) * x7) ≤ x8 → m_L_cell ((x2 + (3 : Int32)) + (x8 - x8 / (6 : Int32) * (6 : Int32))) L xs (fun (v_3 : Int32) (σ_2 : St) => ∀ x9_4 : Int32, x9_4 = (v_3 >>> ((((3 : Int32) * x5) + (x8 / (6 : Int32))) &&& 31)) → m_L_low (x9_4 >>> ((9 : Int32) &&& 31)) (3 : Int32) (fun (v_6 : Int32) (σ_5 : St) => ((¬ v_6 = 0 → m_L_town_138 r0 x2 x3 x4 x5 x7 x8 x9_4 B3 B82 L xs Q  (40 : Int32) x9_4 σ_5) ∧ (v_6 = 0 → m_L_town_138 r0 x2 x3 x4 x5 x7 x8 x9_4 B3 B82 L xs Q  (100 : Int32) x9_4 σ_5))) σ_2) σ))
def m_L_town_56 (r0 : Nat) (x2 : Int32) (x3 : Int32) (x4 : Int32) (x5 : Int32) (x6 : Int32) (x7 : Int32) (B3 : Int32 → St → Prop) (L : Nat) (xs : Nat → Int32) (Q : Int32 → St → Prop) (t0 : Int32) (t1 : Int32) (t2 : Int32) (t3 : Nat) (σ : St) : Prop :=
  m_L_low t1 t0 (fun (v_2 : Int32) (σ_1 : St) => m_L_low (x6 >>> ((11 : Int32) &&& 31)) (10 : Int32) (fun (v_4 : Int32) (σ_3 : St) => m_9_addStreet t3 t2 v_2 v_4 (fun (v_6 : Int32) (σ_5 : St) => ((v_6 = x5 → itN (m_L_town_82 r0 x2 x3 x4 x5 x7 B3 L xs Q) (fun _ _ => False) FU (0 : Int32) σ_5) ∧ (¬ v_6 = x5 → Q (0 : Int32) σ_5))) σ_3) σ_1) σ
def m_L_town_3 (r0 : Nat) (x2 : Int32) (x3 : Int32) (x4 : Int32) (L : Nat) (xs : Nat → Int32) (Q : Int32 → St → Prop) (B3 : Int32 → St → Prop) (x5 : Int32) (σ : St) : Prop :=
  ((x3 ≤ x5 → m_L_cell (x2 + (9 : Int32)) L xs (fun (v_2 : Int32) (σ_1 : St) => itN (m_L_town_223 r0 x2 x3 x4 v_2 L xs Q) (fun _ _ => False) FU (0 : Int32) σ_1) σ) ∧ (¬ x3 ≤ x5 → m_L_cell (x2 + x5) L xs (fun (v_4 : Int32) (σ_3 : St) => m_L_low v_4 (6 : Int32) (fun (v_6 : Int32) (σ_5 : St) => ∀ x7_7 : Int32, x7_7 = ((1 : Int32) + v_6) → m_L_low (v_4 >>> ((9 : Int32) &&& 31)) (3 : Int32) (fun (v_9 : Int32) (σ_8 : St) => ((¬ v_9 = 0 → m_L_town_56 r0 x2 x3 x4 x5 v_4 x7_7 B3 L xs Q  (10 : Int32) (v_4 >>> ((3 : Int32) &&& 31)) x7_7 r0 σ_8) ∧ (v_9 = 0 → m_L_town_56 r0 x2 x3 x4 x5 v_4 x7_7 B3 L xs Q  (61 : Int32) (v_4 >>> ((3 : Int32) &&& 31)) x7_7 r0 σ_8))) σ_5) σ_3) σ))
def m_L_town (r0 : Nat) (x2 : Int32) (x3 : Int32) (x4 : Int32) (L : Nat) (xs : Nat → Int32) (Q : Int32 → St → Prop) (σ : St) : Prop :=
  itN (m_L_town_3 r0 x2 x3 x4 L xs Q) (fun _ _ => False) FU (0 : Int32) σ
theorem d_L_balanced_0 : decode method_5_code 0 = .ok (.aload_n 0, 1) := by decide +kernel
theorem d_L_balanced_1 : decode method_5_code 1 = .ok (.bipush 6, 2) := by decide +kernel
theorem d_L_balanced_3 : decode method_5_code 3 = .ok (.invokevirtual 40, 3) := by decide +kernel
theorem d_L_balanced_6 : decode method_5_code 6 = .ok (.aload_n 0, 1) := by decide +kernel
theorem d_L_balanced_7 : decode method_5_code 7 = .ok (.iconst 4, 1) := by decide +kernel
theorem d_L_balanced_8 : decode method_5_code 8 = .ok (.invokevirtual 44, 3) := by decide +kernel
theorem d_L_balanced_11 : decode method_5_code 11 = .ok (.iadd, 1) := by decide +kernel
theorem d_L_balanced_12 : decode method_5_code 12 = .ok (.aload_n 0, 1) := by decide +kernel
theorem d_L_balanced_13 : decode method_5_code 13 = .ok (.iconst 0, 1) := by decide +kernel
theorem d_L_balanced_14 : decode method_5_code 14 = .ok (.invokevirtual 40, 3) := by decide +kernel
theorem d_L_balanced_17 : decode method_5_code 17 = .ok (.aload_n 0, 1) := by decide +kernel
theorem d_L_balanced_18 : decode method_5_code 18 = .ok (.iconst 1, 1) := by decide +kernel
theorem d_L_balanced_19 : decode method_5_code 19 = .ok (.invokevirtual 40, 3) := by decide +kernel
theorem d_L_balanced_22 : decode method_5_code 22 = .ok (.iadd, 1) := by decide +kernel
theorem d_L_balanced_23 : decode method_5_code 23 = .ok (.aload_n 0, 1) := by decide +kernel
theorem d_L_balanced_24 : decode method_5_code 24 = .ok (.iconst 2, 1) := by decide +kernel
theorem d_L_balanced_25 : decode method_5_code 25 = .ok (.invokevirtual 40, 3) := by decide +kernel
theorem d_L_balanced_28 : decode method_5_code 28 = .ok (.isub, 1) := by decide +kernel
theorem d_L_balanced_29 : decode method_5_code 29 = .ok (.aload_n 0, 1) := by decide +kernel
theorem d_L_balanced_30 : decode method_5_code 30 = .ok (.iconst 3, 1) := by decide +kernel
theorem d_L_balanced_31 : decode method_5_code 31 = .ok (.invokevirtual 40, 3) := by decide +kernel
theorem d_L_balanced_34 : decode method_5_code 34 = .ok (.isub, 1) := by decide +kernel
theorem d_L_balanced_35 : decode method_5_code 35 = .ok (.aload_n 0, 1) := by decide +kernel
theorem d_L_balanced_36 : decode method_5_code 36 = .ok (.iconst 4, 1) := by decide +kernel
theorem d_L_balanced_37 : decode method_5_code 37 = .ok (.invokevirtual 40, 3) := by decide +kernel
theorem d_L_balanced_40 : decode method_5_code 40 = .ok (.isub, 1) := by decide +kernel
theorem d_L_balanced_41 : decode method_5_code 41 = .ok (.aload_n 0, 1) := by decide +kernel
theorem d_L_balanced_42 : decode method_5_code 42 = .ok (.iconst 5, 1) := by decide +kernel
theorem d_L_balanced_43 : decode method_5_code 43 = .ok (.invokevirtual 40, 3) := by decide +kernel
theorem d_L_balanced_46 : decode method_5_code 46 = .ok (.isub, 1) := by decide +kernel
theorem d_L_balanced_47 : decode method_5_code 47 = .ok (.if_icmp .ne 7, 3) := by decide +kernel
theorem d_L_balanced_50 : decode method_5_code 50 = .ok (.iconst 1, 1) := by decide +kernel
theorem d_L_balanced_51 : decode method_5_code 51 = .ok (.goto 4, 3) := by decide +kernel
theorem d_L_balanced_54 : decode method_5_code 54 = .ok (.iconst 0, 1) := by decide +kernel
theorem d_L_balanced_55 : decode method_5_code 55 = .ok (.ireturn, 1) := by decide +kernel
def m_L_balanced (r0 : Nat) (Q : Int32 → St → Prop) (σ : St) : Prop :=
  m_9_account r0 (6 : Int32) (fun (v_2 : Int32) (σ_1 : St) => m_9_count r0 (4 : Int32) (fun (v_4 : Int32) (σ_3 : St) => m_9_account r0 (0 : Int32) (fun (v_6 : Int32) (σ_5 : St) => m_9_account r0 (1 : Int32) (fun (v_8 : Int32) (σ_7 : St) => m_9_account r0 (2 : Int32) (fun (v_10 : Int32) (σ_9 : St) => m_9_account r0 (3 : Int32) (fun (v_12 : Int32) (σ_11 : St) => m_9_account r0 (4 : Int32) (fun (v_14 : Int32) (σ_13 : St) => m_9_account r0 (5 : Int32) (fun (v_16 : Int32) (σ_15 : St) => ((¬ (v_2 + v_4) = (((((v_6 + v_8) - v_10) - v_12) - v_14) - v_16) → Q (0 : Int32) σ_15) ∧ ((v_2 + v_4) = (((((v_6 + v_8) - v_10) - v_12) - v_14) - v_16) → Q (1 : Int32) σ_15))) σ_13) σ_11) σ_9) σ_7) σ_5) σ_3) σ_1) σ
section MB
variable {p : Program} {l : Launch} {e : Env} {R : Room} {s : State} {m : MethodId} {args : Array Value} {below : List Frame} {meth : Method} {c : Code} {cells slots : Nat} {QW : State → Prop}
variable {D : va_G} {ac : Nat → ClassId} {ad : Nat → Nat} {st : SS} {A : Nat → Prop}
set_option maxHeartbeats 4000000 in
set_option maxRecDepth 100000 in
theorem w_L_cell_0 {x1 : Int32} {Q : Int32 → St → Prop} {σ : St} {H : Heap} {locs : List Loc} {ls : Array Slot} (S : SC A D ac st p m c method_2_code 2 s args "SweeperRoundsLaw" R cells slots 0 0) (hR : RtI A D ac ad p l e R s m args below meth c method_2_code cells slots QW Q) (hG : DG A D ac ad s σ H locs) (hl : lv_has ls 2 [(0, .ref (st.1 3)), (1, .int x1)]) (hf : m_L_cell x1 st.2.1 st.2.2 Q σ) : W p l e R s m args below meth c H locs cells slots QW (F0 m 0 ls []) := by
  have hx := S.1.1
  have hb := S.1.2.1
  unfold m_L_cell at hf
  refine lv_iload_n hx hb d_L_cell_0 rfl (lv_at hl 1 rfl) ?_
  refine lv_aload_n hx hb d_L_cell_1 rfl (lv_at hl 0 rfl) ?_
  refine msl S hG d_L_cell_2 ?_
  refine lv_icmp_ge (tgt := 12) hx hb d_L_cell_3 (by decide) (fun hc => ?_) (fun hc => ?_)
  · have hf := hf.1 hc
    refine lv_ldc (v := 86028157) hx hb S.1.2.2.2.1 (S.1.2.2.2.2 _ wm_472) d_L_cell_12 ?_
    refine lv_iload_n hx hb d_L_cell_14 rfl (lv_at hl 1 rfl) ?_
    refine lv_imul hx hb d_L_cell_15 ?_
    refine lv_ldc (v := 32452867) hx hb S.1.2.2.2.1 (S.1.2.2.2.2 _ wm_473) d_L_cell_16 ?_
    refine lv_iadd hx hb d_L_cell_18 ?_
    exact hR _ _ _ _ _ _ hG hf d_L_cell_19
  · have hf := hf.2 hc
    refine lv_aload_n hx hb d_L_cell_6 rfl (lv_at hl 0 rfl) ?_
    refine lv_iload_n hx hb d_L_cell_7 rfl (lv_at hl 1 rfl) ?_
    refine mss S hG hf.1 d_L_cell_8 ?_
    have hf := hf.2
    refine lv_goto (tgt := 19) hx hb d_L_cell_9 (by decide) ?_
    exact hR _ _ _ _ _ _ hG hf d_L_cell_19
theorem c_L_cell (l : Launch) {D : va_G} {ac : Nat → ClassId} {ad : Nat → Nat} {st : SS} {A : Nat → Prop} {σ : St} {x1 : Int32} {Q : Int32 → St → Prop} (hf : m_L_cell x1 st.2.1 st.2.2 Q σ) : Met l y_L_cell (Cond.code y_L_cell method_2_code 2 (some .int) :: wA) { frames := 0, cells := 0, slots := 0, locals := 0 } (va_Pc [.ref (st.1 3), .int x1] (GSt A D ac ad st σ)) (va_Qi Q (GSt A D ac ad st) A) 0 0 A :=
  mkI l (by decide +kernel) rfl [.ref (st.1 3), .int x1] (Nat.le_of_ble_eq_true rfl) (fun p e s m args below meth c ls QW S hR hG hl => w_L_cell_0 S hR hG hl hf)
set_option maxHeartbeats 4000000 in
set_option maxRecDepth 100000 in
theorem w_L_low_0 {x0 : Int32} {x1 : Int32} {Q : Int32 → St → Prop} {σ : St} {H : Heap} {locs : List Loc} {ls : Array Slot} (S : SC A D ac st p m c method_3_code 2 s args "SweeperRoundsLaw" R cells slots 0 0) (hR : RtI A D ac ad p l e R s m args below meth c method_3_code cells slots QW Q) (hG : DG A D ac ad s σ H locs) (hl : lv_has ls 2 [(0, .int x0), (1, .int x1)]) (hf : m_L_low x0 x1 Q σ) : W p l e R s m args below meth c H locs cells slots QW (F0 m 0 ls []) := by
  have hx := S.1.1
  have hb := S.1.2.1
  unfold m_L_low at hf
  refine lv_iload_n hx hb d_L_low_0 rfl (lv_at hl 0 rfl) ?_
  refine lv_ldc (v := 2147483647) hx hb S.1.2.2.2.1 (S.1.2.2.2.2 _ wm_477) d_L_low_1 ?_
  refine lv_iand hx hb d_L_low_3 ?_
  refine lv_iload_n hx hb d_L_low_4 rfl (lv_at hl 1 rfl) ?_
  refine lv_irem hx hb d_L_low_5 hf.1 ?_
  have hf := hf.2
  exact hR _ _ _ _ _ _ hG hf d_L_low_6
theorem c_L_low (l : Launch) {D : va_G} {ac : Nat → ClassId} {ad : Nat → Nat} {st : SS} {A : Nat → Prop} {σ : St} {x0 : Int32} {x1 : Int32} {Q : Int32 → St → Prop} (hf : m_L_low x0 x1 Q σ) : Met l y_L_low (Cond.code y_L_low method_3_code 2 (some .int) :: wA) { frames := 0, cells := 0, slots := 0, locals := 0 } (va_Pc [.int x0, .int x1] (GSt A D ac ad st σ)) (va_Qi Q (GSt A D ac ad st) A) 0 0 A :=
  mkI l (by decide +kernel) rfl [.int x0, .int x1] (Nat.le_of_ble_eq_true rfl) (fun p e s m args below meth c ls QW S hR hG hl => w_L_low_0 S hR hG hl hf)
set_option maxHeartbeats 4000000 in
set_option maxRecDepth 100000 in
theorem w_L_town_368 {r0 : Nat} {x6 : Int32} {Q : Int32 → St → Prop} {t0 : Int32} {t1 : Int32} {t2 : Int32} {t3 : Int32} {t4 : Nat} {σ : St} {H : Heap} {locs : List Loc} {ls : Array Slot} (S : SC A D ac st p m c method_4_code 11 s args "SweeperRoundsLaw" R cells slots 4 92) (hR : RtZ A D ac ad p l e R s m args below meth c method_4_code cells slots QW Q) (hk_r0 : kd r0 = 9) (hk_t4 : kd t4 = 9) (hG : DG A D ac ad s σ H locs) (hl : lv_has ls 11 [(0, .ref (ad r0)), (6, .int x6)]) (hf : m_L_town_368 r0 x6 st.2.1 st.2.2 Q t0 t1 t2 t3 t4 σ) : W p l e R s m args below meth c H locs cells slots QW (F0 m 368 ls [.int t0, .int t1, .int t2, .int t3, .ref (ad t4)]) := by
  have hx := S.1.1
  have hb := S.1.2.1
  unfold m_L_town_368 at hf
  refine iv_L_16 S hl.1 hG  (c_L_low l  hf) ⟨Nat.le_of_ble_eq_true rfl, Nat.le_of_ble_eq_true rfl⟩ (Nat.le_of_ble_eq_true rfl) d_L_town_368 (fun v_2 σ_1 hf H locs hG => ?_)
  refine lv_iadd hx hb d_L_town_371 ?_
  refine iv_L_37 S hl.1 hG hk_t4 (c_9_set l hk_t4 hf) ⟨Nat.le_of_ble_eq_true rfl, Nat.le_of_ble_eq_true rfl⟩ (Nat.le_of_ble_eq_true rfl) d_L_town_372 (fun v_4 σ_3 hf H locs hG => ?_)
  refine lv_sipush (v := (2400 : Int32)) hx hb d_L_town_375 (by decide) ?_
  refine lv_icmp_ne (tgt := 425) hx hb d_L_town_378 (by decide) (fun hc => ?_) (fun hc => ?_)
  · have hf := hf.1 hc
    refine lv_iconst (v := (0 : Int32)) hx hb d_L_town_425 (by decide) ?_
    exact hR _ _ _ _ _ _ hG (by unfold isB; decide) hf d_L_town_426
  · have hf := hf.2 hc
    refine lv_aload_n hx hb d_L_town_381 rfl (lv_at hl 0 rfl) ?_
    refine lv_iconst (v := (4 : Int32)) hx hb d_L_town_382 (by decide) ?_
    refine lv_iload hx hb d_L_town_383 (lv_at hl 1 rfl) ?_
    refine lv_bipush (v := (12 : Int32)) hx hb d_L_town_385 (by decide) ?_
    refine lv_ishr hx hb d_L_town_387 ?_
    refine lv_sipush (v := (1001 : Int32)) hx hb d_L_town_388 (by decide) ?_
    refine iv_L_16 S hl.1 hG  (c_L_low l  hf) ⟨Nat.le_of_ble_eq_true rfl, Nat.le_of_ble_eq_true rfl⟩ (Nat.le_of_ble_eq_true rfl) d_L_town_391 (fun v_6 σ_5 hf H locs hG => ?_)
    refine iv_L_37 S hl.1 hG hk_r0 (c_9_set l hk_r0 hf) ⟨Nat.le_of_ble_eq_true rfl, Nat.le_of_ble_eq_true rfl⟩ (Nat.le_of_ble_eq_true rfl) d_L_town_394 (fun v_8 σ_7 hf H locs hG => ?_)
    refine lv_sipush (v := (200 : Int32)) hx hb d_L_town_397 (by decide) ?_
    refine lv_icmp_ne (tgt := 425) hx hb d_L_town_400 (by decide) (fun hc => ?_) (fun hc => ?_)
    · have hf := hf.1 hc
      refine lv_iconst (v := (0 : Int32)) hx hb d_L_town_425 (by decide) ?_
      exact hR _ _ _ _ _ _ hG (by unfold isB; decide) hf d_L_town_426
    · have hf := hf.2 hc
      refine lv_aload_n hx hb d_L_town_403 rfl (lv_at hl 0 rfl) ?_
      refine lv_iconst (v := (2 : Int32)) hx hb d_L_town_404 (by decide) ?_
      refine lv_iload hx hb d_L_town_405 (lv_at hl 1 rfl) ?_
      refine lv_bipush (v := (16 : Int32)) hx hb d_L_town_407 (by decide) ?_
      refine lv_ishr hx hb d_L_town_409 ?_
      refine lv_iconst (v := (3 : Int32)) hx hb d_L_town_410 (by decide) ?_
      refine iv_L_16 S hl.1 hG  (c_L_low l  hf) ⟨Nat.le_of_ble_eq_true rfl, Nat.le_of_ble_eq_true rfl⟩ (Nat.le_of_ble_eq_true rfl) d_L_town_411 (fun v_10 σ_9 hf H locs hG => ?_)
      refine iv_L_37 S hl.1 hG hk_r0 (c_9_set l hk_r0 hf) ⟨Nat.le_of_ble_eq_true rfl, Nat.le_of_ble_eq_true rfl⟩ (Nat.le_of_ble_eq_true rfl) d_L_town_414 (fun v_12 σ_11 hf H locs hG => ?_)
      refine lv_iconst (v := (1 : Int32)) hx hb d_L_town_417 (by decide) ?_
      refine lv_icmp_ne (tgt := 425) hx hb d_L_town_418 (by decide) (fun hc => ?_) (fun hc => ?_)
      · have hf := hf.1 hc
        refine lv_iconst (v := (0 : Int32)) hx hb d_L_town_425 (by decide) ?_
        exact hR _ _ _ _ _ _ hG (by unfold isB; decide) hf d_L_town_426
      · have hf := hf.2 hc
        refine lv_iconst (v := (1 : Int32)) hx hb d_L_town_421 (by decide) ?_
        refine lv_goto (tgt := 426) hx hb d_L_town_422 (by decide) ?_
        exact hR _ _ _ _ _ _ hG (by unfold isB; decide) hf d_L_town_426
set_option maxHeartbeats 4000000 in
set_option maxRecDepth 100000 in
theorem w_L_town_325 {r0 : Nat} {x6 : Int32} {Q : Int32 → St → Prop} {t0 : Int32} {t1 : Int32} {t2 : Int32} {t3 : Int32} {t4 : Nat} {σ : St} {H : Heap} {locs : List Loc} {ls : Array Slot} (S : SC A D ac st p m c method_4_code 11 s args "SweeperRoundsLaw" R cells slots 4 92) (hR : RtZ A D ac ad p l e R s m args below meth c method_4_code cells slots QW Q) (hk_r0 : kd r0 = 9) (hk_t4 : kd t4 = 9) (hG : DG A D ac ad s σ H locs) (hl : lv_has ls 11 [(0, .ref (ad r0)), (6, .int x6)]) (hf : m_L_town_325 r0 x6 st.2.1 st.2.2 Q t0 t1 t2 t3 t4 σ) : W p l e R s m args below meth c H locs cells slots QW (F0 m 325 ls [.int t0, .int t1, .int t2, .int t3, .ref (ad t4)]) := by
  have hx := S.1.1
  have hb := S.1.2.1
  unfold m_L_town_325 at hf
  refine iv_L_16 S hl.1 hG  (c_L_low l  hf) ⟨Nat.le_of_ble_eq_true rfl, Nat.le_of_ble_eq_true rfl⟩ (Nat.le_of_ble_eq_true rfl) d_L_town_325 (fun v_2 σ_1 hf H locs hG => ?_)
  refine lv_iadd hx hb d_L_town_328 ?_
  refine iv_L_37 S hl.1 hG hk_t4 (c_9_set l hk_t4 hf) ⟨Nat.le_of_ble_eq_true rfl, Nat.le_of_ble_eq_true rfl⟩ (Nat.le_of_ble_eq_true rfl) d_L_town_329 (fun v_4 σ_3 hf H locs hG => ?_)
  refine lv_sipush (v := (300 : Int32)) hx hb d_L_town_332 (by decide) ?_
  refine lv_icmp_ne (tgt := 425) hx hb d_L_town_335 (by decide) (fun hc => ?_) (fun hc => ?_)
  · have hf := hf.1 hc
    refine lv_iconst (v := (0 : Int32)) hx hb d_L_town_425 (by decide) ?_
    exact hR _ _ _ _ _ _ hG (by unfold isB; decide) hf d_L_town_426
  · have hf := hf.2 hc
    refine lv_aload_n hx hb d_L_town_338 rfl (lv_at hl 0 rfl) ?_
    refine lv_iconst (v := (3 : Int32)) hx hb d_L_town_339 (by decide) ?_
    refine lv_bipush (v := (100 : Int32)) hx hb d_L_town_340 (by decide) ?_
    refine lv_iload hx hb d_L_town_342 (lv_at hl 1 rfl) ?_
    refine lv_bipush (v := (8 : Int32)) hx hb d_L_town_344 (by decide) ?_
    refine lv_ishr hx hb d_L_town_346 ?_
    refine lv_iload hx hb d_L_town_347 (lv_at hl 1 rfl) ?_
    refine lv_bipush (v := (21 : Int32)) hx hb d_L_town_349 (by decide) ?_
    refine lv_ishr hx hb d_L_town_351 ?_
    refine lv_iconst (v := (2 : Int32)) hx hb d_L_town_352 (by decide) ?_
    refine iv_L_16 S hl.1 hG  (c_L_low l  hf) ⟨Nat.le_of_ble_eq_true rfl, Nat.le_of_ble_eq_true rfl⟩ (Nat.le_of_ble_eq_true rfl) d_L_town_353 (fun v_6 σ_5 hf H locs hG => ?_)
    refine lv_if_ne (tgt := 365) hx hb d_L_town_356 (by decide) (fun hc => ?_) (fun hc => ?_)
    · have hf := hf.1 hc
      refine lv_sipush (v := (3000 : Int32)) hx hb d_L_town_365 (by decide) ?_
      exact w_L_town_368 S hR hk_r0  hk_r0  hG (lv_sub hl [0, 1] rfl) hf
    · have hf := hf.2 hc
      refine lv_sipush (v := (900 : Int32)) hx hb d_L_town_359 (by decide) ?_
      refine lv_goto (tgt := 368) hx hb d_L_town_362 (by decide) ?_
      exact w_L_town_368 S hR hk_r0  hk_r0  hG (lv_sub hl [0, 1] rfl) hf
set_option maxHeartbeats 4000000 in
set_option maxRecDepth 100000 in
theorem w_L_town_223 {r0 : Nat} {x2 : Int32} {x3 : Int32} {x4 : Int32} {x5 : Int32} {Q : Int32 → St → Prop} {B223 : Int32 → St → Prop} {x6 : Int32} {σ : St} {H : Heap} {locs : List Loc} {ls : Array Slot} (S : SC A D ac st p m c method_4_code 11 s args "SweeperRoundsLaw" R cells slots 4 92) (hR : RtZ A D ac ad p l e R s m args below meth c method_4_code cells slots QW Q) (hk_r0 : kd r0 = 9) (hB223 : ∀ (x6 : Int32) (σ : St) (H : Heap) (locs : List Loc) (ls : Array Slot), DG A D ac ad s σ H locs → lv_has ls 11 [(0, .ref (ad r0)), (1, .ref (st.1 3)), (2, .int x2), (3, .int x3), (4, .int x4), (5, .int x5), (6, .int x6)] → B223 x6 σ → W p l e R s m args below meth c H locs cells slots QW (F0 m 223 ls [])) (hG : DG A D ac ad s σ H locs) (hl : lv_has ls 11 [(0, .ref (ad r0)), (1, .ref (st.1 3)), (2, .int x2), (3, .int x3), (4, .int x4), (5, .int x5), (6, .int x6)]) (hf : m_L_town_223 r0 x2 x3 x4 x5 st.2.1 st.2.2 Q B223 x6 σ) : W p l e R s m args below meth c H locs cells slots QW (F0 m 223 ls []) := by
  have hx := S.1.1
  have hb := S.1.2.1
  unfold m_L_town_223 at hf
  refine lv_iload hx hb d_L_town_223 (lv_at hl 6 rfl) ?_
  refine lv_iload hx hb d_L_town_225 (lv_at hl 4 rfl) ?_
  refine lv_icmp_ge (tgt := 270) hx hb d_L_town_227 (by decide) (fun hc => ?_) (fun hc => ?_)
  · have hf := hf.1 hc
    refine lv_aload_n hx hb d_L_town_270 rfl (lv_at hl 1 rfl) ?_
    refine lv_iload_n hx hb d_L_town_271 rfl (lv_at hl 2 rfl) ?_
    refine lv_bipush (v := (10 : Int32)) hx hb d_L_town_272 (by decide) ?_
    refine lv_iadd hx hb d_L_town_274 ?_
    refine iv_L_10 S hl.1 hG  (c_L_cell l  hf) ⟨Nat.le_of_ble_eq_true rfl, Nat.le_of_ble_eq_true rfl⟩ (Nat.le_of_ble_eq_true rfl) d_L_town_275 (fun v_2 σ_1 hf H locs hG => ?_)
    refine lv_istore (lv' := [(6, .int v_2), (0, .ref (ad r0)), (1, .ref (st.1 3)), (2, .int x2), (3, .int x3), (4, .int x4), (5, .int x5)]) hx hb d_L_town_278 hl (by decide) rfl (fun ls hl => ?_)
    refine lv_aload_n hx hb d_L_town_280 rfl (lv_at hl 1 rfl) ?_
    refine lv_iconst (v := (0 : Int32)) hx hb d_L_town_281 (by decide) ?_
    refine lv_iconst (v := (1 : Int32)) hx hb d_L_town_282 (by decide) ?_
    refine lv_iload hx hb d_L_town_283 (lv_at hl 0 rfl) ?_
    refine lv_iconst (v := (4 : Int32)) hx hb d_L_town_285 (by decide) ?_
    refine iv_L_16 S hl.1 hG  (c_L_low l  hf) ⟨Nat.le_of_ble_eq_true rfl, Nat.le_of_ble_eq_true rfl⟩ (Nat.le_of_ble_eq_true rfl) d_L_town_286 (fun v_4 σ_3 hf H locs hG => ?_)
    refine lv_iadd hx hb d_L_town_289 ?_
    refine iv_L_37 S hl.1 hG hk_r0 (c_9_set l hk_r0 hf) ⟨Nat.le_of_ble_eq_true rfl, Nat.le_of_ble_eq_true rfl⟩ (Nat.le_of_ble_eq_true rfl) d_L_town_290 (fun v_6 σ_5 hf H locs hG => ?_)
    refine lv_iconst (v := (2 : Int32)) hx hb d_L_town_293 (by decide) ?_
    refine lv_icmp_ne (tgt := 425) hx hb d_L_town_294 (by decide) (fun hc => ?_) (fun hc => ?_)
    · have hf := hf.1 hc
      refine lv_iconst (v := (0 : Int32)) hx hb d_L_town_425 (by decide) ?_
      exact hR _ _ _ _ _ _ hG (by unfold isB; decide) hf d_L_town_426
    · have hf := hf.2 hc
      refine lv_aload_n hx hb d_L_town_297 rfl (lv_at hl 1 rfl) ?_
      refine lv_iconst (v := (1 : Int32)) hx hb d_L_town_298 (by decide) ?_
      refine lv_bipush (v := (20 : Int32)) hx hb d_L_town_299 (by decide) ?_
      refine lv_iload hx hb d_L_town_301 (lv_at hl 0 rfl) ?_
      refine lv_iconst (v := (2 : Int32)) hx hb d_L_town_303 (by decide) ?_
      refine lv_ishr hx hb d_L_town_304 ?_
      refine lv_iload hx hb d_L_town_305 (lv_at hl 0 rfl) ?_
      refine lv_bipush (v := (20 : Int32)) hx hb d_L_town_307 (by decide) ?_
      refine lv_ishr hx hb d_L_town_309 ?_
      refine lv_iconst (v := (2 : Int32)) hx hb d_L_town_310 (by decide) ?_
      refine iv_L_16 S hl.1 hG  (c_L_low l  hf) ⟨Nat.le_of_ble_eq_true rfl, Nat.le_of_ble_eq_true rfl⟩ (Nat.le_of_ble_eq_true rfl) d_L_town_311 (fun v_8 σ_7 hf H locs hG => ?_)
      refine lv_if_ne (tgt := 322) hx hb d_L_town_314 (by decide) (fun hc => ?_) (fun hc => ?_)
      · have hf := hf.1 hc
        refine lv_sipush (v := (400 : Int32)) hx hb d_L_town_322 (by decide) ?_
        exact w_L_town_325 S hR hk_r0  hk_r0  hG (lv_sub hl [1, 0] rfl) hf
      · have hf := hf.2 hc
        refine lv_bipush (v := (60 : Int32)) hx hb d_L_town_317 (by decide) ?_
        refine lv_goto (tgt := 325) hx hb d_L_town_319 (by decide) ?_
        exact w_L_town_325 S hR hk_r0  hk_r0  hG (lv_sub hl [1, 0] rfl) hf
  · have hf := hf.2 hc
    refine lv_aload_n hx hb d_L_town_230 rfl (lv_at hl 0 rfl) ?_
    refine lv_iload hx hb d_L_town_231 (lv_at hl 5 rfl) ?_
    refine lv_iconst (v := (3 : Int32)) hx hb d_L_town_233 (by decide) ?_
    refine lv_iload hx hb d_L_town_234 (lv_at hl 6 rfl) ?_
    refine lv_imul hx hb d_L_town_236 ?_
    refine lv_ishr hx hb d_L_town_237 ?_
    refine lv_iload_n hx hb d_L_town_238 rfl (lv_at hl 3 rfl) ?_
    refine iv_L_16 S hl.1 hG  (c_L_low l  hf) ⟨Nat.le_of_ble_eq_true rfl, Nat.le_of_ble_eq_true rfl⟩ (Nat.le_of_ble_eq_true rfl) d_L_town_239 (fun v_10 σ_9 hf H locs hG => ?_)
    refine lv_iload hx hb d_L_town_242 (lv_at hl 5 rfl) ?_
    refine lv_bipush (v := (16 : Int32)) hx hb d_L_town_244 (by decide) ?_
    refine lv_iload hx hb d_L_town_246 (lv_at hl 6 rfl) ?_
    refine lv_iadd hx hb d_L_town_248 ?_
    refine lv_ishr hx hb d_L_town_249 ?_
    refine lv_iconst (v := (2 : Int32)) hx hb d_L_town_250 (by decide) ?_
    refine iv_L_16 S hl.1 hG  (c_L_low l  hf) ⟨Nat.le_of_ble_eq_true rfl, Nat.le_of_ble_eq_true rfl⟩ (Nat.le_of_ble_eq_true rfl) d_L_town_251 (fun v_12 σ_11 hf H locs hG => ?_)
    refine iv_L_34 S hl.1 hG hk_r0 (c_9_addLeg l hk_r0 hf) ⟨Nat.le_of_ble_eq_true rfl, Nat.le_of_ble_eq_true rfl⟩ (Nat.le_of_ble_eq_true rfl) d_L_town_254 (fun v_14 σ_13 hf H locs hG => ?_)
    refine lv_iload hx hb d_L_town_257 (lv_at hl 6 rfl) ?_
    refine lv_icmp_eq (tgt := 264) hx hb d_L_town_259 (by decide) (fun hc => ?_) (fun hc => ?_)
    · have hf := hf.1 hc
      obtain ⟨x6_15, ex6_15⟩ : ∃ y : Int32, y = x6 + 1 := ⟨_, rfl⟩
      have hf := hf x6_15 ex6_15
      refine lv_iinc (v := x6_15) (lv' := [(6, .int x6_15), (0, .ref (ad r0)), (1, .ref (st.1 3)), (2, .int x2), (3, .int x3), (4, .int x4), (5, .int x5)]) hx hb d_L_town_264 hl (k := 6) rfl (by rw [ex6_15]; rfl) (by decide) rfl (fun ls hl => ?_)
      refine lv_goto (tgt := 223) hx hb d_L_town_267 (by decide) ?_
      exact hB223 _ _ _ _ _   hG (lv_sub hl [1, 2, 3, 4, 5, 6, 0] rfl) hf
    · have hf := hf.2 hc
      refine lv_iconst (v := (0 : Int32)) hx hb d_L_town_262 (by decide) ?_
      exact hR _ _ _ _ _ _ hG (by unfold isB; decide) hf d_L_town_263
set_option maxHeartbeats 4000000 in
set_option maxRecDepth 100000 in
theorem lp_L_town_223 {r0 : Nat} {x2 : Int32} {x3 : Int32} {x4 : Int32} {x5 : Int32} {Q : Int32 → St → Prop} (S : SC A D ac st p m c method_4_code 11 s args "SweeperRoundsLaw" R cells slots 4 92) (hR : RtZ A D ac ad p l e R s m args below meth c method_4_code cells slots QW Q) (hk_r0 : kd r0 = 9) : ∀ (n : Nat) (x6 : Int32) (σ : St) (H : Heap) (locs : List Loc) (ls : Array Slot), DG A D ac ad s σ H locs → lv_has ls 11 [(0, .ref (ad r0)), (1, .ref (st.1 3)), (2, .int x2), (3, .int x3), (4, .int x4), (5, .int x5), (6, .int x6)] → itN (m_L_town_223 r0 x2 x3 x4 x5 st.2.1 st.2.2 Q) (fun _ _ => False) n x6 σ → W p l e R s m args below meth c H locs cells slots QW (F0 m 223 ls []) := by
  intro n
  induction n with
  | zero =>
    intro x6 σ H locs ls  hG hl hf
    exact hf.elim
  | succ n ih =>
    intro x6 σ H locs ls  hG hl hf
    exact w_L_town_223 S hR hk_r0  ih hG hl hf
set_option maxHeartbeats 4000000 in
set_option maxRecDepth 100000 in
theorem w_L_town_138 {r0 : Nat} {x2 : Int32} {x3 : Int32} {x4 : Int32} {x5 : Int32} {x7 : Int32} {x8 : Int32} {x9 : Int32} {B3 : Int32 → St → Prop} {B82 : Int32 → St → Prop} {Q : Int32 → St → Prop} {t0 : Int32} {t1 : Int32} {σ : St} {H : Heap} {locs : List Loc} {ls : Array Slot} (S : SC A D ac st p m c method_4_code 11 s args "SweeperRoundsLaw" R cells slots 4 92) (hR : RtZ A D ac ad p l e R s m args below meth c method_4_code cells slots QW Q) (hk_r0 : kd r0 = 9) (hB3 : ∀ (x5 : Int32) (σ : St) (H : Heap) (locs : List Loc) (ls : Array Slot), DG A D ac ad s σ H locs → lv_has ls 11 [(0, .ref (ad r0)), (1, .ref (st.1 3)), (2, .int x2), (3, .int x3), (4, .int x4), (5, .int x5)] → B3 x5 σ → W p l e R s m args below meth c H locs cells slots QW (F0 m 3 ls [])) (hB82 : ∀ (x8 : Int32) (σ : St) (H : Heap) (locs : List Loc) (ls : Array Slot), DG A D ac ad s σ H locs → lv_has ls 11 [(0, .ref (ad r0)), (1, .ref (st.1 3)), (2, .int x2), (3, .int x3), (4, .int x4), (5, .int x5), (7, .int x7), (8, .int x8)] → B82 x8 σ → W p l e R s m args below meth c H locs cells slots QW (F0 m 82 ls [])) (hG : DG A D ac ad s σ H locs) (hl : lv_has ls 11 [(0, .ref (ad r0)), (1, .ref (st.1 3)), (2, .int x2), (3, .int x3), (4, .int x4), (5, .int x5), (7, .int x7), (8, .int x8), (9, .int x9)]) (hf : m_L_town_138 r0 x2 x3 x4 x5 x7 x8 x9 B3 B82 st.2.1 st.2.2 Q t0 t1 σ) : W p l e R s m args below meth c H locs cells slots QW (F0 m 138 ls [.int t0, .int t1]) := by
  have hx := S.1.1
  have hb := S.1.2.1
  unfold m_L_town_138 at hf
  refine iv_L_16 S hl.1 hG  (c_L_low l  hf) ⟨Nat.le_of_ble_eq_true rfl, Nat.le_of_ble_eq_true rfl⟩ (Nat.le_of_ble_eq_true rfl) d_L_town_138 (fun v_2 σ_1 hf H locs hG => ?_)
  refine lv_istore (lv' := [(10, .int v_2), (0, .ref (ad r0)), (1, .ref (st.1 3)), (2, .int x2), (3, .int x3), (4, .int x4), (5, .int x5), (7, .int x7), (8, .int x8), (9, .int x9)]) hx hb d_L_town_141 hl (by decide) rfl (fun ls hl => ?_)
  refine lv_aload_n hx hb d_L_town_143 rfl (lv_at hl 1 rfl) ?_
  refine lv_iload hx hb d_L_town_144 (lv_at hl 6 rfl) ?_
  refine lv_iload hx hb d_L_town_146 (lv_at hl 8 rfl) ?_
  refine lv_iload hx hb d_L_town_148 (lv_at hl 7 rfl) ?_
  refine lv_idiv hx hb d_L_town_150 hf.1 ?_
  have hf := hf.2
  refine lv_iload hx hb d_L_town_151 (lv_at hl 8 rfl) ?_
  refine lv_iload hx hb d_L_town_153 (lv_at hl 7 rfl) ?_
  refine lv_irem hx hb d_L_town_155 hf.1 ?_
  have hf := hf.2
  refine lv_iload hx hb d_L_town_156 (lv_at hl 0 rfl) ?_
  refine iv_L_26 S hl.1 hG hk_r0 (c_9_lay l hk_r0 hf) ⟨Nat.le_of_ble_eq_true rfl, Nat.le_of_ble_eq_true rfl⟩ (Nat.le_of_ble_eq_true rfl) d_L_town_158 (fun v_4 σ_3 hf H locs hG => ?_)
  refine lv_if_ne (tgt := 196) hx hb d_L_town_161 (by decide) (fun hc => ?_) (fun hc => ?_)
  · have hf := hf.1 hc
    refine lv_iconst (v := (0 : Int32)) hx hb d_L_town_196 (by decide) ?_
    exact hR _ _ _ _ _ _ hG (by unfold isB; decide) hf d_L_town_197
  · have hf := hf.2 hc
    refine lv_iload hx hb d_L_town_164 (lv_at hl 9 rfl) ?_
    refine lv_bipush (v := (12 : Int32)) hx hb d_L_town_166 (by decide) ?_
    refine lv_ishr hx hb d_L_town_168 ?_
    refine lv_iconst (v := (5 : Int32)) hx hb d_L_town_169 (by decide) ?_
    refine iv_L_16 S hl.1 hG  (c_L_low l  hf) ⟨Nat.le_of_ble_eq_true rfl, Nat.le_of_ble_eq_true rfl⟩ (Nat.le_of_ble_eq_true rfl) d_L_town_170 (fun v_6 σ_5 hf H locs hG => ?_)
    refine lv_if_ne (tgt := 198) hx hb d_L_town_173 (by decide) (fun hc => ?_) (fun hc => ?_)
    · have hf := hf.1 hc
      obtain ⟨x8_7, ex8_7⟩ : ∃ y : Int32, y = x8 + 1 := ⟨_, rfl⟩
      have hf := hf x8_7 ex8_7
      refine lv_iinc (v := x8_7) (lv' := [(8, .int x8_7), (10, .int v_2), (0, .ref (ad r0)), (1, .ref (st.1 3)), (2, .int x2), (3, .int x3), (4, .int x4), (5, .int x5), (7, .int x7), (9, .int x9)]) hx hb d_L_town_198 hl (k := 8) rfl (by rw [ex8_7]; rfl) (by decide) rfl (fun ls hl => ?_)
      refine lv_goto (tgt := 82) hx hb d_L_town_201 (by decide) ?_
      exact hB82 _ _ _ _ _   hG (lv_sub hl [2, 3, 4, 5, 6, 7, 8, 0] rfl) hf
    · have hf := hf.2 hc
      refine lv_aload_n hx hb d_L_town_176 rfl (lv_at hl 1 rfl) ?_
      refine lv_iload hx hb d_L_town_177 (lv_at hl 6 rfl) ?_
      refine lv_iload hx hb d_L_town_179 (lv_at hl 8 rfl) ?_
      refine lv_iload hx hb d_L_town_181 (lv_at hl 7 rfl) ?_
      refine lv_idiv hx hb d_L_town_183 hf.1 ?_
      have hf := hf.2
      refine lv_iload hx hb d_L_town_184 (lv_at hl 8 rfl) ?_
      refine lv_iload hx hb d_L_town_186 (lv_at hl 7 rfl) ?_
      refine lv_irem hx hb d_L_town_188 hf.1 ?_
      have hf := hf.2
      refine lv_iconst (v := (1 : Int32)) hx hb d_L_town_189 (by decide) ?_
      refine iv_L_30 S hl.1 hG hk_r0 (c_9_park l hk_r0 hf) ⟨Nat.le_of_ble_eq_true rfl, Nat.le_of_ble_eq_true rfl⟩ (Nat.le_of_ble_eq_true rfl) d_L_town_190 (fun v_9 σ_8 hf H locs hG => ?_)
      refine lv_if_eq (tgt := 198) hx hb d_L_town_193 (by decide) (fun hc => ?_) (fun hc => ?_)
      · have hf := hf.1 hc
        obtain ⟨x8_10, ex8_10⟩ : ∃ y : Int32, y = x8 + 1 := ⟨_, rfl⟩
        have hf := hf x8_10 ex8_10
        refine lv_iinc (v := x8_10) (lv' := [(8, .int x8_10), (10, .int v_2), (0, .ref (ad r0)), (1, .ref (st.1 3)), (2, .int x2), (3, .int x3), (4, .int x4), (5, .int x5), (7, .int x7), (9, .int x9)]) hx hb d_L_town_198 hl (k := 8) rfl (by rw [ex8_10]; rfl) (by decide) rfl (fun ls hl => ?_)
        refine lv_goto (tgt := 82) hx hb d_L_town_201 (by decide) ?_
        exact hB82 _ _ _ _ _   hG (lv_sub hl [2, 3, 4, 5, 6, 7, 8, 0] rfl) hf
      · have hf := hf.2 hc
        refine lv_iconst (v := (0 : Int32)) hx hb d_L_town_196 (by decide) ?_
        exact hR _ _ _ _ _ _ hG (by unfold isB; decide) hf d_L_town_197
set_option maxHeartbeats 4000000 in
set_option maxRecDepth 100000 in
theorem w_L_town_82 {r0 : Nat} {x2 : Int32} {x3 : Int32} {x4 : Int32} {x5 : Int32} {x7 : Int32} {B3 : Int32 → St → Prop} {Q : Int32 → St → Prop} {B82 : Int32 → St → Prop} {x8 : Int32} {σ : St} {H : Heap} {locs : List Loc} {ls : Array Slot} (S : SC A D ac st p m c method_4_code 11 s args "SweeperRoundsLaw" R cells slots 4 92) (hR : RtZ A D ac ad p l e R s m args below meth c method_4_code cells slots QW Q) (hk_r0 : kd r0 = 9) (hB3 : ∀ (x5 : Int32) (σ : St) (H : Heap) (locs : List Loc) (ls : Array Slot), DG A D ac ad s σ H locs → lv_has ls 11 [(0, .ref (ad r0)), (1, .ref (st.1 3)), (2, .int x2), (3, .int x3), (4, .int x4), (5, .int x5)] → B3 x5 σ → W p l e R s m args below meth c H locs cells slots QW (F0 m 3 ls [])) (hB82 : ∀ (x8 : Int32) (σ : St) (H : Heap) (locs : List Loc) (ls : Array Slot), DG A D ac ad s σ H locs → lv_has ls 11 [(0, .ref (ad r0)), (1, .ref (st.1 3)), (2, .int x2), (3, .int x3), (4, .int x4), (5, .int x5), (7, .int x7), (8, .int x8)] → B82 x8 σ → W p l e R s m args below meth c H locs cells slots QW (F0 m 82 ls [])) (hG : DG A D ac ad s σ H locs) (hl : lv_has ls 11 [(0, .ref (ad r0)), (1, .ref (st.1 3)), (2, .int x2), (3, .int x3), (4, .int x4), (5, .int x5), (7, .int x7), (8, .int x8)]) (hf : m_L_town_82 r0 x2 x3 x4 x5 x7 B3 st.2.1 st.2.2 Q B82 x8 σ) : W p l e R s m args below meth c H locs cells slots QW (F0 m 82 ls []) := by
  have hx := S.1.1
  have hb := S.1.2.1
  unfold m_L_town_82 at hf
  refine lv_iload hx hb d_L_town_82 (lv_at hl 7 rfl) ?_
  refine lv_iconst (v := (2 : Int32)) hx hb d_L_town_84 (by decide) ?_
  refine lv_iload hx hb d_L_town_85 (lv_at hl 6 rfl) ?_
  refine lv_imul hx hb d_L_town_87 ?_
  refine lv_icmp_ge (tgt := 204) hx hb d_L_town_88 (by decide) (fun hc => ?_) (fun hc => ?_)
  · have hf := hf.1 hc
    obtain ⟨x5_1, ex5_1⟩ : ∃ y : Int32, y = x5 + 1 := ⟨_, rfl⟩
    have hf := hf x5_1 ex5_1
    refine lv_iinc (v := x5_1) (lv' := [(5, .int x5_1), (0, .ref (ad r0)), (1, .ref (st.1 3)), (2, .int x2), (3, .int x3), (4, .int x4), (7, .int x7), (8, .int x8)]) hx hb d_L_town_204 hl (k := 5) rfl (by rw [ex5_1]; rfl) (by decide) rfl (fun ls hl => ?_)
    refine lv_goto (tgt := 3) hx hb d_L_town_207 (by decide) ?_
    exact hB3 _ _ _ _ _   hG (lv_sub hl [1, 2, 3, 4, 5, 0] rfl) hf
  · have hf := hf.2 hc
    refine lv_aload_n hx hb d_L_town_91 rfl (lv_at hl 1 rfl) ?_
    refine lv_iload_n hx hb d_L_town_92 rfl (lv_at hl 2 rfl) ?_
    refine lv_iconst (v := (3 : Int32)) hx hb d_L_town_93 (by decide) ?_
    refine lv_iadd hx hb d_L_town_94 ?_
    refine lv_iload hx hb d_L_town_95 (lv_at hl 7 rfl) ?_
    refine lv_bipush (v := (6 : Int32)) hx hb d_L_town_97 (by decide) ?_
    refine lv_irem hx hb d_L_town_99 (by decide) ?_
    refine lv_iadd hx hb d_L_town_100 ?_
    refine iv_L_10 S hl.1 hG  (c_L_cell l  hf) ⟨Nat.le_of_ble_eq_true rfl, Nat.le_of_ble_eq_true rfl⟩ (Nat.le_of_ble_eq_true rfl) d_L_town_101 (fun v_3 σ_2 hf H locs hG => ?_)
    refine lv_iconst (v := (3 : Int32)) hx hb d_L_town_104 (by decide) ?_
    refine lv_iload hx hb d_L_town_105 (lv_at hl 5 rfl) ?_
    refine lv_imul hx hb d_L_town_107 ?_
    refine lv_iload hx hb d_L_town_108 (lv_at hl 7 rfl) ?_
    refine lv_bipush (v := (6 : Int32)) hx hb d_L_town_110 (by decide) ?_
    refine lv_idiv hx hb d_L_town_112 (by decide) ?_
    refine lv_iadd hx hb d_L_town_113 ?_
    refine lv_ishr hx hb d_L_town_114 ?_
    refine lv_topi (fun x9_4 ex9_4 => ?_)
    have hf := hf x9_4 ex9_4
    refine lv_istore (lv' := [(9, .int x9_4), (0, .ref (ad r0)), (1, .ref (st.1 3)), (2, .int x2), (3, .int x3), (4, .int x4), (5, .int x5), (7, .int x7), (8, .int x8)]) hx hb d_L_town_115 hl (by decide) rfl (fun ls hl => ?_)
    refine lv_iload hx hb d_L_town_117 (lv_at hl 0 rfl) ?_
    refine lv_iload hx hb d_L_town_119 (lv_at hl 0 rfl) ?_
    refine lv_bipush (v := (9 : Int32)) hx hb d_L_town_121 (by decide) ?_
    refine lv_ishr hx hb d_L_town_123 ?_
    refine lv_iconst (v := (3 : Int32)) hx hb d_L_town_124 (by decide) ?_
    refine iv_L_16 S hl.1 hG  (c_L_low l  hf) ⟨Nat.le_of_ble_eq_true rfl, Nat.le_of_ble_eq_true rfl⟩ (Nat.le_of_ble_eq_true rfl) d_L_town_125 (fun v_6 σ_5 hf H locs hG => ?_)
    refine lv_if_ne (tgt := 136) hx hb d_L_town_128 (by decide) (fun hc => ?_) (fun hc => ?_)
    · have hf := hf.1 hc
      refine lv_bipush (v := (40 : Int32)) hx hb d_L_town_136 (by decide) ?_
      exact w_L_town_138 S hR hk_r0   hB3 hB82 hG (lv_sub hl [1, 2, 3, 4, 5, 6, 7, 8, 0] rfl) hf
    · have hf := hf.2 hc
      refine lv_bipush (v := (100 : Int32)) hx hb d_L_town_131 (by decide) ?_
      refine lv_goto (tgt := 138) hx hb d_L_town_133 (by decide) ?_
      exact w_L_town_138 S hR hk_r0   hB3 hB82 hG (lv_sub hl [1, 2, 3, 4, 5, 6, 7, 8, 0] rfl) hf
set_option maxHeartbeats 4000000 in
set_option maxRecDepth 100000 in
theorem lp_L_town_82 {r0 : Nat} {x2 : Int32} {x3 : Int32} {x4 : Int32} {x5 : Int32} {x7 : Int32} {B3 : Int32 → St → Prop} {Q : Int32 → St → Prop} (S : SC A D ac st p m c method_4_code 11 s args "SweeperRoundsLaw" R cells slots 4 92) (hR : RtZ A D ac ad p l e R s m args below meth c method_4_code cells slots QW Q) (hk_r0 : kd r0 = 9) (hB3 : ∀ (x5 : Int32) (σ : St) (H : Heap) (locs : List Loc) (ls : Array Slot), DG A D ac ad s σ H locs → lv_has ls 11 [(0, .ref (ad r0)), (1, .ref (st.1 3)), (2, .int x2), (3, .int x3), (4, .int x4), (5, .int x5)] → B3 x5 σ → W p l e R s m args below meth c H locs cells slots QW (F0 m 3 ls [])) : ∀ (n : Nat) (x8 : Int32) (σ : St) (H : Heap) (locs : List Loc) (ls : Array Slot), DG A D ac ad s σ H locs → lv_has ls 11 [(0, .ref (ad r0)), (1, .ref (st.1 3)), (2, .int x2), (3, .int x3), (4, .int x4), (5, .int x5), (7, .int x7), (8, .int x8)] → itN (m_L_town_82 r0 x2 x3 x4 x5 x7 B3 st.2.1 st.2.2 Q) (fun _ _ => False) n x8 σ → W p l e R s m args below meth c H locs cells slots QW (F0 m 82 ls []) := by
  intro n
  induction n with
  | zero =>
    intro x8 σ H locs ls  hG hl hf
    exact hf.elim
  | succ n ih =>
    intro x8 σ H locs ls  hG hl hf
    exact w_L_town_82 S hR hk_r0 hB3 ih hG hl hf
set_option maxHeartbeats 4000000 in
set_option maxRecDepth 100000 in
theorem w_L_town_56 {r0 : Nat} {x2 : Int32} {x3 : Int32} {x4 : Int32} {x5 : Int32} {x6 : Int32} {x7 : Int32} {B3 : Int32 → St → Prop} {Q : Int32 → St → Prop} {t0 : Int32} {t1 : Int32} {t2 : Int32} {t3 : Nat} {σ : St} {H : Heap} {locs : List Loc} {ls : Array Slot} (S : SC A D ac st p m c method_4_code 11 s args "SweeperRoundsLaw" R cells slots 4 92) (hR : RtZ A D ac ad p l e R s m args below meth c method_4_code cells slots QW Q) (hk_r0 : kd r0 = 9) (hk_t3 : kd t3 = 9) (hB3 : ∀ (x5 : Int32) (σ : St) (H : Heap) (locs : List Loc) (ls : Array Slot), DG A D ac ad s σ H locs → lv_has ls 11 [(0, .ref (ad r0)), (1, .ref (st.1 3)), (2, .int x2), (3, .int x3), (4, .int x4), (5, .int x5)] → B3 x5 σ → W p l e R s m args below meth c H locs cells slots QW (F0 m 3 ls [])) (hG : DG A D ac ad s σ H locs) (hl : lv_has ls 11 [(0, .ref (ad r0)), (1, .ref (st.1 3)), (2, .int x2), (3, .int x3), (4, .int x4), (5, .int x5), (6, .int x6), (7, .int x7)]) (hf : m_L_town_56 r0 x2 x3 x4 x5 x6 x7 B3 st.2.1 st.2.2 Q t0 t1 t2 t3 σ) : W p l e R s m args below meth c H locs cells slots QW (F0 m 56 ls [.int t0, .int t1, .int t2, .ref (ad t3)]) := by
  have hx := S.1.1
  have hb := S.1.2.1
  unfold m_L_town_56 at hf
  refine iv_L_16 S hl.1 hG  (c_L_low l  hf) ⟨Nat.le_of_ble_eq_true rfl, Nat.le_of_ble_eq_true rfl⟩ (Nat.le_of_ble_eq_true rfl) d_L_town_56 (fun v_2 σ_1 hf H locs hG => ?_)
  refine lv_iload hx hb d_L_town_59 (lv_at hl 6 rfl) ?_
  refine lv_bipush (v := (11 : Int32)) hx hb d_L_town_61 (by decide) ?_
  refine lv_ishr hx hb d_L_town_63 ?_
  refine lv_bipush (v := (10 : Int32)) hx hb d_L_town_64 (by decide) ?_
  refine iv_L_16 S hl.1 hG  (c_L_low l  hf) ⟨Nat.le_of_ble_eq_true rfl, Nat.le_of_ble_eq_true rfl⟩ (Nat.le_of_ble_eq_true rfl) d_L_town_66 (fun v_4 σ_3 hf H locs hG => ?_)
  refine iv_L_20 S hl.1 hG hk_t3 (c_9_addStreet l hk_t3 hf) ⟨Nat.le_of_ble_eq_true rfl, Nat.le_of_ble_eq_true rfl⟩ (Nat.le_of_ble_eq_true rfl) d_L_town_69 (fun v_6 σ_5 hf H locs hG => ?_)
  refine lv_iload hx hb d_L_town_72 (lv_at hl 5 rfl) ?_
  refine lv_icmp_eq (tgt := 79) hx hb d_L_town_74 (by decide) (fun hc => ?_) (fun hc => ?_)
  · have hf := hf.1 hc
    refine lv_iconst (v := (0 : Int32)) hx hb d_L_town_79 (by decide) ?_
    refine lv_istore (lv' := [(8, .int (0 : Int32)), (0, .ref (ad r0)), (1, .ref (st.1 3)), (2, .int x2), (3, .int x3), (4, .int x4), (5, .int x5), (6, .int x6), (7, .int x7)]) hx hb d_L_town_80 hl (by decide) rfl (fun ls hl => ?_)
    exact lp_L_town_82 S hR hk_r0 hB3 FU _ _ _ _ _  hG (lv_sub hl [1, 2, 3, 4, 5, 6, 8, 0] rfl) hf
  · have hf := hf.2 hc
    refine lv_iconst (v := (0 : Int32)) hx hb d_L_town_77 (by decide) ?_
    exact hR _ _ _ _ _ _ hG (by unfold isB; decide) hf d_L_town_78
set_option maxHeartbeats 4000000 in
set_option maxRecDepth 100000 in
theorem w_L_town_3 {r0 : Nat} {x2 : Int32} {x3 : Int32} {x4 : Int32} {Q : Int32 → St → Prop} {B3 : Int32 → St → Prop} {x5 : Int32} {σ : St} {H : Heap} {locs : List Loc} {ls : Array Slot} (S : SC A D ac st p m c method_4_code 11 s args "SweeperRoundsLaw" R cells slots 4 92) (hR : RtZ A D ac ad p l e R s m args below meth c method_4_code cells slots QW Q) (hk_r0 : kd r0 = 9) (hB3 : ∀ (x5 : Int32) (σ : St) (H : Heap) (locs : List Loc) (ls : Array Slot), DG A D ac ad s σ H locs → lv_has ls 11 [(0, .ref (ad r0)), (1, .ref (st.1 3)), (2, .int x2), (3, .int x3), (4, .int x4), (5, .int x5)] → B3 x5 σ → W p l e R s m args below meth c H locs cells slots QW (F0 m 3 ls [])) (hG : DG A D ac ad s σ H locs) (hl : lv_has ls 11 [(0, .ref (ad r0)), (1, .ref (st.1 3)), (2, .int x2), (3, .int x3), (4, .int x4), (5, .int x5)]) (hf : m_L_town_3 r0 x2 x3 x4 st.2.1 st.2.2 Q B3 x5 σ) : W p l e R s m args below meth c H locs cells slots QW (F0 m 3 ls []) := by
  have hx := S.1.1
  have hb := S.1.2.1
  unfold m_L_town_3 at hf
  refine lv_iload hx hb d_L_town_3 (lv_at hl 5 rfl) ?_
  refine lv_iload_n hx hb d_L_town_5 rfl (lv_at hl 3 rfl) ?_
  refine lv_icmp_ge (tgt := 210) hx hb d_L_town_6 (by decide) (fun hc => ?_) (fun hc => ?_)
  · have hf := hf.1 hc
    refine lv_aload_n hx hb d_L_town_210 rfl (lv_at hl 1 rfl) ?_
    refine lv_iload_n hx hb d_L_town_211 rfl (lv_at hl 2 rfl) ?_
    refine lv_bipush (v := (9 : Int32)) hx hb d_L_town_212 (by decide) ?_
    refine lv_iadd hx hb d_L_town_214 ?_
    refine iv_L_10 S hl.1 hG  (c_L_cell l  hf) ⟨Nat.le_of_ble_eq_true rfl, Nat.le_of_ble_eq_true rfl⟩ (Nat.le_of_ble_eq_true rfl) d_L_town_215 (fun v_2 σ_1 hf H locs hG => ?_)
    refine lv_istore (lv' := [(5, .int v_2), (0, .ref (ad r0)), (1, .ref (st.1 3)), (2, .int x2), (3, .int x3), (4, .int x4)]) hx hb d_L_town_218 hl (by decide) rfl (fun ls hl => ?_)
    refine lv_iconst (v := (0 : Int32)) hx hb d_L_town_220 (by decide) ?_
    refine lv_istore (lv' := [(6, .int (0 : Int32)), (5, .int v_2), (0, .ref (ad r0)), (1, .ref (st.1 3)), (2, .int x2), (3, .int x3), (4, .int x4)]) hx hb d_L_town_221 hl (by decide) rfl (fun ls hl => ?_)
    exact lp_L_town_223 S hR hk_r0  FU _ _ _ _ _  hG (lv_sub hl [2, 3, 4, 5, 6, 1, 0] rfl) hf
  · have hf := hf.2 hc
    refine lv_aload_n hx hb d_L_town_9 rfl (lv_at hl 1 rfl) ?_
    refine lv_iload_n hx hb d_L_town_10 rfl (lv_at hl 2 rfl) ?_
    refine lv_iload hx hb d_L_town_11 (lv_at hl 5 rfl) ?_
    refine lv_iadd hx hb d_L_town_13 ?_
    refine iv_L_10 S hl.1 hG  (c_L_cell l  hf) ⟨Nat.le_of_ble_eq_true rfl, Nat.le_of_ble_eq_true rfl⟩ (Nat.le_of_ble_eq_true rfl) d_L_town_14 (fun v_4 σ_3 hf H locs hG => ?_)
    refine lv_istore (lv' := [(6, .int v_4), (0, .ref (ad r0)), (1, .ref (st.1 3)), (2, .int x2), (3, .int x3), (4, .int x4), (5, .int x5)]) hx hb d_L_town_17 hl (by decide) rfl (fun ls hl => ?_)
    refine lv_iconst (v := (1 : Int32)) hx hb d_L_town_19 (by decide) ?_
    refine lv_iload hx hb d_L_town_20 (lv_at hl 0 rfl) ?_
    refine lv_bipush (v := (6 : Int32)) hx hb d_L_town_22 (by decide) ?_
    refine iv_L_16 S hl.1 hG  (c_L_low l  hf) ⟨Nat.le_of_ble_eq_true rfl, Nat.le_of_ble_eq_true rfl⟩ (Nat.le_of_ble_eq_true rfl) d_L_town_24 (fun v_6 σ_5 hf H locs hG => ?_)
    refine lv_iadd hx hb d_L_town_27 ?_
    refine lv_topi (fun x7_7 ex7_7 => ?_)
    have hf := hf x7_7 ex7_7
    refine lv_istore (lv' := [(7, .int x7_7), (6, .int v_4), (0, .ref (ad r0)), (1, .ref (st.1 3)), (2, .int x2), (3, .int x3), (4, .int x4), (5, .int x5)]) hx hb d_L_town_28 hl (by decide) rfl (fun ls hl => ?_)
    refine lv_aload_n hx hb d_L_town_30 rfl (lv_at hl 2 rfl) ?_
    refine lv_iload hx hb d_L_town_31 (lv_at hl 0 rfl) ?_
    refine lv_iload hx hb d_L_town_33 (lv_at hl 1 rfl) ?_
    refine lv_iconst (v := (3 : Int32)) hx hb d_L_town_35 (by decide) ?_
    refine lv_ishr hx hb d_L_town_36 ?_
    refine lv_iload hx hb d_L_town_37 (lv_at hl 1 rfl) ?_
    refine lv_bipush (v := (9 : Int32)) hx hb d_L_town_39 (by decide) ?_
    refine lv_ishr hx hb d_L_town_41 ?_
    refine lv_iconst (v := (3 : Int32)) hx hb d_L_town_42 (by decide) ?_
    refine iv_L_16 S hl.1 hG  (c_L_low l  hf) ⟨Nat.le_of_ble_eq_true rfl, Nat.le_of_ble_eq_true rfl⟩ (Nat.le_of_ble_eq_true rfl) d_L_town_43 (fun v_9 σ_8 hf H locs hG => ?_)
    refine lv_if_ne (tgt := 54) hx hb d_L_town_46 (by decide) (fun hc => ?_) (fun hc => ?_)
    · have hf := hf.1 hc
      refine lv_bipush (v := (10 : Int32)) hx hb d_L_town_54 (by decide) ?_
      exact w_L_town_56 S hR hk_r0  hk_r0 hB3 hG (lv_sub hl [2, 3, 4, 5, 6, 7, 1, 0] rfl) hf
    · have hf := hf.2 hc
      refine lv_bipush (v := (61 : Int32)) hx hb d_L_town_49 (by decide) ?_
      refine lv_goto (tgt := 56) hx hb d_L_town_51 (by decide) ?_
      exact w_L_town_56 S hR hk_r0  hk_r0 hB3 hG (lv_sub hl [2, 3, 4, 5, 6, 7, 1, 0] rfl) hf
set_option maxHeartbeats 4000000 in
set_option maxRecDepth 100000 in
theorem lp_L_town_3 {r0 : Nat} {x2 : Int32} {x3 : Int32} {x4 : Int32} {Q : Int32 → St → Prop} (S : SC A D ac st p m c method_4_code 11 s args "SweeperRoundsLaw" R cells slots 4 92) (hR : RtZ A D ac ad p l e R s m args below meth c method_4_code cells slots QW Q) (hk_r0 : kd r0 = 9) : ∀ (n : Nat) (x5 : Int32) (σ : St) (H : Heap) (locs : List Loc) (ls : Array Slot), DG A D ac ad s σ H locs → lv_has ls 11 [(0, .ref (ad r0)), (1, .ref (st.1 3)), (2, .int x2), (3, .int x3), (4, .int x4), (5, .int x5)] → itN (m_L_town_3 r0 x2 x3 x4 st.2.1 st.2.2 Q) (fun _ _ => False) n x5 σ → W p l e R s m args below meth c H locs cells slots QW (F0 m 3 ls []) := by
  intro n
  induction n with
  | zero =>
    intro x5 σ H locs ls  hG hl hf
    exact hf.elim
  | succ n ih =>
    intro x5 σ H locs ls  hG hl hf
    exact w_L_town_3 S hR hk_r0  ih hG hl hf
set_option maxHeartbeats 4000000 in
set_option maxRecDepth 100000 in
theorem w_L_town_0 {r0 : Nat} {x2 : Int32} {x3 : Int32} {x4 : Int32} {Q : Int32 → St → Prop} {σ : St} {H : Heap} {locs : List Loc} {ls : Array Slot} (S : SC A D ac st p m c method_4_code 11 s args "SweeperRoundsLaw" R cells slots 4 92) (hR : RtZ A D ac ad p l e R s m args below meth c method_4_code cells slots QW Q) (hk_r0 : kd r0 = 9) (hG : DG A D ac ad s σ H locs) (hl : lv_has ls 11 [(0, .ref (ad r0)), (1, .ref (st.1 3)), (2, .int x2), (3, .int x3), (4, .int x4)]) (hf : m_L_town r0 x2 x3 x4 st.2.1 st.2.2 Q σ) : W p l e R s m args below meth c H locs cells slots QW (F0 m 0 ls []) := by
  have hx := S.1.1
  have hb := S.1.2.1
  unfold m_L_town at hf
  refine lv_iconst (v := (0 : Int32)) hx hb d_L_town_0 (by decide) ?_
  refine lv_istore (lv' := [(5, .int (0 : Int32)), (0, .ref (ad r0)), (1, .ref (st.1 3)), (2, .int x2), (3, .int x3), (4, .int x4)]) hx hb d_L_town_1 hl (by decide) rfl (fun ls hl => ?_)
  exact lp_L_town_3 S hR hk_r0  FU _ _ _ _ _  hG (lv_sub hl [1, 2, 3, 4, 5, 0] rfl) hf
theorem c_L_town (l : Launch) {D : va_G} {ac : Nat → ClassId} {ad : Nat → Nat} {st : SS} {A : Nat → Prop} {σ : St} {r0 : Nat} {x2 : Int32} {x3 : Int32} {x4 : Int32} {Q : Int32 → St → Prop} (hk_r0 : kd r0 = 9) (hf : m_L_town r0 x2 x3 x4 st.2.1 st.2.2 Q σ) : Met l y_L_town (Cond.code y_L_town method_4_code 11 (some .boolean) :: wA) { frames := 4, cells := 0, slots := 0, locals := 92 } (va_Pc [.ref (ad r0), .ref (st.1 3), .int x2, .int x3, .int x4] (GSt A D ac ad st σ)) (va_Qi Q (GSt A D ac ad st) A) 0 0 A :=
  mkZ l (by decide +kernel) rfl [.ref (ad r0), .ref (st.1 3), .int x2, .int x3, .int x4] (Nat.le_of_ble_eq_true rfl) (fun p e s m args below meth c ls QW S hR hG hl => w_L_town_0 S hR hk_r0 hG hl hf)
set_option maxHeartbeats 4000000 in
set_option maxRecDepth 100000 in
theorem w_L_balanced_0 {r0 : Nat} {Q : Int32 → St → Prop} {σ : St} {H : Heap} {locs : List Loc} {ls : Array Slot} (S : SC A D ac st p m c method_5_code 1 s args "SweeperRoundsLaw" R cells slots 5 107) (hR : RtZ A D ac ad p l e R s m args below meth c method_5_code cells slots QW Q) (hk_r0 : kd r0 = 9) (hG : DG A D ac ad s σ H locs) (hl : lv_has ls 1 [(0, .ref (ad r0))]) (hf : m_L_balanced r0 Q σ) : W p l e R s m args below meth c H locs cells slots QW (F0 m 0 ls []) := by
  have hx := S.1.1
  have hb := S.1.2.1
  unfold m_L_balanced at hf
  refine lv_aload_n hx hb d_L_balanced_0 rfl (lv_at hl 0 rfl) ?_
  refine lv_bipush (v := (6 : Int32)) hx hb d_L_balanced_1 (by decide) ?_
  refine iv_L_40 S hl.1 hG hk_r0 (c_9_account l hk_r0 hf) ⟨Nat.le_of_ble_eq_true rfl, Nat.le_of_ble_eq_true rfl⟩ (Nat.le_of_ble_eq_true rfl) d_L_balanced_3 (fun v_2 σ_1 hf H locs hG => ?_)
  refine lv_aload_n hx hb d_L_balanced_6 rfl (lv_at hl 0 rfl) ?_
  refine lv_iconst (v := (4 : Int32)) hx hb d_L_balanced_7 (by decide) ?_
  refine iv_L_44 S hl.1 hG hk_r0 (c_9_count l hk_r0 hf) ⟨Nat.le_of_ble_eq_true rfl, Nat.le_of_ble_eq_true rfl⟩ (Nat.le_of_ble_eq_true rfl) d_L_balanced_8 (fun v_4 σ_3 hf H locs hG => ?_)
  refine lv_iadd hx hb d_L_balanced_11 ?_
  refine lv_aload_n hx hb d_L_balanced_12 rfl (lv_at hl 0 rfl) ?_
  refine lv_iconst (v := (0 : Int32)) hx hb d_L_balanced_13 (by decide) ?_
  refine iv_L_40 S hl.1 hG hk_r0 (c_9_account l hk_r0 hf) ⟨Nat.le_of_ble_eq_true rfl, Nat.le_of_ble_eq_true rfl⟩ (Nat.le_of_ble_eq_true rfl) d_L_balanced_14 (fun v_6 σ_5 hf H locs hG => ?_)
  refine lv_aload_n hx hb d_L_balanced_17 rfl (lv_at hl 0 rfl) ?_
  refine lv_iconst (v := (1 : Int32)) hx hb d_L_balanced_18 (by decide) ?_
  refine iv_L_40 S hl.1 hG hk_r0 (c_9_account l hk_r0 hf) ⟨Nat.le_of_ble_eq_true rfl, Nat.le_of_ble_eq_true rfl⟩ (Nat.le_of_ble_eq_true rfl) d_L_balanced_19 (fun v_8 σ_7 hf H locs hG => ?_)
  refine lv_iadd hx hb d_L_balanced_22 ?_
  refine lv_aload_n hx hb d_L_balanced_23 rfl (lv_at hl 0 rfl) ?_
  refine lv_iconst (v := (2 : Int32)) hx hb d_L_balanced_24 (by decide) ?_
  refine iv_L_40 S hl.1 hG hk_r0 (c_9_account l hk_r0 hf) ⟨Nat.le_of_ble_eq_true rfl, Nat.le_of_ble_eq_true rfl⟩ (Nat.le_of_ble_eq_true rfl) d_L_balanced_25 (fun v_10 σ_9 hf H locs hG => ?_)
  refine lv_isub hx hb d_L_balanced_28 ?_
  refine lv_aload_n hx hb d_L_balanced_29 rfl (lv_at hl 0 rfl) ?_
  refine lv_iconst (v := (3 : Int32)) hx hb d_L_balanced_30 (by decide) ?_
  refine iv_L_40 S hl.1 hG hk_r0 (c_9_account l hk_r0 hf) ⟨Nat.le_of_ble_eq_true rfl, Nat.le_of_ble_eq_true rfl⟩ (Nat.le_of_ble_eq_true rfl) d_L_balanced_31 (fun v_12 σ_11 hf H locs hG => ?_)
  refine lv_isub hx hb d_L_balanced_34 ?_
  refine lv_aload_n hx hb d_L_balanced_35 rfl (lv_at hl 0 rfl) ?_
  refine lv_iconst (v := (4 : Int32)) hx hb d_L_balanced_36 (by decide) ?_
  refine iv_L_40 S hl.1 hG hk_r0 (c_9_account l hk_r0 hf) ⟨Nat.le_of_ble_eq_true rfl, Nat.le_of_ble_eq_true rfl⟩ (Nat.le_of_ble_eq_true rfl) d_L_balanced_37 (fun v_14 σ_13 hf H locs hG => ?_)
  refine lv_isub hx hb d_L_balanced_40 ?_
  refine lv_aload_n hx hb d_L_balanced_41 rfl (lv_at hl 0 rfl) ?_
  refine lv_iconst (v := (5 : Int32)) hx hb d_L_balanced_42 (by decide) ?_
  refine iv_L_40 S hl.1 hG hk_r0 (c_9_account l hk_r0 hf) ⟨Nat.le_of_ble_eq_true rfl, Nat.le_of_ble_eq_true rfl⟩ (Nat.le_of_ble_eq_true rfl) d_L_balanced_43 (fun v_16 σ_15 hf H locs hG => ?_)
  refine lv_isub hx hb d_L_balanced_46 ?_
  refine lv_icmp_ne (tgt := 54) hx hb d_L_balanced_47 (by decide) (fun hc => ?_) (fun hc => ?_)
  · have hf := hf.1 hc
    refine lv_iconst (v := (0 : Int32)) hx hb d_L_balanced_54 (by decide) ?_
    exact hR _ _ _ _ _ _ hG (by unfold isB; decide) hf d_L_balanced_55
  · have hf := hf.2 hc
    refine lv_iconst (v := (1 : Int32)) hx hb d_L_balanced_50 (by decide) ?_
    refine lv_goto (tgt := 55) hx hb d_L_balanced_51 (by decide) ?_
    exact hR _ _ _ _ _ _ hG (by unfold isB; decide) hf d_L_balanced_55
theorem c_L_balanced (l : Launch) {D : va_G} {ac : Nat → ClassId} {ad : Nat → Nat} {st : SS} {A : Nat → Prop} {σ : St} {r0 : Nat} {Q : Int32 → St → Prop} (hk_r0 : kd r0 = 9) (hf : m_L_balanced r0 Q σ) : Met l y_L_balanced (Cond.code y_L_balanced method_5_code 1 (some .boolean) :: wA) { frames := 5, cells := 0, slots := 0, locals := 107 } (va_Pc [.ref (ad r0)] (GSt A D ac ad st σ)) (va_Qi Q (GSt A D ac ad st) A) 0 0 A :=
  mkZ l (by decide +kernel) rfl [.ref (ad r0)] (Nat.le_of_ble_eq_true rfl) (fun p e s m args below meth c ls QW S hR hG hl => w_L_balanced_0 S hR hk_r0 hG hl hf)
end MB
end
