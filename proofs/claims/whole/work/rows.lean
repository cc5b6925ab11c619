section
-- ===== PART A: goes FIRST, ahead of the names: the tables' words, and 'selects' of the private methods out of them =====
/-- a private method of a class that the tables say can be made, by its rows of tables_1 -/
def lw_okq (q : MethodName × Nat) : Prop := (q.1.cls ≠ "java/lang/invoke/MethodHandle" ∧ q.1.cls ≠ "java/lang/invoke/VarHandle") ∧ Cond.instantiable q.1.cls q.2 ∈ tables_1 ∧ Cond.privateMethod q.1 ∈ tables_1 ∧ Cond.instanceMethod q.1 ∈ tables_1
theorem lw_p0 : lw_okq (⟨"SweeperRounds$Reader", "readDistance", "(LSweeperRounds$Text;)Z"⟩, 4) := ⟨⟨by decide +kernel, by decide +kernel⟩, List.mem_of_getElem? (i := 38) (by decide +kernel), List.mem_of_getElem? (i := 349) (by decide +kernel), List.mem_of_getElem? (i := 350) (by decide +kernel)⟩
theorem lw_p1 : lw_okq (⟨"SweeperRounds$Reader", "fail", "(II)Z"⟩, 4) := ⟨⟨by decide +kernel, by decide +kernel⟩, List.mem_of_getElem? (i := 38) (by decide +kernel), List.mem_of_getElem? (i := 360) (by decide +kernel), List.mem_of_getElem? (i := 361) (by decide +kernel)⟩
theorem lw_p2 : lw_okq (⟨"SweeperRounds$Reader", "readSlash", "(LSweeperRounds$Text;)Z"⟩, 4) := ⟨⟨by decide +kernel, by decide +kernel⟩, List.mem_of_getElem? (i := 38) (by decide +kernel), List.mem_of_getElem? (i := 364) (by decide +kernel), List.mem_of_getElem? (i := 365) (by decide +kernel)⟩
theorem lw_p3 : lw_okq (⟨"SweeperRounds$Reader", "readTrees", "(LSweeperRounds$Text;)Z"⟩, 4) := ⟨⟨by decide +kernel, by decide +kernel⟩, List.mem_of_getElem? (i := 38) (by decide +kernel), List.mem_of_getElem? (i := 368) (by decide +kernel), List.mem_of_getElem? (i := 369) (by decide +kernel)⟩
theorem lw_p4 : lw_okq (⟨"SweeperRounds$Reader", "readLeftSide", "(LSweeperRounds$Text;)Z"⟩, 4) := ⟨⟨by decide +kernel, by decide +kernel⟩, List.mem_of_getElem? (i := 38) (by decide +kernel), List.mem_of_getElem? (i := 372) (by decide +kernel), List.mem_of_getElem? (i := 373) (by decide +kernel)⟩
theorem lw_p5 : lw_okq (⟨"SweeperRounds$Reader", "readCell", "(LSweeperRounds$Text;I)Z"⟩, 4) := ⟨⟨by decide +kernel, by decide +kernel⟩, List.mem_of_getElem? (i := 38) (by decide +kernel), List.mem_of_getElem? (i := 379) (by decide +kernel), List.mem_of_getElem? (i := 380) (by decide +kernel)⟩
theorem lw_p6 : lw_okq (⟨"SweeperRounds$Reader", "readRightSide", "(LSweeperRounds$Text;)Z"⟩, 4) := ⟨⟨by decide +kernel, by decide +kernel⟩, List.mem_of_getElem? (i := 38) (by decide +kernel), List.mem_of_getElem? (i := 383) (by decide +kernel), List.mem_of_getElem? (i := 384) (by decide +kernel)⟩
theorem lw_p7 : lw_okq (⟨"SweeperRounds$World", "removeLegsIn", "(I)V"⟩, 12) := ⟨⟨by decide +kernel, by decide +kernel⟩, List.mem_of_getElem? (i := 100) (by decide +kernel), List.mem_of_getElem? (i := 448) (by decide +kernel), List.mem_of_getElem? (i := 449) (by decide +kernel)⟩
theorem lw_p8 : lw_okq (⟨"SweeperRounds$Round", "driveToLeg", "(LSweeperRounds$Leg;LSweeperRounds$Street;)I"⟩, 2) := ⟨⟨by decide +kernel, by decide +kernel⟩, List.mem_of_getElem? (i := 243) (by decide +kernel), List.mem_of_getElem? (i := 556) (by decide +kernel), List.mem_of_getElem? (i := 557) (by decide +kernel)⟩
theorem lw_p9 : lw_okq (⟨"SweeperRounds$Round", "driveTo", "(I)I"⟩, 2) := ⟨⟨by decide +kernel, by decide +kernel⟩, List.mem_of_getElem? (i := 243) (by decide +kernel), List.mem_of_getElem? (i := 560) (by decide +kernel), List.mem_of_getElem? (i := 561) (by decide +kernel)⟩
theorem lw_p10 : lw_okq (⟨"SweeperRounds$Round", "fits", "(ILSweeperRounds$Street;)Z"⟩, 2) := ⟨⟨by decide +kernel, by decide +kernel⟩, List.mem_of_getElem? (i := 243) (by decide +kernel), List.mem_of_getElem? (i := 567) (by decide +kernel), List.mem_of_getElem? (i := 568) (by decide +kernel)⟩
theorem lw_p11 : lw_okq (⟨"SweeperRounds$Round", "finishCell", "(LSweeperRounds$Leg;LSweeperRounds$Street;I)I"⟩, 2) := ⟨⟨by decide +kernel, by decide +kernel⟩, List.mem_of_getElem? (i := 243) (by decide +kernel), List.mem_of_getElem? (i := 576) (by decide +kernel), List.mem_of_getElem? (i := 577) (by decide +kernel)⟩
theorem lw_p12 : lw_okq (⟨"SweeperRounds$Round", "unitsForCell", "()I"⟩, 2) := ⟨⟨by decide +kernel, by decide +kernel⟩, List.mem_of_getElem? (i := 243) (by decide +kernel), List.mem_of_getElem? (i := 580) (by decide +kernel), List.mem_of_getElem? (i := 581) (by decide +kernel)⟩
theorem lw_p13 : lw_okq (⟨"SweeperRounds$Round", "sweepOnce", "(LSweeperRounds$Leg;LSweeperRounds$Street;I)Z"⟩, 2) := ⟨⟨by decide +kernel, by decide +kernel⟩, List.mem_of_getElem? (i := 243) (by decide +kernel), List.mem_of_getElem? (i := 586) (by decide +kernel), List.mem_of_getElem? (i := 587) (by decide +kernel)⟩
theorem lw_p14 : lw_okq (⟨"SweeperRounds$Round", "endShift", "()V"⟩, 2) := ⟨⟨by decide +kernel, by decide +kernel⟩, List.mem_of_getElem? (i := 243) (by decide +kernel), List.mem_of_getElem? (i := 598) (by decide +kernel), List.mem_of_getElem? (i := 599) (by decide +kernel)⟩
theorem lw_p15 : lw_okq (⟨"SweeperRounds", "trySpeed", "(I)V"⟩, 9) := ⟨⟨by decide +kernel, by decide +kernel⟩, List.mem_of_getElem? (i := 15) (by decide +kernel), List.mem_of_getElem? (i := 645) (by decide +kernel), List.mem_of_getElem? (i := 646) (by decide +kernel)⟩
def lw_privs_1 : List (MethodName × Nat) := [(⟨"SweeperRounds$Reader", "readDistance", "(LSweeperRounds$Text;)Z"⟩, 4), (⟨"SweeperRounds$Reader", "fail", "(II)Z"⟩, 4), (⟨"SweeperRounds$Reader", "readSlash", "(LSweeperRounds$Text;)Z"⟩, 4), (⟨"SweeperRounds$Reader", "readTrees", "(LSweeperRounds$Text;)Z"⟩, 4), (⟨"SweeperRounds$Reader", "readLeftSide", "(LSweeperRounds$Text;)Z"⟩, 4), (⟨"SweeperRounds$Reader", "readCell", "(LSweeperRounds$Text;I)Z"⟩, 4), (⟨"SweeperRounds$Reader", "readRightSide", "(LSweeperRounds$Text;)Z"⟩, 4), (⟨"SweeperRounds$World", "removeLegsIn", "(I)V"⟩, 12), (⟨"SweeperRounds$Round", "driveToLeg", "(LSweeperRounds$Leg;LSweeperRounds$Street;)I"⟩, 2), (⟨"SweeperRounds$Round", "driveTo", "(I)I"⟩, 2), (⟨"SweeperRounds$Round", "fits", "(ILSweeperRounds$Street;)Z"⟩, 2), (⟨"SweeperRounds$Round", "finishCell", "(LSweeperRounds$Leg;LSweeperRounds$Street;I)I"⟩, 2), (⟨"SweeperRounds$Round", "unitsForCell", "()I"⟩, 2), (⟨"SweeperRounds$Round", "sweepOnce", "(LSweeperRounds$Leg;LSweeperRounds$Street;I)Z"⟩, 2), (⟨"SweeperRounds$Round", "endShift", "()V"⟩, 2), (⟨"SweeperRounds", "trySpeed", "(I)V"⟩, 9)]
theorem lw_r1 : ∀ q ∈ lw_privs_1, lw_okq q := List.forall_mem_cons.mpr ⟨lw_p0, List.forall_mem_cons.mpr ⟨lw_p1, List.forall_mem_cons.mpr ⟨lw_p2, List.forall_mem_cons.mpr ⟨lw_p3, List.forall_mem_cons.mpr ⟨lw_p4, List.forall_mem_cons.mpr ⟨lw_p5, List.forall_mem_cons.mpr ⟨lw_p6, List.forall_mem_cons.mpr ⟨lw_p7, List.forall_mem_cons.mpr ⟨lw_p8, List.forall_mem_cons.mpr ⟨lw_p9, List.forall_mem_cons.mpr ⟨lw_p10, List.forall_mem_cons.mpr ⟨lw_p11, List.forall_mem_cons.mpr ⟨lw_p12, List.forall_mem_cons.mpr ⟨lw_p13, List.forall_mem_cons.mpr ⟨lw_p14, List.forall_mem_cons.mpr ⟨lw_p15, fun _ h => absurd h List.not_mem_nil⟩⟩⟩⟩⟩⟩⟩⟩⟩⟩⟩⟩⟩⟩⟩⟩
theorem lw_p16 : lw_okq (⟨"SweeperRounds$Orders", "stepOrder", "()Z"⟩, 4) := ⟨⟨by decide +kernel, by decide +kernel⟩, List.mem_of_getElem? (i := 276) (by decide +kernel), List.mem_of_getElem? (i := 667) (by decide +kernel), List.mem_of_getElem? (i := 668) (by decide +kernel)⟩
theorem lw_p17 : lw_okq (⟨"SweeperRounds$Orders", "swap", "(II)V"⟩, 4) := ⟨⟨by decide +kernel, by decide +kernel⟩, List.mem_of_getElem? (i := 276) (by decide +kernel), List.mem_of_getElem? (i := 671) (by decide +kernel), List.mem_of_getElem? (i := 672) (by decide +kernel)⟩
theorem lw_p18 : lw_okq (⟨"SweeperRounds", "mixStreet", "(JI)J"⟩, 9) := ⟨⟨by decide +kernel, by decide +kernel⟩, List.mem_of_getElem? (i := 15) (by decide +kernel), List.mem_of_getElem? (i := 709) (by decide +kernel), List.mem_of_getElem? (i := 710) (by decide +kernel)⟩
theorem lw_p19 : lw_okq (⟨"SweeperRoundsModel", "copies", "(II)V"⟩, 14) := ⟨⟨by decide +kernel, by decide +kernel⟩, List.mem_of_getElem? (i := 720) (by decide +kernel), List.mem_of_getElem? (i := 773) (by decide +kernel), List.mem_of_getElem? (i := 774) (by decide +kernel)⟩
theorem lw_p20 : lw_okq (⟨"SweeperRoundsModel", "records", "()V"⟩, 14) := ⟨⟨by decide +kernel, by decide +kernel⟩, List.mem_of_getElem? (i := 720) (by decide +kernel), List.mem_of_getElem? (i := 784) (by decide +kernel), List.mem_of_getElem? (i := 785) (by decide +kernel)⟩
theorem lw_p21 : lw_okq (⟨"SweeperRoundsModel", "empties", "(IIII)V"⟩, 14) := ⟨⟨by decide +kernel, by decide +kernel⟩, List.mem_of_getElem? (i := 720) (by decide +kernel), List.mem_of_getElem? (i := 788) (by decide +kernel), List.mem_of_getElem? (i := 789) (by decide +kernel)⟩
theorem lw_p22 : lw_okq (⟨"SweeperRoundsModel", "sets", "(III)V"⟩, 14) := ⟨⟨by decide +kernel, by decide +kernel⟩, List.mem_of_getElem? (i := 720) (by decide +kernel), List.mem_of_getElem? (i := 792) (by decide +kernel), List.mem_of_getElem? (i := 793) (by decide +kernel)⟩
theorem lw_p23 : lw_okq (⟨"SweeperRoundsModel", "isStreet", "(I)Z"⟩, 14) := ⟨⟨by decide +kernel, by decide +kernel⟩, List.mem_of_getElem? (i := 720) (by decide +kernel), List.mem_of_getElem? (i := 800) (by decide +kernel), List.mem_of_getElem? (i := 801) (by decide +kernel)⟩
theorem lw_p24 : lw_okq (⟨"SweeperRoundsModel", "sideSum", "(II)I"⟩, 14) := ⟨⟨by decide +kernel, by decide +kernel⟩, List.mem_of_getElem? (i := 720) (by decide +kernel), List.mem_of_getElem? (i := 804) (by decide +kernel), List.mem_of_getElem? (i := 805) (by decide +kernel)⟩
theorem lw_p25 : lw_okq (⟨"SweeperRoundsModel", "of", "(II)I"⟩, 14) := ⟨⟨by decide +kernel, by decide +kernel⟩, List.mem_of_getElem? (i := 720) (by decide +kernel), List.mem_of_getElem? (i := 808) (by decide +kernel), List.mem_of_getElem? (i := 809) (by decide +kernel)⟩
theorem lw_p26 : lw_okq (⟨"SweeperRoundsModel", "dirtOf", "(III)I"⟩, 14) := ⟨⟨by decide +kernel, by decide +kernel⟩, List.mem_of_getElem? (i := 720) (by decide +kernel), List.mem_of_getElem? (i := 812) (by decide +kernel), List.mem_of_getElem? (i := 813) (by decide +kernel)⟩
theorem lw_p27 : lw_okq (⟨"SweeperRoundsModel", "books", "(II)V"⟩, 14) := ⟨⟨by decide +kernel, by decide +kernel⟩, List.mem_of_getElem? (i := 720) (by decide +kernel), List.mem_of_getElem? (i := 819) (by decide +kernel), List.mem_of_getElem? (i := 820) (by decide +kernel)⟩
theorem lw_p28 : lw_okq (⟨"SweeperRoundsModel", "legOf", "(II)I"⟩, 14) := ⟨⟨by decide +kernel, by decide +kernel⟩, List.mem_of_getElem? (i := 720) (by decide +kernel), List.mem_of_getElem? (i := 823) (by decide +kernel), List.mem_of_getElem? (i := 824) (by decide +kernel)⟩
theorem lw_p29 : lw_okq (⟨"SweeperRoundsModel", "isCell", "(III)Z"⟩, 14) := ⟨⟨by decide +kernel, by decide +kernel⟩, List.mem_of_getElem? (i := 720) (by decide +kernel), List.mem_of_getElem? (i := 831) (by decide +kernel), List.mem_of_getElem? (i := 832) (by decide +kernel)⟩
theorem lw_p30 : lw_okq (⟨"SweeperRoundsModel", "readsDistance", "()Z"⟩, 14) := ⟨⟨by decide +kernel, by decide +kernel⟩, List.mem_of_getElem? (i := 720) (by decide +kernel), List.mem_of_getElem? (i := 851) (by decide +kernel), List.mem_of_getElem? (i := 852) (by decide +kernel)⟩
theorem lw_p31 : lw_okq (⟨"SweeperRoundsModel", "isDigit", "()Z"⟩, 14) := ⟨⟨by decide +kernel, by decide +kernel⟩, List.mem_of_getElem? (i := 720) (by decide +kernel), List.mem_of_getElem? (i := 855) (by decide +kernel), List.mem_of_getElem? (i := 856) (by decide +kernel)⟩
def lw_privs_2 : List (MethodName × Nat) := [(⟨"SweeperRounds$Orders", "stepOrder", "()Z"⟩, 4), (⟨"SweeperRounds$Orders", "swap", "(II)V"⟩, 4), (⟨"SweeperRounds", "mixStreet", "(JI)J"⟩, 9), (⟨"SweeperRoundsModel", "copies", "(II)V"⟩, 14), (⟨"SweeperRoundsModel", "records", "()V"⟩, 14), (⟨"SweeperRoundsModel", "empties", "(IIII)V"⟩, 14), (⟨"SweeperRoundsModel", "sets", "(III)V"⟩, 14), (⟨"SweeperRoundsModel", "isStreet", "(I)Z"⟩, 14), (⟨"SweeperRoundsModel", "sideSum", "(II)I"⟩, 14), (⟨"SweeperRoundsModel", "of", "(II)I"⟩, 14), (⟨"SweeperRoundsModel", "dirtOf", "(III)I"⟩, 14), (⟨"SweeperRoundsModel", "books", "(II)V"⟩, 14), (⟨"SweeperRoundsModel", "legOf", "(II)I"⟩, 14), (⟨"SweeperRoundsModel", "isCell", "(III)Z"⟩, 14), (⟨"SweeperRoundsModel", "readsDistance", "()Z"⟩, 14), (⟨"SweeperRoundsModel", "isDigit", "()Z"⟩, 14)]
theorem lw_r2 : ∀ q ∈ lw_privs_2, lw_okq q := List.forall_mem_cons.mpr ⟨lw_p16, List.forall_mem_cons.mpr ⟨lw_p17, List.forall_mem_cons.mpr ⟨lw_p18, List.forall_mem_cons.mpr ⟨lw_p19, List.forall_mem_cons.mpr ⟨lw_p20, List.forall_mem_cons.mpr ⟨lw_p21, List.forall_mem_cons.mpr ⟨lw_p22, List.forall_mem_cons.mpr ⟨lw_p23, List.forall_mem_cons.mpr ⟨lw_p24, List.forall_mem_cons.mpr ⟨lw_p25, List.forall_mem_cons.mpr ⟨lw_p26, List.forall_mem_cons.mpr ⟨lw_p27, List.forall_mem_cons.mpr ⟨lw_p28, List.forall_mem_cons.mpr ⟨lw_p29, List.forall_mem_cons.mpr ⟨lw_p30, List.forall_mem_cons.mpr ⟨lw_p31, fun _ h => absurd h List.not_mem_nil⟩⟩⟩⟩⟩⟩⟩⟩⟩⟩⟩⟩⟩⟩⟩⟩
theorem lw_p32 : lw_okq (⟨"SweeperRoundsModel", "here", "()I"⟩, 14) := ⟨⟨by decide +kernel, by decide +kernel⟩, List.mem_of_getElem? (i := 720) (by decide +kernel), List.mem_of_getElem? (i := 859) (by decide +kernel), List.mem_of_getElem? (i := 860) (by decide +kernel)⟩
theorem lw_p33 : lw_okq (⟨"SweeperRoundsModel", "fails", "(II)Z"⟩, 14) := ⟨⟨by decide +kernel, by decide +kernel⟩, List.mem_of_getElem? (i := 720) (by decide +kernel), List.mem_of_getElem? (i := 863) (by decide +kernel), List.mem_of_getElem? (i := 864) (by decide +kernel)⟩
theorem lw_p34 : lw_okq (⟨"SweeperRoundsModel", "takes", "(I)Z"⟩, 14) := ⟨⟨by decide +kernel, by decide +kernel⟩, List.mem_of_getElem? (i := 720) (by decide +kernel), List.mem_of_getElem? (i := 867) (by decide +kernel), List.mem_of_getElem? (i := 868) (by decide +kernel)⟩
theorem lw_p35 : lw_okq (⟨"SweeperRoundsModel", "readsTrees", "()Z"⟩, 14) := ⟨⟨by decide +kernel, by decide +kernel⟩, List.mem_of_getElem? (i := 720) (by decide +kernel), List.mem_of_getElem? (i := 871) (by decide +kernel), List.mem_of_getElem? (i := 872) (by decide +kernel)⟩
theorem lw_p36 : lw_okq (⟨"SweeperRoundsModel", "readsSides", "()Z"⟩, 14) := ⟨⟨by decide +kernel, by decide +kernel⟩, List.mem_of_getElem? (i := 720) (by decide +kernel), List.mem_of_getElem? (i := 875) (by decide +kernel), List.mem_of_getElem? (i := 876) (by decide +kernel)⟩
theorem lw_p37 : lw_okq (⟨"SweeperRoundsModel", "isCellHere", "()Z"⟩, 14) := ⟨⟨by decide +kernel, by decide +kernel⟩, List.mem_of_getElem? (i := 720) (by decide +kernel), List.mem_of_getElem? (i := 879) (by decide +kernel), List.mem_of_getElem? (i := 880) (by decide +kernel)⟩
theorem lw_p38 : lw_okq (⟨"SweeperRoundsModel", "readsCell", "(II)V"⟩, 14) := ⟨⟨by decide +kernel, by decide +kernel⟩, List.mem_of_getElem? (i := 720) (by decide +kernel), List.mem_of_getElem? (i := 883) (by decide +kernel), List.mem_of_getElem? (i := 884) (by decide +kernel)⟩
theorem lw_p39 : lw_okq (⟨"SweeperRoundsModel", "could", "(III)I"⟩, 14) := ⟨⟨by decide +kernel, by decide +kernel⟩, List.mem_of_getElem? (i := 720) (by decide +kernel), List.mem_of_getElem? (i := 895) (by decide +kernel), List.mem_of_getElem? (i := 896) (by decide +kernel)⟩
theorem lw_p40 : lw_okq (⟨"SweeperRoundsModel", "isParked", "(III)Z"⟩, 14) := ⟨⟨by decide +kernel, by decide +kernel⟩, List.mem_of_getElem? (i := 720) (by decide +kernel), List.mem_of_getElem? (i := 899) (by decide +kernel), List.mem_of_getElem? (i := 900) (by decide +kernel)⟩
theorem lw_p41 : lw_okq (⟨"SweeperRoundsModel", "grip", "()I"⟩, 14) := ⟨⟨by decide +kernel, by decide +kernel⟩, List.mem_of_getElem? (i := 720) (by decide +kernel), List.mem_of_getElem? (i := 903) (by decide +kernel), List.mem_of_getElem? (i := 904) (by decide +kernel)⟩
theorem lw_p42 : lw_okq (⟨"SweeperRoundsModel", "room", "()I"⟩, 14) := ⟨⟨by decide +kernel, by decide +kernel⟩, List.mem_of_getElem? (i := 720) (by decide +kernel), List.mem_of_getElem? (i := 907) (by decide +kernel), List.mem_of_getElem? (i := 908) (by decide +kernel)⟩
theorem lw_p43 : lw_okq (⟨"SweeperRoundsModel", "parkedIn", "(I)I"⟩, 14) := ⟨⟨by decide +kernel, by decide +kernel⟩, List.mem_of_getElem? (i := 720) (by decide +kernel), List.mem_of_getElem? (i := 918) (by decide +kernel), List.mem_of_getElem? (i := 919) (by decide +kernel)⟩
theorem lw_p44 : lw_okq (⟨"SweeperRoundsModel", "greatest", "(I)I"⟩, 14) := ⟨⟨by decide +kernel, by decide +kernel⟩, List.mem_of_getElem? (i := 720) (by decide +kernel), List.mem_of_getElem? (i := 922) (by decide +kernel), List.mem_of_getElem? (i := 923) (by decide +kernel)⟩
theorem lw_p45 : lw_okq (⟨"SweeperRoundsModel", "legsIn", "(I)I"⟩, 14) := ⟨⟨by decide +kernel, by decide +kernel⟩, List.mem_of_getElem? (i := 720) (by decide +kernel), List.mem_of_getElem? (i := 926) (by decide +kernel), List.mem_of_getElem? (i := 927) (by decide +kernel)⟩
theorem lw_p46 : lw_okq (⟨"SweeperRoundsModel", "isNumber", "(II)Z"⟩, 14) := ⟨⟨by decide +kernel, by decide +kernel⟩, List.mem_of_getElem? (i := 720) (by decide +kernel), List.mem_of_getElem? (i := 934) (by decide +kernel), List.mem_of_getElem? (i := 935) (by decide +kernel)⟩
theorem lw_p47 : lw_okq (⟨"SweeperRoundsModel", "isLeg", "(I)Z"⟩, 14) := ⟨⟨by decide +kernel, by decide +kernel⟩, List.mem_of_getElem? (i := 720) (by decide +kernel), List.mem_of_getElem? (i := 946) (by decide +kernel), List.mem_of_getElem? (i := 947) (by decide +kernel)⟩
def lw_privs_3 : List (MethodName × Nat) := [(⟨"SweeperRoundsModel", "here", "()I"⟩, 14), (⟨"SweeperRoundsModel", "fails", "(II)Z"⟩, 14), (⟨"SweeperRoundsModel", "takes", "(I)Z"⟩, 14), (⟨"SweeperRoundsModel", "readsTrees", "()Z"⟩, 14), (⟨"SweeperRoundsModel", "readsSides", "()Z"⟩, 14), (⟨"SweeperRoundsModel", "isCellHere", "()Z"⟩, 14), (⟨"SweeperRoundsModel", "readsCell", "(II)V"⟩, 14), (⟨"SweeperRoundsModel", "could", "(III)I"⟩, 14), (⟨"SweeperRoundsModel", "isParked", "(III)Z"⟩, 14), (⟨"SweeperRoundsModel", "grip", "()I"⟩, 14), (⟨"SweeperRoundsModel", "room", "()I"⟩, 14), (⟨"SweeperRoundsModel", "parkedIn", "(I)I"⟩, 14), (⟨"SweeperRoundsModel", "greatest", "(I)I"⟩, 14), (⟨"SweeperRoundsModel", "legsIn", "(I)I"⟩, 14), (⟨"SweeperRoundsModel", "isNumber", "(II)Z"⟩, 14), (⟨"SweeperRoundsModel", "isLeg", "(I)Z"⟩, 14)]
theorem lw_r3 : ∀ q ∈ lw_privs_3, lw_okq q := List.forall_mem_cons.mpr ⟨lw_p32, List.forall_mem_cons.mpr ⟨lw_p33, List.forall_mem_cons.mpr ⟨lw_p34, List.forall_mem_cons.mpr ⟨lw_p35, List.forall_mem_cons.mpr ⟨lw_p36, List.forall_mem_cons.mpr ⟨lw_p37, List.forall_mem_cons.mpr ⟨lw_p38, List.forall_mem_cons.mpr ⟨lw_p39, List.forall_mem_cons.mpr ⟨lw_p40, List.forall_mem_cons.mpr ⟨lw_p41, List.forall_mem_cons.mpr ⟨lw_p42, List.forall_mem_cons.mpr ⟨lw_p43, List.forall_mem_cons.mpr ⟨lw_p44, List.forall_mem_cons.mpr ⟨lw_p45, List.forall_mem_cons.mpr ⟨lw_p46, List.forall_mem_cons.mpr ⟨lw_p47, fun _ h => absurd h List.not_mem_nil⟩⟩⟩⟩⟩⟩⟩⟩⟩⟩⟩⟩⟩⟩⟩⟩
theorem lw_p48 : lw_okq (⟨"SweeperRoundsModel", "laysOrder", "()V"⟩, 14) := ⟨⟨by decide +kernel, by decide +kernel⟩, List.mem_of_getElem? (i := 720) (by decide +kernel), List.mem_of_getElem? (i := 958) (by decide +kernel), List.mem_of_getElem? (i := 959) (by decide +kernel)⟩
theorem lw_p49 : lw_okq (⟨"SweeperRoundsModel", "goesThrough", "()V"⟩, 14) := ⟨⟨by decide +kernel, by decide +kernel⟩, List.mem_of_getElem? (i := 720) (by decide +kernel), List.mem_of_getElem? (i := 962) (by decide +kernel), List.mem_of_getElem? (i := 963) (by decide +kernel)⟩
theorem lw_p50 : lw_okq (⟨"SweeperRoundsModel", "drive", "(I)I"⟩, 14) := ⟨⟨by decide +kernel, by decide +kernel⟩, List.mem_of_getElem? (i := 720) (by decide +kernel), List.mem_of_getElem? (i := 966) (by decide +kernel), List.mem_of_getElem? (i := 967) (by decide +kernel)⟩
theorem lw_p51 : lw_okq (⟨"SweeperRoundsModel", "home", "(I)I"⟩, 14) := ⟨⟨by decide +kernel, by decide +kernel⟩, List.mem_of_getElem? (i := 720) (by decide +kernel), List.mem_of_getElem? (i := 970) (by decide +kernel), List.mem_of_getElem? (i := 971) (by decide +kernel)⟩
theorem lw_p52 : lw_okq (⟨"SweeperRoundsModel", "fits", "(III)Z"⟩, 14) := ⟨⟨by decide +kernel, by decide +kernel⟩, List.mem_of_getElem? (i := 720) (by decide +kernel), List.mem_of_getElem? (i := 974) (by decide +kernel), List.mem_of_getElem? (i := 975) (by decide +kernel)⟩
theorem lw_p53 : lw_okq (⟨"SweeperRoundsModel", "latestOf", "(I)I"⟩, 14) := ⟨⟨by decide +kernel, by decide +kernel⟩, List.mem_of_getElem? (i := 720) (by decide +kernel), List.mem_of_getElem? (i := 978) (by decide +kernel), List.mem_of_getElem? (i := 979) (by decide +kernel)⟩
theorem lw_p54 : lw_okq (⟨"SweeperRoundsModel", "adds", "(II)V"⟩, 14) := ⟨⟨by decide +kernel, by decide +kernel⟩, List.mem_of_getElem? (i := 720) (by decide +kernel), List.mem_of_getElem? (i := 982) (by decide +kernel), List.mem_of_getElem? (i := 983) (by decide +kernel)⟩
theorem lw_p55 : lw_okq (⟨"SweeperRoundsModel", "sweeps", "(II)V"⟩, 14) := ⟨⟨by decide +kernel, by decide +kernel⟩, List.mem_of_getElem? (i := 720) (by decide +kernel), List.mem_of_getElem? (i := 986) (by decide +kernel), List.mem_of_getElem? (i := 987) (by decide +kernel)⟩
theorem lw_p56 : lw_okq (⟨"SweeperRoundsModel", "dumps", "()V"⟩, 14) := ⟨⟨by decide +kernel, by decide +kernel⟩, List.mem_of_getElem? (i := 720) (by decide +kernel), List.mem_of_getElem? (i := 990) (by decide +kernel), List.mem_of_getElem? (i := 991) (by decide +kernel)⟩
theorem lw_p57 : lw_okq (⟨"SweeperRoundsModel", "falls", "(I)V"⟩, 14) := ⟨⟨by decide +kernel, by decide +kernel⟩, List.mem_of_getElem? (i := 720) (by decide +kernel), List.mem_of_getElem? (i := 1002) (by decide +kernel), List.mem_of_getElem? (i := 1003) (by decide +kernel)⟩
theorem lw_p58 : lw_okq (⟨"SweeperRoundsModel", "onStreets", "()I"⟩, 14) := ⟨⟨by decide +kernel, by decide +kernel⟩, List.mem_of_getElem? (i := 720) (by decide +kernel), List.mem_of_getElem? (i := 1006) (by decide +kernel), List.mem_of_getElem? (i := 1007) (by decide +kernel)⟩
theorem lw_p59 : lw_okq (⟨"SweeperRoundsModel", "runs", "(III)V"⟩, 14) := ⟨⟨by decide +kernel, by decide +kernel⟩, List.mem_of_getElem? (i := 720) (by decide +kernel), List.mem_of_getElem? (i := 1014) (by decide +kernel), List.mem_of_getElem? (i := 1015) (by decide +kernel)⟩
theorem lw_p60 : lw_okq (⟨"SweeperRoundsModel", "loadWith", "(I)I"⟩, 14) := ⟨⟨by decide +kernel, by decide +kernel⟩, List.mem_of_getElem? (i := 720) (by decide +kernel), List.mem_of_getElem? (i := 1022) (by decide +kernel), List.mem_of_getElem? (i := 1023) (by decide +kernel)⟩
theorem lw_p61 : lw_okq (⟨"SweeperRoundsModel", "ordersNext", "()Z"⟩, 14) := ⟨⟨by decide +kernel, by decide +kernel⟩, List.mem_of_getElem? (i := 720) (by decide +kernel), List.mem_of_getElem? (i := 1034) (by decide +kernel), List.mem_of_getElem? (i := 1035) (by decide +kernel)⟩
theorem lw_p62 : lw_okq (⟨"SweeperRoundsModel", "swaps", "(II)V"⟩, 14) := ⟨⟨by decide +kernel, by decide +kernel⟩, List.mem_of_getElem? (i := 720) (by decide +kernel), List.mem_of_getElem? (i := 1038) (by decide +kernel), List.mem_of_getElem? (i := 1039) (by decide +kernel)⟩
theorem lw_p63 : lw_okq (⟨"SweeperRoundsModel", "mixes", "(I)V"⟩, 14) := ⟨⟨by decide +kernel, by decide +kernel⟩, List.mem_of_getElem? (i := 720) (by decide +kernel), List.mem_of_getElem? (i := 1060) (by decide +kernel), List.mem_of_getElem? (i := 1061) (by decide +kernel)⟩
def lw_privs_4 : List (MethodName × Nat) := [(⟨"SweeperRoundsModel", "laysOrder", "()V"⟩, 14), (⟨"SweeperRoundsModel", "goesThrough", "()V"⟩, 14), (⟨"SweeperRoundsModel", "drive", "(I)I"⟩, 14), (⟨"SweeperRoundsModel", "home", "(I)I"⟩, 14), (⟨"SweeperRoundsModel", "fits", "(III)Z"⟩, 14), (⟨"SweeperRoundsModel", "latestOf", "(I)I"⟩, 14), (⟨"SweeperRoundsModel", "adds", "(II)V"⟩, 14), (⟨"SweeperRoundsModel", "sweeps", "(II)V"⟩, 14), (⟨"SweeperRoundsModel", "dumps", "()V"⟩, 14), (⟨"SweeperRoundsModel", "falls", "(I)V"⟩, 14), (⟨"SweeperRoundsModel", "onStreets", "()I"⟩, 14), (⟨"SweeperRoundsModel", "runs", "(III)V"⟩, 14), (⟨"SweeperRoundsModel", "loadWith", "(I)I"⟩, 14), (⟨"SweeperRoundsModel", "ordersNext", "()Z"⟩, 14), (⟨"SweeperRoundsModel", "swaps", "(II)V"⟩, 14), (⟨"SweeperRoundsModel", "mixes", "(I)V"⟩, 14)]
theorem lw_r4 : ∀ q ∈ lw_privs_4, lw_okq q := List.forall_mem_cons.mpr ⟨lw_p48, List.forall_mem_cons.mpr ⟨lw_p49, List.forall_mem_cons.mpr ⟨lw_p50, List.forall_mem_cons.mpr ⟨lw_p51, List.forall_mem_cons.mpr ⟨lw_p52, List.forall_mem_cons.mpr ⟨lw_p53, List.forall_mem_cons.mpr ⟨lw_p54, List.forall_mem_cons.mpr ⟨lw_p55, List.forall_mem_cons.mpr ⟨lw_p56, List.forall_mem_cons.mpr ⟨lw_p57, List.forall_mem_cons.mpr ⟨lw_p58, List.forall_mem_cons.mpr ⟨lw_p59, List.forall_mem_cons.mpr ⟨lw_p60, List.forall_mem_cons.mpr ⟨lw_p61, List.forall_mem_cons.mpr ⟨lw_p62, List.forall_mem_cons.mpr ⟨lw_p63, fun _ h => absurd h List.not_mem_nil⟩⟩⟩⟩⟩⟩⟩⟩⟩⟩⟩⟩⟩⟩⟩⟩
theorem lw_p64 : lw_okq (⟨"SweeperRoundsModel", "mixesStreet", "(I)V"⟩, 14) := ⟨⟨by decide +kernel, by decide +kernel⟩, List.mem_of_getElem? (i := 720) (by decide +kernel), List.mem_of_getElem? (i := 1065) (by decide +kernel), List.mem_of_getElem? (i := 1066) (by decide +kernel)⟩
def lw_privs_5 : List (MethodName × Nat) := [(⟨"SweeperRoundsModel", "mixesStreet", "(I)V"⟩, 14)]
theorem lw_r5 : ∀ q ∈ lw_privs_5, lw_okq q := List.forall_mem_cons.mpr ⟨lw_p64, fun _ h => absurd h List.not_mem_nil⟩
def lw_privs : List (MethodName × Nat) := lw_privs_1 ++ (lw_privs_2 ++ (lw_privs_3 ++ (lw_privs_4 ++ (lw_privs_5))))
def lw_tbl : List Cond := k2_sels lw_privs ++ tables_1
theorem lw_privs_ok : ∀ q ∈ lw_privs, lw_okq q := by
  show ∀ q ∈ lw_privs_1 ++ (lw_privs_2 ++ (lw_privs_3 ++ (lw_privs_4 ++ (lw_privs_5)))), lw_okq q
  exact List.forall_mem_append.mpr ⟨lw_r1, List.forall_mem_append.mpr ⟨lw_r2, List.forall_mem_append.mpr ⟨lw_r3, List.forall_mem_append.mpr ⟨lw_r4, lw_r5⟩⟩⟩⟩
-- ===== end of PART A

/-- all the tables' words that any caller may hand on -/
def wA : List Cond := lw_tbl.filter goodWord
theorem wA_i {i : Nat} {w : Cond} (h : lw_tbl[i]? = some w) (g : goodWord w = true) : w ∈ wA := List.mem_filter.mpr ⟨List.mem_of_getElem? h, g⟩
theorem wA_sub {w : Cond} (h : w ∈ wA) : w ∈ lw_tbl := (List.mem_filter.mp h).1
theorem wA_good {w : Cond} (h : w ∈ wA) : goodWord w = true := (List.mem_filter.mp h).2
theorem wA_all {l : List Cond} (h : (l.all fun w => decide (w ∈ lw_tbl) && goodWord w) = true) : ∀ w ∈ l, w ∈ wA := fun w hw => by
  have := List.all_eq_true.mp h w hw
  simp only [Bool.and_eq_true, decide_eq_true_eq] at this
  exact List.mem_filter.mpr this
theorem wA_in {ws : List Cond} (h : ∀ w ∈ ws, w ∈ wA) : GoodIn wA ws := fun w hw => ⟨h w hw, good_of_word (wA_good (h w hw))⟩
theorem wA_cons {c : Cond} (h : c ∈ wA) : ∀ w ∈ c :: wA, w ∈ wA := fun w hw => (List.mem_cons.mp hw).elim (fun e => e ▸ h) id
theorem wm_0 : Cond.selects "SweeperRounds$Reader" ⟨"SweeperRounds$Reader", "readDistance", "(LSweeperRounds$Text;)Z"⟩ ⟨"SweeperRounds$Reader", "readDistance", "(LSweeperRounds$Text;)Z"⟩ ∈ wA := wA_i (i := 0) (by decide +kernel) (by decide +kernel)
theorem wm_1 : Cond.selects "SweeperRounds$Reader" ⟨"SweeperRounds$Reader", "fail", "(II)Z"⟩ ⟨"SweeperRounds$Reader", "fail", "(II)Z"⟩ ∈ wA := wA_i (i := 1) (by decide +kernel) (by decide +kernel)
theorem wm_2 : Cond.selects "SweeperRounds$Reader" ⟨"SweeperRounds$Reader", "readSlash", "(LSweeperRounds$Text;)Z"⟩ ⟨"SweeperRounds$Reader", "readSlash", "(LSweeperRounds$Text;)Z"⟩ ∈ wA := wA_i (i := 2) (by decide +kernel) (by decide +kernel)
theorem wm_3 : Cond.selects "SweeperRounds$Reader" ⟨"SweeperRounds$Reader", "readTrees", "(LSweeperRounds$Text;)Z"⟩ ⟨"SweeperRounds$Reader", "readTrees", "(LSweeperRounds$Text;)Z"⟩ ∈ wA := wA_i (i := 3) (by decide +kernel) (by decide +kernel)
theorem wm_4 : Cond.selects "SweeperRounds$Reader" ⟨"SweeperRounds$Reader", "readLeftSide", "(LSweeperRounds$Text;)Z"⟩ ⟨"SweeperRounds$Reader", "readLeftSide", "(LSweeperRounds$Text;)Z"⟩ ∈ wA := wA_i (i := 4) (by decide +kernel) (by decide +kernel)
theorem wm_5 : Cond.selects "SweeperRounds$Reader" ⟨"SweeperRounds$Reader", "readCell", "(LSweeperRounds$Text;I)Z"⟩ ⟨"SweeperRounds$Reader", "readCell", "(LSweeperRounds$Text;I)Z"⟩ ∈ wA := wA_i (i := 5) (by decide +kernel) (by decide +kernel)
theorem wm_6 : Cond.selects "SweeperRounds$Reader" ⟨"SweeperRounds$Reader", "readRightSide", "(LSweeperRounds$Text;)Z"⟩ ⟨"SweeperRounds$Reader", "readRightSide", "(LSweeperRounds$Text;)Z"⟩ ∈ wA := wA_i (i := 6) (by decide +kernel) (by decide +kernel)
theorem wm_7 : Cond.selects "SweeperRounds$World" ⟨"SweeperRounds$World", "removeLegsIn", "(I)V"⟩ ⟨"SweeperRounds$World", "removeLegsIn", "(I)V"⟩ ∈ wA := wA_i (i := 7) (by decide +kernel) (by decide +kernel)
theorem wm_8 : Cond.selects "SweeperRounds$Round" ⟨"SweeperRounds$Round", "driveToLeg", "(LSweeperRounds$Leg;LSweeperRounds$Street;)I"⟩ ⟨"SweeperRounds$Round", "driveToLeg", "(LSweeperRounds$Leg;LSweeperRounds$Street;)I"⟩ ∈ wA := wA_i (i := 8) (by decide +kernel) (by decide +kernel)
theorem wm_9 : Cond.selects "SweeperRounds$Round" ⟨"SweeperRounds$Round", "driveTo", "(I)I"⟩ ⟨"SweeperRounds$Round", "driveTo", "(I)I"⟩ ∈ wA := wA_i (i := 9) (by decide +kernel) (by decide +kernel)
theorem wm_10 : Cond.selects "SweeperRounds$Round" ⟨"SweeperRounds$Round", "fits", "(ILSweeperRounds$Street;)Z"⟩ ⟨"SweeperRounds$Round", "fits", "(ILSweeperRounds$Street;)Z"⟩ ∈ wA := wA_i (i := 10) (by decide +kernel) (by decide +kernel)
theorem wm_11 : Cond.selects "SweeperRounds$Round" ⟨"SweeperRounds$Round", "finishCell", "(LSweeperRounds$Leg;LSweeperRounds$Street;I)I"⟩ ⟨"SweeperRounds$Round", "finishCell", "(LSweeperRounds$Leg;LSweeperRounds$Street;I)I"⟩ ∈ wA := wA_i (i := 11) (by decide +kernel) (by decide +kernel)
theorem wm_12 : Cond.selects "SweeperRounds$Round" ⟨"SweeperRounds$Round", "unitsForCell", "()I"⟩ ⟨"SweeperRounds$Round", "unitsForCell", "()I"⟩ ∈ wA := wA_i (i := 12) (by decide +kernel) (by decide +kernel)
theorem wm_13 : Cond.selects "SweeperRounds$Round" ⟨"SweeperRounds$Round", "sweepOnce", "(LSweeperRounds$Leg;LSweeperRounds$Street;I)Z"⟩ ⟨"SweeperRounds$Round", "sweepOnce", "(LSweeperRounds$Leg;LSweeperRounds$Street;I)Z"⟩ ∈ wA := wA_i (i := 13) (by decide +kernel) (by decide +kernel)
theorem wm_14 : Cond.selects "SweeperRounds$Round" ⟨"SweeperRounds$Round", "endShift", "()V"⟩ ⟨"SweeperRounds$Round", "endShift", "()V"⟩ ∈ wA := wA_i (i := 14) (by decide +kernel) (by decide +kernel)
theorem wm_15 : Cond.selects "SweeperRounds" ⟨"SweeperRounds", "trySpeed", "(I)V"⟩ ⟨"SweeperRounds", "trySpeed", "(I)V"⟩ ∈ wA := wA_i (i := 15) (by decide +kernel) (by decide +kernel)
theorem wm_16 : Cond.selects "SweeperRounds$Orders" ⟨"SweeperRounds$Orders", "stepOrder", "()Z"⟩ ⟨"SweeperRounds$Orders", "stepOrder", "()Z"⟩ ∈ wA := wA_i (i := 16) (by decide +kernel) (by decide +kernel)
theorem wm_17 : Cond.selects "SweeperRounds$Orders" ⟨"SweeperRounds$Orders", "swap", "(II)V"⟩ ⟨"SweeperRounds$Orders", "swap", "(II)V"⟩ ∈ wA := wA_i (i := 17) (by decide +kernel) (by decide +kernel)
theorem wm_18 : Cond.selects "SweeperRounds" ⟨"SweeperRounds", "mixStreet", "(JI)J"⟩ ⟨"SweeperRounds", "mixStreet", "(JI)J"⟩ ∈ wA := wA_i (i := 18) (by decide +kernel) (by decide +kernel)
theorem wm_19 : Cond.selects "SweeperRoundsModel" ⟨"SweeperRoundsModel", "copies", "(II)V"⟩ ⟨"SweeperRoundsModel", "copies", "(II)V"⟩ ∈ wA := wA_i (i := 19) (by decide +kernel) (by decide +kernel)
theorem wm_20 : Cond.selects "SweeperRoundsModel" ⟨"SweeperRoundsModel", "records", "()V"⟩ ⟨"SweeperRoundsModel", "records", "()V"⟩ ∈ wA := wA_i (i := 20) (by decide +kernel) (by decide +kernel)
theorem wm_21 : Cond.selects "SweeperRoundsModel" ⟨"SweeperRoundsModel", "empties", "(IIII)V"⟩ ⟨"SweeperRoundsModel", "empties", "(IIII)V"⟩ ∈ wA := wA_i (i := 21) (by decide +kernel) (by decide +kernel)
theorem wm_22 : Cond.selects "SweeperRoundsModel" ⟨"SweeperRoundsModel", "sets", "(III)V"⟩ ⟨"SweeperRoundsModel", "sets", "(III)V"⟩ ∈ wA := wA_i (i := 22) (by decide +kernel) (by decide +kernel)
theorem wm_23 : Cond.selects "SweeperRoundsModel" ⟨"SweeperRoundsModel", "isStreet", "(I)Z"⟩ ⟨"SweeperRoundsModel", "isStreet", "(I)Z"⟩ ∈ wA := wA_i (i := 23) (by decide +kernel) (by decide +kernel)
theorem wm_24 : Cond.selects "SweeperRoundsModel" ⟨"SweeperRoundsModel", "sideSum", "(II)I"⟩ ⟨"SweeperRoundsModel", "sideSum", "(II)I"⟩ ∈ wA := wA_i (i := 24) (by decide +kernel) (by decide +kernel)
theorem wm_25 : Cond.selects "SweeperRoundsModel" ⟨"SweeperRoundsModel", "of", "(II)I"⟩ ⟨"SweeperRoundsModel", "of", "(II)I"⟩ ∈ wA := wA_i (i := 25) (by decide +kernel) (by decide +kernel)
theorem wm_26 : Cond.selects "SweeperRoundsModel" ⟨"SweeperRoundsModel", "dirtOf", "(III)I"⟩ ⟨"SweeperRoundsModel", "dirtOf", "(III)I"⟩ ∈ wA := wA_i (i := 26) (by decide +kernel) (by decide +kernel)
theorem wm_27 : Cond.selects "SweeperRoundsModel" ⟨"SweeperRoundsModel", "books", "(II)V"⟩ ⟨"SweeperRoundsModel", "books", "(II)V"⟩ ∈ wA := wA_i (i := 27) (by decide +kernel) (by decide +kernel)
theorem wm_28 : Cond.selects "SweeperRoundsModel" ⟨"SweeperRoundsModel", "legOf", "(II)I"⟩ ⟨"SweeperRoundsModel", "legOf", "(II)I"⟩ ∈ wA := wA_i (i := 28) (by decide +kernel) (by decide +kernel)
theorem wm_29 : Cond.selects "SweeperRoundsModel" ⟨"SweeperRoundsModel", "isCell", "(III)Z"⟩ ⟨"SweeperRoundsModel", "isCell", "(III)Z"⟩ ∈ wA := wA_i (i := 29) (by decide +kernel) (by decide +kernel)
theorem wm_30 : Cond.selects "SweeperRoundsModel" ⟨"SweeperRoundsModel", "readsDistance", "()Z"⟩ ⟨"SweeperRoundsModel", "readsDistance", "()Z"⟩ ∈ wA := wA_i (i := 30) (by decide +kernel) (by decide +kernel)
theorem wm_31 : Cond.selects "SweeperRoundsModel" ⟨"SweeperRoundsModel", "isDigit", "()Z"⟩ ⟨"SweeperRoundsModel", "isDigit", "()Z"⟩ ∈ wA := wA_i (i := 31) (by decide +kernel) (by decide +kernel)
theorem wm_32 : Cond.selects "SweeperRoundsModel" ⟨"SweeperRoundsModel", "here", "()I"⟩ ⟨"SweeperRoundsModel", "here", "()I"⟩ ∈ wA := wA_i (i := 32) (by decide +kernel) (by decide +kernel)
theorem wm_33 : Cond.selects "SweeperRoundsModel" ⟨"SweeperRoundsModel", "fails", "(II)Z"⟩ ⟨"SweeperRoundsModel", "fails", "(II)Z"⟩ ∈ wA := wA_i (i := 33) (by decide +kernel) (by decide +kernel)
theorem wm_34 : Cond.selects "SweeperRoundsModel" ⟨"SweeperRoundsModel", "takes", "(I)Z"⟩ ⟨"SweeperRoundsModel", "takes", "(I)Z"⟩ ∈ wA := wA_i (i := 34) (by decide +kernel) (by decide +kernel)
theorem wm_35 : Cond.selects "SweeperRoundsModel" ⟨"SweeperRoundsModel", "readsTrees", "()Z"⟩ ⟨"SweeperRoundsModel", "readsTrees", "()Z"⟩ ∈ wA := wA_i (i := 35) (by decide +kernel) (by decide +kernel)
theorem wm_36 : Cond.selects "SweeperRoundsModel" ⟨"SweeperRoundsModel", "readsSides", "()Z"⟩ ⟨"SweeperRoundsModel", "readsSides", "()Z"⟩ ∈ wA := wA_i (i := 36) (by decide +kernel) (by decide +kernel)
theorem wm_37 : Cond.selects "SweeperRoundsModel" ⟨"SweeperRoundsModel", "isCellHere", "()Z"⟩ ⟨"SweeperRoundsModel", "isCellHere", "()Z"⟩ ∈ wA := wA_i (i := 37) (by decide +kernel) (by decide +kernel)
theorem wm_38 : Cond.selects "SweeperRoundsModel" ⟨"SweeperRoundsModel", "readsCell", "(II)V"⟩ ⟨"SweeperRoundsModel", "readsCell", "(II)V"⟩ ∈ wA := wA_i (i := 38) (by decide +kernel) (by decide +kernel)
theorem wm_39 : Cond.selects "SweeperRoundsModel" ⟨"SweeperRoundsModel", "could", "(III)I"⟩ ⟨"SweeperRoundsModel", "could", "(III)I"⟩ ∈ wA := wA_i (i := 39) (by decide +kernel) (by decide +kernel)
theorem wm_40 : Cond.selects "SweeperRoundsModel" ⟨"SweeperRoundsModel", "isParked", "(III)Z"⟩ ⟨"SweeperRoundsModel", "isParked", "(III)Z"⟩ ∈ wA := wA_i (i := 40) (by decide +kernel) (by decide +kernel)
theorem wm_41 : Cond.selects "SweeperRoundsModel" ⟨"SweeperRoundsModel", "grip", "()I"⟩ ⟨"SweeperRoundsModel", "grip", "()I"⟩ ∈ wA := wA_i (i := 41) (by decide +kernel) (by decide +kernel)
theorem wm_42 : Cond.selects "SweeperRoundsModel" ⟨"SweeperRoundsModel", "room", "()I"⟩ ⟨"SweeperRoundsModel", "room", "()I"⟩ ∈ wA := wA_i (i := 42) (by decide +kernel) (by decide +kernel)
theorem wm_43 : Cond.selects "SweeperRoundsModel" ⟨"SweeperRoundsModel", "parkedIn", "(I)I"⟩ ⟨"SweeperRoundsModel", "parkedIn", "(I)I"⟩ ∈ wA := wA_i (i := 43) (by decide +kernel) (by decide +kernel)
theorem wm_44 : Cond.selects "SweeperRoundsModel" ⟨"SweeperRoundsModel", "greatest", "(I)I"⟩ ⟨"SweeperRoundsModel", "greatest", "(I)I"⟩ ∈ wA := wA_i (i := 44) (by decide +kernel) (by decide +kernel)
theorem wm_45 : Cond.selects "SweeperRoundsModel" ⟨"SweeperRoundsModel", "legsIn", "(I)I"⟩ ⟨"SweeperRoundsModel", "legsIn", "(I)I"⟩ ∈ wA := wA_i (i := 45) (by decide +kernel) (by decide +kernel)
theorem wm_46 : Cond.selects "SweeperRoundsModel" ⟨"SweeperRoundsModel", "isNumber", "(II)Z"⟩ ⟨"SweeperRoundsModel", "isNumber", "(II)Z"⟩ ∈ wA := wA_i (i := 46) (by decide +kernel) (by decide +kernel)
theorem wm_47 : Cond.selects "SweeperRoundsModel" ⟨"SweeperRoundsModel", "isLeg", "(I)Z"⟩ ⟨"SweeperRoundsModel", "isLeg", "(I)Z"⟩ ∈ wA := wA_i (i := 47) (by decide +kernel) (by decide +kernel)
theorem wm_48 : Cond.selects "SweeperRoundsModel" ⟨"SweeperRoundsModel", "laysOrder", "()V"⟩ ⟨"SweeperRoundsModel", "laysOrder", "()V"⟩ ∈ wA := wA_i (i := 48) (by decide +kernel) (by decide +kernel)
theorem wm_49 : Cond.selects "SweeperRoundsModel" ⟨"SweeperRoundsModel", "goesThrough", "()V"⟩ ⟨"SweeperRoundsModel", "goesThrough", "()V"⟩ ∈ wA := wA_i (i := 49) (by decide +kernel) (by decide +kernel)
theorem wm_50 : Cond.selects "SweeperRoundsModel" ⟨"SweeperRoundsModel", "drive", "(I)I"⟩ ⟨"SweeperRoundsModel", "drive", "(I)I"⟩ ∈ wA := wA_i (i := 50) (by decide +kernel) (by decide +kernel)
theorem wm_51 : Cond.selects "SweeperRoundsModel" ⟨"SweeperRoundsModel", "home", "(I)I"⟩ ⟨"SweeperRoundsModel", "home", "(I)I"⟩ ∈ wA := wA_i (i := 51) (by decide +kernel) (by decide +kernel)
theorem wm_52 : Cond.selects "SweeperRoundsModel" ⟨"SweeperRoundsModel", "fits", "(III)Z"⟩ ⟨"SweeperRoundsModel", "fits", "(III)Z"⟩ ∈ wA := wA_i (i := 52) (by decide +kernel) (by decide +kernel)
theorem wm_53 : Cond.selects "SweeperRoundsModel" ⟨"SweeperRoundsModel", "latestOf", "(I)I"⟩ ⟨"SweeperRoundsModel", "latestOf", "(I)I"⟩ ∈ wA := wA_i (i := 53) (by decide +kernel) (by decide +kernel)
theorem wm_54 : Cond.selects "SweeperRoundsModel" ⟨"SweeperRoundsModel", "adds", "(II)V"⟩ ⟨"SweeperRoundsModel", "adds", "(II)V"⟩ ∈ wA := wA_i (i := 54) (by decide +kernel) (by decide +kernel)
theorem wm_55 : Cond.selects "SweeperRoundsModel" ⟨"SweeperRoundsModel", "sweeps", "(II)V"⟩ ⟨"SweeperRoundsModel", "sweeps", "(II)V"⟩ ∈ wA := wA_i (i := 55) (by decide +kernel) (by decide +kernel)
theorem wm_56 : Cond.selects "SweeperRoundsModel" ⟨"SweeperRoundsModel", "dumps", "()V"⟩ ⟨"SweeperRoundsModel", "dumps", "()V"⟩ ∈ wA := wA_i (i := 56) (by decide +kernel) (by decide +kernel)
theorem wm_57 : Cond.selects "SweeperRoundsModel" ⟨"SweeperRoundsModel", "falls", "(I)V"⟩ ⟨"SweeperRoundsModel", "falls", "(I)V"⟩ ∈ wA := wA_i (i := 57) (by decide +kernel) (by decide +kernel)
theorem wm_58 : Cond.selects "SweeperRoundsModel" ⟨"SweeperRoundsModel", "onStreets", "()I"⟩ ⟨"SweeperRoundsModel", "onStreets", "()I"⟩ ∈ wA := wA_i (i := 58) (by decide +kernel) (by decide +kernel)
theorem wm_59 : Cond.selects "SweeperRoundsModel" ⟨"SweeperRoundsModel", "runs", "(III)V"⟩ ⟨"SweeperRoundsModel", "runs", "(III)V"⟩ ∈ wA := wA_i (i := 59) (by decide +kernel) (by decide +kernel)
theorem wm_60 : Cond.selects "SweeperRoundsModel" ⟨"SweeperRoundsModel", "loadWith", "(I)I"⟩ ⟨"SweeperRoundsModel", "loadWith", "(I)I"⟩ ∈ wA := wA_i (i := 60) (by decide +kernel) (by decide +kernel)
theorem wm_61 : Cond.selects "SweeperRoundsModel" ⟨"SweeperRoundsModel", "ordersNext", "()Z"⟩ ⟨"SweeperRoundsModel", "ordersNext", "()Z"⟩ ∈ wA := wA_i (i := 61) (by decide +kernel) (by decide +kernel)
theorem wm_62 : Cond.selects "SweeperRoundsModel" ⟨"SweeperRoundsModel", "swaps", "(II)V"⟩ ⟨"SweeperRoundsModel", "swaps", "(II)V"⟩ ∈ wA := wA_i (i := 62) (by decide +kernel) (by decide +kernel)
theorem wm_63 : Cond.selects "SweeperRoundsModel" ⟨"SweeperRoundsModel", "mixes", "(I)V"⟩ ⟨"SweeperRoundsModel", "mixes", "(I)V"⟩ ∈ wA := wA_i (i := 63) (by decide +kernel) (by decide +kernel)
theorem wm_64 : Cond.selects "SweeperRoundsModel" ⟨"SweeperRoundsModel", "mixesStreet", "(I)V"⟩ ⟨"SweeperRoundsModel", "mixesStreet", "(I)V"⟩ ∈ wA := wA_i (i := 64) (by decide +kernel) (by decide +kernel)
theorem wm_65 : Cond.initialized "SweeperRoundsLaw" ∈ wA := wA_i (i := 65) (by decide +kernel) (by decide +kernel)
theorem wm_66 : Cond.initialized "SweeperRounds" ∈ wA := wA_i (i := 66) (by decide +kernel) (by decide +kernel)
theorem wm_67 : Cond.initialized "SweeperRounds$Text" ∈ wA := wA_i (i := 67) (by decide +kernel) (by decide +kernel)
theorem wm_68 : Cond.initialized "SweeperRounds$Reader" ∈ wA := wA_i (i := 68) (by decide +kernel) (by decide +kernel)
theorem wm_69 : Cond.initialized "SweeperRounds$Street" ∈ wA := wA_i (i := 69) (by decide +kernel) (by decide +kernel)
theorem wm_70 : Cond.initialized "SweeperRounds$World" ∈ wA := wA_i (i := 70) (by decide +kernel) (by decide +kernel)
theorem wm_71 : Cond.initialized "SweeperRounds$Report" ∈ wA := wA_i (i := 71) (by decide +kernel) (by decide +kernel)
theorem wm_72 : Cond.initialized "SweeperRounds$Leg" ∈ wA := wA_i (i := 72) (by decide +kernel) (by decide +kernel)
theorem wm_73 : Cond.initialized "java/lang/System" ∈ wA := wA_i (i := 73) (by decide +kernel) (by decide +kernel)
theorem wm_74 : Cond.initialized "SweeperRounds$Round" ∈ wA := wA_i (i := 74) (by decide +kernel) (by decide +kernel)
theorem wm_75 : Cond.initialized "SweeperRounds$History" ∈ wA := wA_i (i := 75) (by decide +kernel) (by decide +kernel)
theorem wm_76 : Cond.initialized "SweeperRounds$Orders" ∈ wA := wA_i (i := 76) (by decide +kernel) (by decide +kernel)
theorem wm_77 : Cond.initialized "SweeperRoundsModel" ∈ wA := wA_i (i := 77) (by decide +kernel) (by decide +kernel)
theorem wm_78 : Cond.initialized "java/lang/Math" ∈ wA := wA_i (i := 78) (by decide +kernel) (by decide +kernel)
theorem wm_79 : Cond.classLink "SweeperRoundsLaw" 7 "SweeperRounds" ∈ wA := wA_i (i := 79) (by decide +kernel) (by decide +kernel)
theorem wm_80 : Cond.instantiable "SweeperRounds" 9 ∈ wA := wA_i (i := 80) (by decide +kernel) (by decide +kernel)
theorem wm_81 : Cond.methodLink "SweeperRoundsLaw" 9 ⟨"SweeperRounds", "<init>", "()V"⟩ ∈ wA := wA_i (i := 81) (by decide +kernel) (by decide +kernel)
theorem wm_82 : Cond.instanceMethod ⟨"SweeperRounds", "<init>", "()V"⟩ ∈ wA := wA_i (i := 82) (by decide +kernel) (by decide +kernel)
theorem wm_83 : Cond.code ⟨"SweeperRounds", "<init>", "()V"⟩ prog_1_method_1_code 1 none ∈ wA := wA_i (i := 83) (by decide +kernel) (by decide +kernel)
theorem wm_84 : Cond.methodLink "SweeperRounds" 1 ⟨"java/lang/Object", "<init>", "()V"⟩ ∈ wA := wA_i (i := 84) (by decide +kernel) (by decide +kernel)
theorem wm_85 : Cond.instanceMethod ⟨"java/lang/Object", "<init>", "()V"⟩ ∈ wA := wA_i (i := 85) (by decide +kernel) (by decide +kernel)
theorem wm_86 : Cond.code ⟨"java/lang/Object", "<init>", "()V"⟩ object_method_1_code 1 none ∈ wA := wA_i (i := 86) (by decide +kernel) (by decide +kernel)
theorem wm_87 : Cond.classLink "SweeperRounds" 7 "SweeperRounds$Text" ∈ wA := wA_i (i := 87) (by decide +kernel) (by decide +kernel)
theorem wm_88 : Cond.instantiable "SweeperRounds$Text" 2 ∈ wA := wA_i (i := 88) (by decide +kernel) (by decide +kernel)
theorem wm_90 : Cond.instanceMethod ⟨"SweeperRounds$Text", "<init>", "()V"⟩ ∈ wA := wA_i (i := 90) (by decide +kernel) (by decide +kernel)
theorem wm_91 : Cond.code ⟨"SweeperRounds$Text", "<init>", "()V"⟩ prog_9_method_1_code 1 none ∈ wA := wA_i (i := 91) (by decide +kernel) (by decide +kernel)
theorem wm_92 : Cond.methodLink "SweeperRounds$Text" 3 ⟨"java/lang/Object", "<init>", "()V"⟩ ∈ wA := wA_i (i := 92) (by decide +kernel) (by decide +kernel)
theorem wm_93 : Cond.fieldLink "SweeperRounds$Text" 9 "SweeperRounds$Text" "signs" "[C" ∈ wA := wA_i (i := 93) (by decide +kernel) (by decide +kernel)
theorem wm_94 : Cond.fieldLink "SweeperRounds$Text" 15 "SweeperRounds$Text" "length" "I" ∈ wA := wA_i (i := 94) (by decide +kernel) (by decide +kernel)
theorem wm_95 : Cond.fieldLink "SweeperRounds" 63 "SweeperRounds$Text" "length" "I" ∈ wA := wA_i (i := 95) (by decide +kernel) (by decide +kernel)
theorem wm_101 : Cond.arrayClass FieldType.char ∈ wA := wA_i (i := 101) (by decide +kernel) (by decide +kernel)
theorem wm_102 : Cond.classLink "SweeperRounds" 16 "SweeperRounds$Reader" ∈ wA := wA_i (i := 102) (by decide +kernel) (by decide +kernel)
theorem wm_103 : Cond.instantiable "SweeperRounds$Reader" 4 ∈ wA := wA_i (i := 103) (by decide +kernel) (by decide +kernel)
theorem wm_105 : Cond.instanceMethod ⟨"SweeperRounds$Reader", "<init>", "()V"⟩ ∈ wA := wA_i (i := 105) (by decide +kernel) (by decide +kernel)
theorem wm_106 : Cond.code ⟨"SweeperRounds$Reader", "<init>", "()V"⟩ prog_5_method_1_code 1 none ∈ wA := wA_i (i := 106) (by decide +kernel) (by decide +kernel)
theorem wm_107 : Cond.methodLink "SweeperRounds$Reader" 3 ⟨"java/lang/Object", "<init>", "()V"⟩ ∈ wA := wA_i (i := 107) (by decide +kernel) (by decide +kernel)
theorem wm_108 : Cond.classLink "SweeperRounds$Reader" 9 "SweeperRounds$Street" ∈ wA := wA_i (i := 108) (by decide +kernel) (by decide +kernel)
theorem wm_109 : Cond.instantiable "SweeperRounds$Street" 5 ∈ wA := wA_i (i := 109) (by decide +kernel) (by decide +kernel)
theorem wm_111 : Cond.instanceMethod ⟨"SweeperRounds$Street", "<init>", "()V"⟩ ∈ wA := wA_i (i := 111) (by decide +kernel) (by decide +kernel)
theorem wm_112 : Cond.code ⟨"SweeperRounds$Street", "<init>", "()V"⟩ prog_8_method_1_code 1 none ∈ wA := wA_i (i := 112) (by decide +kernel) (by decide +kernel)
theorem wm_113 : Cond.methodLink "SweeperRounds$Street" 3 ⟨"java/lang/Object", "<init>", "()V"⟩ ∈ wA := wA_i (i := 113) (by decide +kernel) (by decide +kernel)
theorem wm_114 : Cond.fieldLink "SweeperRounds$Street" 19 "SweeperRounds$Street" "cells" "I" ∈ wA := wA_i (i := 114) (by decide +kernel) (by decide +kernel)
theorem wm_115 : Cond.fieldLink "SweeperRounds$Round" 59 "SweeperRounds$Street" "cells" "I" ∈ wA := wA_i (i := 115) (by decide +kernel) (by decide +kernel)
theorem wm_116 : Cond.fieldLink "SweeperRounds$World" 85 "SweeperRounds$Street" "cells" "I" ∈ wA := wA_i (i := 116) (by decide +kernel) (by decide +kernel)
theorem wm_117 : Cond.fieldLink "SweeperRounds" 91 "SweeperRounds$Street" "cells" "I" ∈ wA := wA_i (i := 117) (by decide +kernel) (by decide +kernel)
theorem wm_118 : Cond.fieldLink "SweeperRounds$Reader" 75 "SweeperRounds$Street" "cells" "I" ∈ wA := wA_i (i := 118) (by decide +kernel) (by decide +kernel)
theorem wm_119 : Cond.fieldLink "SweeperRounds$Street" 23 "SweeperRounds$Street" "distance" "I" ∈ wA := wA_i (i := 119) (by decide +kernel) (by decide +kernel)
theorem wm_120 : Cond.fieldLink "SweeperRounds$Round" 92 "SweeperRounds$Street" "distance" "I" ∈ wA := wA_i (i := 120) (by decide +kernel) (by decide +kernel)
theorem wm_121 : Cond.fieldLink "SweeperRounds$Reader" 58 "SweeperRounds$Street" "distance" "I" ∈ wA := wA_i (i := 121) (by decide +kernel) (by decide +kernel)
theorem wm_122 : Cond.fieldLink "SweeperRounds$World" 98 "SweeperRounds$Street" "distance" "I" ∈ wA := wA_i (i := 122) (by decide +kernel) (by decide +kernel)
theorem wm_123 : Cond.fieldLink "SweeperRounds" 149 "SweeperRounds$Street" "distance" "I" ∈ wA := wA_i (i := 123) (by decide +kernel) (by decide +kernel)
theorem wm_124 : Cond.fieldLink "SweeperRounds$Street" 26 "SweeperRounds$Street" "trees" "I" ∈ wA := wA_i (i := 124) (by decide +kernel) (by decide +kernel)
theorem wm_125 : Cond.fieldLink "SweeperRounds$Reader" 64 "SweeperRounds$Street" "trees" "I" ∈ wA := wA_i (i := 125) (by decide +kernel) (by decide +kernel)
theorem wm_126 : Cond.fieldLink "SweeperRounds$World" 101 "SweeperRounds$Street" "trees" "I" ∈ wA := wA_i (i := 126) (by decide +kernel) (by decide +kernel)
theorem wm_127 : Cond.fieldLink "SweeperRounds" 152 "SweeperRounds$Street" "trees" "I" ∈ wA := wA_i (i := 127) (by decide +kernel) (by decide +kernel)
theorem wm_128 : Cond.fieldLink "SweeperRounds$Street" 9 "SweeperRounds$Street" "dirt" "[I" ∈ wA := wA_i (i := 128) (by decide +kernel) (by decide +kernel)
theorem wm_129 : Cond.fieldLink "SweeperRounds$Round" 137 "SweeperRounds$Street" "dirt" "[I" ∈ wA := wA_i (i := 129) (by decide +kernel) (by decide +kernel)
theorem wm_130 : Cond.fieldLink "SweeperRounds$Reader" 78 "SweeperRounds$Street" "dirt" "[I" ∈ wA := wA_i (i := 130) (by decide +kernel) (by decide +kernel)
theorem wm_131 : Cond.fieldLink "SweeperRounds" 130 "SweeperRounds$Street" "dirt" "[I" ∈ wA := wA_i (i := 131) (by decide +kernel) (by decide +kernel)
theorem wm_132 : Cond.fieldLink "SweeperRounds$World" 111 "SweeperRounds$Street" "dirt" "[I" ∈ wA := wA_i (i := 132) (by decide +kernel) (by decide +kernel)
theorem wm_133 : Cond.fieldLink "SweeperRounds$Street" 15 "SweeperRounds$Street" "parked" "[Z" ∈ wA := wA_i (i := 133) (by decide +kernel) (by decide +kernel)
theorem wm_134 : Cond.fieldLink "SweeperRounds$Reader" 82 "SweeperRounds$Street" "parked" "[Z" ∈ wA := wA_i (i := 134) (by decide +kernel) (by decide +kernel)
theorem wm_135 : Cond.fieldLink "SweeperRounds" 126 "SweeperRounds$Street" "parked" "[Z" ∈ wA := wA_i (i := 135) (by decide +kernel) (by decide +kernel)
theorem wm_147 : Cond.arrayClass FieldType.int ∈ wA := wA_i (i := 147) (by decide +kernel) (by decide +kernel)
theorem wm_148 : Cond.arrayClass FieldType.boolean ∈ wA := wA_i (i := 148) (by decide +kernel) (by decide +kernel)
theorem wm_149 : Cond.fieldLink "SweeperRounds$Reader" 12 "SweeperRounds$Reader" "draft" "LSweeperRounds$Street;" ∈ wA := wA_i (i := 149) (by decide +kernel) (by decide +kernel)
theorem wm_150 : Cond.fieldLink "SweeperRounds" 83 "SweeperRounds$Reader" "draft" "LSweeperRounds$Street;" ∈ wA := wA_i (i := 150) (by decide +kernel) (by decide +kernel)
theorem wm_151 : Cond.fieldLink "SweeperRounds$Reader" 25 "SweeperRounds$Reader" "faultIndex" "I" ∈ wA := wA_i (i := 151) (by decide +kernel) (by decide +kernel)
theorem wm_152 : Cond.fieldLink "SweeperRounds" 77 "SweeperRounds$Reader" "faultIndex" "I" ∈ wA := wA_i (i := 152) (by decide +kernel) (by decide +kernel)
theorem wm_153 : Cond.fieldLink "SweeperRounds$Reader" 18 "SweeperRounds$Reader" "at" "I" ∈ wA := wA_i (i := 153) (by decide +kernel) (by decide +kernel)
theorem wm_154 : Cond.fieldLink "SweeperRounds$Reader" 22 "SweeperRounds$Reader" "fault" "I" ∈ wA := wA_i (i := 154) (by decide +kernel) (by decide +kernel)
theorem wm_164 : Cond.classLink "SweeperRounds" 23 "SweeperRounds$World" ∈ wA := wA_i (i := 164) (by decide +kernel) (by decide +kernel)
theorem wm_165 : Cond.instantiable "SweeperRounds$World" 12 ∈ wA := wA_i (i := 165) (by decide +kernel) (by decide +kernel)
theorem wm_166 : Cond.methodLink "SweeperRounds" 25 ⟨"SweeperRounds$World", "<init>", "()V"⟩ ∈ wA := wA_i (i := 166) (by decide +kernel) (by decide +kernel)
theorem wm_167 : Cond.instanceMethod ⟨"SweeperRounds$World", "<init>", "()V"⟩ ∈ wA := wA_i (i := 167) (by decide +kernel) (by decide +kernel)
theorem wm_168 : Cond.code ⟨"SweeperRounds$World", "<init>", "()V"⟩ prog_10_method_1_code 2 none ∈ wA := wA_i (i := 168) (by decide +kernel) (by decide +kernel)
theorem wm_169 : Cond.methodLink "SweeperRounds$World" 3 ⟨"java/lang/Object", "<init>", "()V"⟩ ∈ wA := wA_i (i := 169) (by decide +kernel) (by decide +kernel)
theorem wm_170 : Cond.classLink "SweeperRounds$World" 9 "SweeperRounds$Street" ∈ wA := wA_i (i := 170) (by decide +kernel) (by decide +kernel)
theorem wm_172 : Cond.classLink "SweeperRounds$World" 17 "SweeperRounds$Leg" ∈ wA := wA_i (i := 172) (by decide +kernel) (by decide +kernel)
theorem wm_174 : Cond.classLink "SweeperRounds$World" 30 "SweeperRounds$Report" ∈ wA := wA_i (i := 174) (by decide +kernel) (by decide +kernel)
theorem wm_175 : Cond.instantiable "SweeperRounds$Report" 6 ∈ wA := wA_i (i := 175) (by decide +kernel) (by decide +kernel)
theorem wm_177 : Cond.instanceMethod ⟨"SweeperRounds$Report", "<init>", "()V"⟩ ∈ wA := wA_i (i := 177) (by decide +kernel) (by decide +kernel)
theorem wm_178 : Cond.code ⟨"SweeperRounds$Report", "<init>", "()V"⟩ prog_6_method_1_code 1 none ∈ wA := wA_i (i := 178) (by decide +kernel) (by decide +kernel)
theorem wm_179 : Cond.methodLink "SweeperRounds$Report" 3 ⟨"java/lang/Object", "<init>", "()V"⟩ ∈ wA := wA_i (i := 179) (by decide +kernel) (by decide +kernel)
theorem wm_180 : Cond.fieldLink "SweeperRounds$Report" 9 "SweeperRounds$Report" "reason" "I" ∈ wA := wA_i (i := 180) (by decide +kernel) (by decide +kernel)
theorem wm_181 : Cond.fieldLink "SweeperRounds$Round" 45 "SweeperRounds$Report" "reason" "I" ∈ wA := wA_i (i := 181) (by decide +kernel) (by decide +kernel)
theorem wm_182 : Cond.fieldLink "SweeperRounds" 230 "SweeperRounds$Report" "reason" "I" ∈ wA := wA_i (i := 182) (by decide +kernel) (by decide +kernel)
theorem wm_183 : Cond.fieldLink "SweeperRounds$Report" 15 "SweeperRounds$Report" "units" "I" ∈ wA := wA_i (i := 183) (by decide +kernel) (by decide +kernel)
theorem wm_184 : Cond.fieldLink "SweeperRounds$Round" 89 "SweeperRounds$Report" "units" "I" ∈ wA := wA_i (i := 184) (by decide +kernel) (by decide +kernel)
theorem wm_185 : Cond.fieldLink "SweeperRounds" 233 "SweeperRounds$Report" "units" "I" ∈ wA := wA_i (i := 185) (by decide +kernel) (by decide +kernel)
theorem wm_186 : Cond.fieldLink "SweeperRounds$Report" 18 "SweeperRounds$Report" "trips" "I" ∈ wA := wA_i (i := 186) (by decide +kernel) (by decide +kernel)
theorem wm_187 : Cond.fieldLink "SweeperRounds$Round" 119 "SweeperRounds$Report" "trips" "I" ∈ wA := wA_i (i := 187) (by decide +kernel) (by decide +kernel)
theorem wm_188 : Cond.fieldLink "SweeperRounds" 236 "SweeperRounds$Report" "trips" "I" ∈ wA := wA_i (i := 188) (by decide +kernel) (by decide +kernel)
theorem wm_189 : Cond.fieldLink "SweeperRounds$Report" 21 "SweeperRounds$Report" "taken" "I" ∈ wA := wA_i (i := 189) (by decide +kernel) (by decide +kernel)
theorem wm_190 : Cond.fieldLink "SweeperRounds$Orders" 58 "SweeperRounds$Report" "taken" "I" ∈ wA := wA_i (i := 190) (by decide +kernel) (by decide +kernel)
theorem wm_191 : Cond.fieldLink "SweeperRounds$Round" 143 "SweeperRounds$Report" "taken" "I" ∈ wA := wA_i (i := 191) (by decide +kernel) (by decide +kernel)
theorem wm_192 : Cond.fieldLink "SweeperRounds" 215 "SweeperRounds$Report" "taken" "I" ∈ wA := wA_i (i := 192) (by decide +kernel) (by decide +kernel)
theorem wm_193 : Cond.fieldLink "SweeperRounds$Report" 24 "SweeperRounds$Report" "worn" "I" ∈ wA := wA_i (i := 193) (by decide +kernel) (by decide +kernel)
theorem wm_194 : Cond.fieldLink "SweeperRounds$Round" 147 "SweeperRounds$Report" "worn" "I" ∈ wA := wA_i (i := 194) (by decide +kernel) (by decide +kernel)
theorem wm_195 : Cond.fieldLink "SweeperRounds" 239 "SweeperRounds$Report" "worn" "I" ∈ wA := wA_i (i := 195) (by decide +kernel) (by decide +kernel)
theorem wm_196 : Cond.fieldLink "SweeperRounds$Report" 27 "SweeperRounds$Report" "leg" "I" ∈ wA := wA_i (i := 196) (by decide +kernel) (by decide +kernel)
theorem wm_197 : Cond.fieldLink "SweeperRounds$Round" 75 "SweeperRounds$Report" "leg" "I" ∈ wA := wA_i (i := 197) (by decide +kernel) (by decide +kernel)
theorem wm_198 : Cond.fieldLink "SweeperRounds" 242 "SweeperRounds$Report" "leg" "I" ∈ wA := wA_i (i := 198) (by decide +kernel) (by decide +kernel)
theorem wm_213 : Cond.instantiable "SweeperRounds$Leg" 4 ∈ wA := wA_i (i := 213) (by decide +kernel) (by decide +kernel)
theorem wm_215 : Cond.instanceMethod ⟨"SweeperRounds$Leg", "<init>", "()V"⟩ ∈ wA := wA_i (i := 215) (by decide +kernel) (by decide +kernel)
theorem wm_216 : Cond.code ⟨"SweeperRounds$Leg", "<init>", "()V"⟩ prog_3_method_1_code 1 none ∈ wA := wA_i (i := 216) (by decide +kernel) (by decide +kernel)
theorem wm_217 : Cond.methodLink "SweeperRounds$Leg" 1 ⟨"java/lang/Object", "<init>", "()V"⟩ ∈ wA := wA_i (i := 217) (by decide +kernel) (by decide +kernel)
theorem wm_218 : Cond.fieldLink "SweeperRounds$Leg" 7 "SweeperRounds$Leg" "street" "I" ∈ wA := wA_i (i := 218) (by decide +kernel) (by decide +kernel)
theorem wm_219 : Cond.fieldLink "SweeperRounds$Round" 52 "SweeperRounds$Leg" "street" "I" ∈ wA := wA_i (i := 219) (by decide +kernel) (by decide +kernel)
theorem wm_220 : Cond.fieldLink "SweeperRounds$World" 92 "SweeperRounds$Leg" "street" "I" ∈ wA := wA_i (i := 220) (by decide +kernel) (by decide +kernel)
theorem wm_221 : Cond.fieldLink "SweeperRounds" 190 "SweeperRounds$Leg" "street" "I" ∈ wA := wA_i (i := 221) (by decide +kernel) (by decide +kernel)
theorem wm_222 : Cond.fieldLink "SweeperRounds$Leg" 13 "SweeperRounds$Leg" "side" "I" ∈ wA := wA_i (i := 222) (by decide +kernel) (by decide +kernel)
theorem wm_223 : Cond.fieldLink "SweeperRounds$Round" 64 "SweeperRounds$Leg" "side" "I" ∈ wA := wA_i (i := 223) (by decide +kernel) (by decide +kernel)
theorem wm_224 : Cond.fieldLink "SweeperRounds$World" 108 "SweeperRounds$Leg" "side" "I" ∈ wA := wA_i (i := 224) (by decide +kernel) (by decide +kernel)
theorem wm_225 : Cond.fieldLink "SweeperRounds" 195 "SweeperRounds$Leg" "side" "I" ∈ wA := wA_i (i := 225) (by decide +kernel) (by decide +kernel)
theorem wm_226 : Cond.fieldLink "SweeperRounds$Leg" 16 "SweeperRounds$Leg" "sweptCells" "I" ∈ wA := wA_i (i := 226) (by decide +kernel) (by decide +kernel)
theorem wm_227 : Cond.fieldLink "SweeperRounds$Round" 37 "SweeperRounds$Leg" "sweptCells" "I" ∈ wA := wA_i (i := 227) (by decide +kernel) (by decide +kernel)
theorem wm_228 : Cond.fieldLink "SweeperRounds" 202 "SweeperRounds$Leg" "sweptCells" "I" ∈ wA := wA_i (i := 228) (by decide +kernel) (by decide +kernel)
theorem wm_229 : Cond.fieldLink "SweeperRounds$Leg" 19 "SweeperRounds$Leg" "taken" "I" ∈ wA := wA_i (i := 229) (by decide +kernel) (by decide +kernel)
theorem wm_230 : Cond.fieldLink "SweeperRounds$Round" 42 "SweeperRounds$Leg" "taken" "I" ∈ wA := wA_i (i := 230) (by decide +kernel) (by decide +kernel)
theorem wm_231 : Cond.fieldLink "SweeperRounds" 205 "SweeperRounds$Leg" "taken" "I" ∈ wA := wA_i (i := 231) (by decide +kernel) (by decide +kernel)
theorem wm_243 : Cond.methodLink "SweeperRounds$World" 42 ⟨"java/lang/System", "arraycopy", "(Ljava/lang/Object;ILjava/lang/Object;II)V"⟩ ∈ wA := wA_i (i := 243) (by decide +kernel) (by decide +kernel)
theorem wm_244 : Cond.static ⟨"java/lang/System", "arraycopy", "(Ljava/lang/Object;ILjava/lang/Object;II)V"⟩ ∈ wA := wA_i (i := 244) (by decide +kernel) (by decide +kernel)
theorem wm_245 : Cond.native ⟨"java/lang/System", "arraycopy", "(Ljava/lang/Object;ILjava/lang/Object;II)V"⟩ ∈ wA := wA_i (i := 245) (by decide +kernel) (by decide +kernel)
theorem wm_246 : Cond.fieldLink "SweeperRounds$World" 11 "SweeperRounds$World" "streets" "[LSweeperRounds$Street;" ∈ wA := wA_i (i := 246) (by decide +kernel) (by decide +kernel)
theorem wm_247 : Cond.fieldLink "SweeperRounds$Round" 48 "SweeperRounds$World" "streets" "[LSweeperRounds$Street;" ∈ wA := wA_i (i := 247) (by decide +kernel) (by decide +kernel)
theorem wm_248 : Cond.fieldLink "SweeperRounds" 122 "SweeperRounds$World" "streets" "[LSweeperRounds$Street;" ∈ wA := wA_i (i := 248) (by decide +kernel) (by decide +kernel)
theorem wm_249 : Cond.fieldLink "SweeperRounds$World" 52 "SweeperRounds$World" "streetCount" "I" ∈ wA := wA_i (i := 249) (by decide +kernel) (by decide +kernel)
theorem wm_250 : Cond.fieldLink "SweeperRounds" 70 "SweeperRounds$World" "streetCount" "I" ∈ wA := wA_i (i := 250) (by decide +kernel) (by decide +kernel)
theorem wm_251 : Cond.fieldLink "SweeperRounds$World" 19 "SweeperRounds$World" "legs" "[LSweeperRounds$Leg;" ∈ wA := wA_i (i := 251) (by decide +kernel) (by decide +kernel)
theorem wm_252 : Cond.fieldLink "SweeperRounds$Round" 33 "SweeperRounds$World" "legs" "[LSweeperRounds$Leg;" ∈ wA := wA_i (i := 252) (by decide +kernel) (by decide +kernel)
theorem wm_253 : Cond.fieldLink "SweeperRounds$Orders" 40 "SweeperRounds$World" "legs" "[LSweeperRounds$Leg;" ∈ wA := wA_i (i := 253) (by decide +kernel) (by decide +kernel)
theorem wm_254 : Cond.fieldLink "SweeperRounds" 186 "SweeperRounds$World" "legs" "[LSweeperRounds$Leg;" ∈ wA := wA_i (i := 254) (by decide +kernel) (by decide +kernel)
theorem wm_255 : Cond.fieldLink "SweeperRounds$Orders" 18 "SweeperRounds$World" "legCount" "I" ∈ wA := wA_i (i := 255) (by decide +kernel) (by decide +kernel)
theorem wm_256 : Cond.fieldLink "SweeperRounds$Round" 30 "SweeperRounds$World" "legCount" "I" ∈ wA := wA_i (i := 256) (by decide +kernel) (by decide +kernel)
theorem wm_257 : Cond.fieldLink "SweeperRounds$World" 59 "SweeperRounds$World" "legCount" "I" ∈ wA := wA_i (i := 257) (by decide +kernel) (by decide +kernel)
theorem wm_258 : Cond.fieldLink "SweeperRounds" 108 "SweeperRounds$World" "legCount" "I" ∈ wA := wA_i (i := 258) (by decide +kernel) (by decide +kernel)
theorem wm_259 : Cond.fieldLink "SweeperRounds$World" 65 "SweeperRounds$World" "legsTell" "Z" ∈ wA := wA_i (i := 259) (by decide +kernel) (by decide +kernel)
theorem wm_260 : Cond.fieldLink "SweeperRounds$Round" 153 "SweeperRounds$World" "legsTell" "Z" ∈ wA := wA_i (i := 260) (by decide +kernel) (by decide +kernel)
theorem wm_261 : Cond.fieldLink "SweeperRounds" 198 "SweeperRounds$World" "legsTell" "Z" ∈ wA := wA_i (i := 261) (by decide +kernel) (by decide +kernel)
theorem wm_262 : Cond.fieldLink "SweeperRounds$World" 23 "SweeperRounds$World" "settings" "[I" ∈ wA := wA_i (i := 262) (by decide +kernel) (by decide +kernel)
theorem wm_263 : Cond.fieldLink "SweeperRounds$Round" 104 "SweeperRounds$World" "settings" "[I" ∈ wA := wA_i (i := 263) (by decide +kernel) (by decide +kernel)
theorem wm_264 : Cond.fieldLink "SweeperRounds" 174 "SweeperRounds$World" "settings" "[I" ∈ wA := wA_i (i := 264) (by decide +kernel) (by decide +kernel)
theorem wm_265 : Cond.fieldLink "SweeperRounds$World" 48 "SweeperRounds$World" "brush" "I" ∈ wA := wA_i (i := 265) (by decide +kernel) (by decide +kernel)
theorem wm_266 : Cond.fieldLink "SweeperRounds$Round" 144 "SweeperRounds$World" "brush" "I" ∈ wA := wA_i (i := 266) (by decide +kernel) (by decide +kernel)
theorem wm_267 : Cond.fieldLink "SweeperRounds" 274 "SweeperRounds$World" "brush" "I" ∈ wA := wA_i (i := 267) (by decide +kernel) (by decide +kernel)
theorem wm_268 : Cond.fieldLink "SweeperRounds$World" 69 "SweeperRounds$World" "hopper" "I" ∈ wA := wA_i (i := 268) (by decide +kernel) (by decide +kernel)
theorem wm_269 : Cond.fieldLink "SweeperRounds$Round" 140 "SweeperRounds$World" "hopper" "I" ∈ wA := wA_i (i := 269) (by decide +kernel) (by decide +kernel)
theorem wm_270 : Cond.fieldLink "SweeperRounds" 277 "SweeperRounds$World" "hopper" "I" ∈ wA := wA_i (i := 270) (by decide +kernel) (by decide +kernel)
theorem wm_271 : Cond.fieldLink "SweeperRounds$World" 27 "SweeperRounds$World" "sums" "[I" ∈ wA := wA_i (i := 271) (by decide +kernel) (by decide +kernel)
theorem wm_272 : Cond.fieldLink "SweeperRounds" 265 "SweeperRounds$World" "sums" "[I" ∈ wA := wA_i (i := 272) (by decide +kernel) (by decide +kernel)
theorem wm_273 : Cond.fieldLink "SweeperRounds$World" 33 "SweeperRounds$World" "report" "LSweeperRounds$Report;" ∈ wA := wA_i (i := 273) (by decide +kernel) (by decide +kernel)
theorem wm_274 : Cond.fieldLink "SweeperRounds$Round" 15 "SweeperRounds$World" "report" "LSweeperRounds$Report;" ∈ wA := wA_i (i := 274) (by decide +kernel) (by decide +kernel)
theorem wm_275 : Cond.fieldLink "SweeperRounds$Orders" 54 "SweeperRounds$World" "report" "LSweeperRounds$Report;" ∈ wA := wA_i (i := 275) (by decide +kernel) (by decide +kernel)
theorem wm_276 : Cond.fieldLink "SweeperRounds" 211 "SweeperRounds$World" "report" "LSweeperRounds$Report;" ∈ wA := wA_i (i := 276) (by decide +kernel) (by decide +kernel)
theorem wm_277 : Cond.fieldLink "SweeperRounds$World" 75 "SweeperRounds$World" "shifts" "I" ∈ wA := wA_i (i := 277) (by decide +kernel) (by decide +kernel)
theorem wm_278 : Cond.fieldLink "SweeperRounds$Round" 150 "SweeperRounds$World" "shifts" "I" ∈ wA := wA_i (i := 278) (by decide +kernel) (by decide +kernel)
theorem wm_279 : Cond.fieldLink "SweeperRounds" 227 "SweeperRounds$World" "shifts" "I" ∈ wA := wA_i (i := 279) (by decide +kernel) (by decide +kernel)
theorem wm_280 : Cond.fieldLink "SweeperRounds$World" 78 "SweeperRounds$World" "nights" "I" ∈ wA := wA_i (i := 280) (by decide +kernel) (by decide +kernel)
theorem wm_281 : Cond.fieldLink "SweeperRounds" 280 "SweeperRounds$World" "nights" "I" ∈ wA := wA_i (i := 281) (by decide +kernel) (by decide +kernel)
theorem wm_307 : Cond.classLink "SweeperRounds" 30 "SweeperRounds$Round" ∈ wA := wA_i (i := 307) (by decide +kernel) (by decide +kernel)
theorem wm_308 : Cond.instantiable "SweeperRounds$Round" 2 ∈ wA := wA_i (i := 308) (by decide +kernel) (by decide +kernel)
theorem wm_309 : Cond.methodLink "SweeperRounds" 32 ⟨"SweeperRounds$Round", "<init>", "(LSweeperRounds$World;)V"⟩ ∈ wA := wA_i (i := 309) (by decide +kernel) (by decide +kernel)
theorem wm_310 : Cond.instanceMethod ⟨"SweeperRounds$Round", "<init>", "(LSweeperRounds$World;)V"⟩ ∈ wA := wA_i (i := 310) (by decide +kernel) (by decide +kernel)
theorem wm_311 : Cond.code ⟨"SweeperRounds$Round", "<init>", "(LSweeperRounds$World;)V"⟩ prog_7_method_1_code 2 none ∈ wA := wA_i (i := 311) (by decide +kernel) (by decide +kernel)
theorem wm_312 : Cond.methodLink "SweeperRounds$Round" 3 ⟨"java/lang/Object", "<init>", "()V"⟩ ∈ wA := wA_i (i := 312) (by decide +kernel) (by decide +kernel)
theorem wm_313 : Cond.fieldLink "SweeperRounds$Round" 9 "SweeperRounds$Round" "world" "LSweeperRounds$World;" ∈ wA := wA_i (i := 313) (by decide +kernel) (by decide +kernel)
theorem wm_314 : Cond.fieldLink "SweeperRounds$Round" 26 "SweeperRounds$Round" "standsIn" "I" ∈ wA := wA_i (i := 314) (by decide +kernel) (by decide +kernel)
theorem wm_320 : Cond.classLink "SweeperRounds" 39 "SweeperRounds$History" ∈ wA := wA_i (i := 320) (by decide +kernel) (by decide +kernel)
theorem wm_321 : Cond.instantiable "SweeperRounds$History" 3 ∈ wA := wA_i (i := 321) (by decide +kernel) (by decide +kernel)
theorem wm_322 : Cond.methodLink "SweeperRounds" 41 ⟨"SweeperRounds$History", "<init>", "()V"⟩ ∈ wA := wA_i (i := 322) (by decide +kernel) (by decide +kernel)
theorem wm_323 : Cond.instanceMethod ⟨"SweeperRounds$History", "<init>", "()V"⟩ ∈ wA := wA_i (i := 323) (by decide +kernel) (by decide +kernel)
theorem wm_324 : Cond.code ⟨"SweeperRounds$History", "<init>", "()V"⟩ prog_2_method_1_code 2 none ∈ wA := wA_i (i := 324) (by decide +kernel) (by decide +kernel)
theorem wm_325 : Cond.methodLink "SweeperRounds$History" 3 ⟨"java/lang/Object", "<init>", "()V"⟩ ∈ wA := wA_i (i := 325) (by decide +kernel) (by decide +kernel)
theorem wm_326 : Cond.classLink "SweeperRounds$History" 9 "SweeperRounds$World" ∈ wA := wA_i (i := 326) (by decide +kernel) (by decide +kernel)
theorem wm_328 : Cond.methodLink "SweeperRounds$History" 17 ⟨"SweeperRounds$World", "<init>", "()V"⟩ ∈ wA := wA_i (i := 328) (by decide +kernel) (by decide +kernel)
theorem wm_329 : Cond.fieldLink "SweeperRounds$History" 11 "SweeperRounds$History" "worlds" "[LSweeperRounds$World;" ∈ wA := wA_i (i := 329) (by decide +kernel) (by decide +kernel)
theorem wm_330 : Cond.fieldLink "SweeperRounds$History" 18 "SweeperRounds$History" "next" "I" ∈ wA := wA_i (i := 330) (by decide +kernel) (by decide +kernel)
theorem wm_331 : Cond.fieldLink "SweeperRounds$History" 26 "SweeperRounds$History" "size" "I" ∈ wA := wA_i (i := 331) (by decide +kernel) (by decide +kernel)
theorem wm_332 : Cond.fieldLink "SweeperRounds" 268 "SweeperRounds$History" "size" "I" ∈ wA := wA_i (i := 332) (by decide +kernel) (by decide +kernel)
theorem wm_340 : Cond.classLink "SweeperRounds" 52 "SweeperRounds$Orders" ∈ wA := wA_i (i := 340) (by decide +kernel) (by decide +kernel)
theorem wm_341 : Cond.instantiable "SweeperRounds$Orders" 4 ∈ wA := wA_i (i := 341) (by decide +kernel) (by decide +kernel)
theorem wm_343 : Cond.instanceMethod ⟨"SweeperRounds$Orders", "<init>", "()V"⟩ ∈ wA := wA_i (i := 343) (by decide +kernel) (by decide +kernel)
theorem wm_344 : Cond.code ⟨"SweeperRounds$Orders", "<init>", "()V"⟩ prog_4_method_1_code 1 none ∈ wA := wA_i (i := 344) (by decide +kernel) (by decide +kernel)
theorem wm_345 : Cond.methodLink "SweeperRounds$Orders" 3 ⟨"java/lang/Object", "<init>", "()V"⟩ ∈ wA := wA_i (i := 345) (by decide +kernel) (by decide +kernel)
theorem wm_346 : Cond.fieldLink "SweeperRounds$Orders" 9 "SweeperRounds$Orders" "best" "[I" ∈ wA := wA_i (i := 346) (by decide +kernel) (by decide +kernel)
theorem wm_347 : Cond.fieldLink "SweeperRounds" 255 "SweeperRounds$Orders" "best" "[I" ∈ wA := wA_i (i := 347) (by decide +kernel) (by decide +kernel)
theorem wm_348 : Cond.fieldLink "SweeperRounds$Orders" 33 "SweeperRounds$Orders" "bestTaken" "I" ∈ wA := wA_i (i := 348) (by decide +kernel) (by decide +kernel)
theorem wm_349 : Cond.fieldLink "SweeperRounds" 252 "SweeperRounds$Orders" "bestTaken" "I" ∈ wA := wA_i (i := 349) (by decide +kernel) (by decide +kernel)
theorem wm_350 : Cond.fieldLink "SweeperRounds$Orders" 15 "SweeperRounds$Orders" "order" "[I" ∈ wA := wA_i (i := 350) (by decide +kernel) (by decide +kernel)
theorem wm_351 : Cond.fieldLink "SweeperRounds$Orders" 30 "SweeperRounds$Orders" "length" "I" ∈ wA := wA_i (i := 351) (by decide +kernel) (by decide +kernel)
theorem wm_361 : Cond.fieldLink "SweeperRounds" 10 "SweeperRounds" "text" "LSweeperRounds$Text;" ∈ wA := wA_i (i := 361) (by decide +kernel) (by decide +kernel)
theorem wm_362 : Cond.fieldLink "SweeperRounds" 19 "SweeperRounds" "reader" "LSweeperRounds$Reader;" ∈ wA := wA_i (i := 362) (by decide +kernel) (by decide +kernel)
theorem wm_363 : Cond.fieldLink "SweeperRounds" 26 "SweeperRounds" "now" "LSweeperRounds$World;" ∈ wA := wA_i (i := 363) (by decide +kernel) (by decide +kernel)
theorem wm_364 : Cond.fieldLink "SweeperRounds" 35 "SweeperRounds" "round" "LSweeperRounds$Round;" ∈ wA := wA_i (i := 364) (by decide +kernel) (by decide +kernel)
theorem wm_365 : Cond.fieldLink "SweeperRounds" 42 "SweeperRounds" "history" "LSweeperRounds$History;" ∈ wA := wA_i (i := 365) (by decide +kernel) (by decide +kernel)
theorem wm_366 : Cond.fieldLink "SweeperRounds" 46 "SweeperRounds" "trial" "LSweeperRounds$World;" ∈ wA := wA_i (i := 366) (by decide +kernel) (by decide +kernel)
theorem wm_367 : Cond.fieldLink "SweeperRounds" 49 "SweeperRounds" "trialRound" "LSweeperRounds$Round;" ∈ wA := wA_i (i := 367) (by decide +kernel) (by decide +kernel)
theorem wm_368 : Cond.fieldLink "SweeperRounds" 55 "SweeperRounds" "orders" "LSweeperRounds$Orders;" ∈ wA := wA_i (i := 368) (by decide +kernel) (by decide +kernel)
theorem wm_369 : Cond.fieldLink "SweeperRounds" 59 "SweeperRounds" "latestFault" "I" ∈ wA := wA_i (i := 369) (by decide +kernel) (by decide +kernel)
theorem wm_389 : Cond.methodLink "SweeperRoundsLaw" 13 ⟨"SweeperRounds", "type", "(I)I"⟩ ∈ wA := wA_i (i := 389) (by decide +kernel) (by decide +kernel)
theorem wm_390 : Cond.instanceMethod ⟨"SweeperRounds", "type", "(I)I"⟩ ∈ wA := wA_i (i := 390) (by decide +kernel) (by decide +kernel)
theorem wm_391 : Cond.selects "SweeperRounds" ⟨"SweeperRounds", "type", "(I)I"⟩ ⟨"SweeperRounds", "type", "(I)I"⟩ ∈ wA := wA_i (i := 391) (by decide +kernel) (by decide +kernel)
theorem wm_392 : Cond.code ⟨"SweeperRounds", "type", "(I)I"⟩ prog_1_method_2_code 2 (Option.some FieldType.int) ∈ wA := wA_i (i := 392) (by decide +kernel) (by decide +kernel)
theorem wm_393 : Cond.methodLink "SweeperRounds" 66 ⟨"SweeperRounds$Text", "append", "(C)V"⟩ ∈ wA := wA_i (i := 393) (by decide +kernel) (by decide +kernel)
theorem wm_394 : Cond.instanceMethod ⟨"SweeperRounds$Text", "append", "(C)V"⟩ ∈ wA := wA_i (i := 394) (by decide +kernel) (by decide +kernel)
theorem wm_395 : Cond.selects "SweeperRounds$Text" ⟨"SweeperRounds$Text", "append", "(C)V"⟩ ⟨"SweeperRounds$Text", "append", "(C)V"⟩ ∈ wA := wA_i (i := 395) (by decide +kernel) (by decide +kernel)
theorem wm_396 : Cond.code ⟨"SweeperRounds$Text", "append", "(C)V"⟩ prog_9_method_2_code 2 none ∈ wA := wA_i (i := 396) (by decide +kernel) (by decide +kernel)
theorem wm_397 : Cond.methodLink "SweeperRoundsLaw" 18 ⟨"SweeperRounds", "clearText", "()I"⟩ ∈ wA := wA_i (i := 397) (by decide +kernel) (by decide +kernel)
theorem wm_398 : Cond.instanceMethod ⟨"SweeperRounds", "clearText", "()I"⟩ ∈ wA := wA_i (i := 398) (by decide +kernel) (by decide +kernel)
theorem wm_399 : Cond.selects "SweeperRounds" ⟨"SweeperRounds", "clearText", "()I"⟩ ⟨"SweeperRounds", "clearText", "()I"⟩ ∈ wA := wA_i (i := 399) (by decide +kernel) (by decide +kernel)
theorem wm_400 : Cond.code ⟨"SweeperRounds", "clearText", "()I"⟩ prog_1_method_3_code 2 (Option.some FieldType.int) ∈ wA := wA_i (i := 400) (by decide +kernel) (by decide +kernel)
theorem wm_401 : Cond.methodLink "SweeperRoundsLaw" 23 ⟨"SweeperRounds", "load", "(I)I"⟩ ∈ wA := wA_i (i := 401) (by decide +kernel) (by decide +kernel)
theorem wm_402 : Cond.instanceMethod ⟨"SweeperRounds", "load", "(I)I"⟩ ∈ wA := wA_i (i := 402) (by decide +kernel) (by decide +kernel)
theorem wm_403 : Cond.selects "SweeperRounds" ⟨"SweeperRounds", "load", "(I)I"⟩ ⟨"SweeperRounds", "load", "(I)I"⟩ ∈ wA := wA_i (i := 403) (by decide +kernel) (by decide +kernel)
theorem wm_404 : Cond.code ⟨"SweeperRounds", "load", "(I)I"⟩ prog_1_method_4_code 2 (Option.some FieldType.int) ∈ wA := wA_i (i := 404) (by decide +kernel) (by decide +kernel)
theorem wm_405 : Cond.methodLink "SweeperRounds" 73 ⟨"SweeperRounds$Reader", "read", "(LSweeperRounds$Text;)I"⟩ ∈ wA := wA_i (i := 405) (by decide +kernel) (by decide +kernel)
theorem wm_406 : Cond.instanceMethod ⟨"SweeperRounds$Reader", "read", "(LSweeperRounds$Text;)I"⟩ ∈ wA := wA_i (i := 406) (by decide +kernel) (by decide +kernel)
theorem wm_407 : Cond.selects "SweeperRounds$Reader" ⟨"SweeperRounds$Reader", "read", "(LSweeperRounds$Text;)I"⟩ ⟨"SweeperRounds$Reader", "read", "(LSweeperRounds$Text;)I"⟩ ∈ wA := wA_i (i := 407) (by decide +kernel) (by decide +kernel)
theorem wm_408 : Cond.code ⟨"SweeperRounds$Reader", "read", "(LSweeperRounds$Text;)I"⟩ prog_5_method_2_code 2 (Option.some FieldType.int) ∈ wA := wA_i (i := 408) (by decide +kernel) (by decide +kernel)
theorem wm_409 : Cond.methodLink "SweeperRounds$Reader" 28 ⟨"SweeperRounds$Street", "clear", "()V"⟩ ∈ wA := wA_i (i := 409) (by decide +kernel) (by decide +kernel)
theorem wm_410 : Cond.instanceMethod ⟨"SweeperRounds$Street", "clear", "()V"⟩ ∈ wA := wA_i (i := 410) (by decide +kernel) (by decide +kernel)
theorem wm_411 : Cond.selects "SweeperRounds$Street" ⟨"SweeperRounds$Street", "clear", "()V"⟩ ⟨"SweeperRounds$Street", "clear", "()V"⟩ ∈ wA := wA_i (i := 411) (by decide +kernel) (by decide +kernel)
theorem wm_412 : Cond.code ⟨"SweeperRounds$Street", "clear", "()V"⟩ prog_8_method_2_code 2 none ∈ wA := wA_i (i := 412) (by decide +kernel) (by decide +kernel)
theorem wm_413 : Cond.methodLink "SweeperRounds$Reader" 31 ⟨"SweeperRounds$Reader", "readDistance", "(LSweeperRounds$Text;)Z"⟩ ∈ wA := wA_i (i := 413) (by decide +kernel) (by decide +kernel)
theorem wm_415 : Cond.instanceMethod ⟨"SweeperRounds$Reader", "readDistance", "(LSweeperRounds$Text;)Z"⟩ ∈ wA := wA_i (i := 415) (by decide +kernel) (by decide +kernel)
theorem wm_416 : Cond.code ⟨"SweeperRounds$Reader", "readDistance", "(LSweeperRounds$Text;)Z"⟩ prog_5_method_4_code 3 (Option.some FieldType.boolean) ∈ wA := wA_i (i := 416) (by decide +kernel) (by decide +kernel)
theorem wm_417 : Cond.methodLink "SweeperRounds$Reader" 44 ⟨"SweeperRounds$Text", "signAt", "(I)I"⟩ ∈ wA := wA_i (i := 417) (by decide +kernel) (by decide +kernel)
theorem wm_418 : Cond.instanceMethod ⟨"SweeperRounds$Text", "signAt", "(I)I"⟩ ∈ wA := wA_i (i := 418) (by decide +kernel) (by decide +kernel)
theorem wm_419 : Cond.selects "SweeperRounds$Text" ⟨"SweeperRounds$Text", "signAt", "(I)I"⟩ ⟨"SweeperRounds$Text", "signAt", "(I)I"⟩ ∈ wA := wA_i (i := 419) (by decide +kernel) (by decide +kernel)
theorem wm_420 : Cond.code ⟨"SweeperRounds$Text", "signAt", "(I)I"⟩ prog_9_method_3_code 2 (Option.some FieldType.int) ∈ wA := wA_i (i := 420) (by decide +kernel) (by decide +kernel)
theorem wm_421 : Cond.methodLink "SweeperRounds$Reader" 50 ⟨"SweeperRounds$Reader", "isDigit", "(I)Z"⟩ ∈ wA := wA_i (i := 421) (by decide +kernel) (by decide +kernel)
theorem wm_422 : Cond.static ⟨"SweeperRounds$Reader", "isDigit", "(I)Z"⟩ ∈ wA := wA_i (i := 422) (by decide +kernel) (by decide +kernel)
theorem wm_423 : Cond.code ⟨"SweeperRounds$Reader", "isDigit", "(I)Z"⟩ prog_5_method_10_code 1 (Option.some FieldType.boolean) ∈ wA := wA_i (i := 423) (by decide +kernel) (by decide +kernel)
theorem wm_424 : Cond.methodLink "SweeperRounds$Reader" 54 ⟨"SweeperRounds$Reader", "fail", "(II)Z"⟩ ∈ wA := wA_i (i := 424) (by decide +kernel) (by decide +kernel)
theorem wm_426 : Cond.instanceMethod ⟨"SweeperRounds$Reader", "fail", "(II)Z"⟩ ∈ wA := wA_i (i := 426) (by decide +kernel) (by decide +kernel)
theorem wm_427 : Cond.code ⟨"SweeperRounds$Reader", "fail", "(II)Z"⟩ prog_5_method_3_code 3 (Option.some FieldType.boolean) ∈ wA := wA_i (i := 427) (by decide +kernel) (by decide +kernel)
theorem wm_428 : Cond.methodLink "SweeperRounds$Reader" 61 ⟨"SweeperRounds$Reader", "readSlash", "(LSweeperRounds$Text;)Z"⟩ ∈ wA := wA_i (i := 428) (by decide +kernel) (by decide +kernel)
theorem wm_430 : Cond.instanceMethod ⟨"SweeperRounds$Reader", "readSlash", "(LSweeperRounds$Text;)Z"⟩ ∈ wA := wA_i (i := 430) (by decide +kernel) (by decide +kernel)
theorem wm_431 : Cond.code ⟨"SweeperRounds$Reader", "readSlash", "(LSweeperRounds$Text;)Z"⟩ prog_5_method_9_code 2 (Option.some FieldType.boolean) ∈ wA := wA_i (i := 431) (by decide +kernel) (by decide +kernel)
theorem wm_432 : Cond.methodLink "SweeperRounds$Reader" 35 ⟨"SweeperRounds$Reader", "readTrees", "(LSweeperRounds$Text;)Z"⟩ ∈ wA := wA_i (i := 432) (by decide +kernel) (by decide +kernel)
theorem wm_434 : Cond.instanceMethod ⟨"SweeperRounds$Reader", "readTrees", "(LSweeperRounds$Text;)Z"⟩ ∈ wA := wA_i (i := 434) (by decide +kernel) (by decide +kernel)
theorem wm_435 : Cond.code ⟨"SweeperRounds$Reader", "readTrees", "(LSweeperRounds$Text;)Z"⟩ prog_5_method_5_code 2 (Option.some FieldType.boolean) ∈ wA := wA_i (i := 435) (by decide +kernel) (by decide +kernel)
theorem wm_436 : Cond.methodLink "SweeperRounds$Reader" 38 ⟨"SweeperRounds$Reader", "readLeftSide", "(LSweeperRounds$Text;)Z"⟩ ∈ wA := wA_i (i := 436) (by decide +kernel) (by decide +kernel)
theorem wm_438 : Cond.instanceMethod ⟨"SweeperRounds$Reader", "readLeftSide", "(LSweeperRounds$Text;)Z"⟩ ∈ wA := wA_i (i := 438) (by decide +kernel) (by decide +kernel)
theorem wm_439 : Cond.code ⟨"SweeperRounds$Reader", "readLeftSide", "(LSweeperRounds$Text;)Z"⟩ prog_5_method_6_code 3 (Option.some FieldType.boolean) ∈ wA := wA_i (i := 439) (by decide +kernel) (by decide +kernel)
theorem wm_441 : Cond.static ⟨"SweeperRounds", "placeOf", "(II)I"⟩ ∈ wA := wA_i (i := 441) (by decide +kernel) (by decide +kernel)
theorem wm_442 : Cond.code ⟨"SweeperRounds", "placeOf", "(II)I"⟩ prog_1_method_32_code 2 (Option.some FieldType.int) ∈ wA := wA_i (i := 442) (by decide +kernel) (by decide +kernel)
theorem wm_443 : Cond.methodLink "SweeperRounds$Reader" 71 ⟨"SweeperRounds$Reader", "readCell", "(LSweeperRounds$Text;I)Z"⟩ ∈ wA := wA_i (i := 443) (by decide +kernel) (by decide +kernel)
theorem wm_445 : Cond.instanceMethod ⟨"SweeperRounds$Reader", "readCell", "(LSweeperRounds$Text;I)Z"⟩ ∈ wA := wA_i (i := 445) (by decide +kernel) (by decide +kernel)
theorem wm_446 : Cond.code ⟨"SweeperRounds$Reader", "readCell", "(LSweeperRounds$Text;I)Z"⟩ prog_5_method_8_code 5 (Option.some FieldType.boolean) ∈ wA := wA_i (i := 446) (by decide +kernel) (by decide +kernel)
theorem wm_447 : Cond.methodLink "SweeperRounds$Reader" 41 ⟨"SweeperRounds$Reader", "readRightSide", "(LSweeperRounds$Text;)Z"⟩ ∈ wA := wA_i (i := 447) (by decide +kernel) (by decide +kernel)
theorem wm_449 : Cond.instanceMethod ⟨"SweeperRounds$Reader", "readRightSide", "(LSweeperRounds$Text;)Z"⟩ ∈ wA := wA_i (i := 449) (by decide +kernel) (by decide +kernel)
theorem wm_450 : Cond.code ⟨"SweeperRounds$Reader", "readRightSide", "(LSweeperRounds$Text;)Z"⟩ prog_5_method_7_code 3 (Option.some FieldType.boolean) ∈ wA := wA_i (i := 450) (by decide +kernel) (by decide +kernel)
theorem wm_451 : Cond.methodLink "SweeperRounds" 80 ⟨"SweeperRounds$History", "remember", "(LSweeperRounds$World;)V"⟩ ∈ wA := wA_i (i := 451) (by decide +kernel) (by decide +kernel)
theorem wm_452 : Cond.instanceMethod ⟨"SweeperRounds$History", "remember", "(LSweeperRounds$World;)V"⟩ ∈ wA := wA_i (i := 452) (by decide +kernel) (by decide +kernel)
theorem wm_453 : Cond.selects "SweeperRounds$History" ⟨"SweeperRounds$History", "remember", "(LSweeperRounds$World;)V"⟩ ⟨"SweeperRounds$History", "remember", "(LSweeperRounds$World;)V"⟩ ∈ wA := wA_i (i := 453) (by decide +kernel) (by decide +kernel)
theorem wm_454 : Cond.code ⟨"SweeperRounds$History", "remember", "(LSweeperRounds$World;)V"⟩ prog_2_method_2_code 2 none ∈ wA := wA_i (i := 454) (by decide +kernel) (by decide +kernel)
theorem wm_455 : Cond.methodLink "SweeperRounds$History" 22 ⟨"SweeperRounds$World", "copyFrom", "(LSweeperRounds$World;)V"⟩ ∈ wA := wA_i (i := 455) (by decide +kernel) (by decide +kernel)
theorem wm_456 : Cond.instanceMethod ⟨"SweeperRounds$World", "copyFrom", "(LSweeperRounds$World;)V"⟩ ∈ wA := wA_i (i := 456) (by decide +kernel) (by decide +kernel)
theorem wm_457 : Cond.selects "SweeperRounds$World" ⟨"SweeperRounds$World", "copyFrom", "(LSweeperRounds$World;)V"⟩ ⟨"SweeperRounds$World", "copyFrom", "(LSweeperRounds$World;)V"⟩ ∈ wA := wA_i (i := 457) (by decide +kernel) (by decide +kernel)
theorem wm_458 : Cond.code ⟨"SweeperRounds$World", "copyFrom", "(LSweeperRounds$World;)V"⟩ prog_10_method_2_code 3 none ∈ wA := wA_i (i := 458) (by decide +kernel) (by decide +kernel)
theorem wm_459 : Cond.methodLink "SweeperRounds$World" 55 ⟨"SweeperRounds$Street", "copyFrom", "(LSweeperRounds$Street;)V"⟩ ∈ wA := wA_i (i := 459) (by decide +kernel) (by decide +kernel)
theorem wm_460 : Cond.instanceMethod ⟨"SweeperRounds$Street", "copyFrom", "(LSweeperRounds$Street;)V"⟩ ∈ wA := wA_i (i := 460) (by decide +kernel) (by decide +kernel)
theorem wm_461 : Cond.selects "SweeperRounds$Street" ⟨"SweeperRounds$Street", "copyFrom", "(LSweeperRounds$Street;)V"⟩ ⟨"SweeperRounds$Street", "copyFrom", "(LSweeperRounds$Street;)V"⟩ ∈ wA := wA_i (i := 461) (by decide +kernel) (by decide +kernel)
theorem wm_462 : Cond.code ⟨"SweeperRounds$Street", "copyFrom", "(LSweeperRounds$Street;)V"⟩ prog_8_method_3_code 3 none ∈ wA := wA_i (i := 462) (by decide +kernel) (by decide +kernel)
theorem wm_463 : Cond.methodLink "SweeperRounds$World" 62 ⟨"SweeperRounds$Leg", "copyFrom", "(LSweeperRounds$Leg;)V"⟩ ∈ wA := wA_i (i := 463) (by decide +kernel) (by decide +kernel)
theorem wm_464 : Cond.instanceMethod ⟨"SweeperRounds$Leg", "copyFrom", "(LSweeperRounds$Leg;)V"⟩ ∈ wA := wA_i (i := 464) (by decide +kernel) (by decide +kernel)
theorem wm_465 : Cond.selects "SweeperRounds$Leg" ⟨"SweeperRounds$Leg", "copyFrom", "(LSweeperRounds$Leg;)V"⟩ ⟨"SweeperRounds$Leg", "copyFrom", "(LSweeperRounds$Leg;)V"⟩ ∈ wA := wA_i (i := 465) (by decide +kernel) (by decide +kernel)
theorem wm_466 : Cond.code ⟨"SweeperRounds$Leg", "copyFrom", "(LSweeperRounds$Leg;)V"⟩ prog_3_method_2_code 2 none ∈ wA := wA_i (i := 466) (by decide +kernel) (by decide +kernel)
theorem wm_467 : Cond.methodLink "SweeperRounds$World" 72 ⟨"SweeperRounds$Report", "copyFrom", "(LSweeperRounds$Report;)V"⟩ ∈ wA := wA_i (i := 467) (by decide +kernel) (by decide +kernel)
theorem wm_468 : Cond.instanceMethod ⟨"SweeperRounds$Report", "copyFrom", "(LSweeperRounds$Report;)V"⟩ ∈ wA := wA_i (i := 468) (by decide +kernel) (by decide +kernel)
theorem wm_469 : Cond.selects "SweeperRounds$Report" ⟨"SweeperRounds$Report", "copyFrom", "(LSweeperRounds$Report;)V"⟩ ⟨"SweeperRounds$Report", "copyFrom", "(LSweeperRounds$Report;)V"⟩ ∈ wA := wA_i (i := 469) (by decide +kernel) (by decide +kernel)
theorem wm_470 : Cond.code ⟨"SweeperRounds$Report", "copyFrom", "(LSweeperRounds$Report;)V"⟩ prog_6_method_3_code 2 none ∈ wA := wA_i (i := 470) (by decide +kernel) (by decide +kernel)
theorem wm_471 : Cond.methodLink "SweeperRounds$History" 29 ⟨"java/lang/Math", "min", "(II)I"⟩ ∈ wA := wA_i (i := 471) (by decide +kernel) (by decide +kernel)
theorem wm_472 : Cond.static ⟨"java/lang/Math", "min", "(II)I"⟩ ∈ wA := wA_i (i := 472) (by decide +kernel) (by decide +kernel)
theorem wm_473 : Cond.code ⟨"java/lang/Math", "min", "(II)I"⟩ prog_13_method_69_code 2 (Option.some FieldType.int) ∈ wA := wA_i (i := 473) (by decide +kernel) (by decide +kernel)
theorem wm_474 : Cond.methodLink "SweeperRounds" 87 ⟨"SweeperRounds$World", "putStreet", "(ILSweeperRounds$Street;)V"⟩ ∈ wA := wA_i (i := 474) (by decide +kernel) (by decide +kernel)
theorem wm_475 : Cond.instanceMethod ⟨"SweeperRounds$World", "putStreet", "(ILSweeperRounds$Street;)V"⟩ ∈ wA := wA_i (i := 475) (by decide +kernel) (by decide +kernel)
theorem wm_476 : Cond.selects "SweeperRounds$World" ⟨"SweeperRounds$World", "putStreet", "(ILSweeperRounds$Street;)V"⟩ ⟨"SweeperRounds$World", "putStreet", "(ILSweeperRounds$Street;)V"⟩ ∈ wA := wA_i (i := 476) (by decide +kernel) (by decide +kernel)
theorem wm_477 : Cond.code ⟨"SweeperRounds$World", "putStreet", "(ILSweeperRounds$Street;)V"⟩ prog_10_method_8_code 3 none ∈ wA := wA_i (i := 477) (by decide +kernel) (by decide +kernel)
theorem wm_478 : Cond.methodLink "SweeperRounds$World" 88 ⟨"SweeperRounds$Street", "allDirt", "()I"⟩ ∈ wA := wA_i (i := 478) (by decide +kernel) (by decide +kernel)
theorem wm_479 : Cond.instanceMethod ⟨"SweeperRounds$Street", "allDirt", "()I"⟩ ∈ wA := wA_i (i := 479) (by decide +kernel) (by decide +kernel)
theorem wm_480 : Cond.selects "SweeperRounds$Street" ⟨"SweeperRounds$Street", "allDirt", "()I"⟩ ⟨"SweeperRounds$Street", "allDirt", "()I"⟩ ∈ wA := wA_i (i := 480) (by decide +kernel) (by decide +kernel)
theorem wm_481 : Cond.code ⟨"SweeperRounds$Street", "allDirt", "()I"⟩ prog_8_method_5_code 1 (Option.some FieldType.int) ∈ wA := wA_i (i := 481) (by decide +kernel) (by decide +kernel)
theorem wm_482 : Cond.methodLink "SweeperRounds$Street" 33 ⟨"SweeperRounds$Street", "dirtOfSide", "(I)I"⟩ ∈ wA := wA_i (i := 482) (by decide +kernel) (by decide +kernel)
theorem wm_483 : Cond.instanceMethod ⟨"SweeperRounds$Street", "dirtOfSide", "(I)I"⟩ ∈ wA := wA_i (i := 483) (by decide +kernel) (by decide +kernel)
theorem wm_484 : Cond.selects "SweeperRounds$Street" ⟨"SweeperRounds$Street", "dirtOfSide", "(I)I"⟩ ⟨"SweeperRounds$Street", "dirtOfSide", "(I)I"⟩ ∈ wA := wA_i (i := 484) (by decide +kernel) (by decide +kernel)
theorem wm_485 : Cond.code ⟨"SweeperRounds$Street", "dirtOfSide", "(I)I"⟩ prog_8_method_4_code 4 (Option.some FieldType.int) ∈ wA := wA_i (i := 485) (by decide +kernel) (by decide +kernel)
theorem wm_487 : Cond.methodLink "SweeperRoundsLaw" 27 ⟨"SweeperRounds", "faultKind", "()I"⟩ ∈ wA := wA_i (i := 487) (by decide +kernel) (by decide +kernel)
theorem wm_488 : Cond.instanceMethod ⟨"SweeperRounds", "faultKind", "()I"⟩ ∈ wA := wA_i (i := 488) (by decide +kernel) (by decide +kernel)
theorem wm_489 : Cond.selects "SweeperRounds" ⟨"SweeperRounds", "faultKind", "()I"⟩ ⟨"SweeperRounds", "faultKind", "()I"⟩ ∈ wA := wA_i (i := 489) (by decide +kernel) (by decide +kernel)
theorem wm_490 : Cond.code ⟨"SweeperRounds", "faultKind", "()I"⟩ prog_1_method_5_code 1 (Option.some FieldType.int) ∈ wA := wA_i (i := 490) (by decide +kernel) (by decide +kernel)
theorem wm_491 : Cond.methodLink "SweeperRoundsLaw" 31 ⟨"SweeperRounds", "addStreet", "(III)I"⟩ ∈ wA := wA_i (i := 491) (by decide +kernel) (by decide +kernel)
theorem wm_492 : Cond.instanceMethod ⟨"SweeperRounds", "addStreet", "(III)I"⟩ ∈ wA := wA_i (i := 492) (by decide +kernel) (by decide +kernel)
theorem wm_493 : Cond.selects "SweeperRounds" ⟨"SweeperRounds", "addStreet", "(III)I"⟩ ⟨"SweeperRounds", "addStreet", "(III)I"⟩ ∈ wA := wA_i (i := 493) (by decide +kernel) (by decide +kernel)
theorem wm_494 : Cond.code ⟨"SweeperRounds", "addStreet", "(III)I"⟩ prog_1_method_6_code 4 (Option.some FieldType.int) ∈ wA := wA_i (i := 494) (by decide +kernel) (by decide +kernel)
theorem wm_495 : Cond.methodLink "SweeperRounds" 96 ⟨"SweeperRounds$World", "appendStreet", "(III)I"⟩ ∈ wA := wA_i (i := 495) (by decide +kernel) (by decide +kernel)
theorem wm_496 : Cond.instanceMethod ⟨"SweeperRounds$World", "appendStreet", "(III)I"⟩ ∈ wA := wA_i (i := 496) (by decide +kernel) (by decide +kernel)
theorem wm_497 : Cond.selects "SweeperRounds$World" ⟨"SweeperRounds$World", "appendStreet", "(III)I"⟩ ⟨"SweeperRounds$World", "appendStreet", "(III)I"⟩ ∈ wA := wA_i (i := 497) (by decide +kernel) (by decide +kernel)
theorem wm_498 : Cond.code ⟨"SweeperRounds$World", "appendStreet", "(III)I"⟩ prog_10_method_9_code 5 (Option.some FieldType.int) ∈ wA := wA_i (i := 498) (by decide +kernel) (by decide +kernel)
theorem wm_499 : Cond.methodLink "SweeperRounds$World" 95 ⟨"SweeperRounds$Street", "clear", "()V"⟩ ∈ wA := wA_i (i := 499) (by decide +kernel) (by decide +kernel)
theorem wm_500 : Cond.methodLink "SweeperRoundsLaw" 36 ⟨"SweeperRounds", "dropStreet", "(I)I"⟩ ∈ wA := wA_i (i := 500) (by decide +kernel) (by decide +kernel)
theorem wm_501 : Cond.instanceMethod ⟨"SweeperRounds", "dropStreet", "(I)I"⟩ ∈ wA := wA_i (i := 501) (by decide +kernel) (by decide +kernel)
theorem wm_502 : Cond.selects "SweeperRounds" ⟨"SweeperRounds", "dropStreet", "(I)I"⟩ ⟨"SweeperRounds", "dropStreet", "(I)I"⟩ ∈ wA := wA_i (i := 502) (by decide +kernel) (by decide +kernel)
theorem wm_503 : Cond.code ⟨"SweeperRounds", "dropStreet", "(I)I"⟩ prog_1_method_7_code 2 (Option.some FieldType.int) ∈ wA := wA_i (i := 503) (by decide +kernel) (by decide +kernel)
theorem wm_504 : Cond.methodLink "SweeperRounds" 100 ⟨"SweeperRounds$World", "hasStreet", "(I)Z"⟩ ∈ wA := wA_i (i := 504) (by decide +kernel) (by decide +kernel)
theorem wm_505 : Cond.instanceMethod ⟨"SweeperRounds$World", "hasStreet", "(I)Z"⟩ ∈ wA := wA_i (i := 505) (by decide +kernel) (by decide +kernel)
theorem wm_506 : Cond.selects "SweeperRounds$World" ⟨"SweeperRounds$World", "hasStreet", "(I)Z"⟩ ⟨"SweeperRounds$World", "hasStreet", "(I)Z"⟩ ∈ wA := wA_i (i := 506) (by decide +kernel) (by decide +kernel)
theorem wm_507 : Cond.code ⟨"SweeperRounds$World", "hasStreet", "(I)Z"⟩ prog_10_method_3_code 2 (Option.some FieldType.boolean) ∈ wA := wA_i (i := 507) (by decide +kernel) (by decide +kernel)
theorem wm_508 : Cond.methodLink "SweeperRounds" 104 ⟨"SweeperRounds$World", "removeStreet", "(I)V"⟩ ∈ wA := wA_i (i := 508) (by decide +kernel) (by decide +kernel)
theorem wm_509 : Cond.instanceMethod ⟨"SweeperRounds$World", "removeStreet", "(I)V"⟩ ∈ wA := wA_i (i := 509) (by decide +kernel) (by decide +kernel)
theorem wm_510 : Cond.selects "SweeperRounds$World" ⟨"SweeperRounds$World", "removeStreet", "(I)V"⟩ ⟨"SweeperRounds$World", "removeStreet", "(I)V"⟩ ∈ wA := wA_i (i := 510) (by decide +kernel) (by decide +kernel)
theorem wm_511 : Cond.code ⟨"SweeperRounds$World", "removeStreet", "(I)V"⟩ prog_10_method_10_code 3 none ∈ wA := wA_i (i := 511) (by decide +kernel) (by decide +kernel)
theorem wm_512 : Cond.methodLink "SweeperRounds$World" 104 ⟨"SweeperRounds$World", "removeLegsIn", "(I)V"⟩ ∈ wA := wA_i (i := 512) (by decide +kernel) (by decide +kernel)
theorem wm_514 : Cond.instanceMethod ⟨"SweeperRounds$World", "removeLegsIn", "(I)V"⟩ ∈ wA := wA_i (i := 514) (by decide +kernel) (by decide +kernel)
theorem wm_515 : Cond.code ⟨"SweeperRounds$World", "removeLegsIn", "(I)V"⟩ prog_10_method_11_code 4 none ∈ wA := wA_i (i := 515) (by decide +kernel) (by decide +kernel)
theorem wm_516 : Cond.methodLink "SweeperRoundsLaw" 40 ⟨"SweeperRounds", "lay", "(IIII)I"⟩ ∈ wA := wA_i (i := 516) (by decide +kernel) (by decide +kernel)
theorem wm_517 : Cond.instanceMethod ⟨"SweeperRounds", "lay", "(IIII)I"⟩ ∈ wA := wA_i (i := 517) (by decide +kernel) (by decide +kernel)
theorem wm_518 : Cond.selects "SweeperRounds" ⟨"SweeperRounds", "lay", "(IIII)I"⟩ ⟨"SweeperRounds", "lay", "(IIII)I"⟩ ∈ wA := wA_i (i := 518) (by decide +kernel) (by decide +kernel)
theorem wm_519 : Cond.code ⟨"SweeperRounds", "lay", "(IIII)I"⟩ prog_1_method_8_code 5 (Option.some FieldType.int) ∈ wA := wA_i (i := 519) (by decide +kernel) (by decide +kernel)
theorem wm_520 : Cond.methodLink "SweeperRounds" 111 ⟨"SweeperRounds$World", "hasCell", "(III)Z"⟩ ∈ wA := wA_i (i := 520) (by decide +kernel) (by decide +kernel)
theorem wm_521 : Cond.instanceMethod ⟨"SweeperRounds$World", "hasCell", "(III)Z"⟩ ∈ wA := wA_i (i := 521) (by decide +kernel) (by decide +kernel)
theorem wm_522 : Cond.selects "SweeperRounds$World" ⟨"SweeperRounds$World", "hasCell", "(III)Z"⟩ ⟨"SweeperRounds$World", "hasCell", "(III)Z"⟩ ∈ wA := wA_i (i := 522) (by decide +kernel) (by decide +kernel)
theorem wm_523 : Cond.code ⟨"SweeperRounds$World", "hasCell", "(III)Z"⟩ prog_10_method_4_code 4 (Option.some FieldType.boolean) ∈ wA := wA_i (i := 523) (by decide +kernel) (by decide +kernel)
theorem wm_524 : Cond.methodLink "SweeperRounds$World" 81 ⟨"SweeperRounds$World", "hasStreet", "(I)Z"⟩ ∈ wA := wA_i (i := 524) (by decide +kernel) (by decide +kernel)
theorem wm_525 : Cond.methodLink "SweeperRounds" 115 ⟨"SweeperRounds", "placeOf", "(II)I"⟩ ∈ wA := wA_i (i := 525) (by decide +kernel) (by decide +kernel)
theorem wm_526 : Cond.methodLink "SweeperRounds" 119 ⟨"SweeperRounds$World", "layDirt", "(III)I"⟩ ∈ wA := wA_i (i := 526) (by decide +kernel) (by decide +kernel)
theorem wm_527 : Cond.instanceMethod ⟨"SweeperRounds$World", "layDirt", "(III)I"⟩ ∈ wA := wA_i (i := 527) (by decide +kernel) (by decide +kernel)
theorem wm_528 : Cond.selects "SweeperRounds$World" ⟨"SweeperRounds$World", "layDirt", "(III)I"⟩ ⟨"SweeperRounds$World", "layDirt", "(III)I"⟩ ∈ wA := wA_i (i := 528) (by decide +kernel) (by decide +kernel)
theorem wm_529 : Cond.code ⟨"SweeperRounds$World", "layDirt", "(III)I"⟩ prog_10_method_14_code 6 (Option.some FieldType.int) ∈ wA := wA_i (i := 529) (by decide +kernel) (by decide +kernel)
theorem wm_530 : Cond.methodLink "SweeperRounds$World" 114 ⟨"java/lang/Math", "max", "(II)I"⟩ ∈ wA := wA_i (i := 530) (by decide +kernel) (by decide +kernel)
theorem wm_531 : Cond.static ⟨"java/lang/Math", "max", "(II)I"⟩ ∈ wA := wA_i (i := 531) (by decide +kernel) (by decide +kernel)
theorem wm_532 : Cond.code ⟨"java/lang/Math", "max", "(II)I"⟩ prog_13_method_65_code 2 (Option.some FieldType.int) ∈ wA := wA_i (i := 532) (by decide +kernel) (by decide +kernel)
theorem wm_533 : Cond.methodLink "SweeperRoundsLaw" 45 ⟨"SweeperRounds", "park", "(IIIZ)I"⟩ ∈ wA := wA_i (i := 533) (by decide +kernel) (by decide +kernel)
theorem wm_534 : Cond.instanceMethod ⟨"SweeperRounds", "park", "(IIIZ)I"⟩ ∈ wA := wA_i (i := 534) (by decide +kernel) (by decide +kernel)
theorem wm_535 : Cond.selects "SweeperRounds" ⟨"SweeperRounds", "park", "(IIIZ)I"⟩ ⟨"SweeperRounds", "park", "(IIIZ)I"⟩ ∈ wA := wA_i (i := 535) (by decide +kernel) (by decide +kernel)
theorem wm_536 : Cond.code ⟨"SweeperRounds", "park", "(IIIZ)I"⟩ prog_1_method_9_code 8 (Option.some FieldType.int) ∈ wA := wA_i (i := 536) (by decide +kernel) (by decide +kernel)
theorem wm_537 : Cond.methodLink "SweeperRoundsLaw" 50 ⟨"SweeperRounds", "cell", "(IIII)I"⟩ ∈ wA := wA_i (i := 537) (by decide +kernel) (by decide +kernel)
theorem wm_538 : Cond.instanceMethod ⟨"SweeperRounds", "cell", "(IIII)I"⟩ ∈ wA := wA_i (i := 538) (by decide +kernel) (by decide +kernel)
theorem wm_539 : Cond.selects "SweeperRounds" ⟨"SweeperRounds", "cell", "(IIII)I"⟩ ⟨"SweeperRounds", "cell", "(IIII)I"⟩ ∈ wA := wA_i (i := 539) (by decide +kernel) (by decide +kernel)
theorem wm_540 : Cond.code ⟨"SweeperRounds", "cell", "(IIII)I"⟩ prog_1_method_10_code 7 (Option.some FieldType.int) ∈ wA := wA_i (i := 540) (by decide +kernel) (by decide +kernel)
theorem wm_541 : Cond.methodLink "SweeperRounds" 134 ⟨"SweeperRounds$World", "grip", "()I"⟩ ∈ wA := wA_i (i := 541) (by decide +kernel) (by decide +kernel)
theorem wm_542 : Cond.instanceMethod ⟨"SweeperRounds$World", "grip", "()I"⟩ ∈ wA := wA_i (i := 542) (by decide +kernel) (by decide +kernel)
theorem wm_543 : Cond.selects "SweeperRounds$World" ⟨"SweeperRounds$World", "grip", "()I"⟩ ⟨"SweeperRounds$World", "grip", "()I"⟩ ∈ wA := wA_i (i := 543) (by decide +kernel) (by decide +kernel)
theorem wm_544 : Cond.code ⟨"SweeperRounds$World", "grip", "()I"⟩ prog_10_method_16_code 1 (Option.some FieldType.int) ∈ wA := wA_i (i := 544) (by decide +kernel) (by decide +kernel)
theorem wm_545 : Cond.methodLink "SweeperRounds" 138 ⟨"SweeperRounds$Street", "couldGive", "(II)I"⟩ ∈ wA := wA_i (i := 545) (by decide +kernel) (by decide +kernel)
theorem wm_546 : Cond.instanceMethod ⟨"SweeperRounds$Street", "couldGive", "(II)I"⟩ ∈ wA := wA_i (i := 546) (by decide +kernel) (by decide +kernel)
theorem wm_547 : Cond.selects "SweeperRounds$Street" ⟨"SweeperRounds$Street", "couldGive", "(II)I"⟩ ⟨"SweeperRounds$Street", "couldGive", "(II)I"⟩ ∈ wA := wA_i (i := 547) (by decide +kernel) (by decide +kernel)
theorem wm_548 : Cond.code ⟨"SweeperRounds$Street", "couldGive", "(II)I"⟩ prog_8_method_8_code 3 (Option.some FieldType.int) ∈ wA := wA_i (i := 548) (by decide +kernel) (by decide +kernel)
theorem wm_549 : Cond.methodLink "SweeperRounds" 141 ⟨"SweeperRounds$World", "room", "()I"⟩ ∈ wA := wA_i (i := 549) (by decide +kernel) (by decide +kernel)
theorem wm_550 : Cond.instanceMethod ⟨"SweeperRounds$World", "room", "()I"⟩ ∈ wA := wA_i (i := 550) (by decide +kernel) (by decide +kernel)
theorem wm_551 : Cond.selects "SweeperRounds$World" ⟨"SweeperRounds$World", "room", "()I"⟩ ⟨"SweeperRounds$World", "room", "()I"⟩ ∈ wA := wA_i (i := 551) (by decide +kernel) (by decide +kernel)
theorem wm_552 : Cond.code ⟨"SweeperRounds$World", "room", "()I"⟩ prog_10_method_17_code 1 (Option.some FieldType.int) ∈ wA := wA_i (i := 552) (by decide +kernel) (by decide +kernel)
theorem wm_553 : Cond.methodLink "SweeperRounds" 144 ⟨"java/lang/Math", "min", "(II)I"⟩ ∈ wA := wA_i (i := 553) (by decide +kernel) (by decide +kernel)
theorem wm_554 : Cond.methodLink "SweeperRoundsLaw" 54 ⟨"SweeperRounds", "street", "(II)I"⟩ ∈ wA := wA_i (i := 554) (by decide +kernel) (by decide +kernel)
theorem wm_555 : Cond.instanceMethod ⟨"SweeperRounds", "street", "(II)I"⟩ ∈ wA := wA_i (i := 555) (by decide +kernel) (by decide +kernel)
theorem wm_556 : Cond.selects "SweeperRounds" ⟨"SweeperRounds", "street", "(II)I"⟩ ⟨"SweeperRounds", "street", "(II)I"⟩ ∈ wA := wA_i (i := 556) (by decide +kernel) (by decide +kernel)
theorem wm_557 : Cond.code ⟨"SweeperRounds", "street", "(II)I"⟩ prog_1_method_11_code 4 (Option.some FieldType.int) ∈ wA := wA_i (i := 557) (by decide +kernel) (by decide +kernel)
theorem wm_558 : Cond.methodLink "SweeperRounds" 155 ⟨"SweeperRounds$Street", "dirtOfSide", "(I)I"⟩ ∈ wA := wA_i (i := 558) (by decide +kernel) (by decide +kernel)
theorem wm_559 : Cond.methodLink "SweeperRounds" 159 ⟨"SweeperRounds$Street", "parkedCells", "()I"⟩ ∈ wA := wA_i (i := 559) (by decide +kernel) (by decide +kernel)
theorem wm_560 : Cond.instanceMethod ⟨"SweeperRounds$Street", "parkedCells", "()I"⟩ ∈ wA := wA_i (i := 560) (by decide +kernel) (by decide +kernel)
theorem wm_561 : Cond.selects "SweeperRounds$Street" ⟨"SweeperRounds$Street", "parkedCells", "()I"⟩ ⟨"SweeperRounds$Street", "parkedCells", "()I"⟩ ∈ wA := wA_i (i := 561) (by decide +kernel) (by decide +kernel)
theorem wm_562 : Cond.code ⟨"SweeperRounds$Street", "parkedCells", "()I"⟩ prog_8_method_6_code 3 (Option.some FieldType.int) ∈ wA := wA_i (i := 562) (by decide +kernel) (by decide +kernel)
theorem wm_563 : Cond.methodLink "SweeperRounds" 162 ⟨"SweeperRounds$Street", "greatestDirt", "()I"⟩ ∈ wA := wA_i (i := 563) (by decide +kernel) (by decide +kernel)
theorem wm_564 : Cond.instanceMethod ⟨"SweeperRounds$Street", "greatestDirt", "()I"⟩ ∈ wA := wA_i (i := 564) (by decide +kernel) (by decide +kernel)
theorem wm_565 : Cond.selects "SweeperRounds$Street" ⟨"SweeperRounds$Street", "greatestDirt", "()I"⟩ ⟨"SweeperRounds$Street", "greatestDirt", "()I"⟩ ∈ wA := wA_i (i := 565) (by decide +kernel) (by decide +kernel)
theorem wm_566 : Cond.code ⟨"SweeperRounds$Street", "greatestDirt", "()I"⟩ prog_8_method_7_code 3 (Option.some FieldType.int) ∈ wA := wA_i (i := 566) (by decide +kernel) (by decide +kernel)
theorem wm_567 : Cond.methodLink "SweeperRounds$Street" 37 ⟨"java/lang/Math", "max", "(II)I"⟩ ∈ wA := wA_i (i := 567) (by decide +kernel) (by decide +kernel)
theorem wm_568 : Cond.methodLink "SweeperRounds" 165 ⟨"SweeperRounds$World", "legsIn", "(I)I"⟩ ∈ wA := wA_i (i := 568) (by decide +kernel) (by decide +kernel)
theorem wm_569 : Cond.instanceMethod ⟨"SweeperRounds$World", "legsIn", "(I)I"⟩ ∈ wA := wA_i (i := 569) (by decide +kernel) (by decide +kernel)
theorem wm_570 : Cond.selects "SweeperRounds$World" ⟨"SweeperRounds$World", "legsIn", "(I)I"⟩ ⟨"SweeperRounds$World", "legsIn", "(I)I"⟩ ∈ wA := wA_i (i := 570) (by decide +kernel) (by decide +kernel)
theorem wm_571 : Cond.code ⟨"SweeperRounds$World", "legsIn", "(I)I"⟩ prog_10_method_7_code 4 (Option.some FieldType.int) ∈ wA := wA_i (i := 571) (by decide +kernel) (by decide +kernel)
theorem wm_572 : Cond.methodLink "SweeperRoundsLaw" 59 ⟨"SweeperRounds", "set", "(II)I"⟩ ∈ wA := wA_i (i := 572) (by decide +kernel) (by decide +kernel)
theorem wm_573 : Cond.instanceMethod ⟨"SweeperRounds", "set", "(II)I"⟩ ∈ wA := wA_i (i := 573) (by decide +kernel) (by decide +kernel)
theorem wm_574 : Cond.selects "SweeperRounds" ⟨"SweeperRounds", "set", "(II)I"⟩ ⟨"SweeperRounds", "set", "(II)I"⟩ ∈ wA := wA_i (i := 574) (by decide +kernel) (by decide +kernel)
theorem wm_575 : Cond.code ⟨"SweeperRounds", "set", "(II)I"⟩ prog_1_method_12_code 4 (Option.some FieldType.int) ∈ wA := wA_i (i := 575) (by decide +kernel) (by decide +kernel)
theorem wm_576 : Cond.methodLink "SweeperRounds" 168 ⟨"SweeperRounds$World", "leastSetting", "(I)I"⟩ ∈ wA := wA_i (i := 576) (by decide +kernel) (by decide +kernel)
theorem wm_577 : Cond.instanceMethod ⟨"SweeperRounds$World", "leastSetting", "(I)I"⟩ ∈ wA := wA_i (i := 577) (by decide +kernel) (by decide +kernel)
theorem wm_578 : Cond.selects "SweeperRounds$World" ⟨"SweeperRounds$World", "leastSetting", "(I)I"⟩ ⟨"SweeperRounds$World", "leastSetting", "(I)I"⟩ ∈ wA := wA_i (i := 578) (by decide +kernel) (by decide +kernel)
theorem wm_579 : Cond.code ⟨"SweeperRounds$World", "leastSetting", "(I)I"⟩ prog_10_method_15_code 2 (Option.some FieldType.int) ∈ wA := wA_i (i := 579) (by decide +kernel) (by decide +kernel)
theorem wm_582 : Cond.fieldLink "SweeperRounds" 171 "SweeperRounds" "MOST_SETTINGS" "[I" ∈ wA := wA_i (i := 582) (by decide +kernel) (by decide +kernel)
theorem wm_584 : Cond.methodLink "SweeperRoundsLaw" 63 ⟨"SweeperRounds", "addLeg", "(II)I"⟩ ∈ wA := wA_i (i := 584) (by decide +kernel) (by decide +kernel)
theorem wm_585 : Cond.instanceMethod ⟨"SweeperRounds", "addLeg", "(II)I"⟩ ∈ wA := wA_i (i := 585) (by decide +kernel) (by decide +kernel)
theorem wm_586 : Cond.selects "SweeperRounds" ⟨"SweeperRounds", "addLeg", "(II)I"⟩ ⟨"SweeperRounds", "addLeg", "(II)I"⟩ ∈ wA := wA_i (i := 586) (by decide +kernel) (by decide +kernel)
theorem wm_587 : Cond.code ⟨"SweeperRounds", "addLeg", "(II)I"⟩ prog_1_method_13_code 3 (Option.some FieldType.int) ∈ wA := wA_i (i := 587) (by decide +kernel) (by decide +kernel)
theorem wm_588 : Cond.methodLink "SweeperRounds" 177 ⟨"SweeperRounds$World", "appendLeg", "(II)I"⟩ ∈ wA := wA_i (i := 588) (by decide +kernel) (by decide +kernel)
theorem wm_589 : Cond.instanceMethod ⟨"SweeperRounds$World", "appendLeg", "(II)I"⟩ ∈ wA := wA_i (i := 589) (by decide +kernel) (by decide +kernel)
theorem wm_590 : Cond.selects "SweeperRounds$World" ⟨"SweeperRounds$World", "appendLeg", "(II)I"⟩ ⟨"SweeperRounds$World", "appendLeg", "(II)I"⟩ ∈ wA := wA_i (i := 590) (by decide +kernel) (by decide +kernel)
theorem wm_591 : Cond.code ⟨"SweeperRounds$World", "appendLeg", "(II)I"⟩ prog_10_method_12_code 4 (Option.some FieldType.int) ∈ wA := wA_i (i := 591) (by decide +kernel) (by decide +kernel)
theorem wm_592 : Cond.methodLink "SweeperRoundsLaw" 67 ⟨"SweeperRounds", "dropLeg", "(I)I"⟩ ∈ wA := wA_i (i := 592) (by decide +kernel) (by decide +kernel)
theorem wm_593 : Cond.instanceMethod ⟨"SweeperRounds", "dropLeg", "(I)I"⟩ ∈ wA := wA_i (i := 593) (by decide +kernel) (by decide +kernel)
theorem wm_594 : Cond.selects "SweeperRounds" ⟨"SweeperRounds", "dropLeg", "(I)I"⟩ ⟨"SweeperRounds", "dropLeg", "(I)I"⟩ ∈ wA := wA_i (i := 594) (by decide +kernel) (by decide +kernel)
theorem wm_595 : Cond.code ⟨"SweeperRounds", "dropLeg", "(I)I"⟩ prog_1_method_14_code 2 (Option.some FieldType.int) ∈ wA := wA_i (i := 595) (by decide +kernel) (by decide +kernel)
theorem wm_596 : Cond.methodLink "SweeperRounds" 180 ⟨"SweeperRounds$World", "hasLeg", "(I)Z"⟩ ∈ wA := wA_i (i := 596) (by decide +kernel) (by decide +kernel)
theorem wm_597 : Cond.instanceMethod ⟨"SweeperRounds$World", "hasLeg", "(I)Z"⟩ ∈ wA := wA_i (i := 597) (by decide +kernel) (by decide +kernel)
theorem wm_598 : Cond.selects "SweeperRounds$World" ⟨"SweeperRounds$World", "hasLeg", "(I)Z"⟩ ⟨"SweeperRounds$World", "hasLeg", "(I)Z"⟩ ∈ wA := wA_i (i := 598) (by decide +kernel) (by decide +kernel)
theorem wm_599 : Cond.code ⟨"SweeperRounds$World", "hasLeg", "(I)Z"⟩ prog_10_method_5_code 2 (Option.some FieldType.boolean) ∈ wA := wA_i (i := 599) (by decide +kernel) (by decide +kernel)
theorem wm_600 : Cond.methodLink "SweeperRounds" 183 ⟨"SweeperRounds$World", "removeLeg", "(I)V"⟩ ∈ wA := wA_i (i := 600) (by decide +kernel) (by decide +kernel)
theorem wm_601 : Cond.instanceMethod ⟨"SweeperRounds$World", "removeLeg", "(I)V"⟩ ∈ wA := wA_i (i := 601) (by decide +kernel) (by decide +kernel)
theorem wm_602 : Cond.selects "SweeperRounds$World" ⟨"SweeperRounds$World", "removeLeg", "(I)V"⟩ ⟨"SweeperRounds$World", "removeLeg", "(I)V"⟩ ∈ wA := wA_i (i := 602) (by decide +kernel) (by decide +kernel)
theorem wm_603 : Cond.code ⟨"SweeperRounds$World", "removeLeg", "(I)V"⟩ prog_10_method_13_code 3 none ∈ wA := wA_i (i := 603) (by decide +kernel) (by decide +kernel)
theorem wm_604 : Cond.methodLink "SweeperRoundsLaw" 71 ⟨"SweeperRounds", "leg", "(II)I"⟩ ∈ wA := wA_i (i := 604) (by decide +kernel) (by decide +kernel)
theorem wm_605 : Cond.instanceMethod ⟨"SweeperRounds", "leg", "(II)I"⟩ ∈ wA := wA_i (i := 605) (by decide +kernel) (by decide +kernel)
theorem wm_606 : Cond.selects "SweeperRounds" ⟨"SweeperRounds", "leg", "(II)I"⟩ ⟨"SweeperRounds", "leg", "(II)I"⟩ ∈ wA := wA_i (i := 606) (by decide +kernel) (by decide +kernel)
theorem wm_607 : Cond.code ⟨"SweeperRounds", "leg", "(II)I"⟩ prog_1_method_15_code 4 (Option.some FieldType.int) ∈ wA := wA_i (i := 607) (by decide +kernel) (by decide +kernel)
theorem wm_608 : Cond.methodLink "SweeperRoundsLaw" 75 ⟨"SweeperRounds", "shift", "()I"⟩ ∈ wA := wA_i (i := 608) (by decide +kernel) (by decide +kernel)
theorem wm_609 : Cond.instanceMethod ⟨"SweeperRounds", "shift", "()I"⟩ ∈ wA := wA_i (i := 609) (by decide +kernel) (by decide +kernel)
theorem wm_610 : Cond.selects "SweeperRounds" ⟨"SweeperRounds", "shift", "()I"⟩ ⟨"SweeperRounds", "shift", "()I"⟩ ∈ wA := wA_i (i := 610) (by decide +kernel) (by decide +kernel)
theorem wm_611 : Cond.code ⟨"SweeperRounds", "shift", "()I"⟩ prog_1_method_16_code 1 (Option.some FieldType.int) ∈ wA := wA_i (i := 611) (by decide +kernel) (by decide +kernel)
theorem wm_612 : Cond.methodLink "SweeperRounds" 208 ⟨"SweeperRounds$Round", "carryOut", "()V"⟩ ∈ wA := wA_i (i := 612) (by decide +kernel) (by decide +kernel)
theorem wm_613 : Cond.instanceMethod ⟨"SweeperRounds$Round", "carryOut", "()V"⟩ ∈ wA := wA_i (i := 613) (by decide +kernel) (by decide +kernel)
theorem wm_614 : Cond.selects "SweeperRounds$Round" ⟨"SweeperRounds$Round", "carryOut", "()V"⟩ ⟨"SweeperRounds$Round", "carryOut", "()V"⟩ ∈ wA := wA_i (i := 614) (by decide +kernel) (by decide +kernel)
theorem wm_615 : Cond.code ⟨"SweeperRounds$Round", "carryOut", "()V"⟩ prog_7_method_2_code 6 none ∈ wA := wA_i (i := 615) (by decide +kernel) (by decide +kernel)
theorem wm_616 : Cond.methodLink "SweeperRounds$Round" 21 ⟨"SweeperRounds$Report", "clear", "()V"⟩ ∈ wA := wA_i (i := 616) (by decide +kernel) (by decide +kernel)
theorem wm_617 : Cond.instanceMethod ⟨"SweeperRounds$Report", "clear", "()V"⟩ ∈ wA := wA_i (i := 617) (by decide +kernel) (by decide +kernel)
theorem wm_618 : Cond.selects "SweeperRounds$Report" ⟨"SweeperRounds$Report", "clear", "()V"⟩ ⟨"SweeperRounds$Report", "clear", "()V"⟩ ∈ wA := wA_i (i := 618) (by decide +kernel) (by decide +kernel)
theorem wm_619 : Cond.code ⟨"SweeperRounds$Report", "clear", "()V"⟩ prog_6_method_2_code 1 none ∈ wA := wA_i (i := 619) (by decide +kernel) (by decide +kernel)
theorem wm_620 : Cond.methodLink "SweeperRounds$Round" 55 ⟨"SweeperRounds$Round", "driveToLeg", "(LSweeperRounds$Leg;LSweeperRounds$Street;)I"⟩ ∈ wA := wA_i (i := 620) (by decide +kernel) (by decide +kernel)
theorem wm_622 : Cond.instanceMethod ⟨"SweeperRounds$Round", "driveToLeg", "(LSweeperRounds$Leg;LSweeperRounds$Street;)I"⟩ ∈ wA := wA_i (i := 622) (by decide +kernel) (by decide +kernel)
theorem wm_623 : Cond.code ⟨"SweeperRounds$Round", "driveToLeg", "(LSweeperRounds$Leg;LSweeperRounds$Street;)I"⟩ prog_7_method_3_code 4 (Option.some FieldType.int) ∈ wA := wA_i (i := 623) (by decide +kernel) (by decide +kernel)
theorem wm_624 : Cond.methodLink "SweeperRounds$Round" 81 ⟨"SweeperRounds$Round", "driveTo", "(I)I"⟩ ∈ wA := wA_i (i := 624) (by decide +kernel) (by decide +kernel)
theorem wm_626 : Cond.instanceMethod ⟨"SweeperRounds$Round", "driveTo", "(I)I"⟩ ∈ wA := wA_i (i := 626) (by decide +kernel) (by decide +kernel)
theorem wm_627 : Cond.code ⟨"SweeperRounds$Round", "driveTo", "(I)I"⟩ prog_7_method_4_code 4 (Option.some FieldType.int) ∈ wA := wA_i (i := 627) (by decide +kernel) (by decide +kernel)
theorem wm_628 : Cond.methodLink "SweeperRounds$Round" 95 ⟨"java/lang/Math", "abs", "(I)I"⟩ ∈ wA := wA_i (i := 628) (by decide +kernel) (by decide +kernel)
theorem wm_629 : Cond.static ⟨"java/lang/Math", "abs", "(I)I"⟩ ∈ wA := wA_i (i := 629) (by decide +kernel) (by decide +kernel)
theorem wm_630 : Cond.code ⟨"java/lang/Math", "abs", "(I)I"⟩ prog_13_method_59_code 1 (Option.some FieldType.int) ∈ wA := wA_i (i := 630) (by decide +kernel) (by decide +kernel)
theorem wm_631 : Cond.methodLink "SweeperRounds$Round" 85 ⟨"SweeperRounds$Round", "fits", "(ILSweeperRounds$Street;)Z"⟩ ∈ wA := wA_i (i := 631) (by decide +kernel) (by decide +kernel)
theorem wm_633 : Cond.instanceMethod ⟨"SweeperRounds$Round", "fits", "(ILSweeperRounds$Street;)Z"⟩ ∈ wA := wA_i (i := 633) (by decide +kernel) (by decide +kernel)
theorem wm_634 : Cond.code ⟨"SweeperRounds$Round", "fits", "(ILSweeperRounds$Street;)Z"⟩ prog_7_method_5_code 3 (Option.some FieldType.boolean) ∈ wA := wA_i (i := 634) (by decide +kernel) (by decide +kernel)
theorem wm_635 : Cond.methodLink "SweeperRounds$Round" 100 ⟨"SweeperRounds$Street", "driveToDump", "()I"⟩ ∈ wA := wA_i (i := 635) (by decide +kernel) (by decide +kernel)
theorem wm_636 : Cond.instanceMethod ⟨"SweeperRounds$Street", "driveToDump", "()I"⟩ ∈ wA := wA_i (i := 636) (by decide +kernel) (by decide +kernel)
theorem wm_637 : Cond.selects "SweeperRounds$Street" ⟨"SweeperRounds$Street", "driveToDump", "()I"⟩ ⟨"SweeperRounds$Street", "driveToDump", "()I"⟩ ∈ wA := wA_i (i := 637) (by decide +kernel) (by decide +kernel)
theorem wm_638 : Cond.code ⟨"SweeperRounds$Street", "driveToDump", "()I"⟩ prog_8_method_11_code 1 (Option.some FieldType.int) ∈ wA := wA_i (i := 638) (by decide +kernel) (by decide +kernel)
theorem wm_640 : Cond.methodLink "SweeperRounds$Round" 71 ⟨"SweeperRounds$Round", "finishCell", "(LSweeperRounds$Leg;LSweeperRounds$Street;I)I"⟩ ∈ wA := wA_i (i := 640) (by decide +kernel) (by decide +kernel)
theorem wm_642 : Cond.instanceMethod ⟨"SweeperRounds$Round", "finishCell", "(LSweeperRounds$Leg;LSweeperRounds$Street;I)I"⟩ ∈ wA := wA_i (i := 642) (by decide +kernel) (by decide +kernel)
theorem wm_643 : Cond.code ⟨"SweeperRounds$Round", "finishCell", "(LSweeperRounds$Leg;LSweeperRounds$Street;I)I"⟩ prog_7_method_6_code 8 (Option.some FieldType.int) ∈ wA := wA_i (i := 643) (by decide +kernel) (by decide +kernel)
theorem wm_644 : Cond.methodLink "SweeperRounds$Round" 108 ⟨"SweeperRounds$Round", "unitsForCell", "()I"⟩ ∈ wA := wA_i (i := 644) (by decide +kernel) (by decide +kernel)
theorem wm_646 : Cond.instanceMethod ⟨"SweeperRounds$Round", "unitsForCell", "()I"⟩ ∈ wA := wA_i (i := 646) (by decide +kernel) (by decide +kernel)
theorem wm_647 : Cond.code ⟨"SweeperRounds$Round", "unitsForCell", "()I"⟩ prog_7_method_7_code 1 (Option.some FieldType.int) ∈ wA := wA_i (i := 647) (by decide +kernel) (by decide +kernel)
theorem wm_648 : Cond.methodLink "SweeperRounds$Round" 125 ⟨"java/lang/Math", "max", "(II)I"⟩ ∈ wA := wA_i (i := 648) (by decide +kernel) (by decide +kernel)
theorem wm_649 : Cond.constant "SweeperRounds$Round" 111 1000000 ∈ wA := wA_i (i := 649) (by decide +kernel) (by decide +kernel)
theorem wm_650 : Cond.methodLink "SweeperRounds$Round" 112 ⟨"SweeperRounds$Round", "sweepOnce", "(LSweeperRounds$Leg;LSweeperRounds$Street;I)Z"⟩ ∈ wA := wA_i (i := 650) (by decide +kernel) (by decide +kernel)
theorem wm_652 : Cond.instanceMethod ⟨"SweeperRounds$Round", "sweepOnce", "(LSweeperRounds$Leg;LSweeperRounds$Street;I)Z"⟩ ∈ wA := wA_i (i := 652) (by decide +kernel) (by decide +kernel)
theorem wm_653 : Cond.code ⟨"SweeperRounds$Round", "sweepOnce", "(LSweeperRounds$Leg;LSweeperRounds$Street;I)Z"⟩ prog_7_method_8_code 7 (Option.some FieldType.boolean) ∈ wA := wA_i (i := 653) (by decide +kernel) (by decide +kernel)
theorem wm_654 : Cond.methodLink "SweeperRounds$Round" 128 ⟨"SweeperRounds$World", "grip", "()I"⟩ ∈ wA := wA_i (i := 654) (by decide +kernel) (by decide +kernel)
theorem wm_655 : Cond.methodLink "SweeperRounds$Round" 131 ⟨"SweeperRounds$Street", "couldGive", "(II)I"⟩ ∈ wA := wA_i (i := 655) (by decide +kernel) (by decide +kernel)
theorem wm_656 : Cond.methodLink "SweeperRounds$Round" 116 ⟨"SweeperRounds$World", "room", "()I"⟩ ∈ wA := wA_i (i := 656) (by decide +kernel) (by decide +kernel)
theorem wm_657 : Cond.methodLink "SweeperRounds$Round" 134 ⟨"java/lang/Math", "min", "(II)I"⟩ ∈ wA := wA_i (i := 657) (by decide +kernel) (by decide +kernel)
theorem wm_658 : Cond.methodLink "SweeperRounds$Round" 122 ⟨"SweeperRounds$World", "emptyHopper", "()V"⟩ ∈ wA := wA_i (i := 658) (by decide +kernel) (by decide +kernel)
theorem wm_659 : Cond.instanceMethod ⟨"SweeperRounds$World", "emptyHopper", "()V"⟩ ∈ wA := wA_i (i := 659) (by decide +kernel) (by decide +kernel)
theorem wm_660 : Cond.selects "SweeperRounds$World" ⟨"SweeperRounds$World", "emptyHopper", "()V"⟩ ⟨"SweeperRounds$World", "emptyHopper", "()V"⟩ ∈ wA := wA_i (i := 660) (by decide +kernel) (by decide +kernel)
theorem wm_661 : Cond.code ⟨"SweeperRounds$World", "emptyHopper", "()V"⟩ prog_10_method_18_code 1 none ∈ wA := wA_i (i := 661) (by decide +kernel) (by decide +kernel)
theorem wm_662 : Cond.methodLink "SweeperRounds$Round" 78 ⟨"SweeperRounds$Round", "endShift", "()V"⟩ ∈ wA := wA_i (i := 662) (by decide +kernel) (by decide +kernel)
theorem wm_664 : Cond.instanceMethod ⟨"SweeperRounds$Round", "endShift", "()V"⟩ ∈ wA := wA_i (i := 664) (by decide +kernel) (by decide +kernel)
theorem wm_665 : Cond.code ⟨"SweeperRounds$Round", "endShift", "()V"⟩ prog_7_method_9_code 1 none ∈ wA := wA_i (i := 665) (by decide +kernel) (by decide +kernel)
theorem wm_666 : Cond.methodLink "SweeperRoundsLaw" 79 ⟨"SweeperRounds", "night", "(I)I"⟩ ∈ wA := wA_i (i := 666) (by decide +kernel) (by decide +kernel)
theorem wm_667 : Cond.instanceMethod ⟨"SweeperRounds", "night", "(I)I"⟩ ∈ wA := wA_i (i := 667) (by decide +kernel) (by decide +kernel)
theorem wm_668 : Cond.selects "SweeperRounds" ⟨"SweeperRounds", "night", "(I)I"⟩ ⟨"SweeperRounds", "night", "(I)I"⟩ ∈ wA := wA_i (i := 668) (by decide +kernel) (by decide +kernel)
theorem wm_669 : Cond.code ⟨"SweeperRounds", "night", "(I)I"⟩ prog_1_method_17_code 2 (Option.some FieldType.int) ∈ wA := wA_i (i := 669) (by decide +kernel) (by decide +kernel)
theorem wm_670 : Cond.methodLink "SweeperRounds" 218 ⟨"SweeperRounds$World", "passNights", "(I)V"⟩ ∈ wA := wA_i (i := 670) (by decide +kernel) (by decide +kernel)
theorem wm_671 : Cond.instanceMethod ⟨"SweeperRounds$World", "passNights", "(I)V"⟩ ∈ wA := wA_i (i := 671) (by decide +kernel) (by decide +kernel)
theorem wm_672 : Cond.selects "SweeperRounds$World" ⟨"SweeperRounds$World", "passNights", "(I)V"⟩ ⟨"SweeperRounds$World", "passNights", "(I)V"⟩ ∈ wA := wA_i (i := 672) (by decide +kernel) (by decide +kernel)
theorem wm_673 : Cond.code ⟨"SweeperRounds$World", "passNights", "(I)V"⟩ prog_10_method_20_code 6 none ∈ wA := wA_i (i := 673) (by decide +kernel) (by decide +kernel)
theorem wm_674 : Cond.methodLink "SweeperRounds$World" 123 ⟨"SweeperRounds$World", "fallOn", "(LSweeperRounds$Street;)I"⟩ ∈ wA := wA_i (i := 674) (by decide +kernel) (by decide +kernel)
theorem wm_675 : Cond.instanceMethod ⟨"SweeperRounds$World", "fallOn", "(LSweeperRounds$Street;)I"⟩ ∈ wA := wA_i (i := 675) (by decide +kernel) (by decide +kernel)
theorem wm_676 : Cond.selects "SweeperRounds$World" ⟨"SweeperRounds$World", "fallOn", "(LSweeperRounds$Street;)I"⟩ ⟨"SweeperRounds$World", "fallOn", "(LSweeperRounds$Street;)I"⟩ ∈ wA := wA_i (i := 676) (by decide +kernel) (by decide +kernel)
theorem wm_677 : Cond.code ⟨"SweeperRounds$World", "fallOn", "(LSweeperRounds$Street;)I"⟩ prog_10_method_19_code 2 (Option.some FieldType.int) ∈ wA := wA_i (i := 677) (by decide +kernel) (by decide +kernel)
theorem wm_679 : Cond.methodLink "SweeperRounds$World" 130 ⟨"SweeperRounds$Street", "putDirt", "(II)I"⟩ ∈ wA := wA_i (i := 679) (by decide +kernel) (by decide +kernel)
theorem wm_680 : Cond.instanceMethod ⟨"SweeperRounds$Street", "putDirt", "(II)I"⟩ ∈ wA := wA_i (i := 680) (by decide +kernel) (by decide +kernel)
theorem wm_681 : Cond.selects "SweeperRounds$Street" ⟨"SweeperRounds$Street", "putDirt", "(II)I"⟩ ⟨"SweeperRounds$Street", "putDirt", "(II)I"⟩ ∈ wA := wA_i (i := 681) (by decide +kernel) (by decide +kernel)
theorem wm_682 : Cond.code ⟨"SweeperRounds$Street", "putDirt", "(II)I"⟩ prog_8_method_9_code 4 (Option.some FieldType.int) ∈ wA := wA_i (i := 682) (by decide +kernel) (by decide +kernel)
theorem wm_683 : Cond.methodLink "SweeperRounds$Street" 42 ⟨"java/lang/Math", "min", "(II)I"⟩ ∈ wA := wA_i (i := 683) (by decide +kernel) (by decide +kernel)
theorem wm_684 : Cond.methodLink "SweeperRounds" 221 ⟨"SweeperRounds$World", "dirtOnStreets", "()I"⟩ ∈ wA := wA_i (i := 684) (by decide +kernel) (by decide +kernel)
theorem wm_685 : Cond.instanceMethod ⟨"SweeperRounds$World", "dirtOnStreets", "()I"⟩ ∈ wA := wA_i (i := 685) (by decide +kernel) (by decide +kernel)
theorem wm_686 : Cond.selects "SweeperRounds$World" ⟨"SweeperRounds$World", "dirtOnStreets", "()I"⟩ ⟨"SweeperRounds$World", "dirtOnStreets", "()I"⟩ ∈ wA := wA_i (i := 686) (by decide +kernel) (by decide +kernel)
theorem wm_687 : Cond.code ⟨"SweeperRounds$World", "dirtOnStreets", "()I"⟩ prog_10_method_6_code 3 (Option.some FieldType.int) ∈ wA := wA_i (i := 687) (by decide +kernel) (by decide +kernel)
theorem wm_688 : Cond.methodLink "SweeperRoundsLaw" 83 ⟨"SweeperRounds", "rain", "(I)I"⟩ ∈ wA := wA_i (i := 688) (by decide +kernel) (by decide +kernel)
theorem wm_689 : Cond.instanceMethod ⟨"SweeperRounds", "rain", "(I)I"⟩ ∈ wA := wA_i (i := 689) (by decide +kernel) (by decide +kernel)
theorem wm_690 : Cond.selects "SweeperRounds" ⟨"SweeperRounds", "rain", "(I)I"⟩ ⟨"SweeperRounds", "rain", "(I)I"⟩ ∈ wA := wA_i (i := 690) (by decide +kernel) (by decide +kernel)
theorem wm_691 : Cond.code ⟨"SweeperRounds", "rain", "(I)I"⟩ prog_1_method_18_code 2 (Option.some FieldType.int) ∈ wA := wA_i (i := 691) (by decide +kernel) (by decide +kernel)
theorem wm_692 : Cond.methodLink "SweeperRounds" 224 ⟨"SweeperRounds$World", "washStreets", "(I)I"⟩ ∈ wA := wA_i (i := 692) (by decide +kernel) (by decide +kernel)
theorem wm_693 : Cond.instanceMethod ⟨"SweeperRounds$World", "washStreets", "(I)I"⟩ ∈ wA := wA_i (i := 693) (by decide +kernel) (by decide +kernel)
theorem wm_694 : Cond.selects "SweeperRounds$World" ⟨"SweeperRounds$World", "washStreets", "(I)I"⟩ ⟨"SweeperRounds$World", "washStreets", "(I)I"⟩ ∈ wA := wA_i (i := 694) (by decide +kernel) (by decide +kernel)
theorem wm_695 : Cond.code ⟨"SweeperRounds$World", "washStreets", "(I)I"⟩ prog_10_method_21_code 4 (Option.some FieldType.int) ∈ wA := wA_i (i := 695) (by decide +kernel) (by decide +kernel)
theorem wm_696 : Cond.methodLink "SweeperRounds$World" 133 ⟨"SweeperRounds$Street", "washSide", "(II)I"⟩ ∈ wA := wA_i (i := 696) (by decide +kernel) (by decide +kernel)
theorem wm_697 : Cond.instanceMethod ⟨"SweeperRounds$Street", "washSide", "(II)I"⟩ ∈ wA := wA_i (i := 697) (by decide +kernel) (by decide +kernel)
theorem wm_698 : Cond.selects "SweeperRounds$Street" ⟨"SweeperRounds$Street", "washSide", "(II)I"⟩ ⟨"SweeperRounds$Street", "washSide", "(II)I"⟩ ∈ wA := wA_i (i := 698) (by decide +kernel) (by decide +kernel)
theorem wm_699 : Cond.code ⟨"SweeperRounds$Street", "washSide", "(II)I"⟩ prog_8_method_10_code 7 (Option.some FieldType.int) ∈ wA := wA_i (i := 699) (by decide +kernel) (by decide +kernel)
theorem wm_700 : Cond.methodLink "SweeperRounds$Street" 45 ⟨"SweeperRounds$Street", "putDirt", "(II)I"⟩ ∈ wA := wA_i (i := 700) (by decide +kernel) (by decide +kernel)
theorem wm_701 : Cond.methodLink "SweeperRoundsLaw" 87 ⟨"SweeperRounds", "latest", "(I)I"⟩ ∈ wA := wA_i (i := 701) (by decide +kernel) (by decide +kernel)
theorem wm_702 : Cond.instanceMethod ⟨"SweeperRounds", "latest", "(I)I"⟩ ∈ wA := wA_i (i := 702) (by decide +kernel) (by decide +kernel)
theorem wm_703 : Cond.selects "SweeperRounds" ⟨"SweeperRounds", "latest", "(I)I"⟩ ⟨"SweeperRounds", "latest", "(I)I"⟩ ∈ wA := wA_i (i := 703) (by decide +kernel) (by decide +kernel)
theorem wm_704 : Cond.code ⟨"SweeperRounds", "latest", "(I)I"⟩ prog_1_method_19_code 2 (Option.some FieldType.int) ∈ wA := wA_i (i := 704) (by decide +kernel) (by decide +kernel)
theorem wm_705 : Cond.methodLink "SweeperRoundsLaw" 91 ⟨"SweeperRounds", "ifSpeed", "(I)I"⟩ ∈ wA := wA_i (i := 705) (by decide +kernel) (by decide +kernel)
theorem wm_706 : Cond.instanceMethod ⟨"SweeperRounds", "ifSpeed", "(I)I"⟩ ∈ wA := wA_i (i := 706) (by decide +kernel) (by decide +kernel)
theorem wm_707 : Cond.selects "SweeperRounds" ⟨"SweeperRounds", "ifSpeed", "(I)I"⟩ ⟨"SweeperRounds", "ifSpeed", "(I)I"⟩ ∈ wA := wA_i (i := 707) (by decide +kernel) (by decide +kernel)
theorem wm_708 : Cond.code ⟨"SweeperRounds", "ifSpeed", "(I)I"⟩ prog_1_method_20_code 2 (Option.some FieldType.int) ∈ wA := wA_i (i := 708) (by decide +kernel) (by decide +kernel)
theorem wm_709 : Cond.methodLink "SweeperRounds" 245 ⟨"SweeperRounds", "trySpeed", "(I)V"⟩ ∈ wA := wA_i (i := 709) (by decide +kernel) (by decide +kernel)
theorem wm_711 : Cond.instanceMethod ⟨"SweeperRounds", "trySpeed", "(I)V"⟩ ∈ wA := wA_i (i := 711) (by decide +kernel) (by decide +kernel)
theorem wm_712 : Cond.code ⟨"SweeperRounds", "trySpeed", "(I)V"⟩ prog_1_method_30_code 2 none ∈ wA := wA_i (i := 712) (by decide +kernel) (by decide +kernel)
theorem wm_713 : Cond.methodLink "SweeperRounds" 317 ⟨"SweeperRounds$World", "copyFrom", "(LSweeperRounds$World;)V"⟩ ∈ wA := wA_i (i := 713) (by decide +kernel) (by decide +kernel)
theorem wm_714 : Cond.methodLink "SweeperRoundsLaw" 95 ⟨"SweeperRounds", "bestSpeed", "()I"⟩ ∈ wA := wA_i (i := 714) (by decide +kernel) (by decide +kernel)
theorem wm_715 : Cond.instanceMethod ⟨"SweeperRounds", "bestSpeed", "()I"⟩ ∈ wA := wA_i (i := 715) (by decide +kernel) (by decide +kernel)
theorem wm_716 : Cond.selects "SweeperRounds" ⟨"SweeperRounds", "bestSpeed", "()I"⟩ ⟨"SweeperRounds", "bestSpeed", "()I"⟩ ∈ wA := wA_i (i := 716) (by decide +kernel) (by decide +kernel)
theorem wm_717 : Cond.code ⟨"SweeperRounds", "bestSpeed", "()I"⟩ prog_1_method_21_code 7 (Option.some FieldType.int) ∈ wA := wA_i (i := 717) (by decide +kernel) (by decide +kernel)
theorem wm_718 : Cond.methodLink "SweeperRoundsLaw" 99 ⟨"SweeperRounds", "bestOrder", "(IZ)I"⟩ ∈ wA := wA_i (i := 718) (by decide +kernel) (by decide +kernel)
theorem wm_719 : Cond.instanceMethod ⟨"SweeperRounds", "bestOrder", "(IZ)I"⟩ ∈ wA := wA_i (i := 719) (by decide +kernel) (by decide +kernel)
theorem wm_720 : Cond.selects "SweeperRounds" ⟨"SweeperRounds", "bestOrder", "(IZ)I"⟩ ⟨"SweeperRounds", "bestOrder", "(IZ)I"⟩ ∈ wA := wA_i (i := 720) (by decide +kernel) (by decide +kernel)
theorem wm_721 : Cond.code ⟨"SweeperRounds", "bestOrder", "(IZ)I"⟩ prog_1_method_22_code 3 (Option.some FieldType.int) ∈ wA := wA_i (i := 721) (by decide +kernel) (by decide +kernel)
theorem wm_722 : Cond.methodLink "SweeperRounds" 248 ⟨"SweeperRounds$Orders", "search", "(LSweeperRounds$World;LSweeperRounds$World;LSweeperRounds$Round;)V"⟩ ∈ wA := wA_i (i := 722) (by decide +kernel) (by decide +kernel)
theorem wm_723 : Cond.instanceMethod ⟨"SweeperRounds$Orders", "search", "(LSweeperRounds$World;LSweeperRounds$World;LSweeperRounds$Round;)V"⟩ ∈ wA := wA_i (i := 723) (by decide +kernel) (by decide +kernel)
theorem wm_724 : Cond.selects "SweeperRounds$Orders" ⟨"SweeperRounds$Orders", "search", "(LSweeperRounds$World;LSweeperRounds$World;LSweeperRounds$Round;)V"⟩ ⟨"SweeperRounds$Orders", "search", "(LSweeperRounds$World;LSweeperRounds$World;LSweeperRounds$Round;)V"⟩ ∈ wA := wA_i (i := 724) (by decide +kernel) (by decide +kernel)
theorem wm_725 : Cond.code ⟨"SweeperRounds$Orders", "search", "(LSweeperRounds$World;LSweeperRounds$World;LSweeperRounds$Round;)V"⟩ prog_4_method_2_code 7 none ∈ wA := wA_i (i := 725) (by decide +kernel) (by decide +kernel)
theorem wm_726 : Cond.methodLink "SweeperRounds$Orders" 24 ⟨"java/lang/Math", "min", "(II)I"⟩ ∈ wA := wA_i (i := 726) (by decide +kernel) (by decide +kernel)
theorem wm_727 : Cond.methodLink "SweeperRounds$Orders" 36 ⟨"SweeperRounds$World", "copyFrom", "(LSweeperRounds$World;)V"⟩ ∈ wA := wA_i (i := 727) (by decide +kernel) (by decide +kernel)
theorem wm_728 : Cond.methodLink "SweeperRounds$Orders" 44 ⟨"SweeperRounds$Leg", "copyFrom", "(LSweeperRounds$Leg;)V"⟩ ∈ wA := wA_i (i := 728) (by decide +kernel) (by decide +kernel)
theorem wm_729 : Cond.methodLink "SweeperRounds$Orders" 49 ⟨"SweeperRounds$Round", "carryOut", "()V"⟩ ∈ wA := wA_i (i := 729) (by decide +kernel) (by decide +kernel)
theorem wm_730 : Cond.methodLink "SweeperRounds$Orders" 63 ⟨"java/lang/System", "arraycopy", "(Ljava/lang/Object;ILjava/lang/Object;II)V"⟩ ∈ wA := wA_i (i := 730) (by decide +kernel) (by decide +kernel)
theorem wm_731 : Cond.methodLink "SweeperRounds$Orders" 69 ⟨"SweeperRounds$Orders", "stepOrder", "()Z"⟩ ∈ wA := wA_i (i := 731) (by decide +kernel) (by decide +kernel)
theorem wm_733 : Cond.instanceMethod ⟨"SweeperRounds$Orders", "stepOrder", "()Z"⟩ ∈ wA := wA_i (i := 733) (by decide +kernel) (by decide +kernel)
theorem wm_734 : Cond.code ⟨"SweeperRounds$Orders", "stepOrder", "()Z"⟩ prog_4_method_3_code 5 (Option.some FieldType.boolean) ∈ wA := wA_i (i := 734) (by decide +kernel) (by decide +kernel)
theorem wm_735 : Cond.methodLink "SweeperRounds$Orders" 73 ⟨"SweeperRounds$Orders", "swap", "(II)V"⟩ ∈ wA := wA_i (i := 735) (by decide +kernel) (by decide +kernel)
theorem wm_737 : Cond.instanceMethod ⟨"SweeperRounds$Orders", "swap", "(II)V"⟩ ∈ wA := wA_i (i := 737) (by decide +kernel) (by decide +kernel)
theorem wm_738 : Cond.code ⟨"SweeperRounds$Orders", "swap", "(II)V"⟩ prog_4_method_4_code 4 none ∈ wA := wA_i (i := 738) (by decide +kernel) (by decide +kernel)
theorem wm_739 : Cond.methodLink "SweeperRoundsLaw" 104 ⟨"SweeperRounds", "nightsTo", "(I)I"⟩ ∈ wA := wA_i (i := 739) (by decide +kernel) (by decide +kernel)
theorem wm_740 : Cond.instanceMethod ⟨"SweeperRounds", "nightsTo", "(I)I"⟩ ∈ wA := wA_i (i := 740) (by decide +kernel) (by decide +kernel)
theorem wm_741 : Cond.selects "SweeperRounds" ⟨"SweeperRounds", "nightsTo", "(I)I"⟩ ⟨"SweeperRounds", "nightsTo", "(I)I"⟩ ∈ wA := wA_i (i := 741) (by decide +kernel) (by decide +kernel)
theorem wm_742 : Cond.code ⟨"SweeperRounds", "nightsTo", "(I)I"⟩ prog_1_method_23_code 5 (Option.some FieldType.int) ∈ wA := wA_i (i := 742) (by decide +kernel) (by decide +kernel)
theorem wm_743 : Cond.methodLink "SweeperRounds" 258 ⟨"SweeperRounds$World", "fallOn", "(LSweeperRounds$Street;)I"⟩ ∈ wA := wA_i (i := 743) (by decide +kernel) (by decide +kernel)
theorem wm_744 : Cond.methodLink "SweeperRounds" 262 ⟨"SweeperRounds", "nightsUntil", "(III)I"⟩ ∈ wA := wA_i (i := 744) (by decide +kernel) (by decide +kernel)
theorem wm_745 : Cond.static ⟨"SweeperRounds", "nightsUntil", "(III)I"⟩ ∈ wA := wA_i (i := 745) (by decide +kernel) (by decide +kernel)
theorem wm_746 : Cond.code ⟨"SweeperRounds", "nightsUntil", "(III)I"⟩ prog_1_method_31_code 3 (Option.some FieldType.int) ∈ wA := wA_i (i := 746) (by decide +kernel) (by decide +kernel)
theorem wm_747 : Cond.methodLink "SweeperRoundsLaw" 108 ⟨"SweeperRounds", "account", "(I)I"⟩ ∈ wA := wA_i (i := 747) (by decide +kernel) (by decide +kernel)
theorem wm_748 : Cond.instanceMethod ⟨"SweeperRounds", "account", "(I)I"⟩ ∈ wA := wA_i (i := 748) (by decide +kernel) (by decide +kernel)
theorem wm_749 : Cond.selects "SweeperRounds" ⟨"SweeperRounds", "account", "(I)I"⟩ ⟨"SweeperRounds", "account", "(I)I"⟩ ∈ wA := wA_i (i := 749) (by decide +kernel) (by decide +kernel)
theorem wm_750 : Cond.code ⟨"SweeperRounds", "account", "(I)I"⟩ prog_1_method_24_code 2 (Option.some FieldType.int) ∈ wA := wA_i (i := 750) (by decide +kernel) (by decide +kernel)
theorem wm_751 : Cond.methodLink "SweeperRoundsLaw" 112 ⟨"SweeperRounds", "undo", "()I"⟩ ∈ wA := wA_i (i := 751) (by decide +kernel) (by decide +kernel)
theorem wm_752 : Cond.instanceMethod ⟨"SweeperRounds", "undo", "()I"⟩ ∈ wA := wA_i (i := 752) (by decide +kernel) (by decide +kernel)
theorem wm_753 : Cond.selects "SweeperRounds" ⟨"SweeperRounds", "undo", "()I"⟩ ⟨"SweeperRounds", "undo", "()I"⟩ ∈ wA := wA_i (i := 753) (by decide +kernel) (by decide +kernel)
theorem wm_754 : Cond.code ⟨"SweeperRounds", "undo", "()I"⟩ prog_1_method_25_code 1 (Option.some FieldType.int) ∈ wA := wA_i (i := 754) (by decide +kernel) (by decide +kernel)
theorem wm_755 : Cond.methodLink "SweeperRounds" 271 ⟨"SweeperRounds$History", "restore", "(LSweeperRounds$World;)V"⟩ ∈ wA := wA_i (i := 755) (by decide +kernel) (by decide +kernel)
theorem wm_756 : Cond.instanceMethod ⟨"SweeperRounds$History", "restore", "(LSweeperRounds$World;)V"⟩ ∈ wA := wA_i (i := 756) (by decide +kernel) (by decide +kernel)
theorem wm_757 : Cond.selects "SweeperRounds$History" ⟨"SweeperRounds$History", "restore", "(LSweeperRounds$World;)V"⟩ ⟨"SweeperRounds$History", "restore", "(LSweeperRounds$World;)V"⟩ ∈ wA := wA_i (i := 757) (by decide +kernel) (by decide +kernel)
theorem wm_758 : Cond.code ⟨"SweeperRounds$History", "restore", "(LSweeperRounds$World;)V"⟩ prog_2_method_3_code 2 none ∈ wA := wA_i (i := 758) (by decide +kernel) (by decide +kernel)
theorem wm_759 : Cond.methodLink "SweeperRoundsLaw" 116 ⟨"SweeperRounds", "count", "(I)I"⟩ ∈ wA := wA_i (i := 759) (by decide +kernel) (by decide +kernel)
theorem wm_760 : Cond.instanceMethod ⟨"SweeperRounds", "count", "(I)I"⟩ ∈ wA := wA_i (i := 760) (by decide +kernel) (by decide +kernel)
theorem wm_761 : Cond.selects "SweeperRounds" ⟨"SweeperRounds", "count", "(I)I"⟩ ⟨"SweeperRounds", "count", "(I)I"⟩ ∈ wA := wA_i (i := 761) (by decide +kernel) (by decide +kernel)
theorem wm_762 : Cond.code ⟨"SweeperRounds", "count", "(I)I"⟩ prog_1_method_26_code 2 (Option.some FieldType.int) ∈ wA := wA_i (i := 762) (by decide +kernel) (by decide +kernel)
theorem wm_763 : Cond.methodLink "SweeperRoundsLaw" 120 ⟨"SweeperRounds", "digest", "()J"⟩ ∈ wA := wA_i (i := 763) (by decide +kernel) (by decide +kernel)
theorem wm_764 : Cond.instanceMethod ⟨"SweeperRounds", "digest", "()J"⟩ ∈ wA := wA_i (i := 764) (by decide +kernel) (by decide +kernel)
theorem wm_765 : Cond.selects "SweeperRounds" ⟨"SweeperRounds", "digest", "()J"⟩ ⟨"SweeperRounds", "digest", "()J"⟩ ∈ wA := wA_i (i := 765) (by decide +kernel) (by decide +kernel)
theorem wm_766 : Cond.code ⟨"SweeperRounds", "digest", "()J"⟩ prog_1_method_27_code 5 (Option.some FieldType.long) ∈ wA := wA_i (i := 766) (by decide +kernel) (by decide +kernel)
theorem wm_767 : Cond.constantLong "SweeperRounds" 283 18926 ∈ wA := wA_i (i := 767) (by decide +kernel) (by decide +kernel)
theorem wm_768 : Cond.methodLink "SweeperRounds" 285 ⟨"SweeperRounds", "count", "(I)I"⟩ ∈ wA := wA_i (i := 768) (by decide +kernel) (by decide +kernel)
theorem wm_769 : Cond.methodLink "SweeperRounds" 288 ⟨"SweeperRounds", "mix", "(JI)J"⟩ ∈ wA := wA_i (i := 769) (by decide +kernel) (by decide +kernel)
theorem wm_770 : Cond.static ⟨"SweeperRounds", "mix", "(JI)J"⟩ ∈ wA := wA_i (i := 770) (by decide +kernel) (by decide +kernel)
theorem wm_771 : Cond.code ⟨"SweeperRounds", "mix", "(JI)J"⟩ prog_1_method_29_code 3 (Option.some FieldType.long) ∈ wA := wA_i (i := 771) (by decide +kernel) (by decide +kernel)
theorem wm_772 : Cond.constantLong "SweeperRounds" 315 31 ∈ wA := wA_i (i := 772) (by decide +kernel) (by decide +kernel)
theorem wm_773 : Cond.methodLink "SweeperRounds" 292 ⟨"SweeperRounds", "mixStreet", "(JI)J"⟩ ∈ wA := wA_i (i := 773) (by decide +kernel) (by decide +kernel)
theorem wm_775 : Cond.instanceMethod ⟨"SweeperRounds", "mixStreet", "(JI)J"⟩ ∈ wA := wA_i (i := 775) (by decide +kernel) (by decide +kernel)
theorem wm_776 : Cond.code ⟨"SweeperRounds", "mixStreet", "(JI)J"⟩ prog_1_method_28_code 10 (Option.some FieldType.long) ∈ wA := wA_i (i := 776) (by decide +kernel) (by decide +kernel)
theorem wm_777 : Cond.methodLink "SweeperRounds" 309 ⟨"SweeperRounds", "street", "(II)I"⟩ ∈ wA := wA_i (i := 777) (by decide +kernel) (by decide +kernel)
theorem wm_778 : Cond.methodLink "SweeperRounds" 311 ⟨"SweeperRounds", "cell", "(IIII)I"⟩ ∈ wA := wA_i (i := 778) (by decide +kernel) (by decide +kernel)
theorem wm_779 : Cond.methodLink "SweeperRounds" 295 ⟨"SweeperRounds", "leg", "(II)I"⟩ ∈ wA := wA_i (i := 779) (by decide +kernel) (by decide +kernel)
theorem wm_780 : Cond.methodLink "SweeperRounds" 297 ⟨"SweeperRounds", "latest", "(I)I"⟩ ∈ wA := wA_i (i := 780) (by decide +kernel) (by decide +kernel)
theorem wm_781 : Cond.methodLink "SweeperRounds" 300 ⟨"SweeperRounds", "account", "(I)I"⟩ ∈ wA := wA_i (i := 781) (by decide +kernel) (by decide +kernel)
theorem wm_782 : Cond.methodLink "SweeperRounds" 303 ⟨"SweeperRounds", "ifSpeed", "(I)I"⟩ ∈ wA := wA_i (i := 782) (by decide +kernel) (by decide +kernel)
theorem wm_783 : Cond.methodLink "SweeperRounds" 306 ⟨"SweeperRounds", "bestSpeed", "()I"⟩ ∈ wA := wA_i (i := 783) (by decide +kernel) (by decide +kernel)
theorem wm_784 : Cond.classLink "SweeperRoundsLaw" 10 "SweeperRoundsModel" ∈ wA := wA_i (i := 784) (by decide +kernel) (by decide +kernel)
theorem wm_785 : Cond.instantiable "SweeperRoundsModel" 14 ∈ wA := wA_i (i := 785) (by decide +kernel) (by decide +kernel)
theorem wm_786 : Cond.methodLink "SweeperRoundsLaw" 12 ⟨"SweeperRoundsModel", "<init>", "()V"⟩ ∈ wA := wA_i (i := 786) (by decide +kernel) (by decide +kernel)
theorem wm_787 : Cond.instanceMethod ⟨"SweeperRoundsModel", "<init>", "()V"⟩ ∈ wA := wA_i (i := 787) (by decide +kernel) (by decide +kernel)
theorem wm_788 : Cond.code ⟨"SweeperRoundsModel", "<init>", "()V"⟩ prog_12_method_1_code 1 none ∈ wA := wA_i (i := 788) (by decide +kernel) (by decide +kernel)
theorem wm_789 : Cond.methodLink "SweeperRoundsModel" 1 ⟨"java/lang/Object", "<init>", "()V"⟩ ∈ wA := wA_i (i := 789) (by decide +kernel) (by decide +kernel)
theorem wm_790 : Cond.fieldLink "SweeperRoundsModel" 7 "SweeperRoundsModel" "page" "[I" ∈ wA := wA_i (i := 790) (by decide +kernel) (by decide +kernel)
theorem wm_791 : Cond.fieldLink "SweeperRoundsModel" 25 "SweeperRoundsModel" "backMany" "I" ∈ wA := wA_i (i := 791) (by decide +kernel) (by decide +kernel)
theorem wm_792 : Cond.fieldLink "SweeperRoundsModel" 13 "SweeperRoundsModel" "text" "[I" ∈ wA := wA_i (i := 792) (by decide +kernel) (by decide +kernel)
theorem wm_793 : Cond.fieldLink "SweeperRoundsModel" 75 "SweeperRoundsModel" "typed" "I" ∈ wA := wA_i (i := 793) (by decide +kernel) (by decide +kernel)
theorem wm_794 : Cond.fieldLink "SweeperRoundsModel" 85 "SweeperRoundsModel" "fault" "I" ∈ wA := wA_i (i := 794) (by decide +kernel) (by decide +kernel)
theorem wm_795 : Cond.fieldLink "SweeperRoundsModel" 88 "SweeperRoundsModel" "faultAt" "I" ∈ wA := wA_i (i := 795) (by decide +kernel) (by decide +kernel)
theorem wm_796 : Cond.fieldLink "SweeperRoundsModel" 78 "SweeperRoundsModel" "spot" "I" ∈ wA := wA_i (i := 796) (by decide +kernel) (by decide +kernel)
theorem wm_797 : Cond.fieldLink "SweeperRoundsModel" 16 "SweeperRoundsModel" "made" "[I" ∈ wA := wA_i (i := 797) (by decide +kernel) (by decide +kernel)
theorem wm_798 : Cond.fieldLink "SweeperRoundsModel" 19 "SweeperRoundsModel" "order" "[I" ∈ wA := wA_i (i := 798) (by decide +kernel) (by decide +kernel)
theorem wm_799 : Cond.fieldLink "SweeperRoundsModel" 161 "SweeperRoundsModel" "where" "I" ∈ wA := wA_i (i := 799) (by decide +kernel) (by decide +kernel)
theorem wm_800 : Cond.fieldLink "SweeperRoundsModel" 154 "SweeperRoundsModel" "goes" "Z" ∈ wA := wA_i (i := 800) (by decide +kernel) (by decide +kernel)
theorem wm_801 : Cond.fieldLink "SweeperRoundsModel" 192 "SweeperRoundsModel" "unitsThen" "I" ∈ wA := wA_i (i := 801) (by decide +kernel) (by decide +kernel)
theorem wm_802 : Cond.fieldLink "SweeperRoundsModel" 22 "SweeperRoundsModel" "bestLegs" "[I" ∈ wA := wA_i (i := 802) (by decide +kernel) (by decide +kernel)
theorem wm_803 : Cond.fieldLink "SweeperRoundsModel" 206 "SweeperRoundsModel" "hash" "J" ∈ wA := wA_i (i := 803) (by decide +kernel) (by decide +kernel)
theorem wm_833 : Cond.methodLink "SweeperRoundsLaw" 115 ⟨"SweeperRoundsModel", "undo", "()I"⟩ ∈ wA := wA_i (i := 833) (by decide +kernel) (by decide +kernel)
theorem wm_834 : Cond.instanceMethod ⟨"SweeperRoundsModel", "undo", "()I"⟩ ∈ wA := wA_i (i := 834) (by decide +kernel) (by decide +kernel)
theorem wm_835 : Cond.selects "SweeperRoundsModel" ⟨"SweeperRoundsModel", "undo", "()I"⟩ ⟨"SweeperRoundsModel", "undo", "()I"⟩ ∈ wA := wA_i (i := 835) (by decide +kernel) (by decide +kernel)
theorem wm_836 : Cond.code ⟨"SweeperRoundsModel", "undo", "()I"⟩ prog_12_method_6_code 1 (Option.some FieldType.int) ∈ wA := wA_i (i := 836) (by decide +kernel) (by decide +kernel)
theorem wm_837 : Cond.methodLink "SweeperRoundsModel" 29 ⟨"SweeperRoundsModel", "copies", "(II)V"⟩ ∈ wA := wA_i (i := 837) (by decide +kernel) (by decide +kernel)
theorem wm_839 : Cond.instanceMethod ⟨"SweeperRoundsModel", "copies", "(II)V"⟩ ∈ wA := wA_i (i := 839) (by decide +kernel) (by decide +kernel)
theorem wm_840 : Cond.code ⟨"SweeperRoundsModel", "copies", "(II)V"⟩ prog_12_method_4_code 4 none ∈ wA := wA_i (i := 840) (by decide +kernel) (by decide +kernel)
theorem wm_841 : Cond.methodLink "SweeperRoundsLaw" 35 ⟨"SweeperRoundsModel", "addStreet", "(III)I"⟩ ∈ wA := wA_i (i := 841) (by decide +kernel) (by decide +kernel)
theorem wm_842 : Cond.instanceMethod ⟨"SweeperRoundsModel", "addStreet", "(III)I"⟩ ∈ wA := wA_i (i := 842) (by decide +kernel) (by decide +kernel)
theorem wm_843 : Cond.selects "SweeperRoundsModel" ⟨"SweeperRoundsModel", "addStreet", "(III)I"⟩ ⟨"SweeperRoundsModel", "addStreet", "(III)I"⟩ ∈ wA := wA_i (i := 843) (by decide +kernel) (by decide +kernel)
theorem wm_844 : Cond.code ⟨"SweeperRoundsModel", "addStreet", "(III)I"⟩ prog_12_method_17_code 4 (Option.some FieldType.int) ∈ wA := wA_i (i := 844) (by decide +kernel) (by decide +kernel)
theorem wm_845 : Cond.methodLink "SweeperRoundsModel" 40 ⟨"SweeperRoundsModel", "in", "(III)Z"⟩ ∈ wA := wA_i (i := 845) (by decide +kernel) (by decide +kernel)
theorem wm_846 : Cond.static ⟨"SweeperRoundsModel", "in", "(III)Z"⟩ ∈ wA := wA_i (i := 846) (by decide +kernel) (by decide +kernel)
theorem wm_847 : Cond.code ⟨"SweeperRoundsModel", "in", "(III)Z"⟩ prog_12_method_3_code 3 (Option.some FieldType.boolean) ∈ wA := wA_i (i := 847) (by decide +kernel) (by decide +kernel)
theorem wm_848 : Cond.methodLink "SweeperRoundsModel" 56 ⟨"SweeperRoundsModel", "records", "()V"⟩ ∈ wA := wA_i (i := 848) (by decide +kernel) (by decide +kernel)
theorem wm_850 : Cond.instanceMethod ⟨"SweeperRoundsModel", "records", "()V"⟩ ∈ wA := wA_i (i := 850) (by decide +kernel) (by decide +kernel)
theorem wm_851 : Cond.code ⟨"SweeperRoundsModel", "records", "()V"⟩ prog_12_method_5_code 2 none ∈ wA := wA_i (i := 851) (by decide +kernel) (by decide +kernel)
theorem wm_852 : Cond.methodLink "SweeperRoundsModel" 59 ⟨"SweeperRoundsModel", "empties", "(IIII)V"⟩ ∈ wA := wA_i (i := 852) (by decide +kernel) (by decide +kernel)
theorem wm_854 : Cond.instanceMethod ⟨"SweeperRoundsModel", "empties", "(IIII)V"⟩ ∈ wA := wA_i (i := 854) (by decide +kernel) (by decide +kernel)
theorem wm_855 : Cond.code ⟨"SweeperRoundsModel", "empties", "(IIII)V"⟩ prog_12_method_16_code 6 none ∈ wA := wA_i (i := 855) (by decide +kernel) (by decide +kernel)
theorem wm_856 : Cond.methodLink "SweeperRoundsModel" 52 ⟨"SweeperRoundsModel", "sets", "(III)V"⟩ ∈ wA := wA_i (i := 856) (by decide +kernel) (by decide +kernel)
theorem wm_858 : Cond.instanceMethod ⟨"SweeperRoundsModel", "sets", "(III)V"⟩ ∈ wA := wA_i (i := 858) (by decide +kernel) (by decide +kernel)
theorem wm_859 : Cond.code ⟨"SweeperRoundsModel", "sets", "(III)V"⟩ prog_12_method_8_code 4 none ∈ wA := wA_i (i := 859) (by decide +kernel) (by decide +kernel)
theorem wm_860 : Cond.methodLink "SweeperRoundsLaw" 39 ⟨"SweeperRoundsModel", "dropStreet", "(I)I"⟩ ∈ wA := wA_i (i := 860) (by decide +kernel) (by decide +kernel)
theorem wm_861 : Cond.instanceMethod ⟨"SweeperRoundsModel", "dropStreet", "(I)I"⟩ ∈ wA := wA_i (i := 861) (by decide +kernel) (by decide +kernel)
theorem wm_862 : Cond.selects "SweeperRoundsModel" ⟨"SweeperRoundsModel", "dropStreet", "(I)I"⟩ ⟨"SweeperRoundsModel", "dropStreet", "(I)I"⟩ ∈ wA := wA_i (i := 862) (by decide +kernel) (by decide +kernel)
theorem wm_863 : Cond.code ⟨"SweeperRoundsModel", "dropStreet", "(I)I"⟩ prog_12_method_19_code 5 (Option.some FieldType.int) ∈ wA := wA_i (i := 863) (by decide +kernel) (by decide +kernel)
theorem wm_864 : Cond.methodLink "SweeperRoundsModel" 44 ⟨"SweeperRoundsModel", "isStreet", "(I)Z"⟩ ∈ wA := wA_i (i := 864) (by decide +kernel) (by decide +kernel)
theorem wm_866 : Cond.instanceMethod ⟨"SweeperRoundsModel", "isStreet", "(I)Z"⟩ ∈ wA := wA_i (i := 866) (by decide +kernel) (by decide +kernel)
theorem wm_867 : Cond.code ⟨"SweeperRoundsModel", "isStreet", "(I)Z"⟩ prog_12_method_12_code 2 (Option.some FieldType.boolean) ∈ wA := wA_i (i := 867) (by decide +kernel) (by decide +kernel)
theorem wm_868 : Cond.methodLink "SweeperRoundsModel" 63 ⟨"SweeperRoundsModel", "sideSum", "(II)I"⟩ ∈ wA := wA_i (i := 868) (by decide +kernel) (by decide +kernel)
theorem wm_870 : Cond.instanceMethod ⟨"SweeperRoundsModel", "sideSum", "(II)I"⟩ ∈ wA := wA_i (i := 870) (by decide +kernel) (by decide +kernel)
theorem wm_871 : Cond.code ⟨"SweeperRoundsModel", "sideSum", "(II)I"⟩ prog_12_method_14_code 5 (Option.some FieldType.int) ∈ wA := wA_i (i := 871) (by decide +kernel) (by decide +kernel)
theorem wm_872 : Cond.methodLink "SweeperRoundsModel" 37 ⟨"SweeperRoundsModel", "of", "(II)I"⟩ ∈ wA := wA_i (i := 872) (by decide +kernel) (by decide +kernel)
theorem wm_874 : Cond.instanceMethod ⟨"SweeperRoundsModel", "of", "(II)I"⟩ ∈ wA := wA_i (i := 874) (by decide +kernel) (by decide +kernel)
theorem wm_875 : Cond.code ⟨"SweeperRoundsModel", "of", "(II)I"⟩ prog_12_method_7_code 3 (Option.some FieldType.int) ∈ wA := wA_i (i := 875) (by decide +kernel) (by decide +kernel)
theorem wm_876 : Cond.methodLink "SweeperRoundsModel" 48 ⟨"SweeperRoundsModel", "dirtOf", "(III)I"⟩ ∈ wA := wA_i (i := 876) (by decide +kernel) (by decide +kernel)
theorem wm_878 : Cond.instanceMethod ⟨"SweeperRoundsModel", "dirtOf", "(III)I"⟩ ∈ wA := wA_i (i := 878) (by decide +kernel) (by decide +kernel)
theorem wm_879 : Cond.code ⟨"SweeperRoundsModel", "dirtOf", "(III)I"⟩ prog_12_method_10_code 4 (Option.some FieldType.int) ∈ wA := wA_i (i := 879) (by decide +kernel) (by decide +kernel)
theorem wm_880 : Cond.methodLink "SweeperRoundsModel" 33 ⟨"SweeperRoundsModel", "placeOf", "(II)I"⟩ ∈ wA := wA_i (i := 880) (by decide +kernel) (by decide +kernel)
theorem wm_881 : Cond.static ⟨"SweeperRoundsModel", "placeOf", "(II)I"⟩ ∈ wA := wA_i (i := 881) (by decide +kernel) (by decide +kernel)
theorem wm_882 : Cond.code ⟨"SweeperRoundsModel", "placeOf", "(II)I"⟩ prog_12_method_9_code 2 (Option.some FieldType.int) ∈ wA := wA_i (i := 882) (by decide +kernel) (by decide +kernel)
theorem wm_883 : Cond.methodLink "SweeperRoundsModel" 66 ⟨"SweeperRoundsModel", "books", "(II)V"⟩ ∈ wA := wA_i (i := 883) (by decide +kernel) (by decide +kernel)
theorem wm_885 : Cond.instanceMethod ⟨"SweeperRoundsModel", "books", "(II)V"⟩ ∈ wA := wA_i (i := 885) (by decide +kernel) (by decide +kernel)
theorem wm_886 : Cond.code ⟨"SweeperRoundsModel", "books", "(II)V"⟩ prog_12_method_15_code 3 none ∈ wA := wA_i (i := 886) (by decide +kernel) (by decide +kernel)
theorem wm_887 : Cond.methodLink "SweeperRoundsModel" 69 ⟨"SweeperRoundsModel", "legOf", "(II)I"⟩ ∈ wA := wA_i (i := 887) (by decide +kernel) (by decide +kernel)
theorem wm_889 : Cond.instanceMethod ⟨"SweeperRoundsModel", "legOf", "(II)I"⟩ ∈ wA := wA_i (i := 889) (by decide +kernel) (by decide +kernel)
theorem wm_890 : Cond.code ⟨"SweeperRoundsModel", "legOf", "(II)I"⟩ prog_12_method_18_code 3 (Option.some FieldType.int) ∈ wA := wA_i (i := 890) (by decide +kernel) (by decide +kernel)
theorem wm_891 : Cond.methodLink "SweeperRoundsLaw" 44 ⟨"SweeperRoundsModel", "lay", "(IIII)I"⟩ ∈ wA := wA_i (i := 891) (by decide +kernel) (by decide +kernel)
theorem wm_892 : Cond.instanceMethod ⟨"SweeperRoundsModel", "lay", "(IIII)I"⟩ ∈ wA := wA_i (i := 892) (by decide +kernel) (by decide +kernel)
theorem wm_893 : Cond.selects "SweeperRoundsModel" ⟨"SweeperRoundsModel", "lay", "(IIII)I"⟩ ⟨"SweeperRoundsModel", "lay", "(IIII)I"⟩ ∈ wA := wA_i (i := 893) (by decide +kernel) (by decide +kernel)
theorem wm_894 : Cond.code ⟨"SweeperRoundsModel", "lay", "(IIII)I"⟩ prog_12_method_20_code 6 (Option.some FieldType.int) ∈ wA := wA_i (i := 894) (by decide +kernel) (by decide +kernel)
theorem wm_895 : Cond.methodLink "SweeperRoundsModel" 72 ⟨"SweeperRoundsModel", "isCell", "(III)Z"⟩ ∈ wA := wA_i (i := 895) (by decide +kernel) (by decide +kernel)
theorem wm_897 : Cond.instanceMethod ⟨"SweeperRoundsModel", "isCell", "(III)Z"⟩ ∈ wA := wA_i (i := 897) (by decide +kernel) (by decide +kernel)
theorem wm_898 : Cond.code ⟨"SweeperRoundsModel", "isCell", "(III)Z"⟩ prog_12_method_13_code 4 (Option.some FieldType.boolean) ∈ wA := wA_i (i := 898) (by decide +kernel) (by decide +kernel)
theorem wm_899 : Cond.methodLink "SweeperRoundsLaw" 49 ⟨"SweeperRoundsModel", "park", "(IIIZ)I"⟩ ∈ wA := wA_i (i := 899) (by decide +kernel) (by decide +kernel)
theorem wm_900 : Cond.instanceMethod ⟨"SweeperRoundsModel", "park", "(IIIZ)I"⟩ ∈ wA := wA_i (i := 900) (by decide +kernel) (by decide +kernel)
theorem wm_901 : Cond.selects "SweeperRoundsModel" ⟨"SweeperRoundsModel", "park", "(IIIZ)I"⟩ ⟨"SweeperRoundsModel", "park", "(IIIZ)I"⟩ ∈ wA := wA_i (i := 901) (by decide +kernel) (by decide +kernel)
theorem wm_902 : Cond.code ⟨"SweeperRoundsModel", "park", "(IIIZ)I"⟩ prog_12_method_21_code 6 (Option.some FieldType.int) ∈ wA := wA_i (i := 902) (by decide +kernel) (by decide +kernel)
theorem wm_903 : Cond.methodLink "SweeperRoundsLaw" 17 ⟨"SweeperRoundsModel", "type", "(I)I"⟩ ∈ wA := wA_i (i := 903) (by decide +kernel) (by decide +kernel)
theorem wm_904 : Cond.instanceMethod ⟨"SweeperRoundsModel", "type", "(I)I"⟩ ∈ wA := wA_i (i := 904) (by decide +kernel) (by decide +kernel)
theorem wm_905 : Cond.selects "SweeperRoundsModel" ⟨"SweeperRoundsModel", "type", "(I)I"⟩ ⟨"SweeperRoundsModel", "type", "(I)I"⟩ ∈ wA := wA_i (i := 905) (by decide +kernel) (by decide +kernel)
theorem wm_906 : Cond.code ⟨"SweeperRoundsModel", "type", "(I)I"⟩ prog_12_method_22_code 2 (Option.some FieldType.int) ∈ wA := wA_i (i := 906) (by decide +kernel) (by decide +kernel)
theorem wm_907 : Cond.methodLink "SweeperRoundsLaw" 22 ⟨"SweeperRoundsModel", "clearText", "()I"⟩ ∈ wA := wA_i (i := 907) (by decide +kernel) (by decide +kernel)
theorem wm_908 : Cond.instanceMethod ⟨"SweeperRoundsModel", "clearText", "()I"⟩ ∈ wA := wA_i (i := 908) (by decide +kernel) (by decide +kernel)
theorem wm_909 : Cond.selects "SweeperRoundsModel" ⟨"SweeperRoundsModel", "clearText", "()I"⟩ ⟨"SweeperRoundsModel", "clearText", "()I"⟩ ∈ wA := wA_i (i := 909) (by decide +kernel) (by decide +kernel)
theorem wm_910 : Cond.code ⟨"SweeperRoundsModel", "clearText", "()I"⟩ prog_12_method_23_code 2 (Option.some FieldType.int) ∈ wA := wA_i (i := 910) (by decide +kernel) (by decide +kernel)
theorem wm_911 : Cond.methodLink "SweeperRoundsLaw" 26 ⟨"SweeperRoundsModel", "load", "(I)I"⟩ ∈ wA := wA_i (i := 911) (by decide +kernel) (by decide +kernel)
theorem wm_912 : Cond.instanceMethod ⟨"SweeperRoundsModel", "load", "(I)I"⟩ ∈ wA := wA_i (i := 912) (by decide +kernel) (by decide +kernel)
theorem wm_913 : Cond.selects "SweeperRoundsModel" ⟨"SweeperRoundsModel", "load", "(I)I"⟩ ⟨"SweeperRoundsModel", "load", "(I)I"⟩ ∈ wA := wA_i (i := 913) (by decide +kernel) (by decide +kernel)
theorem wm_914 : Cond.code ⟨"SweeperRoundsModel", "load", "(I)I"⟩ prog_12_method_33_code 4 (Option.some FieldType.int) ∈ wA := wA_i (i := 914) (by decide +kernel) (by decide +kernel)
theorem wm_915 : Cond.methodLink "SweeperRoundsModel" 108 ⟨"SweeperRoundsModel", "readsDistance", "()Z"⟩ ∈ wA := wA_i (i := 915) (by decide +kernel) (by decide +kernel)
theorem wm_917 : Cond.instanceMethod ⟨"SweeperRoundsModel", "readsDistance", "()Z"⟩ ∈ wA := wA_i (i := 917) (by decide +kernel) (by decide +kernel)
theorem wm_918 : Cond.code ⟨"SweeperRoundsModel", "readsDistance", "()Z"⟩ prog_12_method_28_code 2 (Option.some FieldType.boolean) ∈ wA := wA_i (i := 918) (by decide +kernel) (by decide +kernel)
theorem wm_919 : Cond.methodLink "SweeperRoundsModel" 95 ⟨"SweeperRoundsModel", "isDigit", "()Z"⟩ ∈ wA := wA_i (i := 919) (by decide +kernel) (by decide +kernel)
theorem wm_921 : Cond.instanceMethod ⟨"SweeperRoundsModel", "isDigit", "()Z"⟩ ∈ wA := wA_i (i := 921) (by decide +kernel) (by decide +kernel)
theorem wm_922 : Cond.code ⟨"SweeperRoundsModel", "isDigit", "()Z"⟩ prog_12_method_25_code 1 (Option.some FieldType.boolean) ∈ wA := wA_i (i := 922) (by decide +kernel) (by decide +kernel)
theorem wm_923 : Cond.methodLink "SweeperRoundsModel" 81 ⟨"SweeperRoundsModel", "here", "()I"⟩ ∈ wA := wA_i (i := 923) (by decide +kernel) (by decide +kernel)
theorem wm_925 : Cond.instanceMethod ⟨"SweeperRoundsModel", "here", "()I"⟩ ∈ wA := wA_i (i := 925) (by decide +kernel) (by decide +kernel)
theorem wm_926 : Cond.code ⟨"SweeperRoundsModel", "here", "()I"⟩ prog_12_method_24_code 1 (Option.some FieldType.int) ∈ wA := wA_i (i := 926) (by decide +kernel) (by decide +kernel)
theorem wm_927 : Cond.methodLink "SweeperRoundsModel" 91 ⟨"SweeperRoundsModel", "fails", "(II)Z"⟩ ∈ wA := wA_i (i := 927) (by decide +kernel) (by decide +kernel)
theorem wm_929 : Cond.instanceMethod ⟨"SweeperRoundsModel", "fails", "(II)Z"⟩ ∈ wA := wA_i (i := 929) (by decide +kernel) (by decide +kernel)
theorem wm_930 : Cond.code ⟨"SweeperRoundsModel", "fails", "(II)Z"⟩ prog_12_method_26_code 3 (Option.some FieldType.boolean) ∈ wA := wA_i (i := 930) (by decide +kernel) (by decide +kernel)
theorem wm_931 : Cond.methodLink "SweeperRoundsModel" 99 ⟨"SweeperRoundsModel", "takes", "(I)Z"⟩ ∈ wA := wA_i (i := 931) (by decide +kernel) (by decide +kernel)
theorem wm_933 : Cond.instanceMethod ⟨"SweeperRoundsModel", "takes", "(I)Z"⟩ ∈ wA := wA_i (i := 933) (by decide +kernel) (by decide +kernel)
theorem wm_934 : Cond.code ⟨"SweeperRoundsModel", "takes", "(I)Z"⟩ prog_12_method_27_code 2 (Option.some FieldType.boolean) ∈ wA := wA_i (i := 934) (by decide +kernel) (by decide +kernel)
theorem wm_935 : Cond.methodLink "SweeperRoundsModel" 111 ⟨"SweeperRoundsModel", "readsTrees", "()Z"⟩ ∈ wA := wA_i (i := 935) (by decide +kernel) (by decide +kernel)
theorem wm_937 : Cond.instanceMethod ⟨"SweeperRoundsModel", "readsTrees", "()Z"⟩ ∈ wA := wA_i (i := 937) (by decide +kernel) (by decide +kernel)
theorem wm_938 : Cond.code ⟨"SweeperRoundsModel", "readsTrees", "()Z"⟩ prog_12_method_29_code 1 (Option.some FieldType.boolean) ∈ wA := wA_i (i := 938) (by decide +kernel) (by decide +kernel)
theorem wm_939 : Cond.methodLink "SweeperRoundsModel" 114 ⟨"SweeperRoundsModel", "readsSides", "()Z"⟩ ∈ wA := wA_i (i := 939) (by decide +kernel) (by decide +kernel)
theorem wm_941 : Cond.instanceMethod ⟨"SweeperRoundsModel", "readsSides", "()Z"⟩ ∈ wA := wA_i (i := 941) (by decide +kernel) (by decide +kernel)
theorem wm_942 : Cond.code ⟨"SweeperRoundsModel", "readsSides", "()Z"⟩ prog_12_method_32_code 3 (Option.some FieldType.boolean) ∈ wA := wA_i (i := 942) (by decide +kernel) (by decide +kernel)
theorem wm_943 : Cond.methodLink "SweeperRoundsModel" 102 ⟨"SweeperRoundsModel", "isCellHere", "()Z"⟩ ∈ wA := wA_i (i := 943) (by decide +kernel) (by decide +kernel)
theorem wm_945 : Cond.instanceMethod ⟨"SweeperRoundsModel", "isCellHere", "()Z"⟩ ∈ wA := wA_i (i := 945) (by decide +kernel) (by decide +kernel)
theorem wm_946 : Cond.code ⟨"SweeperRoundsModel", "isCellHere", "()Z"⟩ prog_12_method_30_code 1 (Option.some FieldType.boolean) ∈ wA := wA_i (i := 946) (by decide +kernel) (by decide +kernel)
theorem wm_947 : Cond.methodLink "SweeperRoundsModel" 105 ⟨"SweeperRoundsModel", "readsCell", "(II)V"⟩ ∈ wA := wA_i (i := 947) (by decide +kernel) (by decide +kernel)
theorem wm_949 : Cond.instanceMethod ⟨"SweeperRoundsModel", "readsCell", "(II)V"⟩ ∈ wA := wA_i (i := 949) (by decide +kernel) (by decide +kernel)
theorem wm_950 : Cond.code ⟨"SweeperRoundsModel", "readsCell", "(II)V"⟩ prog_12_method_31_code 4 none ∈ wA := wA_i (i := 950) (by decide +kernel) (by decide +kernel)
theorem wm_951 : Cond.methodLink "SweeperRoundsLaw" 30 ⟨"SweeperRoundsModel", "faultKind", "()I"⟩ ∈ wA := wA_i (i := 951) (by decide +kernel) (by decide +kernel)
theorem wm_952 : Cond.instanceMethod ⟨"SweeperRoundsModel", "faultKind", "()I"⟩ ∈ wA := wA_i (i := 952) (by decide +kernel) (by decide +kernel)
theorem wm_953 : Cond.selects "SweeperRoundsModel" ⟨"SweeperRoundsModel", "faultKind", "()I"⟩ ⟨"SweeperRoundsModel", "faultKind", "()I"⟩ ∈ wA := wA_i (i := 953) (by decide +kernel) (by decide +kernel)
theorem wm_954 : Cond.code ⟨"SweeperRoundsModel", "faultKind", "()I"⟩ prog_12_method_34_code 1 (Option.some FieldType.int) ∈ wA := wA_i (i := 954) (by decide +kernel) (by decide +kernel)
theorem wm_955 : Cond.methodLink "SweeperRoundsLaw" 53 ⟨"SweeperRoundsModel", "cell", "(IIII)I"⟩ ∈ wA := wA_i (i := 955) (by decide +kernel) (by decide +kernel)
theorem wm_956 : Cond.instanceMethod ⟨"SweeperRoundsModel", "cell", "(IIII)I"⟩ ∈ wA := wA_i (i := 956) (by decide +kernel) (by decide +kernel)
theorem wm_957 : Cond.selects "SweeperRoundsModel" ⟨"SweeperRoundsModel", "cell", "(IIII)I"⟩ ⟨"SweeperRoundsModel", "cell", "(IIII)I"⟩ ∈ wA := wA_i (i := 957) (by decide +kernel) (by decide +kernel)
theorem wm_958 : Cond.code ⟨"SweeperRoundsModel", "cell", "(IIII)I"⟩ prog_12_method_39_code 5 (Option.some FieldType.int) ∈ wA := wA_i (i := 958) (by decide +kernel) (by decide +kernel)
theorem wm_959 : Cond.methodLink "SweeperRoundsModel" 123 ⟨"SweeperRoundsModel", "could", "(III)I"⟩ ∈ wA := wA_i (i := 959) (by decide +kernel) (by decide +kernel)
theorem wm_961 : Cond.instanceMethod ⟨"SweeperRoundsModel", "could", "(III)I"⟩ ∈ wA := wA_i (i := 961) (by decide +kernel) (by decide +kernel)
theorem wm_962 : Cond.code ⟨"SweeperRoundsModel", "could", "(III)I"⟩ prog_12_method_37_code 4 (Option.some FieldType.int) ∈ wA := wA_i (i := 962) (by decide +kernel) (by decide +kernel)
theorem wm_963 : Cond.methodLink "SweeperRoundsModel" 117 ⟨"SweeperRoundsModel", "isParked", "(III)Z"⟩ ∈ wA := wA_i (i := 963) (by decide +kernel) (by decide +kernel)
theorem wm_965 : Cond.instanceMethod ⟨"SweeperRoundsModel", "isParked", "(III)Z"⟩ ∈ wA := wA_i (i := 965) (by decide +kernel) (by decide +kernel)
theorem wm_966 : Cond.code ⟨"SweeperRoundsModel", "isParked", "(III)Z"⟩ prog_12_method_11_code 4 (Option.some FieldType.boolean) ∈ wA := wA_i (i := 966) (by decide +kernel) (by decide +kernel)
theorem wm_967 : Cond.methodLink "SweeperRoundsModel" 120 ⟨"SweeperRoundsModel", "grip", "()I"⟩ ∈ wA := wA_i (i := 967) (by decide +kernel) (by decide +kernel)
theorem wm_969 : Cond.instanceMethod ⟨"SweeperRoundsModel", "grip", "()I"⟩ ∈ wA := wA_i (i := 969) (by decide +kernel) (by decide +kernel)
theorem wm_970 : Cond.code ⟨"SweeperRoundsModel", "grip", "()I"⟩ prog_12_method_35_code 1 (Option.some FieldType.int) ∈ wA := wA_i (i := 970) (by decide +kernel) (by decide +kernel)
theorem wm_971 : Cond.methodLink "SweeperRoundsModel" 126 ⟨"SweeperRoundsModel", "room", "()I"⟩ ∈ wA := wA_i (i := 971) (by decide +kernel) (by decide +kernel)
theorem wm_973 : Cond.instanceMethod ⟨"SweeperRoundsModel", "room", "()I"⟩ ∈ wA := wA_i (i := 973) (by decide +kernel) (by decide +kernel)
theorem wm_974 : Cond.code ⟨"SweeperRoundsModel", "room", "()I"⟩ prog_12_method_36_code 1 (Option.some FieldType.int) ∈ wA := wA_i (i := 974) (by decide +kernel) (by decide +kernel)
theorem wm_975 : Cond.methodLink "SweeperRoundsModel" 129 ⟨"SweeperRoundsModel", "lesser", "(II)I"⟩ ∈ wA := wA_i (i := 975) (by decide +kernel) (by decide +kernel)
theorem wm_976 : Cond.static ⟨"SweeperRoundsModel", "lesser", "(II)I"⟩ ∈ wA := wA_i (i := 976) (by decide +kernel) (by decide +kernel)
theorem wm_977 : Cond.code ⟨"SweeperRoundsModel", "lesser", "(II)I"⟩ prog_12_method_38_code 2 (Option.some FieldType.int) ∈ wA := wA_i (i := 977) (by decide +kernel) (by decide +kernel)
theorem wm_978 : Cond.methodLink "SweeperRoundsLaw" 58 ⟨"SweeperRoundsModel", "street", "(II)I"⟩ ∈ wA := wA_i (i := 978) (by decide +kernel) (by decide +kernel)
theorem wm_979 : Cond.instanceMethod ⟨"SweeperRoundsModel", "street", "(II)I"⟩ ∈ wA := wA_i (i := 979) (by decide +kernel) (by decide +kernel)
theorem wm_980 : Cond.selects "SweeperRoundsModel" ⟨"SweeperRoundsModel", "street", "(II)I"⟩ ⟨"SweeperRoundsModel", "street", "(II)I"⟩ ∈ wA := wA_i (i := 980) (by decide +kernel) (by decide +kernel)
theorem wm_981 : Cond.code ⟨"SweeperRoundsModel", "street", "(II)I"⟩ prog_12_method_43_code 3 (Option.some FieldType.int) ∈ wA := wA_i (i := 981) (by decide +kernel) (by decide +kernel)
theorem wm_982 : Cond.methodLink "SweeperRoundsModel" 132 ⟨"SweeperRoundsModel", "parkedIn", "(I)I"⟩ ∈ wA := wA_i (i := 982) (by decide +kernel) (by decide +kernel)
theorem wm_984 : Cond.instanceMethod ⟨"SweeperRoundsModel", "parkedIn", "(I)I"⟩ ∈ wA := wA_i (i := 984) (by decide +kernel) (by decide +kernel)
theorem wm_985 : Cond.code ⟨"SweeperRoundsModel", "parkedIn", "(I)I"⟩ prog_12_method_40_code 4 (Option.some FieldType.int) ∈ wA := wA_i (i := 985) (by decide +kernel) (by decide +kernel)
theorem wm_986 : Cond.methodLink "SweeperRoundsModel" 136 ⟨"SweeperRoundsModel", "greatest", "(I)I"⟩ ∈ wA := wA_i (i := 986) (by decide +kernel) (by decide +kernel)
theorem wm_988 : Cond.instanceMethod ⟨"SweeperRoundsModel", "greatest", "(I)I"⟩ ∈ wA := wA_i (i := 988) (by decide +kernel) (by decide +kernel)
theorem wm_989 : Cond.code ⟨"SweeperRoundsModel", "greatest", "(I)I"⟩ prog_12_method_41_code 5 (Option.some FieldType.int) ∈ wA := wA_i (i := 989) (by decide +kernel) (by decide +kernel)
theorem wm_990 : Cond.methodLink "SweeperRoundsModel" 139 ⟨"SweeperRoundsModel", "legsIn", "(I)I"⟩ ∈ wA := wA_i (i := 990) (by decide +kernel) (by decide +kernel)
theorem wm_992 : Cond.instanceMethod ⟨"SweeperRoundsModel", "legsIn", "(I)I"⟩ ∈ wA := wA_i (i := 992) (by decide +kernel) (by decide +kernel)
theorem wm_993 : Cond.code ⟨"SweeperRoundsModel", "legsIn", "(I)I"⟩ prog_12_method_42_code 4 (Option.some FieldType.int) ∈ wA := wA_i (i := 993) (by decide +kernel) (by decide +kernel)
theorem wm_994 : Cond.methodLink "SweeperRoundsLaw" 62 ⟨"SweeperRoundsModel", "set", "(II)I"⟩ ∈ wA := wA_i (i := 994) (by decide +kernel) (by decide +kernel)
theorem wm_995 : Cond.instanceMethod ⟨"SweeperRoundsModel", "set", "(II)I"⟩ ∈ wA := wA_i (i := 995) (by decide +kernel) (by decide +kernel)
theorem wm_996 : Cond.selects "SweeperRoundsModel" ⟨"SweeperRoundsModel", "set", "(II)I"⟩ ⟨"SweeperRoundsModel", "set", "(II)I"⟩ ∈ wA := wA_i (i := 996) (by decide +kernel) (by decide +kernel)
theorem wm_997 : Cond.code ⟨"SweeperRoundsModel", "set", "(II)I"⟩ prog_12_method_45_code 4 (Option.some FieldType.int) ∈ wA := wA_i (i := 997) (by decide +kernel) (by decide +kernel)
theorem wm_998 : Cond.methodLink "SweeperRoundsModel" 142 ⟨"SweeperRoundsModel", "isNumber", "(II)Z"⟩ ∈ wA := wA_i (i := 998) (by decide +kernel) (by decide +kernel)
theorem wm_1000 : Cond.instanceMethod ⟨"SweeperRoundsModel", "isNumber", "(II)Z"⟩ ∈ wA := wA_i (i := 1000) (by decide +kernel) (by decide +kernel)
theorem wm_1001 : Cond.code ⟨"SweeperRoundsModel", "isNumber", "(II)Z"⟩ prog_12_method_44_code 3 (Option.some FieldType.boolean) ∈ wA := wA_i (i := 1001) (by decide +kernel) (by decide +kernel)
theorem wm_1002 : Cond.methodLink "SweeperRoundsLaw" 66 ⟨"SweeperRoundsModel", "addLeg", "(II)I"⟩ ∈ wA := wA_i (i := 1002) (by decide +kernel) (by decide +kernel)
theorem wm_1003 : Cond.instanceMethod ⟨"SweeperRoundsModel", "addLeg", "(II)I"⟩ ∈ wA := wA_i (i := 1003) (by decide +kernel) (by decide +kernel)
theorem wm_1004 : Cond.selects "SweeperRoundsModel" ⟨"SweeperRoundsModel", "addLeg", "(II)I"⟩ ⟨"SweeperRoundsModel", "addLeg", "(II)I"⟩ ∈ wA := wA_i (i := 1004) (by decide +kernel) (by decide +kernel)
theorem wm_1005 : Cond.code ⟨"SweeperRoundsModel", "addLeg", "(II)I"⟩ prog_12_method_46_code 3 (Option.some FieldType.int) ∈ wA := wA_i (i := 1005) (by decide +kernel) (by decide +kernel)
theorem wm_1006 : Cond.methodLink "SweeperRoundsLaw" 70 ⟨"SweeperRoundsModel", "dropLeg", "(I)I"⟩ ∈ wA := wA_i (i := 1006) (by decide +kernel) (by decide +kernel)
theorem wm_1007 : Cond.instanceMethod ⟨"SweeperRoundsModel", "dropLeg", "(I)I"⟩ ∈ wA := wA_i (i := 1007) (by decide +kernel) (by decide +kernel)
theorem wm_1008 : Cond.selects "SweeperRoundsModel" ⟨"SweeperRoundsModel", "dropLeg", "(I)I"⟩ ⟨"SweeperRoundsModel", "dropLeg", "(I)I"⟩ ∈ wA := wA_i (i := 1008) (by decide +kernel) (by decide +kernel)
theorem wm_1009 : Cond.code ⟨"SweeperRoundsModel", "dropLeg", "(I)I"⟩ prog_12_method_48_code 3 (Option.some FieldType.int) ∈ wA := wA_i (i := 1009) (by decide +kernel) (by decide +kernel)
theorem wm_1010 : Cond.methodLink "SweeperRoundsModel" 145 ⟨"SweeperRoundsModel", "isLeg", "(I)Z"⟩ ∈ wA := wA_i (i := 1010) (by decide +kernel) (by decide +kernel)
theorem wm_1012 : Cond.instanceMethod ⟨"SweeperRoundsModel", "isLeg", "(I)Z"⟩ ∈ wA := wA_i (i := 1012) (by decide +kernel) (by decide +kernel)
theorem wm_1013 : Cond.code ⟨"SweeperRoundsModel", "isLeg", "(I)Z"⟩ prog_12_method_47_code 2 (Option.some FieldType.boolean) ∈ wA := wA_i (i := 1013) (by decide +kernel) (by decide +kernel)
theorem wm_1014 : Cond.methodLink "SweeperRoundsLaw" 74 ⟨"SweeperRoundsModel", "leg", "(II)I"⟩ ∈ wA := wA_i (i := 1014) (by decide +kernel) (by decide +kernel)
theorem wm_1015 : Cond.instanceMethod ⟨"SweeperRoundsModel", "leg", "(II)I"⟩ ∈ wA := wA_i (i := 1015) (by decide +kernel) (by decide +kernel)
theorem wm_1016 : Cond.selects "SweeperRoundsModel" ⟨"SweeperRoundsModel", "leg", "(II)I"⟩ ⟨"SweeperRoundsModel", "leg", "(II)I"⟩ ∈ wA := wA_i (i := 1016) (by decide +kernel) (by decide +kernel)
theorem wm_1017 : Cond.code ⟨"SweeperRoundsModel", "leg", "(II)I"⟩ prog_12_method_49_code 3 (Option.some FieldType.int) ∈ wA := wA_i (i := 1017) (by decide +kernel) (by decide +kernel)
theorem wm_1018 : Cond.methodLink "SweeperRoundsLaw" 78 ⟨"SweeperRoundsModel", "shift", "()I"⟩ ∈ wA := wA_i (i := 1018) (by decide +kernel) (by decide +kernel)
theorem wm_1019 : Cond.instanceMethod ⟨"SweeperRoundsModel", "shift", "()I"⟩ ∈ wA := wA_i (i := 1019) (by decide +kernel) (by decide +kernel)
theorem wm_1020 : Cond.selects "SweeperRoundsModel" ⟨"SweeperRoundsModel", "shift", "()I"⟩ ⟨"SweeperRoundsModel", "shift", "()I"⟩ ∈ wA := wA_i (i := 1020) (by decide +kernel) (by decide +kernel)
theorem wm_1021 : Cond.code ⟨"SweeperRoundsModel", "shift", "()I"⟩ prog_12_method_59_code 1 (Option.some FieldType.int) ∈ wA := wA_i (i := 1021) (by decide +kernel) (by decide +kernel)
theorem wm_1022 : Cond.methodLink "SweeperRoundsModel" 176 ⟨"SweeperRoundsModel", "laysOrder", "()V"⟩ ∈ wA := wA_i (i := 1022) (by decide +kernel) (by decide +kernel)
theorem wm_1024 : Cond.instanceMethod ⟨"SweeperRoundsModel", "laysOrder", "()V"⟩ ∈ wA := wA_i (i := 1024) (by decide +kernel) (by decide +kernel)
theorem wm_1025 : Cond.code ⟨"SweeperRoundsModel", "laysOrder", "()V"⟩ prog_12_method_58_code 2 none ∈ wA := wA_i (i := 1025) (by decide +kernel) (by decide +kernel)
theorem wm_1026 : Cond.methodLink "SweeperRoundsModel" 179 ⟨"SweeperRoundsModel", "goesThrough", "()V"⟩ ∈ wA := wA_i (i := 1026) (by decide +kernel) (by decide +kernel)
theorem wm_1028 : Cond.instanceMethod ⟨"SweeperRoundsModel", "goesThrough", "()V"⟩ ∈ wA := wA_i (i := 1028) (by decide +kernel) (by decide +kernel)
theorem wm_1029 : Cond.code ⟨"SweeperRoundsModel", "goesThrough", "()V"⟩ prog_12_method_57_code 4 none ∈ wA := wA_i (i := 1029) (by decide +kernel) (by decide +kernel)
theorem wm_1030 : Cond.methodLink "SweeperRoundsModel" 170 ⟨"SweeperRoundsModel", "drive", "(I)I"⟩ ∈ wA := wA_i (i := 1030) (by decide +kernel) (by decide +kernel)
theorem wm_1032 : Cond.instanceMethod ⟨"SweeperRoundsModel", "drive", "(I)I"⟩ ∈ wA := wA_i (i := 1032) (by decide +kernel) (by decide +kernel)
theorem wm_1033 : Cond.code ⟨"SweeperRoundsModel", "drive", "(I)I"⟩ prog_12_method_55_code 3 (Option.some FieldType.int) ∈ wA := wA_i (i := 1033) (by decide +kernel) (by decide +kernel)
theorem wm_1034 : Cond.methodLink "SweeperRoundsModel" 151 ⟨"SweeperRoundsModel", "home", "(I)I"⟩ ∈ wA := wA_i (i := 1034) (by decide +kernel) (by decide +kernel)
theorem wm_1036 : Cond.instanceMethod ⟨"SweeperRoundsModel", "home", "(I)I"⟩ ∈ wA := wA_i (i := 1036) (by decide +kernel) (by decide +kernel)
theorem wm_1037 : Cond.code ⟨"SweeperRoundsModel", "home", "(I)I"⟩ prog_12_method_52_code 2 (Option.some FieldType.int) ∈ wA := wA_i (i := 1037) (by decide +kernel) (by decide +kernel)
theorem wm_1038 : Cond.methodLink "SweeperRoundsModel" 164 ⟨"SweeperRoundsModel", "fits", "(III)Z"⟩ ∈ wA := wA_i (i := 1038) (by decide +kernel) (by decide +kernel)
theorem wm_1040 : Cond.instanceMethod ⟨"SweeperRoundsModel", "fits", "(III)Z"⟩ ∈ wA := wA_i (i := 1040) (by decide +kernel) (by decide +kernel)
theorem wm_1041 : Cond.code ⟨"SweeperRoundsModel", "fits", "(III)Z"⟩ prog_12_method_53_code 4 (Option.some FieldType.boolean) ∈ wA := wA_i (i := 1041) (by decide +kernel) (by decide +kernel)
theorem wm_1042 : Cond.methodLink "SweeperRoundsModel" 148 ⟨"SweeperRoundsModel", "latestOf", "(I)I"⟩ ∈ wA := wA_i (i := 1042) (by decide +kernel) (by decide +kernel)
theorem wm_1044 : Cond.instanceMethod ⟨"SweeperRoundsModel", "latestOf", "(I)I"⟩ ∈ wA := wA_i (i := 1044) (by decide +kernel) (by decide +kernel)
theorem wm_1045 : Cond.code ⟨"SweeperRoundsModel", "latestOf", "(I)I"⟩ prog_12_method_50_code 2 (Option.some FieldType.int) ∈ wA := wA_i (i := 1045) (by decide +kernel) (by decide +kernel)
theorem wm_1046 : Cond.methodLink "SweeperRoundsModel" 158 ⟨"SweeperRoundsModel", "adds", "(II)V"⟩ ∈ wA := wA_i (i := 1046) (by decide +kernel) (by decide +kernel)
theorem wm_1048 : Cond.instanceMethod ⟨"SweeperRoundsModel", "adds", "(II)V"⟩ ∈ wA := wA_i (i := 1048) (by decide +kernel) (by decide +kernel)
theorem wm_1049 : Cond.code ⟨"SweeperRoundsModel", "adds", "(II)V"⟩ prog_12_method_51_code 3 none ∈ wA := wA_i (i := 1049) (by decide +kernel) (by decide +kernel)
theorem wm_1050 : Cond.methodLink "SweeperRoundsModel" 173 ⟨"SweeperRoundsModel", "sweeps", "(II)V"⟩ ∈ wA := wA_i (i := 1050) (by decide +kernel) (by decide +kernel)
theorem wm_1052 : Cond.instanceMethod ⟨"SweeperRoundsModel", "sweeps", "(II)V"⟩ ∈ wA := wA_i (i := 1052) (by decide +kernel) (by decide +kernel)
theorem wm_1053 : Cond.code ⟨"SweeperRoundsModel", "sweeps", "(II)V"⟩ prog_12_method_56_code 10 none ∈ wA := wA_i (i := 1053) (by decide +kernel) (by decide +kernel)
theorem wm_1054 : Cond.methodLink "SweeperRoundsModel" 167 ⟨"SweeperRoundsModel", "dumps", "()V"⟩ ∈ wA := wA_i (i := 1054) (by decide +kernel) (by decide +kernel)
theorem wm_1056 : Cond.instanceMethod ⟨"SweeperRoundsModel", "dumps", "()V"⟩ ∈ wA := wA_i (i := 1056) (by decide +kernel) (by decide +kernel)
theorem wm_1057 : Cond.code ⟨"SweeperRoundsModel", "dumps", "()V"⟩ prog_12_method_54_code 1 none ∈ wA := wA_i (i := 1057) (by decide +kernel) (by decide +kernel)
theorem wm_1058 : Cond.methodLink "SweeperRoundsLaw" 90 ⟨"SweeperRoundsModel", "latest", "(I)I"⟩ ∈ wA := wA_i (i := 1058) (by decide +kernel) (by decide +kernel)
theorem wm_1059 : Cond.instanceMethod ⟨"SweeperRoundsModel", "latest", "(I)I"⟩ ∈ wA := wA_i (i := 1059) (by decide +kernel) (by decide +kernel)
theorem wm_1060 : Cond.selects "SweeperRoundsModel" ⟨"SweeperRoundsModel", "latest", "(I)I"⟩ ⟨"SweeperRoundsModel", "latest", "(I)I"⟩ ∈ wA := wA_i (i := 1060) (by decide +kernel) (by decide +kernel)
theorem wm_1061 : Cond.code ⟨"SweeperRoundsModel", "latest", "(I)I"⟩ prog_12_method_60_code 2 (Option.some FieldType.int) ∈ wA := wA_i (i := 1061) (by decide +kernel) (by decide +kernel)
theorem wm_1062 : Cond.methodLink "SweeperRoundsLaw" 82 ⟨"SweeperRoundsModel", "night", "(I)I"⟩ ∈ wA := wA_i (i := 1062) (by decide +kernel) (by decide +kernel)
theorem wm_1063 : Cond.instanceMethod ⟨"SweeperRoundsModel", "night", "(I)I"⟩ ∈ wA := wA_i (i := 1063) (by decide +kernel) (by decide +kernel)
theorem wm_1064 : Cond.selects "SweeperRoundsModel" ⟨"SweeperRoundsModel", "night", "(I)I"⟩ ⟨"SweeperRoundsModel", "night", "(I)I"⟩ ∈ wA := wA_i (i := 1064) (by decide +kernel) (by decide +kernel)
theorem wm_1065 : Cond.code ⟨"SweeperRoundsModel", "night", "(I)I"⟩ prog_12_method_63_code 4 (Option.some FieldType.int) ∈ wA := wA_i (i := 1065) (by decide +kernel) (by decide +kernel)
theorem wm_1066 : Cond.methodLink "SweeperRoundsModel" 182 ⟨"SweeperRoundsModel", "falls", "(I)V"⟩ ∈ wA := wA_i (i := 1066) (by decide +kernel) (by decide +kernel)
theorem wm_1068 : Cond.instanceMethod ⟨"SweeperRoundsModel", "falls", "(I)V"⟩ ∈ wA := wA_i (i := 1068) (by decide +kernel) (by decide +kernel)
theorem wm_1069 : Cond.code ⟨"SweeperRoundsModel", "falls", "(I)V"⟩ prog_12_method_62_code 5 none ∈ wA := wA_i (i := 1069) (by decide +kernel) (by decide +kernel)
theorem wm_1070 : Cond.methodLink "SweeperRoundsModel" 186 ⟨"SweeperRoundsModel", "onStreets", "()I"⟩ ∈ wA := wA_i (i := 1070) (by decide +kernel) (by decide +kernel)
theorem wm_1072 : Cond.instanceMethod ⟨"SweeperRoundsModel", "onStreets", "()I"⟩ ∈ wA := wA_i (i := 1072) (by decide +kernel) (by decide +kernel)
theorem wm_1073 : Cond.code ⟨"SweeperRoundsModel", "onStreets", "()I"⟩ prog_12_method_61_code 3 (Option.some FieldType.int) ∈ wA := wA_i (i := 1073) (by decide +kernel) (by decide +kernel)
theorem wm_1074 : Cond.methodLink "SweeperRoundsLaw" 86 ⟨"SweeperRoundsModel", "rain", "(I)I"⟩ ∈ wA := wA_i (i := 1074) (by decide +kernel) (by decide +kernel)
theorem wm_1075 : Cond.instanceMethod ⟨"SweeperRoundsModel", "rain", "(I)I"⟩ ∈ wA := wA_i (i := 1075) (by decide +kernel) (by decide +kernel)
theorem wm_1076 : Cond.selects "SweeperRoundsModel" ⟨"SweeperRoundsModel", "rain", "(I)I"⟩ ⟨"SweeperRoundsModel", "rain", "(I)I"⟩ ∈ wA := wA_i (i := 1076) (by decide +kernel) (by decide +kernel)
theorem wm_1077 : Cond.code ⟨"SweeperRoundsModel", "rain", "(I)I"⟩ prog_12_method_65_code 4 (Option.some FieldType.int) ∈ wA := wA_i (i := 1077) (by decide +kernel) (by decide +kernel)
theorem wm_1078 : Cond.methodLink "SweeperRoundsModel" 189 ⟨"SweeperRoundsModel", "runs", "(III)V"⟩ ∈ wA := wA_i (i := 1078) (by decide +kernel) (by decide +kernel)
theorem wm_1080 : Cond.instanceMethod ⟨"SweeperRoundsModel", "runs", "(III)V"⟩ ∈ wA := wA_i (i := 1080) (by decide +kernel) (by decide +kernel)
theorem wm_1081 : Cond.code ⟨"SweeperRoundsModel", "runs", "(III)V"⟩ prog_12_method_64_code 8 none ∈ wA := wA_i (i := 1081) (by decide +kernel) (by decide +kernel)
theorem wm_1082 : Cond.methodLink "SweeperRoundsLaw" 94 ⟨"SweeperRoundsModel", "ifSpeed", "(I)I"⟩ ∈ wA := wA_i (i := 1082) (by decide +kernel) (by decide +kernel)
theorem wm_1083 : Cond.instanceMethod ⟨"SweeperRoundsModel", "ifSpeed", "(I)I"⟩ ∈ wA := wA_i (i := 1083) (by decide +kernel) (by decide +kernel)
theorem wm_1084 : Cond.selects "SweeperRoundsModel" ⟨"SweeperRoundsModel", "ifSpeed", "(I)I"⟩ ⟨"SweeperRoundsModel", "ifSpeed", "(I)I"⟩ ∈ wA := wA_i (i := 1084) (by decide +kernel) (by decide +kernel)
theorem wm_1085 : Cond.code ⟨"SweeperRoundsModel", "ifSpeed", "(I)I"⟩ prog_12_method_67_code 2 (Option.some FieldType.int) ∈ wA := wA_i (i := 1085) (by decide +kernel) (by decide +kernel)
theorem wm_1086 : Cond.methodLink "SweeperRoundsModel" 195 ⟨"SweeperRoundsModel", "loadWith", "(I)I"⟩ ∈ wA := wA_i (i := 1086) (by decide +kernel) (by decide +kernel)
theorem wm_1088 : Cond.instanceMethod ⟨"SweeperRoundsModel", "loadWith", "(I)I"⟩ ∈ wA := wA_i (i := 1088) (by decide +kernel) (by decide +kernel)
theorem wm_1089 : Cond.code ⟨"SweeperRoundsModel", "loadWith", "(I)I"⟩ prog_12_method_66_code 3 (Option.some FieldType.int) ∈ wA := wA_i (i := 1089) (by decide +kernel) (by decide +kernel)
theorem wm_1090 : Cond.methodLink "SweeperRoundsLaw" 98 ⟨"SweeperRoundsModel", "bestSpeed", "()I"⟩ ∈ wA := wA_i (i := 1090) (by decide +kernel) (by decide +kernel)
theorem wm_1091 : Cond.instanceMethod ⟨"SweeperRoundsModel", "bestSpeed", "()I"⟩ ∈ wA := wA_i (i := 1091) (by decide +kernel) (by decide +kernel)
theorem wm_1092 : Cond.selects "SweeperRoundsModel" ⟨"SweeperRoundsModel", "bestSpeed", "()I"⟩ ⟨"SweeperRoundsModel", "bestSpeed", "()I"⟩ ∈ wA := wA_i (i := 1092) (by decide +kernel) (by decide +kernel)
theorem wm_1093 : Cond.code ⟨"SweeperRoundsModel", "bestSpeed", "()I"⟩ prog_12_method_68_code 6 (Option.some FieldType.int) ∈ wA := wA_i (i := 1093) (by decide +kernel) (by decide +kernel)
theorem wm_1094 : Cond.methodLink "SweeperRoundsLaw" 103 ⟨"SweeperRoundsModel", "bestOrder", "(IZ)I"⟩ ∈ wA := wA_i (i := 1094) (by decide +kernel) (by decide +kernel)
theorem wm_1095 : Cond.instanceMethod ⟨"SweeperRoundsModel", "bestOrder", "(IZ)I"⟩ ∈ wA := wA_i (i := 1095) (by decide +kernel) (by decide +kernel)
theorem wm_1096 : Cond.selects "SweeperRoundsModel" ⟨"SweeperRoundsModel", "bestOrder", "(IZ)I"⟩ ⟨"SweeperRoundsModel", "bestOrder", "(IZ)I"⟩ ∈ wA := wA_i (i := 1096) (by decide +kernel) (by decide +kernel)
theorem wm_1097 : Cond.code ⟨"SweeperRoundsModel", "bestOrder", "(IZ)I"⟩ prog_12_method_71_code 7 (Option.some FieldType.int) ∈ wA := wA_i (i := 1097) (by decide +kernel) (by decide +kernel)
theorem wm_1098 : Cond.methodLink "SweeperRoundsModel" 201 ⟨"SweeperRoundsModel", "ordersNext", "()Z"⟩ ∈ wA := wA_i (i := 1098) (by decide +kernel) (by decide +kernel)
theorem wm_1100 : Cond.instanceMethod ⟨"SweeperRoundsModel", "ordersNext", "()Z"⟩ ∈ wA := wA_i (i := 1100) (by decide +kernel) (by decide +kernel)
theorem wm_1101 : Cond.code ⟨"SweeperRoundsModel", "ordersNext", "()Z"⟩ prog_12_method_70_code 6 (Option.some FieldType.boolean) ∈ wA := wA_i (i := 1101) (by decide +kernel) (by decide +kernel)
theorem wm_1102 : Cond.methodLink "SweeperRoundsModel" 198 ⟨"SweeperRoundsModel", "swaps", "(II)V"⟩ ∈ wA := wA_i (i := 1102) (by decide +kernel) (by decide +kernel)
theorem wm_1104 : Cond.instanceMethod ⟨"SweeperRoundsModel", "swaps", "(II)V"⟩ ∈ wA := wA_i (i := 1104) (by decide +kernel) (by decide +kernel)
theorem wm_1105 : Cond.code ⟨"SweeperRoundsModel", "swaps", "(II)V"⟩ prog_12_method_69_code 4 none ∈ wA := wA_i (i := 1105) (by decide +kernel) (by decide +kernel)
theorem wm_1106 : Cond.methodLink "SweeperRoundsLaw" 107 ⟨"SweeperRoundsModel", "nightsTo", "(I)I"⟩ ∈ wA := wA_i (i := 1106) (by decide +kernel) (by decide +kernel)
theorem wm_1107 : Cond.instanceMethod ⟨"SweeperRoundsModel", "nightsTo", "(I)I"⟩ ∈ wA := wA_i (i := 1107) (by decide +kernel) (by decide +kernel)
theorem wm_1108 : Cond.selects "SweeperRoundsModel" ⟨"SweeperRoundsModel", "nightsTo", "(I)I"⟩ ⟨"SweeperRoundsModel", "nightsTo", "(I)I"⟩ ∈ wA := wA_i (i := 1108) (by decide +kernel) (by decide +kernel)
theorem wm_1109 : Cond.code ⟨"SweeperRoundsModel", "nightsTo", "(I)I"⟩ prog_12_method_72_code 7 (Option.some FieldType.int) ∈ wA := wA_i (i := 1109) (by decide +kernel) (by decide +kernel)
theorem wm_1110 : Cond.methodLink "SweeperRoundsLaw" 111 ⟨"SweeperRoundsModel", "account", "(I)I"⟩ ∈ wA := wA_i (i := 1110) (by decide +kernel) (by decide +kernel)
theorem wm_1111 : Cond.instanceMethod ⟨"SweeperRoundsModel", "account", "(I)I"⟩ ∈ wA := wA_i (i := 1111) (by decide +kernel) (by decide +kernel)
theorem wm_1112 : Cond.selects "SweeperRoundsModel" ⟨"SweeperRoundsModel", "account", "(I)I"⟩ ⟨"SweeperRoundsModel", "account", "(I)I"⟩ ∈ wA := wA_i (i := 1112) (by decide +kernel) (by decide +kernel)
theorem wm_1113 : Cond.code ⟨"SweeperRoundsModel", "account", "(I)I"⟩ prog_12_method_73_code 2 (Option.some FieldType.int) ∈ wA := wA_i (i := 1113) (by decide +kernel) (by decide +kernel)
theorem wm_1114 : Cond.methodLink "SweeperRoundsLaw" 119 ⟨"SweeperRoundsModel", "count", "(I)I"⟩ ∈ wA := wA_i (i := 1114) (by decide +kernel) (by decide +kernel)
theorem wm_1115 : Cond.instanceMethod ⟨"SweeperRoundsModel", "count", "(I)I"⟩ ∈ wA := wA_i (i := 1115) (by decide +kernel) (by decide +kernel)
theorem wm_1116 : Cond.selects "SweeperRoundsModel" ⟨"SweeperRoundsModel", "count", "(I)I"⟩ ⟨"SweeperRoundsModel", "count", "(I)I"⟩ ∈ wA := wA_i (i := 1116) (by decide +kernel) (by decide +kernel)
theorem wm_1117 : Cond.code ⟨"SweeperRoundsModel", "count", "(I)I"⟩ prog_12_method_74_code 2 (Option.some FieldType.int) ∈ wA := wA_i (i := 1117) (by decide +kernel) (by decide +kernel)
theorem wm_1118 : Cond.methodLink "SweeperRoundsLaw" 124 ⟨"SweeperRoundsModel", "digest", "()J"⟩ ∈ wA := wA_i (i := 1118) (by decide +kernel) (by decide +kernel)
theorem wm_1119 : Cond.instanceMethod ⟨"SweeperRoundsModel", "digest", "()J"⟩ ∈ wA := wA_i (i := 1119) (by decide +kernel) (by decide +kernel)
theorem wm_1120 : Cond.selects "SweeperRoundsModel" ⟨"SweeperRoundsModel", "digest", "()J"⟩ ⟨"SweeperRoundsModel", "digest", "()J"⟩ ∈ wA := wA_i (i := 1120) (by decide +kernel) (by decide +kernel)
theorem wm_1121 : Cond.code ⟨"SweeperRoundsModel", "digest", "()J"⟩ prog_12_method_77_code 3 (Option.some FieldType.long) ∈ wA := wA_i (i := 1121) (by decide +kernel) (by decide +kernel)
theorem wm_1122 : Cond.constantLong "SweeperRoundsModel" 220 18926 ∈ wA := wA_i (i := 1122) (by decide +kernel) (by decide +kernel)
theorem wm_1123 : Cond.methodLink "SweeperRoundsModel" 222 ⟨"SweeperRoundsModel", "count", "(I)I"⟩ ∈ wA := wA_i (i := 1123) (by decide +kernel) (by decide +kernel)
theorem wm_1124 : Cond.methodLink "SweeperRoundsModel" 213 ⟨"SweeperRoundsModel", "mixes", "(I)V"⟩ ∈ wA := wA_i (i := 1124) (by decide +kernel) (by decide +kernel)
theorem wm_1126 : Cond.instanceMethod ⟨"SweeperRoundsModel", "mixes", "(I)V"⟩ ∈ wA := wA_i (i := 1126) (by decide +kernel) (by decide +kernel)
theorem wm_1127 : Cond.code ⟨"SweeperRoundsModel", "mixes", "(I)V"⟩ prog_12_method_75_code 2 none ∈ wA := wA_i (i := 1127) (by decide +kernel) (by decide +kernel)
theorem wm_1128 : Cond.constantLong "SweeperRoundsModel" 204 31 ∈ wA := wA_i (i := 1128) (by decide +kernel) (by decide +kernel)
theorem wm_1129 : Cond.methodLink "SweeperRoundsModel" 225 ⟨"SweeperRoundsModel", "mixesStreet", "(I)V"⟩ ∈ wA := wA_i (i := 1129) (by decide +kernel) (by decide +kernel)
theorem wm_1131 : Cond.instanceMethod ⟨"SweeperRoundsModel", "mixesStreet", "(I)V"⟩ ∈ wA := wA_i (i := 1131) (by decide +kernel) (by decide +kernel)
theorem wm_1132 : Cond.code ⟨"SweeperRoundsModel", "mixesStreet", "(I)V"⟩ prog_12_method_76_code 5 none ∈ wA := wA_i (i := 1132) (by decide +kernel) (by decide +kernel)
theorem wm_1133 : Cond.methodLink "SweeperRoundsModel" 210 ⟨"SweeperRoundsModel", "street", "(II)I"⟩ ∈ wA := wA_i (i := 1133) (by decide +kernel) (by decide +kernel)
theorem wm_1134 : Cond.methodLink "SweeperRoundsModel" 216 ⟨"SweeperRoundsModel", "cell", "(IIII)I"⟩ ∈ wA := wA_i (i := 1134) (by decide +kernel) (by decide +kernel)
theorem wm_1135 : Cond.methodLink "SweeperRoundsModel" 228 ⟨"SweeperRoundsModel", "leg", "(II)I"⟩ ∈ wA := wA_i (i := 1135) (by decide +kernel) (by decide +kernel)
theorem wm_1136 : Cond.methodLink "SweeperRoundsModel" 231 ⟨"SweeperRoundsModel", "latest", "(I)I"⟩ ∈ wA := wA_i (i := 1136) (by decide +kernel) (by decide +kernel)
theorem wm_1137 : Cond.methodLink "SweeperRoundsModel" 234 ⟨"SweeperRoundsModel", "account", "(I)I"⟩ ∈ wA := wA_i (i := 1137) (by decide +kernel) (by decide +kernel)
theorem wm_1138 : Cond.methodLink "SweeperRoundsModel" 237 ⟨"SweeperRoundsModel", "ifSpeed", "(I)I"⟩ ∈ wA := wA_i (i := 1138) (by decide +kernel) (by decide +kernel)
theorem wm_1139 : Cond.methodLink "SweeperRoundsModel" 240 ⟨"SweeperRoundsModel", "bestSpeed", "()I"⟩ ∈ wA := wA_i (i := 1139) (by decide +kernel) (by decide +kernel)
end
section
def FT0 : u_T := fun k => match k with
  | 0 => ("SweeperRounds$History", "worlds", "[LSweeperRounds$World;", true)
  | 1 => ("SweeperRounds$History", "next", "I", false)
  | _ => ("SweeperRounds$History", "size", "I", false)
def Ft0 : Nat → FieldType := fun k => match k with
  | 0 => .array (.object "SweeperRounds$World")
  | 1 => .int
  | _ => .int
theorem Fn0 : ∀ a, a < 3 → ∀ b, b < 3 → a ≠ b → (FT0 a).2.1 ≠ (FT0 b).2.1 := by decide +kernel
theorem Fy0 : ∀ k, k < 3 → parseFieldDescriptor (FT0 k).2.2.1 = some (Ft0 k) := by decide +kernel
theorem Fi0 : ∀ w ∈ u_ws "SweeperRounds$History" FT0 3, w ∈ wA := wA_all (by decide +kernel)
def FT1 : u_T := fun k => match k with
  | 0 => ("SweeperRounds$Leg", "street", "I", false)
  | 1 => ("SweeperRounds$Leg", "side", "I", false)
  | 2 => ("SweeperRounds$Leg", "sweptCells", "I", false)
  | _ => ("SweeperRounds$Leg", "taken", "I", false)
def Ft1 : Nat → FieldType := fun k => match k with
  | 0 => .int
  | 1 => .int
  | 2 => .int
  | _ => .int
theorem Fn1 : ∀ a, a < 4 → ∀ b, b < 4 → a ≠ b → (FT1 a).2.1 ≠ (FT1 b).2.1 := by decide +kernel
theorem Fy1 : ∀ k, k < 4 → parseFieldDescriptor (FT1 k).2.2.1 = some (Ft1 k) := by decide +kernel
theorem Fi1 : ∀ w ∈ u_ws "SweeperRounds$Leg" FT1 4, w ∈ wA := wA_all (by decide +kernel)
def FT2 : u_T := fun k => match k with
  | 0 => ("SweeperRounds$Orders", "best", "[I", true)
  | 1 => ("SweeperRounds$Orders", "bestTaken", "I", false)
  | 2 => ("SweeperRounds$Orders", "order", "[I", true)
  | _ => ("SweeperRounds$Orders", "length", "I", false)
def Ft2 : Nat → FieldType := fun k => match k with
  | 0 => .array (.int)
  | 1 => .int
  | 2 => .array (.int)
  | _ => .int
theorem Fn2 : ∀ a, a < 4 → ∀ b, b < 4 → a ≠ b → (FT2 a).2.1 ≠ (FT2 b).2.1 := by decide +kernel
theorem Fy2 : ∀ k, k < 4 → parseFieldDescriptor (FT2 k).2.2.1 = some (Ft2 k) := by decide +kernel
theorem Fi2 : ∀ w ∈ u_ws "SweeperRounds$Orders" FT2 4, w ∈ wA := wA_all (by decide +kernel)
def FT3 : u_T := fun k => match k with
  | 0 => ("SweeperRounds$Reader", "draft", "LSweeperRounds$Street;", true)
  | 1 => ("SweeperRounds$Reader", "faultIndex", "I", false)
  | 2 => ("SweeperRounds$Reader", "at", "I", false)
  | _ => ("SweeperRounds$Reader", "fault", "I", false)
def Ft3 : Nat → FieldType := fun k => match k with
  | 0 => .object "SweeperRounds$Street"
  | 1 => .int
  | 2 => .int
  | _ => .int
theorem Fn3 : ∀ a, a < 4 → ∀ b, b < 4 → a ≠ b → (FT3 a).2.1 ≠ (FT3 b).2.1 := by decide +kernel
theorem Fy3 : ∀ k, k < 4 → parseFieldDescriptor (FT3 k).2.2.1 = some (Ft3 k) := by decide +kernel
theorem Fi3 : ∀ w ∈ u_ws "SweeperRounds$Reader" FT3 4, w ∈ wA := wA_all (by decide +kernel)
def FT4 : u_T := fun k => match k with
  | 0 => ("SweeperRounds$Report", "reason", "I", false)
  | 1 => ("SweeperRounds$Report", "units", "I", false)
  | 2 => ("SweeperRounds$Report", "trips", "I", false)
  | 3 => ("SweeperRounds$Report", "taken", "I", false)
  | 4 => ("SweeperRounds$Report", "worn", "I", false)
  | _ => ("SweeperRounds$Report", "leg", "I", false)
def Ft4 : Nat → FieldType := fun k => match k with
  | 0 => .int
  | 1 => .int
  | 2 => .int
  | 3 => .int
  | 4 => .int
  | _ => .int
theorem Fn4 : ∀ a, a < 6 → ∀ b, b < 6 → a ≠ b → (FT4 a).2.1 ≠ (FT4 b).2.1 := by decide +kernel
theorem Fy4 : ∀ k, k < 6 → parseFieldDescriptor (FT4 k).2.2.1 = some (Ft4 k) := by decide +kernel
theorem Fi4 : ∀ w ∈ u_ws "SweeperRounds$Report" FT4 6, w ∈ wA := wA_all (by decide +kernel)
def FT5 : u_T := fun k => match k with
  | 0 => ("SweeperRounds$Round", "world", "LSweeperRounds$World;", true)
  | _ => ("SweeperRounds$Round", "standsIn", "I", false)
def Ft5 : Nat → FieldType := fun k => match k with
  | 0 => .object "SweeperRounds$World"
  | _ => .int
theorem Fn5 : ∀ a, a < 2 → ∀ b, b < 2 → a ≠ b → (FT5 a).2.1 ≠ (FT5 b).2.1 := by decide +kernel
theorem Fy5 : ∀ k, k < 2 → parseFieldDescriptor (FT5 k).2.2.1 = some (Ft5 k) := by decide +kernel
theorem Fi5 : ∀ w ∈ u_ws "SweeperRounds$Round" FT5 2, w ∈ wA := wA_all (by decide +kernel)
def FT6 : u_T := fun k => match k with
  | 0 => ("SweeperRounds$Street", "cells", "I", false)
  | 1 => ("SweeperRounds$Street", "distance", "I", false)
  | 2 => ("SweeperRounds$Street", "trees", "I", false)
  | 3 => ("SweeperRounds$Street", "dirt", "[I", true)
  | _ => ("SweeperRounds$Street", "parked", "[Z", true)
def Ft6 : Nat → FieldType := fun k => match k with
  | 0 => .int
  | 1 => .int
  | 2 => .int
  | 3 => .array (.int)
  | _ => .array (.boolean)
theorem Fn6 : ∀ a, a < 5 → ∀ b, b < 5 → a ≠ b → (FT6 a).2.1 ≠ (FT6 b).2.1 := by decide +kernel
theorem Fy6 : ∀ k, k < 5 → parseFieldDescriptor (FT6 k).2.2.1 = some (Ft6 k) := by decide +kernel
theorem Fi6 : ∀ w ∈ u_ws "SweeperRounds$Street" FT6 5, w ∈ wA := wA_all (by decide +kernel)
def FT7 : u_T := fun k => match k with
  | 0 => ("SweeperRounds$Text", "signs", "[C", true)
  | _ => ("SweeperRounds$Text", "length", "I", false)
def Ft7 : Nat → FieldType := fun k => match k with
  | 0 => .array (.char)
  | _ => .int
theorem Fn7 : ∀ a, a < 2 → ∀ b, b < 2 → a ≠ b → (FT7 a).2.1 ≠ (FT7 b).2.1 := by decide +kernel
theorem Fy7 : ∀ k, k < 2 → parseFieldDescriptor (FT7 k).2.2.1 = some (Ft7 k) := by decide +kernel
theorem Fi7 : ∀ w ∈ u_ws "SweeperRounds$Text" FT7 2, w ∈ wA := wA_all (by decide +kernel)
def FT8 : u_T := fun k => match k with
  | 0 => ("SweeperRounds$World", "streets", "[LSweeperRounds$Street;", true)
  | 1 => ("SweeperRounds$World", "streetCount", "I", false)
  | 2 => ("SweeperRounds$World", "legs", "[LSweeperRounds$Leg;", true)
  | 3 => ("SweeperRounds$World", "legCount", "I", false)
  | 4 => ("SweeperRounds$World", "legsTell", "Z", false)
  | 5 => ("SweeperRounds$World", "settings", "[I", true)
  | 6 => ("SweeperRounds$World", "brush", "I", false)
  | 7 => ("SweeperRounds$World", "hopper", "I", false)
  | 8 => ("SweeperRounds$World", "sums", "[I", true)
  | 9 => ("SweeperRounds$World", "report", "LSweeperRounds$Report;", true)
  | 10 => ("SweeperRounds$World", "shifts", "I", false)
  | _ => ("SweeperRounds$World", "nights", "I", false)
def Ft8 : Nat → FieldType := fun k => match k with
  | 0 => .array (.object "SweeperRounds$Street")
  | 1 => .int
  | 2 => .array (.object "SweeperRounds$Leg")
  | 3 => .int
  | 4 => .boolean
  | 5 => .array (.int)
  | 6 => .int
  | 7 => .int
  | 8 => .array (.int)
  | 9 => .object "SweeperRounds$Report"
  | 10 => .int
  | _ => .int
theorem Fn8 : ∀ a, a < 12 → ∀ b, b < 12 → a ≠ b → (FT8 a).2.1 ≠ (FT8 b).2.1 := by decide +kernel
theorem Fy8 : ∀ k, k < 12 → parseFieldDescriptor (FT8 k).2.2.1 = some (Ft8 k) := by decide +kernel
theorem Fi8 : ∀ w ∈ u_ws "SweeperRounds$World" FT8 12, w ∈ wA := wA_all (by decide +kernel)
def FT9 : u_T := fun k => match k with
  | 0 => ("SweeperRounds", "text", "LSweeperRounds$Text;", true)
  | 1 => ("SweeperRounds", "reader", "LSweeperRounds$Reader;", true)
  | 2 => ("SweeperRounds", "now", "LSweeperRounds$World;", true)
  | 3 => ("SweeperRounds", "round", "LSweeperRounds$Round;", true)
  | 4 => ("SweeperRounds", "history", "LSweeperRounds$History;", true)
  | 5 => ("SweeperRounds", "trial", "LSweeperRounds$World;", true)
  | 6 => ("SweeperRounds", "trialRound", "LSweeperRounds$Round;", true)
  | 7 => ("SweeperRounds", "orders", "LSweeperRounds$Orders;", true)
  | _ => ("SweeperRounds", "latestFault", "I", false)
def Ft9 : Nat → FieldType := fun k => match k with
  | 0 => .object "SweeperRounds$Text"
  | 1 => .object "SweeperRounds$Reader"
  | 2 => .object "SweeperRounds$World"
  | 3 => .object "SweeperRounds$Round"
  | 4 => .object "SweeperRounds$History"
  | 5 => .object "SweeperRounds$World"
  | 6 => .object "SweeperRounds$Round"
  | 7 => .object "SweeperRounds$Orders"
  | _ => .int
theorem Fn9 : ∀ a, a < 9 → ∀ b, b < 9 → a ≠ b → (FT9 a).2.1 ≠ (FT9 b).2.1 := by decide +kernel
theorem Fy9 : ∀ k, k < 9 → parseFieldDescriptor (FT9 k).2.2.1 = some (Ft9 k) := by decide +kernel
theorem Fi9 : ∀ w ∈ u_ws "SweeperRounds" FT9 9, w ∈ wA := wA_all (by decide +kernel)
def FT10 : u_T := fun k => match k with
  | 0 => ("SweeperRoundsModel", "page", "[I", true)
  | 1 => ("SweeperRoundsModel", "backMany", "I", false)
  | 2 => ("SweeperRoundsModel", "text", "[I", true)
  | 3 => ("SweeperRoundsModel", "typed", "I", false)
  | 4 => ("SweeperRoundsModel", "fault", "I", false)
  | 5 => ("SweeperRoundsModel", "faultAt", "I", false)
  | 6 => ("SweeperRoundsModel", "spot", "I", false)
  | 7 => ("SweeperRoundsModel", "made", "[I", true)
  | 8 => ("SweeperRoundsModel", "order", "[I", true)
  | 9 => ("SweeperRoundsModel", "where", "I", false)
  | 10 => ("SweeperRoundsModel", "goes", "Z", false)
  | 11 => ("SweeperRoundsModel", "unitsThen", "I", false)
  | 12 => ("SweeperRoundsModel", "bestLegs", "[I", true)
  | _ => ("SweeperRoundsModel", "hash", "J", false)
def Ft10 : Nat → FieldType := fun k => match k with
  | 0 => .array (.int)
  | 1 => .int
  | 2 => .array (.int)
  | 3 => .int
  | 4 => .int
  | 5 => .int
  | 6 => .int
  | 7 => .array (.int)
  | 8 => .array (.int)
  | 9 => .int
  | 10 => .boolean
  | 11 => .int
  | 12 => .array (.int)
  | _ => .long
theorem Fn10 : ∀ a, a < 14 → ∀ b, b < 14 → a ≠ b → (FT10 a).2.1 ≠ (FT10 b).2.1 := by decide +kernel
theorem Fy10 : ∀ k, k < 14 → parseFieldDescriptor (FT10 k).2.2.1 = some (Ft10 k) := by decide +kernel
theorem Fi10 : ∀ w ∈ u_ws "SweeperRoundsModel" FT10 14, w ∈ wA := wA_all (by decide +kernel)
abbrev classes : List vw_C := [("SweeperRounds$History", FT0, 3), ("SweeperRounds$Leg", FT1, 4), ("SweeperRounds$Orders", FT2, 4), ("SweeperRounds$Reader", FT3, 4), ("SweeperRounds$Report", FT4, 6), ("SweeperRounds$Round", FT5, 2), ("SweeperRounds$Street", FT6, 5), ("SweeperRounds$Text", FT7, 2), ("SweeperRounds$World", FT8, 12), ("SweeperRounds", FT9, 9), ("SweeperRoundsModel", FT10, 14)]
/-- the state: what each cell holds of whole numbers, by the cell's number and the place in it; the one long -/
abbrev St : Type := (Nat → Nat → Int32) × Int64
def kindW : List Nat := [8, 23, 24, 26, 27, 4, 6, 20, 22, 6, 20, 22, 6, 20, 22, 6, 20, 22, 6, 20, 22, 6, 20, 22, 1, 1, 1, 1, 1, 1, 1, 1, 1, 1]
def kinds : List Nat := [9, 7, 21, 3, 6, 20, 22] ++ (kindW ++ ([5, 0, 25] ++ (kindW ++ (kindW ++ (kindW ++ (kindW ++ (kindW ++ (kindW ++ (kindW ++ (kindW ++ (kindW ++ ([5, 2, 28, 29, 10, 30, 31, 32, 33, 34]))))))))))))
def kd (k : Nat) : Nat := kinds.getD k 99
def rfR (k : Nat) : Nat := if k = 41 then 7 else 316
def lnK (c : Nat) : Nat := match c with
  | 20 => 40
  | 21 => 80
  | 22 => 40
  | 23 => 6
  | 24 => 10
  | 25 => 8
  | 26 => 6
  | 27 => 6
  | 28 => 6
  | 29 => 6
  | 30 => 5640
  | 31 => 80
  | 32 => 83
  | 33 => 10
  | 34 => 10
  | _ => 0
def fsOf (ad : Nat → Nat) (σ : St) (k : Nat) (c : Nat) : List Value := match c with
  | 0 => [.ref (ad (k + 1)), .int (σ.1 k 1), .int (σ.1 k 2)]
  | 1 => [.int (σ.1 k 0), .int (σ.1 k 1), .int (σ.1 k 2), .int (σ.1 k 3)]
  | 2 => [.ref (ad (k + 1)), .int (σ.1 k 1), .ref (ad (k + 2)), .int (σ.1 k 3)]
  | 3 => [.ref (ad (k + 1)), .int (σ.1 k 1), .int (σ.1 k 2), .int (σ.1 k 3)]
  | 4 => [.int (σ.1 k 0), .int (σ.1 k 1), .int (σ.1 k 2), .int (σ.1 k 3), .int (σ.1 k 4), .int (σ.1 k 5)]
  | 5 => [.ref (ad (rfR k)), .int (σ.1 k 1)]
  | 6 => [.int (σ.1 k 0), .int (σ.1 k 1), .int (σ.1 k 2), .ref (ad (k + 1)), .ref (ad (k + 2))]
  | 7 => [.ref (ad (k + 1)), .int (σ.1 k 1)]
  | 8 => [.ref (ad (k + 1)), .int (σ.1 k 1), .ref (ad (k + 2)), .int (σ.1 k 3), .int (σ.1 k 4), .ref (ad (k + 3)), .int (σ.1 k 6), .int (σ.1 k 7), .ref (ad (k + 4)), .ref (ad (k + 5)), .int (σ.1 k 10), .int (σ.1 k 11)]
  | 9 => [.ref (ad (k + 1)), .ref (ad (k + 3)), .ref (ad (k + 7)), .ref (ad (k + 41)), .ref (ad (k + 42)), .ref (ad (k + 316)), .ref (ad (k + 350)), .ref (ad (k + 351)), .int (σ.1 k 8)]
  | 10 => [.ref (ad (k + 1)), .int (σ.1 k 1), .ref (ad (k + 2)), .int (σ.1 k 3), .int (σ.1 k 4), .int (σ.1 k 5), .int (σ.1 k 6), .ref (ad (k + 3)), .ref (ad (k + 4)), .int (σ.1 k 9), .int (σ.1 k 10), .int (σ.1 k 11), .ref (ad (k + 5)), .long σ.2]
  | _ => []
def imgE (ac : Nat → ClassId) (ad : Nat → Nat) (σ : St) (k : Nat) : va_E :=
  if kd k < 20 then .inr (kd k, fsOf ad σ k (kd k))
  else if kd k = 23 then .inl (ac 3, 6, .inr (.inr (.inr (.inr (fun j => some (ad (k + 5 + 3 * j)))))))
  else if kd k = 24 then .inl (ac 4, 10, .inr (.inr (.inr (.inr (fun j => some (ad (k + 22 + j)))))))
  else if kd k = 25 then .inl (ac 5, 8, .inr (.inr (.inr (.inr (fun j => some (ad (k + 1 + 34 * j)))))))
  else .inl (ac (if kd k = 21 then 1 else if kd k = 22 then 2 else 0), lnK (kd k), .inl (σ.1 k))
def wsL (ac : Nat → ClassId) (ad : Nat → Nat) (σ : St) : va_W := (List.range 360).map (fun k => (ad k, imgE ac ad σ k))
abbrev tysL (ac : Nat → ClassId) : List (ClassId × FieldType) := [(ac 0, .int), (ac 1, .char), (ac 2, .boolean), (ac 3, .object "SweeperRounds$Street"), (ac 4, .object "SweeperRounds$Leg"), (ac 5, .object "SweeperRounds$World")]
def wrA (σ : St) (k : Nat) (f : Nat → Int32) : St := (fun a => if a = k then f else σ.1 a, σ.2)
def wr (σ : St) (k j : Nat) (v : Int32) : St := wrA σ k (upd (σ.1 k) j v)
def wrL (σ : St) (v : Int64) : St := (σ.1, v)
theorem kd_lt {k c : Nat} (h : kd k = c) (hc : c < 99) : k < 360 := by
  rcases Nat.lt_or_ge k 360 with q | q
  · exact q
  · exfalso
    unfold kd at h
    rw [List.getD_eq_getElem?_getD, List.getElem?_eq_none (by rw [show kinds.length = 360 from by decide +kernel]; exact q)] at h
    simp at h
    omega
theorem wsL_get {ac : Nat → ClassId} {ad : Nat → Nat} {σ : St} {k : Nat} (h : k < 360) : (wsL ac ad σ)[k]? = some (ad k, imgE ac ad σ k) := by
  simp [wsL, h]
theorem wsL_obj {ac : Nat → ClassId} {ad : Nat → Nat} {σ : St} {k c : Nat} (h : kd k = c) (hc : c < 20) : (wsL ac ad σ)[k]? = some (ad k, .inr (c, fsOf ad σ k c)) := by
  rw [wsL_get (kd_lt h (by omega))]
  simp only [imgE, h, if_pos hc]
def isPK (c : Nat) : Bool := (20 ≤ c && c ≤ 34) && !(c == 23 || c == 24 || c == 25)
def acK (c : Nat) : Nat := if c = 21 then 1 else if c = 22 then 2 else 0
theorem wsL_arr {ac : Nat → ClassId} {ad : Nat → Nat} {σ : St} {k c : Nat} (h : kd k = c) (hc : isPK c = true) : (wsL ac ad σ)[k]? = some (ad k, .inl (ac (acK c), lnK c, .inl (σ.1 k))) := by
  have h2 : 20 ≤ c ∧ c ≤ 34 ∧ c ≠ 23 ∧ c ≠ 24 ∧ c ≠ 25 := by
    simp [isPK] at hc
    omega
  rw [wsL_get (kd_lt h (by omega))]
  simp only [imgE, h, if_neg (show ¬ c < 20 by omega), if_neg h2.2.2.1, if_neg h2.2.2.2.1, if_neg h2.2.2.2.2, acK]
theorem wsL_ar3 {ac : Nat → ClassId} {ad : Nat → Nat} {σ : St} {k : Nat} (h : kd k = 23) : (wsL ac ad σ)[k]? = some (ad k, .inl (ac 3, 6, .inr (.inr (.inr (.inr (fun j => some (ad (k + 5 + 3 * j)))))))) := by
  rw [wsL_get (kd_lt h (by omega))]
  simp [imgE, h]
theorem wsL_ar4 {ac : Nat → ClassId} {ad : Nat → Nat} {σ : St} {k : Nat} (h : kd k = 24) : (wsL ac ad σ)[k]? = some (ad k, .inl (ac 4, 10, .inr (.inr (.inr (.inr (fun j => some (ad (k + 22 + j)))))))) := by
  rw [wsL_get (kd_lt h (by omega))]
  simp [imgE, h]
theorem wsL_ar5 {ac : Nat → ClassId} {ad : Nat → Nat} {σ : St} {k : Nat} (h : kd k = 25) : (wsL ac ad σ)[k]? = some (ad k, .inl (ac 5, 8, .inr (.inr (.inr (.inr (fun j => some (ad (k + 1 + 34 * j)))))))) := by
  rw [wsL_get (kd_lt h (by omega))]
  simp [imgE, h]
theorem wsL_set {ac : Nat → ClassId} {ad : Nat → Nat} {σ σ' : St} {k : Nat} {x : va_E} (hx : imgE ac ad σ' k = x) (ho : ∀ a, a ≠ k → imgE ac ad σ' a = imgE ac ad σ a) : (wsL ac ad σ).set k (ad k, x) = wsL ac ad σ' := by
  apply List.ext_getElem?
  intro i
  rw [List.getElem?_set]
  by_cases hi : k = i
  · subst hi
    simp only [if_pos rfl, wsL, List.length_map, List.length_range]
    by_cases hk : k < 360
    · simp [hk, hx]
    · simp [hk]
  · rw [if_neg hi]
    simp only [wsL, List.getElem?_map]
    by_cases hk : i < 360
    · simp [hk, ho i (fun e => hi e.symm)]
    · simp [hk]
theorem fsOf_same {ad : Nat → Nat} {σ σ' : St} {a c : Nat} (h : σ'.1 a = σ.1 a) (h2 : σ'.2 = σ.2) : fsOf ad σ' a c = fsOf ad σ a c := by
  unfold fsOf
  rw [h, h2]
theorem imgE_same {ac : Nat → ClassId} {ad : Nat → Nat} {σ σ' : St} {a : Nat} (h : σ'.1 a = σ.1 a) (h2 : σ'.2 = σ.2) : imgE ac ad σ' a = imgE ac ad σ a := by
  unfold imgE
  rw [h, fsOf_same h h2]
theorem wrA_ne {σ : St} {k a : Nat} {f : Nat → Int32} (h : a ≠ k) : (wrA σ k f).1 a = σ.1 a := by simp [wrA, h]
theorem wrA_eq {σ : St} {k : Nat} {f : Nat → Int32} : (wrA σ k f).1 k = f := by simp [wrA]
theorem wsL_wrA {ac : Nat → ClassId} {ad : Nat → Nat} {σ : St} {k c : Nat} {f : Nat → Int32} (h : kd k = c) (hc : isPK c = true) : (wsL ac ad σ).set k (ad k, .inl (ac (acK c), lnK c, .inl f)) = wsL ac ad (wrA σ k f) := by
  have h2 : 20 ≤ c ∧ c ≤ 34 ∧ c ≠ 23 ∧ c ≠ 24 ∧ c ≠ 25 := by
    simp [isPK] at hc
    omega
  refine wsL_set ?_ (fun a ha => imgE_same (wrA_ne ha) rfl)
  simp only [imgE, h, if_neg (show ¬ c < 20 by omega), if_neg h2.2.2.1, if_neg h2.2.2.2.1, if_neg h2.2.2.2.2, acK, wrA_eq]
theorem wsL_wr {ac : Nat → ClassId} {ad : Nat → Nat} {σ : St} {k c j : Nat} {v : Int32} {fs : List Value} (h : kd k = c) (hc : c < 20) (hf : fsOf ad (wr σ k j v) k c = fs) : (wsL ac ad σ).set k (ad k, .inr (c, fs)) = wsL ac ad (wr σ k j v) := by
  refine wsL_set ?_ (fun a ha => imgE_same (wrA_ne ha) rfl)
  simp only [imgE, h, if_pos hc, hf]
theorem kd10 : ∀ k, k < 360 → kd k = 10 → k = 354 := by decide +kernel
theorem fsOf_n10 {ad : Nat → Nat} {σ σ' : St} {a c : Nat} (hc : c ≠ 10) (h : σ'.1 a = σ.1 a) : fsOf ad σ' a c = fsOf ad σ a c := by
  unfold fsOf
  split <;> first | (rw [h]; done) | rfl | (exact absurd rfl hc)
theorem wsL_wrL {ac : Nat → ClassId} {ad : Nat → Nat} {σ : St} {v : Int64} {k : Nat} {fs : List Value} (h : kd k = 10) (hf : fsOf ad (wrL σ v) k 10 = fs) : (wsL ac ad σ).set k (ad k, .inr (10, fs)) = wsL ac ad (wrL σ v) := by
  have hk : k = 354 := kd10 k (kd_lt h (by decide)) h
  refine wsL_set ?_ (fun a ha => ?_)
  · simp only [imgE, h]
    rw [if_pos (by decide), hf]
  · by_cases ha2 : kd a = 10
    · exact absurd ((kd10 a (kd_lt ha2 (by decide)) ha2).trans hk.symm) ha
    · unfold imgE
      rw [fsOf_n10 (ad := ad) (σ := σ) (σ' := wrL σ v) ha2 rfl]
      rfl
theorem kr_0_0 {k : Nat} (h : kd k = 0) : kd (k + 1) = 25 := (by decide +kernel : ∀ k, k < 360 → kd k = 0 → kd (k + 1) = 25) k (kd_lt h (by decide)) h
theorem kr_2_0 {k : Nat} (h : kd k = 2) : kd (k + 1) = 28 := (by decide +kernel : ∀ k, k < 360 → kd k = 2 → kd (k + 1) = 28) k (kd_lt h (by decide)) h
theorem kr_2_2 {k : Nat} (h : kd k = 2) : kd (k + 2) = 29 := (by decide +kernel : ∀ k, k < 360 → kd k = 2 → kd (k + 2) = 29) k (kd_lt h (by decide)) h
theorem kr_3_0 {k : Nat} (h : kd k = 3) : kd (k + 1) = 6 := (by decide +kernel : ∀ k, k < 360 → kd k = 3 → kd (k + 1) = 6) k (kd_lt h (by decide)) h
theorem kr_6_3 {k : Nat} (h : kd k = 6) : kd (k + 1) = 20 := (by decide +kernel : ∀ k, k < 360 → kd k = 6 → kd (k + 1) = 20) k (kd_lt h (by decide)) h
theorem kr_6_4 {k : Nat} (h : kd k = 6) : kd (k + 2) = 22 := (by decide +kernel : ∀ k, k < 360 → kd k = 6 → kd (k + 2) = 22) k (kd_lt h (by decide)) h
theorem kr_7_0 {k : Nat} (h : kd k = 7) : kd (k + 1) = 21 := (by decide +kernel : ∀ k, k < 360 → kd k = 7 → kd (k + 1) = 21) k (kd_lt h (by decide)) h
theorem kr_8_0 {k : Nat} (h : kd k = 8) : kd (k + 1) = 23 := (by decide +kernel : ∀ k, k < 360 → kd k = 8 → kd (k + 1) = 23) k (kd_lt h (by decide)) h
theorem kr_8_2 {k : Nat} (h : kd k = 8) : kd (k + 2) = 24 := (by decide +kernel : ∀ k, k < 360 → kd k = 8 → kd (k + 2) = 24) k (kd_lt h (by decide)) h
theorem kr_8_5 {k : Nat} (h : kd k = 8) : kd (k + 3) = 26 := (by decide +kernel : ∀ k, k < 360 → kd k = 8 → kd (k + 3) = 26) k (kd_lt h (by decide)) h
theorem kr_8_8 {k : Nat} (h : kd k = 8) : kd (k + 4) = 27 := (by decide +kernel : ∀ k, k < 360 → kd k = 8 → kd (k + 4) = 27) k (kd_lt h (by decide)) h
theorem kr_8_9 {k : Nat} (h : kd k = 8) : kd (k + 5) = 4 := (by decide +kernel : ∀ k, k < 360 → kd k = 8 → kd (k + 5) = 4) k (kd_lt h (by decide)) h
theorem kr_9_0 {k : Nat} (h : kd k = 9) : kd (k + 1) = 7 := (by decide +kernel : ∀ k, k < 360 → kd k = 9 → kd (k + 1) = 7) k (kd_lt h (by decide)) h
theorem kr_9_1 {k : Nat} (h : kd k = 9) : kd (k + 3) = 3 := (by decide +kernel : ∀ k, k < 360 → kd k = 9 → kd (k + 3) = 3) k (kd_lt h (by decide)) h
theorem kr_9_2 {k : Nat} (h : kd k = 9) : kd (k + 7) = 8 := (by decide +kernel : ∀ k, k < 360 → kd k = 9 → kd (k + 7) = 8) k (kd_lt h (by decide)) h
theorem kr_9_3 {k : Nat} (h : kd k = 9) : kd (k + 41) = 5 := (by decide +kernel : ∀ k, k < 360 → kd k = 9 → kd (k + 41) = 5) k (kd_lt h (by decide)) h
theorem kr_9_4 {k : Nat} (h : kd k = 9) : kd (k + 42) = 0 := (by decide +kernel : ∀ k, k < 360 → kd k = 9 → kd (k + 42) = 0) k (kd_lt h (by decide)) h
theorem kr_9_5 {k : Nat} (h : kd k = 9) : kd (k + 316) = 8 := (by decide +kernel : ∀ k, k < 360 → kd k = 9 → kd (k + 316) = 8) k (kd_lt h (by decide)) h
theorem kr_9_6 {k : Nat} (h : kd k = 9) : kd (k + 350) = 5 := (by decide +kernel : ∀ k, k < 360 → kd k = 9 → kd (k + 350) = 5) k (kd_lt h (by decide)) h
theorem kr_9_7 {k : Nat} (h : kd k = 9) : kd (k + 351) = 2 := (by decide +kernel : ∀ k, k < 360 → kd k = 9 → kd (k + 351) = 2) k (kd_lt h (by decide)) h
theorem kr_10_0 {k : Nat} (h : kd k = 10) : kd (k + 1) = 30 := (by decide +kernel : ∀ k, k < 360 → kd k = 10 → kd (k + 1) = 30) k (kd_lt h (by decide)) h
theorem kr_10_2 {k : Nat} (h : kd k = 10) : kd (k + 2) = 31 := (by decide +kernel : ∀ k, k < 360 → kd k = 10 → kd (k + 2) = 31) k (kd_lt h (by decide)) h
theorem kr_10_7 {k : Nat} (h : kd k = 10) : kd (k + 3) = 32 := (by decide +kernel : ∀ k, k < 360 → kd k = 10 → kd (k + 3) = 32) k (kd_lt h (by decide)) h
theorem kr_10_8 {k : Nat} (h : kd k = 10) : kd (k + 4) = 33 := (by decide +kernel : ∀ k, k < 360 → kd k = 10 → kd (k + 4) = 33) k (kd_lt h (by decide)) h
theorem kr_10_12 {k : Nat} (h : kd k = 10) : kd (k + 5) = 34 := (by decide +kernel : ∀ k, k < 360 → kd k = 10 → kd (k + 5) = 34) k (kd_lt h (by decide)) h
theorem kr_5_0 {k : Nat} (_h : kd k = 5) : kd (rfR k) = 8 := by unfold rfR; split <;> decide +kernel
theorem ke_23 {k i : Nat} (h : kd k = 23) (hi : i < 6) : kd (k + 5 + 3 * i) = 6 := (by decide +kernel : ∀ k, k < 360 → kd k = 23 → ∀ i, i < 6 → kd (k + 5 + 3 * i) = 6) k (kd_lt h (by decide)) h i hi
theorem ke_24 {k i : Nat} (h : kd k = 24) (hi : i < 10) : kd (k + 22 + i) = 1 := (by decide +kernel : ∀ k, k < 360 → kd k = 24 → ∀ i, i < 10 → kd (k + 22 + i) = 1) k (kd_lt h (by decide)) h i hi
theorem ke_25 {k i : Nat} (h : kd k = 25) (hi : i < 8) : kd (k + 1 + 34 * i) = 8 := (by decide +kernel : ∀ k, k < 360 → kd k = 25 → ∀ i, i < 8 → kd (k + 1 + 34 * i) = 8) k (kd_lt h (by decide)) h i hi
end
section
def nestM : List (String × Nat × MethodName × String) := [("SweeperRounds", 9, ⟨"SweeperRounds$Text", "<init>", "()V"⟩, "SweeperRounds"), ("SweeperRounds", 18, ⟨"SweeperRounds$Reader", "<init>", "()V"⟩, "SweeperRounds"), ("SweeperRounds$Reader", 11, ⟨"SweeperRounds$Street", "<init>", "()V"⟩, "SweeperRounds"), ("SweeperRounds$World", 32, ⟨"SweeperRounds$Report", "<init>", "()V"⟩, "SweeperRounds"), ("SweeperRounds$World", 37, ⟨"SweeperRounds$Street", "<init>", "()V"⟩, "SweeperRounds"), ("SweeperRounds$World", 38, ⟨"SweeperRounds$Leg", "<init>", "()V"⟩, "SweeperRounds"), ("SweeperRounds", 54, ⟨"SweeperRounds$Orders", "<init>", "()V"⟩, "SweeperRounds"), ("SweeperRounds$Reader", 67, ⟨"SweeperRounds", "placeOf", "(II)I"⟩, "SweeperRounds"), ("SweeperRounds$Street", 29, ⟨"SweeperRounds", "placeOf", "(II)I"⟩, "SweeperRounds"), ("SweeperRounds$Round", 67, ⟨"SweeperRounds", "placeOf", "(II)I"⟩, "SweeperRounds"), ("SweeperRounds$World", 127, ⟨"SweeperRounds", "placeOf", "(II)I"⟩, "SweeperRounds")]
def nestF : List (String × Nat × String × String × String × String) := [("SweeperRounds$World", 39, "SweeperRounds", "FIRST_SETTINGS", "[I", "SweeperRounds"), ("SweeperRounds$World", 120, "SweeperRounds", "LEAST_SETTINGS", "[I", "SweeperRounds")]
def stN (j : Nat) : String := match j with
  | 0 => "FIRST_SETTINGS"
  | 1 => "LEAST_SETTINGS"
  | _ => "MOST_SETTINGS"
def stV (j : Nat) (i : Nat) : Int32 := match j with
  | 0 => ([2, 300, 1, 2400, 200, 100] : List Int32).getD i 0
  | 1 => ([1, 20, 0, 100, 0, 0] : List Int32).getD i 0
  | _ => ([4, 2000, 9, 6000, 1000, 400] : List Int32).getD i 0
/-- what stays over the whole run: the tables of the machine, the links of nest mates, the three static arrays -/
def KSt (A : Nat → Prop) (D : va_G) (ac : Nat → ClassId) (st : Nat → Nat) (U : State) : Prop :=
  va_K D classes (tysL ac) U ∧ (∀ q ∈ nestM, va_Nw (.methodLinkNest q.1 q.2.1 q.2.2.1 q.2.2.2) U) ∧ (∀ q ∈ nestF, va_Nw (.fieldLinkNest q.1 q.2.1 q.2.2.1 q.2.2.2.1 q.2.2.2.2.1 q.2.2.2.2.2) U) ∧
  ∀ j, j < 3 → va_Z "SweeperRounds" (stN j) "[I" (.ref (st j)) A U U.heap ∧ va_T .int (st j) 6 (fun i => .int (stV j i)) A U U.heap
theorem KSt.on {A : Nat → Prop} {D : va_G} {ac : Nat → ClassId} {st : Nat → Nat} {s U : State} {H : Heap} {locs : List Loc} (h : KSt A D ac st s) (hW : s.WarmedH U.vm) (hS : va_S A s.heap H locs) (hU : U.heap = H) : KSt A D ac st U := by
  obtain ⟨h1, h2, h3, h4⟩ := h
  subst hU
  refine ⟨va_K.moved hW.alike h1, fun q hq => (h2 q hq).warmM hW, fun q hq => (h3 q hq).warmF hW, fun j hj => ?_⟩
  obtain ⟨h5, h6⟩ := h4 j hj
  exact ⟨(h5.moved hW.alike).kept hS.2.1, (h6.moved hW.alike).kept hS.2.1⟩
theorem KSt.calling {A : Nat → Prop} {D : va_G} {ac : Nat → ClassId} {st : Nat → Nat} {U : State} {g : JFrame} {mk : MethodId} {a : Array Value} (h : KSt A D ac st U) : KSt A D ac st (U.calling g mk a) := by
  obtain ⟨h1, h2, h3, h4⟩ := h
  refine ⟨va_K.moved (u := U) (U := U.calling g mk a) (Vm.Alike.refl U.vm) h1, fun q hq => va_Nw.same (u := U) (U := U.calling g mk a) rfl rfl (h2 q hq), fun q hq => va_Nw.same (u := U) (U := U.calling g mk a) rfl rfl (h3 q hq), fun j hj => ?_⟩
  obtain ⟨h5, h6⟩ := h4 j hj
  exact ⟨h5.moved (u := U) (U := U.calling g mk a) (Vm.Alike.refl U.vm), h6.moved (u := U) (U := U.calling g mk a) (Vm.Alike.refl U.vm)⟩
def GSt (A : Nat → Prop) (D : va_G) (ac : Nat → ClassId) (ad st : Nat → Nat) (σ : St) (U : State) : Prop := va_P D classes (wsL ac ad σ) U.heap ∧ va_D A (wsL ac ad σ) ∧ KSt A D ac st U
theorem GSt.blind {A : Nat → Prop} {D : va_G} {ac : Nat → ClassId} {ad st : Nat → Nat} {σ : St} {vals : List Value} : FrameBlind (va_Pc vals (GSt A D ac ad st σ)) := fun _ _ _ _ q => ⟨q.1, q.2.1, q.2.2.1, q.2.2.2.calling⟩
def DG (A : Nat → Prop) (D : va_G) (ac : Nat → ClassId) (ad : Nat → Nat) (s : State) (σ : St) (H : Heap) (locs : List Loc) : Prop := va_P D classes (wsL ac ad σ) H ∧ va_D A (wsL ac ad σ) ∧ va_S A s.heap H locs
def SC (A : Nat → Prop) (D : va_G) (ac : Nat → ClassId) (st : Nat → Nat) (p : Program) (m : MethodId) (c : Code) (cc : ByteArray) (nL : Nat) (s : State) (args : Array Value) (own : String) (R : Room) (cells slots F Lc : Nat) : Prop :=
  CallFix p m c cc nL s args wA own ∧ KSt A D ac st s ∧ (cells ≤ R.cells ∧ slots ≤ R.slots) ∧ F ≤ R.frames ∧ Lc ≤ R.locals
def itN {β : Type} (F : β → β) (bot : β) : Nat → β
  | 0 => bot
  | n + 1 => F (itN F bot n)
def FU : Nat := 1000000
def isB (v : Int32) : Prop := v = 0 ∨ v = 1
theorem isB_nar {v : Int32} (h : isB v) : narrow .boolean (.int v) = .int v := by rcases h with rfl | rfl <;> decide
theorem isB_fit {v : Int32} (h : isB v) : fits .boolean (.int v) = true := by rcases h with rfl | rfl <;> decide
section RW
variable {p : Program} {l : Launch} {e : Env} {R : Room} {s : State} {m : MethodId} {args : Array Value} {below : List Frame} {meth : Method} {c : Code} {H : Heap} {locs : List Loc} {cells slots : Nat} {QW : State → Prop}
variable {cc : ByteArray} {pc nL F Lc : Nat} {ls : Array Slot} {rest : List Value} {D : va_G} {ac : Nat → ClassId} {ad st : Nat → Nat} {A : Nat → Prop} {σ : St} {own : String}
theorem mg (S : SC A D ac st p m c cc nL s args own R cells slots F Lc) (hG : DG A D ac ad s σ H locs) {k ci j index : Nat} {C ref : String} {T : u_T} {N : Nat} (hc : classes[ci]? = some (C, T, N)) (hin : ∀ w ∈ u_ws C T N, w ∈ wA) (hj : j < N) (hl : Cond.fieldLink own index ref (T j).2.1 (T j).2.2.1 ∈ wA) (href : (T j).1 = ref) (hci : ci < 20) (hk : kd k = ci) {v : Value} (hv : (fsOf ad σ k ci)[j]? = some v) (hdg : decode cc pc = .ok (.getfield index, 3))
    (kk : W p l e R s m args below meth c H locs cells slots QW (F0 m (pc + 3) ls (v :: rest))) : W p l e R s m args below meth c H locs cells slots QW (F0 m pc ls (.ref (ad k) :: rest)) := by
  subst href
  exact va_get S.1.1 S.1.2.1 S.1.2.2.2.2 hin S.1.2.2.2.1 S.2.1.1 hG.1 k (wsL_obj hk hci) hc j hj (S.1.2.2.2.2 _ hl) (fun _ h => h) hv hdg kk
theorem mp (S : SC A D ac st p m c cc nL s args own R cells slots F Lc) (hG : DG A D ac ad s σ H locs) {k ci j index : Nat} {C ref : String} {T : u_T} {N : Nat} (hc : classes[ci]? = some (C, T, N)) (hin : ∀ w ∈ u_ws C T N, w ∈ wA) (ty0 : Nat → FieldType) (hty : ∀ k, k < N → parseFieldDescriptor (T k).2.2.1 = some (ty0 k)) (hnm : ∀ a, a < N → ∀ b, b < N → a ≠ b → (T a).2.1 ≠ (T b).2.1) (hj : j < N) (hl : Cond.fieldLink own index ref (T j).2.1 (T j).2.2.1 ∈ wA) (href : (T j).1 = ref) (hfin : (T j).2.2.2 = false) (hci : ci < 20) (hk : kd k = ci) {v : Int32} {fs : List Value} (hn : narrow (ty0 j) (.int v) = .int v) (hft : fits (ty0 j) (.int v) = true) (hlen : j < (fsOf ad σ k ci).length) (hfs : (fsOf ad σ k ci).set j (.int v) = fsOf ad (wr σ k j v) k ci) (hdg : decode cc pc = .ok (.putfield index, 3))
    (kk : ∀ (σ1 : St), σ1 = wr σ k j v → ∀ (H1 : Heap) (locs1 : List Loc), DG A D ac ad s σ1 H1 locs1 → W p l e R s m args below meth c H1 locs1 cells slots QW (F0 m (pc + 3) ls rest)) : W p l e R s m args below meth c H locs cells slots QW (F0 m pc ls (.int v :: .ref (ad k) :: rest)) := by
  subst href
  have ew := wsL_wr (ac := ac) (ad := ad) (σ := σ) (j := j) (v := v) hk hci hfs.symm
  refine va_put S.1.1 S.1.2.1 S.1.2.2.2.2 hin ty0 hty hnm S.1.2.2.2.1 S.2.1.1 hG.1 hG.2.1 hG.2.2 k (wsL_obj hk hci) hc j hj (S.1.2.2.2.2 _ hl) (fun _ h => h) hfin (hty j hj) hn hft hlen hdg (fun H1 locs1 h1 h2 h3 => ?_)
  rw [ew] at h1 h2
  exact kk _ rfl H1 locs1 ⟨h1, h2, h3⟩
theorem mpL (S : SC A D ac st p m c cc nL s args "SweeperRoundsModel" R cells slots F Lc) (hG : DG A D ac ad s σ H locs) {k index : Nat} (hl : Cond.fieldLink "SweeperRoundsModel" index "SweeperRoundsModel" "hash" "J" ∈ wA) (hk : kd k = 10) {v : Int64} (hdg : decode cc pc = .ok (.putfield index, 3))
    (kk : ∀ (σ1 : St), σ1 = wrL σ v → ∀ (H1 : Heap) (locs1 : List Loc), DG A D ac ad s σ1 H1 locs1 → W p l e R s m args below meth c H1 locs1 cells slots QW (F0 m (pc + 3) ls rest)) : W p l e R s m args below meth c H locs cells slots QW (F0 m pc ls (.long v :: .ref (ad k) :: rest)) := by
  have ew := wsL_wrL (ac := ac) (ad := ad) (σ := σ) (v := v) hk rfl
  refine va_put S.1.1 S.1.2.1 S.1.2.2.2.2 Fi10 Ft10 Fy10 Fn10 S.1.2.2.2.1 S.2.1.1 hG.1 hG.2.1 hG.2.2 k (wsL_obj hk (by decide)) rfl 13 (by decide) (S.1.2.2.2.2 _ hl) (fun _ h => h) rfl (Fy10 13 (by decide)) rfl rfl (Nat.le_of_ble_eq_true rfl) hdg (fun H1 locs1 h1 h2 h3 => ?_)
  have h1 : va_P D classes ((wsL ac ad σ).set k (ad k, .inr (10, fsOf ad (wrL σ v) k 10))) H1 := h1
  have h2 : va_D A ((wsL ac ad σ).set k (ad k, .inr (10, fsOf ad (wrL σ v) k 10))) := h2
  rw [ew] at h1 h2
  exact kk _ rfl H1 locs1 ⟨h1, h2, h3⟩
theorem mia (S : SC A D ac st p m c cc nL s args own R cells slots F Lc) (hG : DG A D ac ad s σ H locs) {k : Nat} (kk0 : Nat) (hp : isPK kk0 = true) (ha : acK kk0 = 0) (hk : kd k = kk0) {i : Int32} (hin : vp_in i (lnK kk0)) (hdg : decode cc pc = .ok (.iaload, 1))
    (kk : W p l e R s m args below meth c H locs cells slots QW (F0 m (pc + 1) ls (.int (σ.1 k i.toNatClampNeg) :: rest))) : W p l e R s m args below meth c H locs cells slots QW (F0 m pc ls (.int i :: .ref (ad k) :: rest)) :=
  va_iald S.1.1 S.1.2.1 S.2.1.1 hG.1 k 0 (wsL_arr hk hp) (by rw [ha]; rfl) hin hdg kk
theorem mca (S : SC A D ac st p m c cc nL s args own R cells slots F Lc) (hG : DG A D ac ad s σ H locs) {k : Nat} (hk : kd k = 21) {i : Int32} (hin : vp_in i 80) (hdg : decode cc pc = .ok (.caload, 1))
    (kk : W p l e R s m args below meth c H locs cells slots QW (F0 m (pc + 1) ls (.int (σ.1 k i.toNatClampNeg) :: rest))) : W p l e R s m args below meth c H locs cells slots QW (F0 m pc ls (.int i :: .ref (ad k) :: rest)) :=
  va_cald S.1.1 S.1.2.1 S.2.1.1 hG.1 k 1 (wsL_arr hk rfl) rfl hin hdg kk
theorem mza (S : SC A D ac st p m c cc nL s args own R cells slots F Lc) (hG : DG A D ac ad s σ H locs) {k : Nat} (hk : kd k = 22) {i : Int32} (hin : vp_in i 40) (hdg : decode cc pc = .ok (.baload, 1))
    (kk : W p l e R s m args below meth c H locs cells slots QW (F0 m (pc + 1) ls (.int (σ.1 k i.toNatClampNeg) :: rest))) : W p l e R s m args below meth c H locs cells slots QW (F0 m pc ls (.int i :: .ref (ad k) :: rest)) :=
  va_zald S.1.1 S.1.2.1 S.2.1.1 hG.1 k 2 (wsL_arr hk rfl) rfl hin hdg kk
theorem mq3 (S : SC A D ac st p m c cc nL s args own R cells slots F Lc) (hG : DG A D ac ad s σ H locs) {k : Nat} (hk : kd k = 23) {i : Int32} (hin : vp_in i 6) (hdg : decode cc pc = .ok (.aaload, 1))
    (kk : W p l e R s m args below meth c H locs cells slots QW (F0 m (pc + 1) ls (.ref (ad (k + 5 + 3 * i.toNatClampNeg)) :: rest))) : W p l e R s m args below meth c H locs cells slots QW (F0 m pc ls (.int i :: .ref (ad k) :: rest)) :=
  va_aldq S.1.1 S.1.2.1 S.2.1.1 hG.1 k 3 (wsL_ar3 hk) rfl hin hdg kk
theorem mq4 (S : SC A D ac st p m c cc nL s args own R cells slots F Lc) (hG : DG A D ac ad s σ H locs) {k : Nat} (hk : kd k = 24) {i : Int32} (hin : vp_in i 10) (hdg : decode cc pc = .ok (.aaload, 1))
    (kk : W p l e R s m args below meth c H locs cells slots QW (F0 m (pc + 1) ls (.ref (ad (k + 22 + i.toNatClampNeg)) :: rest))) : W p l e R s m args below meth c H locs cells slots QW (F0 m pc ls (.int i :: .ref (ad k) :: rest)) :=
  va_aldq S.1.1 S.1.2.1 S.2.1.1 hG.1 k 4 (wsL_ar4 hk) rfl hin hdg kk
theorem mq5 (S : SC A D ac st p m c cc nL s args own R cells slots F Lc) (hG : DG A D ac ad s σ H locs) {k : Nat} (hk : kd k = 25) {i : Int32} (hin : vp_in i 8) (hdg : decode cc pc = .ok (.aaload, 1))
    (kk : W p l e R s m args below meth c H locs cells slots QW (F0 m (pc + 1) ls (.ref (ad (k + 1 + 34 * i.toNatClampNeg)) :: rest))) : W p l e R s m args below meth c H locs cells slots QW (F0 m pc ls (.int i :: .ref (ad k) :: rest)) :=
  va_aldq S.1.1 S.1.2.1 S.2.1.1 hG.1 k 5 (wsL_ar5 hk) rfl hin hdg kk
theorem vin_lt {i : Int32} {n : Nat} (h : vp_in i n) : i.toNatClampNeg < n := Nat.not_le.mp fun q => h (Or.inr q)
theorem mis (S : SC A D ac st p m c cc nL s args own R cells slots F Lc) (hG : DG A D ac ad s σ H locs) {k : Nat} (kk0 : Nat) (hp : isPK kk0 = true) (ha : acK kk0 = 0) (hk : kd k = kk0) {i v : Int32} (hin : vp_in i (lnK kk0)) (hdg : decode cc pc = .ok (.iastore, 1))
    (kk : ∀ (σ1 : St), σ1 = wr σ k i.toNatClampNeg v → ∀ (H1 : Heap) (locs1 : List Loc), DG A D ac ad s σ1 H1 locs1 → W p l e R s m args below meth c H1 locs1 cells slots QW (F0 m (pc + 1) ls rest)) : W p l e R s m args below meth c H locs cells slots QW (F0 m pc ls (.int v :: .int i :: .ref (ad k) :: rest)) := by
  refine va_iast S.1.1 S.1.2.1 S.2.1.1 hG.1 hG.2.1 hG.2.2 k 0 (wsL_arr hk hp) (by rw [ha]; rfl) hin hdg (fun H1 locs1 h1 h2 h3 => ?_)
  rw [wsL_wrA hk hp] at h1 h2
  exact kk _ rfl H1 locs1 ⟨h1, h2, h3⟩
theorem mcs (S : SC A D ac st p m c cc nL s args own R cells slots F Lc) (hG : DG A D ac ad s σ H locs) {k : Nat} (hk : kd k = 21) {i v : Int32} (hin : vp_in i 80) (hdg : decode cc pc = .ok (.castore, 1))
    (kk : ∀ (σ1 : St), σ1 = wr σ k i.toNatClampNeg (vp_nar .char v) → ∀ (H1 : Heap) (locs1 : List Loc), DG A D ac ad s σ1 H1 locs1 → W p l e R s m args below meth c H1 locs1 cells slots QW (F0 m (pc + 1) ls rest)) : W p l e R s m args below meth c H locs cells slots QW (F0 m pc ls (.int v :: .int i :: .ref (ad k) :: rest)) := by
  refine va_cast S.1.1 S.1.2.1 S.2.1.1 hG.1 hG.2.1 hG.2.2 k 1 (wsL_arr hk rfl) rfl hin hdg (fun H1 locs1 h1 h2 h3 => ?_)
  rw [wsL_wrA hk rfl] at h1 h2
  exact kk _ rfl H1 locs1 ⟨h1, h2, h3⟩
theorem mzs (S : SC A D ac st p m c cc nL s args own R cells slots F Lc) (hG : DG A D ac ad s σ H locs) {k : Nat} (hk : kd k = 22) {i v : Int32} (hin : vp_in i 40) (hdg : decode cc pc = .ok (.bastore, 1))
    (kk : ∀ (σ1 : St), σ1 = wr σ k i.toNatClampNeg (vp_nar .boolean v) → ∀ (H1 : Heap) (locs1 : List Loc), DG A D ac ad s σ1 H1 locs1 → W p l e R s m args below meth c H1 locs1 cells slots QW (F0 m (pc + 1) ls rest)) : W p l e R s m args below meth c H locs cells slots QW (F0 m pc ls (.int v :: .int i :: .ref (ad k) :: rest)) := by
  refine va_zast S.1.1 S.1.2.1 S.2.1.1 hG.1 hG.2.1 hG.2.2 k 2 (wsL_arr hk rfl) rfl hin hdg (fun H1 locs1 h1 h2 h3 => ?_)
  rw [wsL_wrA hk rfl] at h1 h2
  exact kk _ rfl H1 locs1 ⟨h1, h2, h3⟩
theorem mcp (S : SC A D ac st p m c cc nL s args own R cells slots F Lc) (hsz : ls.size = nL) (hG : DG A D ac ad s σ H locs) {index : Nat} (hl : Cond.methodLink own index arraycopyName ∈ wA) (hnat : Cond.native arraycopyName ∈ wA) (hstat : Cond.static arraycopyName ∈ wA) (hini : Cond.initialized "java/lang/System" ∈ wA) {k0 k1 : Nat} (c0 c1 : Nat) (hp0 : isPK c0 = true) (hp1 : isPK c1 = true) (ha0 : acK c0 = 0) (ha1 : acK c1 = 0) (hk0 : kd k0 = c0) (hk1 : kd k1 = c1) {n : Int32} (h3 : ¬ n < 0) (h4 : n.toNatClampNeg ≤ lnK c0) (h5 : n.toNatClampNeg ≤ lnK c1) (hF : 1 ≤ F) (hLc : (rest.map fun v => v.category).sum + 18 ≤ Lc) (hdg : decode cc pc = .ok (.invokestatic index, 3))
    (kk : ∀ (σ1 : St), σ1 = wrA σ k1 (va_cpy (σ.1 k0) (σ.1 k1) 0 0 n.toNatClampNeg) → ∀ (H1 : Heap) (locs1 : List Loc), DG A D ac ad s σ1 H1 locs1 → W p l e R s m args below meth c H1 locs1 cells slots QW (F0 m (pc + 3) ls rest)) : W p l e R s m args below meth c H locs cells slots QW (F0 m pc ls (.int n :: .int 0 :: .ref (ad k1) :: .int 0 :: .ref (ad k0) :: rest)) := by
  have hnf : nativeFrameWords "java/lang/System" "arraycopy" 5 + 11 = 18 := by decide
  have z0 : (0 : Int32).toNatClampNeg = 0 := by decide
  refine va_copyi S.1.1 S.1.2.1 (S.1.2.2.1.trans hsz.symm) S.1.2.2.2.1 (S.1.2.2.2.2 _ hl) (S.1.2.2.2.2 _ hnat) (S.1.2.2.2.2 _ hstat) (S.1.2.2.2.2 _ hini) S.2.1.1 hG.1 hG.2.1 hG.2.2 k0 k1 0 0 (ty := .int) (wsL_arr hk0 hp0) (wsL_arr hk1 hp1) (by rw [ha0]; rfl) (by rw [ha1]; rfl) rfl (by decide) (by decide) h3 (by rw [z0]; omega) (by rw [z0]; omega) (fun _ _ => rfl) (Nat.le_trans hF S.2.2.2.1) (by rw [hnf]; exact Nat.le_trans hLc S.2.2.2.2) hdg (fun H1 locs1 h1 h2 h3 => ?_)
  rw [wsL_wrA hk1 hp1, z0] at h1 h2
  exact kk _ rfl H1 locs1 ⟨h1, h2, h3⟩
theorem mgs (S : SC A D ac st p m c cc nL s args own R cells slots F Lc) (hG : DG A D ac ad s σ H locs) (j : Nat) (hj : j < 3) {index : Nat} (hl : Cond.fieldLink own index "SweeperRounds" (stN j) "[I" ∈ wA) (hdg : decode cc pc = .ok (.getstatic index, 3))
    (kk : W p l e R s m args below meth c H locs cells slots QW (F0 m (pc + 3) ls (.ref (st j) :: rest))) : W p l e R s m args below meth c H locs cells slots QW (F0 m pc ls rest) :=
  va_gets S.1.1 S.1.2.1 (S.2.1.2.2.2 j hj).1 hG.2.2 S.1.2.2.2.1 (S.1.2.2.2.2 _ hl) (fun _ h => h) hdg kk
theorem mgsN (S : SC A D ac st p m c cc nL s args own R cells slots F Lc) (hG : DG A D ac ad s σ H locs) (j : Nat) (hj : j < 3) {index : Nat} {host : String} (hl : (own, index, "SweeperRounds", stN j, "[I", host) ∈ nestF) (hdg : decode cc pc = .ok (.getstatic index, 3))
    (kk : W p l e R s m args below meth c H locs cells slots QW (F0 m (pc + 3) ls (.ref (st j) :: rest))) : W p l e R s m args below meth c H locs cells slots QW (F0 m pc ls rest) :=
  va_getsN S.1.1 S.1.2.1 (S.2.1.2.2.2 j hj).1 hG.2.2 S.1.2.2.2.1 (va_Nw.use rfl (S.2.1.2.2.1 _ hl)) (fun _ h => h) hdg kk
theorem mts (S : SC A D ac st p m c cc nL s args own R cells slots F Lc) (hG : DG A D ac ad s σ H locs) (j : Nat) (hj : j < 3) {i : Int32} (hin : vp_in i 6) (hdg : decode cc pc = .ok (.iaload, 1))
    (kk : W p l e R s m args below meth c H locs cells slots QW (F0 m (pc + 1) ls (.int (stV j i.toNatClampNeg) :: rest))) : W p l e R s m args below meth c H locs cells slots QW (F0 m pc ls (.int i :: .ref (st j) :: rest)) :=
  va_ti S.1.1 S.1.2.1 (S.2.1.2.2.2 j hj).2 hG.2.2 hin rfl hdg kk
/-- the words of a call -/
theorem mcw {C : String} {y : MethodName} {bytes : ByteArray} {maxL n index F' L' : Nat} {ret : Option FieldType} (S : SC A D ac st p m c cc nL s args own R cells slots F Lc) (h1 : Cond.methodLink own index y ∈ wA) (h2 : Cond.instanceMethod y ∈ wA) (h3 : Cond.selects C y y ∈ wA) (h4 : Cond.initialized C ∈ wA) (h5 : Cond.code y bytes maxL ret ∈ wA) (hd : y.cls = C ∧ y.cls ≠ "java/lang/invoke/MethodHandle" ∧ y.cls ≠ "java/lang/invoke/VarHandle" ∧ (parseMethodDescriptor y.desc).map (fun d => d.parameters.length) = some n) (hR : F' + 1 ≤ F ∧ 8 + (maxL + 11) + L' ≤ Lc) :
    CallW R s args own C index y bytes maxL ret (Cond.code y bytes maxL ret :: wA) { frames := F', cells := 0, slots := 0, locals := L' } 0 0 n :=
  cwV n S.1.2.2.2.2 (wA_in (fun w hw => (List.mem_append.mp hw).elim (fun q => by simp at q; rcases q with rfl | rfl | rfl | rfl <;> assumption) (wA_cons h5 w))) rfl rfl rfl hd ⟨Nat.le_trans hR.1 S.2.2.2.1, Nat.le_trans hR.2 S.2.2.2.2⟩
theorem mcws {y : MethodName} {bytes : ByteArray} {maxL n index F' L' : Nat} {ret : Option FieldType} (S : SC A D ac st p m c cc nL s args own R cells slots F Lc) (h1 : Cond.methodLink own index y ∈ wA) (h2 : Cond.static y ∈ wA) (h4 : Cond.initialized own ∈ wA) (h5 : Cond.code y bytes maxL ret ∈ wA) (hd : y.cls = own ∧ y.cls ≠ "java/lang/invoke/MethodHandle" ∧ y.cls ≠ "java/lang/invoke/VarHandle" ∧ (parseMethodDescriptor y.desc).map (fun d => d.parameters.length) = some n) (hR : F' + 1 ≤ F ∧ 8 + (maxL + 11) + L' ≤ Lc) :
    CallB R s args own index y bytes maxL ret (Cond.code y bytes maxL ret :: wA) { frames := F', cells := 0, slots := 0, locals := L' } 0 0 n ∧ (Cond.static y).before args s = true :=
  cwS n S.1.2.2.2.2 (wA_in (fun w hw => (List.mem_append.mp hw).elim (fun q => by simp at q; rcases q with rfl | rfl | rfl <;> assumption) (wA_cons h5 w))) rfl rfl rfl hd ⟨Nat.le_trans hR.1 S.2.2.2.1, Nat.le_trans hR.2 S.2.2.2.2⟩
theorem mcwn {y : MethodName} {bytes : ByteArray} {maxL n index F' L' : Nat} {ret : Option FieldType} {host : String} (S : SC A D ac st p m c cc nL s args own R cells slots F Lc) (h1 : (own, index, y, host) ∈ nestM) (h2 : Cond.static y ∈ wA) (h4 : Cond.initialized y.cls ∈ wA) (h5 : Cond.code y bytes maxL ret ∈ wA) (hd : y.cls ≠ "java/lang/invoke/MethodHandle" ∧ y.cls ≠ "java/lang/invoke/VarHandle" ∧ (parseMethodDescriptor y.desc).map (fun d => d.parameters.length) = some n) (hR : F' + 1 ≤ F ∧ 8 + (maxL + 11) + L' ≤ Lc) :
    va_CN R s args own index y host bytes maxL ret (Cond.code y bytes maxL ret :: wA) { frames := F', cells := 0, slots := 0, locals := L' } 0 0 n ∧ (Cond.static y).before args s = true ∧ True :=
  ⟨va_cnB n S.1.2.2.2.2 (wA_in (wA_cons h5)) rfl rfl rfl (S.2.1.2.1 _ h1) (S.1.2.2.2.2 _ h4) hd ⟨Nat.le_trans hR.1 S.2.2.2.1, Nat.le_trans hR.2 S.2.2.2.2⟩, S.1.2.2.2.2 _ h2, trivial⟩

theorem mcVi {y : MethodName} {bytes : ByteArray} {maxL n index F' L' ci kb : Nat} {C : String} {T : u_T} {N : Nat} {rt : Option FieldType} (As : List Value) {Q : Int32 → St → Prop} (S : SC A D ac st p m c cc nL s args own R cells slots F Lc) (hsz : ls.size = nL) (hG : DG A D ac ad s σ H locs) (hM : Met l y (Cond.code y bytes maxL rt :: wA) { frames := F', cells := 0, slots := 0, locals := L' } (va_Pc (.ref (ad kb) :: As) (GSt A D ac ad st σ)) (va_Qi Q (GSt A D ac ad st) A) 0 0 A) (cw : CallW R s args own C index y bytes maxL rt (Cond.code y bytes maxL rt :: wA) { frames := F', cells := 0, slots := 0, locals := L' } 0 0 n) (hc : classes[ci]? = some (C, T, N)) (hci : ci < 20) (hkb : kd kb = ci) (hn : As.length = n) (hcat : (rest.map fun v => v.category).sum ≤ 8) (hdg : decode cc pc = .ok (.invokevirtual index, 3))
    (kk : ∀ (r : Int32) (u : St), Q r u → ∀ (H1 : Heap) (locs1 : List Loc), DG A D ac ad s u H1 locs1 → W p l e R s m args below meth c H1 locs1 cells slots QW (F0 m (pc + 3) ls (.int r :: rest))) : W p l e R s m args below meth c H locs cells slots QW (F0 m pc ls (As.reverse ++ .ref (ad kb) :: rest)) := by
  refine va_calli (va_runV (As := As) (rest := rest) S.1 hM cw ⟨GSt.blind, va_recv S.2.1.1 hG.1 hc (wsL_obj hkb hci), fun U hU hW => ⟨rfl, by rw [hU]; exact hG.1, hG.2.1, S.2.1.on hW hG.2.2 hU⟩⟩ rfl hn hsz rfl (lv_room hcat) hdg ⟨S.2.2.1.1, S.2.2.1.2⟩) hG.2.2 (fun q _ h => h) (fun q h => h) (fun r u t H1 locs1 ht hvm hq hB hz1 hk1 hS => ?_)
  subst ht
  exact kk r u hq t.heap locs1 ⟨hB.1, hB.2.1, hS⟩
theorem mcVl {y : MethodName} {bytes : ByteArray} {maxL n index F' L' ci kb : Nat} {C : String} {T : u_T} {N : Nat} {rt : Option FieldType} (As : List Value) {Q : Int64 → St → Prop} (S : SC A D ac st p m c cc nL s args own R cells slots F Lc) (hsz : ls.size = nL) (hG : DG A D ac ad s σ H locs) (hM : Met l y (Cond.code y bytes maxL rt :: wA) { frames := F', cells := 0, slots := 0, locals := L' } (va_Pc (.ref (ad kb) :: As) (GSt A D ac ad st σ)) (va_Ql Q (GSt A D ac ad st) A) 0 0 A) (cw : CallW R s args own C index y bytes maxL rt (Cond.code y bytes maxL rt :: wA) { frames := F', cells := 0, slots := 0, locals := L' } 0 0 n) (hc : classes[ci]? = some (C, T, N)) (hci : ci < 20) (hkb : kd kb = ci) (hn : As.length = n) (hcat : (rest.map fun v => v.category).sum ≤ 8) (hdg : decode cc pc = .ok (.invokevirtual index, 3))
    (kk : ∀ (r : Int64) (u : St), Q r u → ∀ (H1 : Heap) (locs1 : List Loc), DG A D ac ad s u H1 locs1 → W p l e R s m args below meth c H1 locs1 cells slots QW (F0 m (pc + 3) ls (.long r :: rest))) : W p l e R s m args below meth c H locs cells slots QW (F0 m pc ls (As.reverse ++ .ref (ad kb) :: rest)) := by
  refine va_calll (va_runV (As := As) (rest := rest) S.1 hM cw ⟨GSt.blind, va_recv S.2.1.1 hG.1 hc (wsL_obj hkb hci), fun U hU hW => ⟨rfl, by rw [hU]; exact hG.1, hG.2.1, S.2.1.on hW hG.2.2 hU⟩⟩ rfl hn hsz rfl (lv_room hcat) hdg ⟨S.2.2.1.1, S.2.2.1.2⟩) hG.2.2 (fun q _ h => h) (fun q h => h) (fun r u t H1 locs1 ht hvm hq hB hz1 hk1 hS => ?_)
  subst ht
  exact kk r u hq t.heap locs1 ⟨hB.1, hB.2.1, hS⟩
theorem mcVv {y : MethodName} {bytes : ByteArray} {maxL n index F' L' ci kb : Nat} {C : String} {T : u_T} {N : Nat} {rt : Option FieldType} (As : List Value) {Q : St → Prop} (S : SC A D ac st p m c cc nL s args own R cells slots F Lc) (hsz : ls.size = nL) (hG : DG A D ac ad s σ H locs) (hM : Met l y (Cond.code y bytes maxL rt :: wA) { frames := F', cells := 0, slots := 0, locals := L' } (va_Pc (.ref (ad kb) :: As) (GSt A D ac ad st σ)) (va_Qv Q (GSt A D ac ad st) A) 0 0 A) (cw : CallW R s args own C index y bytes maxL rt (Cond.code y bytes maxL rt :: wA) { frames := F', cells := 0, slots := 0, locals := L' } 0 0 n) (hc : classes[ci]? = some (C, T, N)) (hci : ci < 20) (hkb : kd kb = ci) (hn : As.length = n) (hcat : (rest.map fun v => v.category).sum ≤ 8) (hdg : decode cc pc = .ok (.invokevirtual index, 3))
    (kk : ∀ (u : St), Q u → ∀ (H1 : Heap) (locs1 : List Loc), DG A D ac ad s u H1 locs1 → W p l e R s m args below meth c H1 locs1 cells slots QW (F0 m (pc + 3) ls (rest))) : W p l e R s m args below meth c H locs cells slots QW (F0 m pc ls (As.reverse ++ .ref (ad kb) :: rest)) := by
  refine va_callv (va_runV (As := As) (rest := rest) S.1 hM cw ⟨GSt.blind, va_recv S.2.1.1 hG.1 hc (wsL_obj hkb hci), fun U hU hW => ⟨rfl, by rw [hU]; exact hG.1, hG.2.1, S.2.1.on hW hG.2.2 hU⟩⟩ rfl hn hsz rfl (lv_room hcat) hdg ⟨S.2.2.1.1, S.2.2.1.2⟩) hG.2.2 (fun q _ h => h) (fun q h => h) (fun u t H1 locs1 ht hvm hq hB hz1 hk1 hS => ?_)
  subst ht
  exact kk u hq t.heap locs1 ⟨hB.1, hB.2.1, hS⟩
theorem mcSi {y : MethodName} {bytes : ByteArray} {maxL n index F' L' : Nat} {rt : Option FieldType} (As : List Value) {Q : Int32 → St → Prop} (S : SC A D ac st p m c cc nL s args own R cells slots F Lc) (hsz : ls.size = nL) (hG : DG A D ac ad s σ H locs) (hM : Met l y (Cond.code y bytes maxL rt :: wA) { frames := F', cells := 0, slots := 0, locals := L' } (va_Pc (As) (GSt A D ac ad st σ)) (va_Qi Q (GSt A D ac ad st) A) 0 0 A) (cw : CallB R s args own index y bytes maxL rt (Cond.code y bytes maxL rt :: wA) { frames := F', cells := 0, slots := 0, locals := L' } 0 0 n ∧ (Cond.static y).before args s = true) (hn : As.length = n) (hcat : (rest.map fun v => v.category).sum ≤ 8) (hdg : decode cc pc = .ok (.invokestatic index, 3))
    (kk : ∀ (r : Int32) (u : St), Q r u → ∀ (H1 : Heap) (locs1 : List Loc), DG A D ac ad s u H1 locs1 → W p l e R s m args below meth c H1 locs1 cells slots QW (F0 m (pc + 3) ls (.int r :: rest))) : W p l e R s m args below meth c H locs cells slots QW (F0 m pc ls (As.reverse ++ rest)) := by
  refine va_calli (va_runS (As := As) (rest := rest) S.1 hM cw ⟨GSt.blind, fun U hU hW => ⟨rfl, by rw [hU]; exact hG.1, hG.2.1, S.2.1.on hW hG.2.2 hU⟩⟩ rfl hn hsz rfl (lv_room hcat) hdg ⟨S.2.2.1.1, S.2.2.1.2⟩) hG.2.2 (fun q _ h => h) (fun q h => h) (fun r u t H1 locs1 ht hvm hq hB hz1 hk1 hS => ?_)
  subst ht
  exact kk r u hq t.heap locs1 ⟨hB.1, hB.2.1, hS⟩
theorem mcSl {y : MethodName} {bytes : ByteArray} {maxL n index F' L' : Nat} {rt : Option FieldType} (As : List Value) {Q : Int64 → St → Prop} (S : SC A D ac st p m c cc nL s args own R cells slots F Lc) (hsz : ls.size = nL) (hG : DG A D ac ad s σ H locs) (hM : Met l y (Cond.code y bytes maxL rt :: wA) { frames := F', cells := 0, slots := 0, locals := L' } (va_Pc (As) (GSt A D ac ad st σ)) (va_Ql Q (GSt A D ac ad st) A) 0 0 A) (cw : CallB R s args own index y bytes maxL rt (Cond.code y bytes maxL rt :: wA) { frames := F', cells := 0, slots := 0, locals := L' } 0 0 n ∧ (Cond.static y).before args s = true) (hn : As.length = n) (hcat : (rest.map fun v => v.category).sum ≤ 8) (hdg : decode cc pc = .ok (.invokestatic index, 3))
    (kk : ∀ (r : Int64) (u : St), Q r u → ∀ (H1 : Heap) (locs1 : List Loc), DG A D ac ad s u H1 locs1 → W p l e R s m args below meth c H1 locs1 cells slots QW (F0 m (pc + 3) ls (.long r :: rest))) : W p l e R s m args below meth c H locs cells slots QW (F0 m pc ls (As.reverse ++ rest)) := by
  refine va_calll (va_runS (As := As) (rest := rest) S.1 hM cw ⟨GSt.blind, fun U hU hW => ⟨rfl, by rw [hU]; exact hG.1, hG.2.1, S.2.1.on hW hG.2.2 hU⟩⟩ rfl hn hsz rfl (lv_room hcat) hdg ⟨S.2.2.1.1, S.2.2.1.2⟩) hG.2.2 (fun q _ h => h) (fun q h => h) (fun r u t H1 locs1 ht hvm hq hB hz1 hk1 hS => ?_)
  subst ht
  exact kk r u hq t.heap locs1 ⟨hB.1, hB.2.1, hS⟩
theorem mcSv {y : MethodName} {bytes : ByteArray} {maxL n index F' L' : Nat} {rt : Option FieldType} (As : List Value) {Q : St → Prop} (S : SC A D ac st p m c cc nL s args own R cells slots F Lc) (hsz : ls.size = nL) (hG : DG A D ac ad s σ H locs) (hM : Met l y (Cond.code y bytes maxL rt :: wA) { frames := F', cells := 0, slots := 0, locals := L' } (va_Pc (As) (GSt A D ac ad st σ)) (va_Qv Q (GSt A D ac ad st) A) 0 0 A) (cw : CallB R s args own index y bytes maxL rt (Cond.code y bytes maxL rt :: wA) { frames := F', cells := 0, slots := 0, locals := L' } 0 0 n ∧ (Cond.static y).before args s = true) (hn : As.length = n) (hcat : (rest.map fun v => v.category).sum ≤ 8) (hdg : decode cc pc = .ok (.invokestatic index, 3))
    (kk : ∀ (u : St), Q u → ∀ (H1 : Heap) (locs1 : List Loc), DG A D ac ad s u H1 locs1 → W p l e R s m args below meth c H1 locs1 cells slots QW (F0 m (pc + 3) ls (rest))) : W p l e R s m args below meth c H locs cells slots QW (F0 m pc ls (As.reverse ++ rest)) := by
  refine va_callv (va_runS (As := As) (rest := rest) S.1 hM cw ⟨GSt.blind, fun U hU hW => ⟨rfl, by rw [hU]; exact hG.1, hG.2.1, S.2.1.on hW hG.2.2 hU⟩⟩ rfl hn hsz rfl (lv_room hcat) hdg ⟨S.2.2.1.1, S.2.2.1.2⟩) hG.2.2 (fun q _ h => h) (fun q h => h) (fun u t H1 locs1 ht hvm hq hB hz1 hk1 hS => ?_)
  subst ht
  exact kk u hq t.heap locs1 ⟨hB.1, hB.2.1, hS⟩
theorem mcNi {y : MethodName} {bytes : ByteArray} {maxL n index F' L' : Nat} {rt : Option FieldType} {host : String} (As : List Value) {Q : Int32 → St → Prop} (S : SC A D ac st p m c cc nL s args own R cells slots F Lc) (hsz : ls.size = nL) (hG : DG A D ac ad s σ H locs) (hM : Met l y (Cond.code y bytes maxL rt :: wA) { frames := F', cells := 0, slots := 0, locals := L' } (va_Pc (As) (GSt A D ac ad st σ)) (va_Qi Q (GSt A D ac ad st) A) 0 0 A) (cw : va_CN R s args own index y host bytes maxL rt (Cond.code y bytes maxL rt :: wA) { frames := F', cells := 0, slots := 0, locals := L' } 0 0 n ∧ (Cond.static y).before args s = true ∧ True) (hn : As.length = n) (hcat : (rest.map fun v => v.category).sum ≤ 8) (hdg : decode cc pc = .ok (.invokestatic index, 3))
    (kk : ∀ (r : Int32) (u : St), Q r u → ∀ (H1 : Heap) (locs1 : List Loc), DG A D ac ad s u H1 locs1 → W p l e R s m args below meth c H1 locs1 cells slots QW (F0 m (pc + 3) ls (.int r :: rest))) : W p l e R s m args below meth c H locs cells slots QW (F0 m pc ls (As.reverse ++ rest)) := by
  refine va_calli (va_runSN (As := As) (rest := rest) S.1 hM cw ⟨GSt.blind, fun U hU hW => ⟨rfl, by rw [hU]; exact hG.1, hG.2.1, S.2.1.on hW hG.2.2 hU⟩⟩ rfl hn hsz rfl (lv_room hcat) hdg ⟨S.2.2.1.1, S.2.2.1.2⟩) hG.2.2 (fun q _ h => h) (fun q h => h) (fun r u t H1 locs1 ht hvm hq hB hz1 hk1 hS => ?_)
  subst ht
  exact kk r u hq t.heap locs1 ⟨hB.1, hB.2.1, hS⟩
theorem mmn (S : SC A D ac st p m c cc nL s args own R cells slots F Lc) (hsz : ls.size = nL) {index : Nat} (hl : Cond.methodLink own index Lib.Math.min.name ∈ wA) (h2 : Cond.static Lib.Math.min.name ∈ wA) (h3 : Cond.initialized "java/lang/Math" ∈ wA) (h4 : Cond.code Lib.Math.min.name Lib.Math.min.code 2 (some .int) ∈ wA) (hF : 1 ≤ F) (hLc : (rest.map fun v => v.category).sum + 13 ≤ Lc) {x y : Int32} (hdg : decode cc pc = .ok (.invokestatic index, 3))
    (kk : W p l e R s m args below meth c H locs cells slots QW (F0 m (pc + 3) ls (.int (if y < x then y else x) :: rest))) : W p l e R s m args below meth c H locs cells slots QW (F0 m pc ls (.int y :: .int x :: rest)) :=
  va_mmin S.1.1 S.1.2.1 (S.1.2.2.1.trans hsz.symm) S.1.2.2.2.1 (S.1.2.2.2.2 _ hl) (S.1.2.2.2.2 _ h2) (S.1.2.2.2.2 _ h3) (S.1.2.2.2.2 _ h4) (Nat.le_trans hF S.2.2.2.1) (Nat.le_trans hLc S.2.2.2.2) S.2.2.1.1 S.2.2.1.2 hdg kk
theorem mmx (S : SC A D ac st p m c cc nL s args own R cells slots F Lc) (hsz : ls.size = nL) {index : Nat} (hl : Cond.methodLink own index Lib.Math.max.name ∈ wA) (h2 : Cond.static Lib.Math.max.name ∈ wA) (h3 : Cond.initialized "java/lang/Math" ∈ wA) (h4 : Cond.code Lib.Math.max.name Lib.Math.max.code 2 (some .int) ∈ wA) (hF : 1 ≤ F) (hLc : (rest.map fun v => v.category).sum + 13 ≤ Lc) {x y : Int32} (hdg : decode cc pc = .ok (.invokestatic index, 3))
    (kk : W p l e R s m args below meth c H locs cells slots QW (F0 m (pc + 3) ls (.int (if x < y then y else x) :: rest))) : W p l e R s m args below meth c H locs cells slots QW (F0 m pc ls (.int y :: .int x :: rest)) :=
  va_mmax S.1.1 S.1.2.1 (S.1.2.2.1.trans hsz.symm) S.1.2.2.2.1 (S.1.2.2.2.2 _ hl) (S.1.2.2.2.2 _ h2) (S.1.2.2.2.2 _ h3) (S.1.2.2.2.2 _ h4) (Nat.le_trans hF S.2.2.2.1) (Nat.le_trans hLc S.2.2.2.2) S.2.2.1.1 S.2.2.1.2 hdg kk
theorem mab (S : SC A D ac st p m c cc nL s args own R cells slots F Lc) (hsz : ls.size = nL) {index : Nat} (hl : Cond.methodLink own index Lib.Math.abs.name ∈ wA) (h2 : Cond.static Lib.Math.abs.name ∈ wA) (h3 : Cond.initialized "java/lang/Math" ∈ wA) (h4 : Cond.code Lib.Math.abs.name Lib.Math.abs.code 1 (some .int) ∈ wA) (hF : 1 ≤ F) (hLc : (rest.map fun v => v.category).sum + 13 ≤ Lc) {x : Int32} (hdg : decode cc pc = .ok (.invokestatic index, 3))
    (kk : W p l e R s m args below meth c H locs cells slots QW (F0 m (pc + 3) ls (.int (if 0 ≤ x then x else 0 - x) :: rest))) : W p l e R s m args below meth c H locs cells slots QW (F0 m pc ls (.int x :: rest)) :=
  va_mabs S.1.1 S.1.2.1 (S.1.2.2.1.trans hsz.symm) S.1.2.2.2.1 (S.1.2.2.2.2 _ hl) (S.1.2.2.2.2 _ h2) (S.1.2.2.2.2 _ h3) (S.1.2.2.2.2 _ h4) (Nat.le_trans hF S.2.2.2.1) (Nat.le_trans hLc S.2.2.2.2) S.2.2.1.1 S.2.2.1.2 hdg kk
end RW
/-- what a method's body may use at its returns -/
def RtI (A : Nat → Prop) (D : va_G) (ac : Nat → ClassId) (ad : Nat → Nat) (p : Program) (l : Launch) (e : Env) (R : Room) (s : State) (m : MethodId) (args : Array Value) (below : List Frame) (meth : Method) (c : Code) (cc : ByteArray) (cells slots : Nat) (QW : State → Prop) (Q : Int32 → St → Prop) : Prop :=
  ∀ (v : Int32) (u : St) (H : Heap) (locs : List Loc) (pc : Nat) (ls : Array Slot), DG A D ac ad s u H locs → Q v u → decode cc pc = .ok (.ireturn, 1) → W p l e R s m args below meth c H locs cells slots QW (F0 m pc ls [.int v])
def RtZ (A : Nat → Prop) (D : va_G) (ac : Nat → ClassId) (ad : Nat → Nat) (p : Program) (l : Launch) (e : Env) (R : Room) (s : State) (m : MethodId) (args : Array Value) (below : List Frame) (meth : Method) (c : Code) (cc : ByteArray) (cells slots : Nat) (QW : State → Prop) (Q : Int32 → St → Prop) : Prop :=
  ∀ (v : Int32) (u : St) (H : Heap) (locs : List Loc) (pc : Nat) (ls : Array Slot), DG A D ac ad s u H locs → isB v → Q v u → decode cc pc = .ok (.ireturn, 1) → W p l e R s m args below meth c H locs cells slots QW (F0 m pc ls [.int v])
def RtL (A : Nat → Prop) (D : va_G) (ac : Nat → ClassId) (ad : Nat → Nat) (p : Program) (l : Launch) (e : Env) (R : Room) (s : State) (m : MethodId) (args : Array Value) (below : List Frame) (meth : Method) (c : Code) (cc : ByteArray) (cells slots : Nat) (QW : State → Prop) (Q : Int64 → St → Prop) : Prop :=
  ∀ (v : Int64) (u : St) (H : Heap) (locs : List Loc) (pc : Nat) (ls : Array Slot), DG A D ac ad s u H locs → Q v u → decode cc pc = .ok (.lreturn, 1) → W p l e R s m args below meth c H locs cells slots QW (F0 m pc ls [.long v])
def RtV (A : Nat → Prop) (D : va_G) (ac : Nat → ClassId) (ad : Nat → Nat) (p : Program) (l : Launch) (e : Env) (R : Room) (s : State) (m : MethodId) (args : Array Value) (below : List Frame) (meth : Method) (c : Code) (cc : ByteArray) (cells slots : Nat) (QW : State → Prop) (Q : St → Prop) : Prop :=
  ∀ (u : St) (H : Heap) (locs : List Loc) (pc : Nat) (ls : Array Slot), DG A D ac ad s u H locs → Q u → decode cc pc = .ok (.return_, 1) → W p l e R s m args below meth c H locs cells slots QW (F0 m pc ls [])
theorem mkI (l : Launch) {y : MethodName} {own : String} {bytes : ByteArray} {nL F Lc : Nat} {D : va_G} {ac : Nat → ClassId} {ad st : Nat → Nat} {A : Nat → Prop} {σ : St} {Q : Int32 → St → Prop} (hy : plainName y.cls = true) (hown : y.cls = own) (vals : List Value) (hlen : (lg_sl vals).length ≤ nL)
    (body : ∀ (p : Program) (e : Env) (s : State) (m : MethodId) (args : Array Value) (below : List Frame) (meth : Method) (c : Code) (ls : Array Slot) (QW : State → Prop), SC A D ac st p m c bytes nL s args own { frames := F, cells := 0, slots := 0, locals := Lc } 0 0 F Lc → RtI A D ac ad p l e { frames := F, cells := 0, slots := 0, locals := Lc } s m args below meth c bytes 0 0 QW Q → DG A D ac ad s σ s.heap [] → lv_has ls nL (lv_args 0 vals) →
      W p l e { frames := F, cells := 0, slots := 0, locals := Lc } s m args below meth c s.heap [] 0 0 QW (F0 m 0 ls [])) :
    Met l y (Cond.code y bytes nL (some .int) :: wA) { frames := F, cells := 0, slots := 0, locals := Lc } (va_Pc vals (GSt A D ac ad st σ)) (va_Qi Q (GSt A D ac ad st) A) 0 0 A := by
  subst hown
  refine Met.ofW (cc := bytes) (maxL := nL) (ret := (some .int)) hy rfl ?_
  intro p e s m args below meth c s₁ B hml hv
  obtain ⟨rfl, hP, hD, hK⟩ := hv
  have hx := B.exec
  have hb := B.bytes
  have hr := B.returns
  have hts : ∀ w ∈ wA, w.before vals.toArray s = true := fun w hw => atoms_spec (ws := Cond.code y bytes nL (some .int) :: wA) B.pre w (List.mem_cons_of_mem _ hw)
  have hown : s.vm.findClass y.cls = some m.cls := findClass_of_methodNamed B.named
  have hlocks := B.notSynchronized
  have hl := lv_entry vals (n := nL) hlen
  rw [lg_entry_eq]
  generalize (lg_sl vals ++ List.replicate (nL - (lg_sl vals).length) Slot.unset).toArray = ls at hl ⊢
  refine body p e s m vals.toArray below meth c ls _ ⟨⟨hx, hb, hml, hown, hts⟩, hK, ⟨Nat.le_refl _, Nat.le_refl _⟩, Nat.le_refl _, Nat.le_refl _⟩ ?_ ⟨hP, hD, va_S.rf⟩ hl
  intro v u H locs pc ls hG hq hdg
  exact W.iret hx hb hr  (fun t ht hW => ⟨⟨v, u, rfl, hq, by rw [ht]; exact hG.1, hG.2.1, hK.on hW hG.2.2 ht⟩, hG.2.2.F ht⟩) hG.2.2.2.2 hdg
theorem mkZ (l : Launch) {y : MethodName} {own : String} {bytes : ByteArray} {nL F Lc : Nat} {D : va_G} {ac : Nat → ClassId} {ad st : Nat → Nat} {A : Nat → Prop} {σ : St} {Q : Int32 → St → Prop} (hy : plainName y.cls = true) (hown : y.cls = own) (vals : List Value) (hlen : (lg_sl vals).length ≤ nL)
    (body : ∀ (p : Program) (e : Env) (s : State) (m : MethodId) (args : Array Value) (below : List Frame) (meth : Method) (c : Code) (ls : Array Slot) (QW : State → Prop), SC A D ac st p m c bytes nL s args own { frames := F, cells := 0, slots := 0, locals := Lc } 0 0 F Lc → RtZ A D ac ad p l e { frames := F, cells := 0, slots := 0, locals := Lc } s m args below meth c bytes 0 0 QW Q → DG A D ac ad s σ s.heap [] → lv_has ls nL (lv_args 0 vals) →
      W p l e { frames := F, cells := 0, slots := 0, locals := Lc } s m args below meth c s.heap [] 0 0 QW (F0 m 0 ls [])) :
    Met l y (Cond.code y bytes nL (some .boolean) :: wA) { frames := F, cells := 0, slots := 0, locals := Lc } (va_Pc vals (GSt A D ac ad st σ)) (va_Qi Q (GSt A D ac ad st) A) 0 0 A := by
  subst hown
  refine Met.ofW (cc := bytes) (maxL := nL) (ret := (some .boolean)) hy rfl ?_
  intro p e s m args below meth c s₁ B hml hv
  obtain ⟨rfl, hP, hD, hK⟩ := hv
  have hx := B.exec
  have hb := B.bytes
  have hr := B.returns
  have hts : ∀ w ∈ wA, w.before vals.toArray s = true := fun w hw => atoms_spec (ws := Cond.code y bytes nL (some .boolean) :: wA) B.pre w (List.mem_cons_of_mem _ hw)
  have hown : s.vm.findClass y.cls = some m.cls := findClass_of_methodNamed B.named
  have hlocks := B.notSynchronized
  have hl := lv_entry vals (n := nL) hlen
  rw [lg_entry_eq]
  generalize (lg_sl vals ++ List.replicate (nL - (lg_sl vals).length) Slot.unset).toArray = ls at hl ⊢
  refine body p e s m vals.toArray below meth c ls _ ⟨⟨hx, hb, hml, hown, hts⟩, hK, ⟨Nat.le_refl _, Nat.le_refl _⟩, Nat.le_refl _, Nat.le_refl _⟩ ?_ ⟨hP, hD, va_S.rf⟩ hl
  intro v u H locs pc ls hG hv hq hdg
  exact W.zret hx hb hr (isB_nar hv) (fun t ht hW => ⟨⟨v, u, rfl, hq, by rw [ht]; exact hG.1, hG.2.1, hK.on hW hG.2.2 ht⟩, hG.2.2.F ht⟩) hG.2.2.2.2 hdg
theorem mkL (l : Launch) {y : MethodName} {own : String} {bytes : ByteArray} {nL F Lc : Nat} {D : va_G} {ac : Nat → ClassId} {ad st : Nat → Nat} {A : Nat → Prop} {σ : St} {Q : Int64 → St → Prop} (hy : plainName y.cls = true) (hown : y.cls = own) (vals : List Value) (hlen : (lg_sl vals).length ≤ nL)
    (body : ∀ (p : Program) (e : Env) (s : State) (m : MethodId) (args : Array Value) (below : List Frame) (meth : Method) (c : Code) (ls : Array Slot) (QW : State → Prop), SC A D ac st p m c bytes nL s args own { frames := F, cells := 0, slots := 0, locals := Lc } 0 0 F Lc → RtL A D ac ad p l e { frames := F, cells := 0, slots := 0, locals := Lc } s m args below meth c bytes 0 0 QW Q → DG A D ac ad s σ s.heap [] → lv_has ls nL (lv_args 0 vals) →
      W p l e { frames := F, cells := 0, slots := 0, locals := Lc } s m args below meth c s.heap [] 0 0 QW (F0 m 0 ls [])) :
    Met l y (Cond.code y bytes nL (some .long) :: wA) { frames := F, cells := 0, slots := 0, locals := Lc } (va_Pc vals (GSt A D ac ad st σ)) (va_Ql Q (GSt A D ac ad st) A) 0 0 A := by
  subst hown
  refine Met.ofW (cc := bytes) (maxL := nL) (ret := (some .long)) hy rfl ?_
  intro p e s m args below meth c s₁ B hml hv
  obtain ⟨rfl, hP, hD, hK⟩ := hv
  have hx := B.exec
  have hb := B.bytes
  have hr := B.returns
  have hts : ∀ w ∈ wA, w.before vals.toArray s = true := fun w hw => atoms_spec (ws := Cond.code y bytes nL (some .long) :: wA) B.pre w (List.mem_cons_of_mem _ hw)
  have hown : s.vm.findClass y.cls = some m.cls := findClass_of_methodNamed B.named
  have hlocks := B.notSynchronized
  have hl := lv_entry vals (n := nL) hlen
  rw [lg_entry_eq]
  generalize (lg_sl vals ++ List.replicate (nL - (lg_sl vals).length) Slot.unset).toArray = ls at hl ⊢
  refine body p e s m vals.toArray below meth c ls _ ⟨⟨hx, hb, hml, hown, hts⟩, hK, ⟨Nat.le_refl _, Nat.le_refl _⟩, Nat.le_refl _, Nat.le_refl _⟩ ?_ ⟨hP, hD, va_S.rf⟩ hl
  intro v u H locs pc ls hG hq hdg
  exact W.lret hx hb hr  (fun t ht hW => ⟨⟨v, u, rfl, hq, by rw [ht]; exact hG.1, hG.2.1, hK.on hW hG.2.2 ht⟩, hG.2.2.F ht⟩) hG.2.2.2.2 hdg
theorem mkV (l : Launch) {y : MethodName} {own : String} {bytes : ByteArray} {nL F Lc : Nat} {D : va_G} {ac : Nat → ClassId} {ad st : Nat → Nat} {A : Nat → Prop} {σ : St} {Q : St → Prop} (hy : plainName y.cls = true) (hown : y.cls = own) (vals : List Value) (hlen : (lg_sl vals).length ≤ nL)
    (body : ∀ (p : Program) (e : Env) (s : State) (m : MethodId) (args : Array Value) (below : List Frame) (meth : Method) (c : Code) (ls : Array Slot) (QW : State → Prop), SC A D ac st p m c bytes nL s args own { frames := F, cells := 0, slots := 0, locals := Lc } 0 0 F Lc → RtV A D ac ad p l e { frames := F, cells := 0, slots := 0, locals := Lc } s m args below meth c bytes 0 0 QW Q → DG A D ac ad s σ s.heap [] → lv_has ls nL (lv_args 0 vals) →
      W p l e { frames := F, cells := 0, slots := 0, locals := Lc } s m args below meth c s.heap [] 0 0 QW (F0 m 0 ls [])) :
    Met l y (Cond.code y bytes nL none :: wA) { frames := F, cells := 0, slots := 0, locals := Lc } (va_Pc vals (GSt A D ac ad st σ)) (va_Qv Q (GSt A D ac ad st) A) 0 0 A := by
  subst hown
  refine Met.ofW (cc := bytes) (maxL := nL) (ret := none) hy rfl ?_
  intro p e s m args below meth c s₁ B hml hv
  obtain ⟨rfl, hP, hD, hK⟩ := hv
  have hx := B.exec
  have hb := B.bytes
  have hr := B.returns
  have hts : ∀ w ∈ wA, w.before vals.toArray s = true := fun w hw => atoms_spec (ws := Cond.code y bytes nL none :: wA) B.pre w (List.mem_cons_of_mem _ hw)
  have hown : s.vm.findClass y.cls = some m.cls := findClass_of_methodNamed B.named
  have hlocks := B.notSynchronized
  have hl := lv_entry vals (n := nL) hlen
  rw [lg_entry_eq]
  generalize (lg_sl vals ++ List.replicate (nL - (lg_sl vals).length) Slot.unset).toArray = ls at hl ⊢
  refine body p e s m vals.toArray below meth c ls _ ⟨⟨hx, hb, hml, hown, hts⟩, hK, ⟨Nat.le_refl _, Nat.le_refl _⟩, Nat.le_refl _, Nat.le_refl _⟩ ?_ ⟨hP, hD, va_S.rf⟩ hl
  intro u H locs pc ls hG hq hdg
  exact W.vret hx hb hr  (fun t ht hW => ⟨⟨u, rfl, hq, by rw [ht]; exact hG.1, hG.2.1, hK.on hW hG.2.2 ht⟩, hG.2.2.F ht⟩) hG.2.2.2.2 hdg
theorem sw_0_2 (x : Int32) : (x.toInt < 0 ∨ 2 < x.toInt) ∨ x = 0 ∨ x = 1 ∨ x = 2 := by
  by_cases h : x.toInt < 0 ∨ 2 < x.toInt
  · exact Or.inl h
  · refine Or.inr ?_
    have e : ∀ (y : Int32), x.toInt = y.toInt → x = y := fun y h => Int32.toInt_inj.mp h
    have h2 : x.toInt = 0 ∨ x.toInt = 1 ∨ x.toInt = 2 := by omega
    rcases h2 with h | h | h <;> first | exact Or.inl (e 0 (by rw [h]; decide)) | exact Or.inr (Or.inl (e 1 (by rw [h]; decide))) | exact Or.inr (Or.inr (e 2 (by rw [h]; decide)))
theorem sw_0_4 (x : Int32) : (x.toInt < 0 ∨ 4 < x.toInt) ∨ x = 0 ∨ x = 1 ∨ x = 2 ∨ x = 3 ∨ x = 4 := by
  by_cases h : x.toInt < 0 ∨ 4 < x.toInt
  · exact Or.inl h
  · refine Or.inr ?_
    have e : ∀ (y : Int32), x.toInt = y.toInt → x = y := fun y h => Int32.toInt_inj.mp h
    have h2 : x.toInt = 0 ∨ x.toInt = 1 ∨ x.toInt = 2 ∨ x.toInt = 3 ∨ x.toInt = 4 := by omega
    rcases h2 with h | h | h | h | h <;> first | exact Or.inl (e 0 (by rw [h]; decide)) | exact Or.inr (Or.inl (e 1 (by rw [h]; decide))) | exact Or.inr (Or.inr (Or.inl (e 2 (by rw [h]; decide)))) | exact Or.inr (Or.inr (Or.inr (Or.inl (e 3 (by rw [h]; decide))))) | exact Or.inr (Or.inr (Or.inr (Or.inr (e 4 (by rw [h]; decide)))))
theorem sw_0_5 (x : Int32) : (x.toInt < 0 ∨ 5 < x.toInt) ∨ x = 0 ∨ x = 1 ∨ x = 2 ∨ x = 3 ∨ x = 4 ∨ x = 5 := by
  by_cases h : x.toInt < 0 ∨ 5 < x.toInt
  · exact Or.inl h
  · refine Or.inr ?_
    have e : ∀ (y : Int32), x.toInt = y.toInt → x = y := fun y h => Int32.toInt_inj.mp h
    have h2 : x.toInt = 0 ∨ x.toInt = 1 ∨ x.toInt = 2 ∨ x.toInt = 3 ∨ x.toInt = 4 ∨ x.toInt = 5 := by omega
    rcases h2 with h | h | h | h | h | h <;> first | exact Or.inl (e 0 (by rw [h]; decide)) | exact Or.inr (Or.inl (e 1 (by rw [h]; decide))) | exact Or.inr (Or.inr (Or.inl (e 2 (by rw [h]; decide)))) | exact Or.inr (Or.inr (Or.inr (Or.inl (e 3 (by rw [h]; decide))))) | exact Or.inr (Or.inr (Or.inr (Or.inr (Or.inl (e 4 (by rw [h]; decide)))))) | exact Or.inr (Or.inr (Or.inr (Or.inr (Or.inr (e 5 (by rw [h]; decide))))))
theorem sw_0_7 (x : Int32) : (x.toInt < 0 ∨ 7 < x.toInt) ∨ x = 0 ∨ x = 1 ∨ x = 2 ∨ x = 3 ∨ x = 4 ∨ x = 5 ∨ x = 6 ∨ x = 7 := by
  by_cases h : x.toInt < 0 ∨ 7 < x.toInt
  · exact Or.inl h
  · refine Or.inr ?_
    have e : ∀ (y : Int32), x.toInt = y.toInt → x = y := fun y h => Int32.toInt_inj.mp h
    have h2 : x.toInt = 0 ∨ x.toInt = 1 ∨ x.toInt = 2 ∨ x.toInt = 3 ∨ x.toInt = 4 ∨ x.toInt = 5 ∨ x.toInt = 6 ∨ x.toInt = 7 := by omega
    rcases h2 with h | h | h | h | h | h | h | h <;> first | exact Or.inl (e 0 (by rw [h]; decide)) | exact Or.inr (Or.inl (e 1 (by rw [h]; decide))) | exact Or.inr (Or.inr (Or.inl (e 2 (by rw [h]; decide)))) | exact Or.inr (Or.inr (Or.inr (Or.inl (e 3 (by rw [h]; decide))))) | exact Or.inr (Or.inr (Or.inr (Or.inr (Or.inl (e 4 (by rw [h]; decide)))))) | exact Or.inr (Or.inr (Or.inr (Or.inr (Or.inr (Or.inl (e 5 (by rw [h]; decide))))))) | exact Or.inr (Or.inr (Or.inr (Or.inr (Or.inr (Or.inr (Or.inl (e 6 (by rw [h]; decide)))))))) | exact Or.inr (Or.inr (Or.inr (Or.inr (Or.inr (Or.inr (Or.inr (e 7 (by rw [h]; decide))))))))
theorem sw_0_14 (x : Int32) : (x.toInt < 0 ∨ 14 < x.toInt) ∨ x = 0 ∨ x = 1 ∨ x = 2 ∨ x = 3 ∨ x = 4 ∨ x = 5 ∨ x = 6 ∨ x = 7 ∨ x = 8 ∨ x = 9 ∨ x = 10 ∨ x = 11 ∨ x = 12 ∨ x = 13 ∨ x = 14 := by
  by_cases h : x.toInt < 0 ∨ 14 < x.toInt
  · exact Or.inl h
  · refine Or.inr ?_
    have e : ∀ (y : Int32), x.toInt = y.toInt → x = y := fun y h => Int32.toInt_inj.mp h
    have h2 : x.toInt = 0 ∨ x.toInt = 1 ∨ x.toInt = 2 ∨ x.toInt = 3 ∨ x.toInt = 4 ∨ x.toInt = 5 ∨ x.toInt = 6 ∨ x.toInt = 7 ∨ x.toInt = 8 ∨ x.toInt = 9 ∨ x.toInt = 10 ∨ x.toInt = 11 ∨ x.toInt = 12 ∨ x.toInt = 13 ∨ x.toInt = 14 := by omega
    rcases h2 with h | h | h | h | h | h | h | h | h | h | h | h | h | h | h <;> first | exact Or.inl (e 0 (by rw [h]; decide)) | exact Or.inr (Or.inl (e 1 (by rw [h]; decide))) | exact Or.inr (Or.inr (Or.inl (e 2 (by rw [h]; decide)))) | exact Or.inr (Or.inr (Or.inr (Or.inl (e 3 (by rw [h]; decide))))) | exact Or.inr (Or.inr (Or.inr (Or.inr (Or.inl (e 4 (by rw [h]; decide)))))) | exact Or.inr (Or.inr (Or.inr (Or.inr (Or.inr (Or.inl (e 5 (by rw [h]; decide))))))) | exact Or.inr (Or.inr (Or.inr (Or.inr (Or.inr (Or.inr (Or.inl (e 6 (by rw [h]; decide)))))))) | exact Or.inr (Or.inr (Or.inr (Or.inr (Or.inr (Or.inr (Or.inr (Or.inl (e 7 (by rw [h]; decide))))))))) | exact Or.inr (Or.inr (Or.inr (Or.inr (Or.inr (Or.inr (Or.inr (Or.inr (Or.inl (e 8 (by rw [h]; decide)))))))))) | exact Or.inr (Or.inr (Or.inr (Or.inr (Or.inr (Or.inr (Or.inr (Or.inr (Or.inr (Or.inl (e 9 (by rw [h]; decide))))))))))) | exact Or.inr (Or.inr (Or.inr (Or.inr (Or.inr (Or.inr (Or.inr (Or.inr (Or.inr (Or.inr (Or.inl (e 10 (by rw [h]; decide)))))))))))) | exact Or.inr (Or.inr (Or.inr (Or.inr (Or.inr (Or.inr (Or.inr (Or.inr (Or.inr (Or.inr (Or.inr (Or.inl (e 11 (by rw [h]; decide))))))))))))) | exact Or.inr (Or.inr (Or.inr (Or.inr (Or.inr (Or.inr (Or.inr (Or.inr (Or.inr (Or.inr (Or.inr (Or.inr (Or.inl (e 12 (by rw [h]; decide)))))))))))))) | exact Or.inr (Or.inr (Or.inr (Or.inr (Or.inr (Or.inr (Or.inr (Or.inr (Or.inr (Or.inr (Or.inr (Or.inr (Or.inr (Or.inl (e 13 (by rw [h]; decide))))))))))))))) | exact Or.inr (Or.inr (Or.inr (Or.inr (Or.inr (Or.inr (Or.inr (Or.inr (Or.inr (Or.inr (Or.inr (Or.inr (Or.inr (Or.inr (e 14 (by rw [h]; decide)))))))))))))))
theorem sw_0_25 (x : Int32) : (x.toInt < 0 ∨ 25 < x.toInt) ∨ x = 0 ∨ x = 1 ∨ x = 2 ∨ x = 3 ∨ x = 4 ∨ x = 5 ∨ x = 6 ∨ x = 7 ∨ x = 8 ∨ x = 9 ∨ x = 10 ∨ x = 11 ∨ x = 12 ∨ x = 13 ∨ x = 14 ∨ x = 15 ∨ x = 16 ∨ x = 17 ∨ x = 18 ∨ x = 19 ∨ x = 20 ∨ x = 21 ∨ x = 22 ∨ x = 23 ∨ x = 24 ∨ x = 25 := by
  by_cases h : x.toInt < 0 ∨ 25 < x.toInt
  · exact Or.inl h
  · refine Or.inr ?_
    have e : ∀ (y : Int32), x.toInt = y.toInt → x = y := fun y h => Int32.toInt_inj.mp h
    have h2 : x.toInt = 0 ∨ x.toInt = 1 ∨ x.toInt = 2 ∨ x.toInt = 3 ∨ x.toInt = 4 ∨ x.toInt = 5 ∨ x.toInt = 6 ∨ x.toInt = 7 ∨ x.toInt = 8 ∨ x.toInt = 9 ∨ x.toInt = 10 ∨ x.toInt = 11 ∨ x.toInt = 12 ∨ x.toInt = 13 ∨ x.toInt = 14 ∨ x.toInt = 15 ∨ x.toInt = 16 ∨ x.toInt = 17 ∨ x.toInt = 18 ∨ x.toInt = 19 ∨ x.toInt = 20 ∨ x.toInt = 21 ∨ x.toInt = 22 ∨ x.toInt = 23 ∨ x.toInt = 24 ∨ x.toInt = 25 := by omega
    rcases h2 with h | h | h | h | h | h | h | h | h | h | h | h | h | h | h | h | h | h | h | h | h | h | h | h | h | h <;> first | exact Or.inl (e 0 (by rw [h]; decide)) | exact Or.inr (Or.inl (e 1 (by rw [h]; decide))) | exact Or.inr (Or.inr (Or.inl (e 2 (by rw [h]; decide)))) | exact Or.inr (Or.inr (Or.inr (Or.inl (e 3 (by rw [h]; decide))))) | exact Or.inr (Or.inr (Or.inr (Or.inr (Or.inl (e 4 (by rw [h]; decide)))))) | exact Or.inr (Or.inr (Or.inr (Or.inr (Or.inr (Or.inl (e 5 (by rw [h]; decide))))))) | exact Or.inr (Or.inr (Or.inr (Or.inr (Or.inr (Or.inr (Or.inl (e 6 (by rw [h]; decide)))))))) | exact Or.inr (Or.inr (Or.inr (Or.inr (Or.inr (Or.inr (Or.inr (Or.inl (e 7 (by rw [h]; decide))))))))) | exact Or.inr (Or.inr (Or.inr (Or.inr (Or.inr (Or.inr (Or.inr (Or.inr (Or.inl (e 8 (by rw [h]; decide)))))))))) | exact Or.inr (Or.inr (Or.inr (Or.inr (Or.inr (Or.inr (Or.inr (Or.inr (Or.inr (Or.inl (e 9 (by rw [h]; decide))))))))))) | exact Or.inr (Or.inr (Or.inr (Or.inr (Or.inr (Or.inr (Or.inr (Or.inr (Or.inr (Or.inr (Or.inl (e 10 (by rw [h]; decide)))))))))))) | exact Or.inr (Or.inr (Or.inr (Or.inr (Or.inr (Or.inr (Or.inr (Or.inr (Or.inr (Or.inr (Or.inr (Or.inl (e 11 (by rw [h]; decide))))))))))))) | exact Or.inr (Or.inr (Or.inr (Or.inr (Or.inr (Or.inr (Or.inr (Or.inr (Or.inr (Or.inr (Or.inr (Or.inr (Or.inl (e 12 (by rw [h]; decide)))))))))))))) | exact Or.inr (Or.inr (Or.inr (Or.inr (Or.inr (Or.inr (Or.inr (Or.inr (Or.inr (Or.inr (Or.inr (Or.inr (Or.inr (Or.inl (e 13 (by rw [h]; decide))))))))))))))) | exact Or.inr (Or.inr (Or.inr (Or.inr (Or.inr (Or.inr (Or.inr (Or.inr (Or.inr (Or.inr (Or.inr (Or.inr (Or.inr (Or.inr (Or.inl (e 14 (by rw [h]; decide)))))))))))))))) | exact Or.inr (Or.inr (Or.inr (Or.inr (Or.inr (Or.inr (Or.inr (Or.inr (Or.inr (Or.inr (Or.inr (Or.inr (Or.inr (Or.inr (Or.inr (Or.inl (e 15 (by rw [h]; decide))))))))))))))))) | exact Or.inr (Or.inr (Or.inr (Or.inr (Or.inr (Or.inr (Or.inr (Or.inr (Or.inr (Or.inr (Or.inr (Or.inr (Or.inr (Or.inr (Or.inr (Or.inr (Or.inl (e 16 (by rw [h]; decide)))))))))))))))))) | exact Or.inr (Or.inr (Or.inr (Or.inr (Or.inr (Or.inr (Or.inr (Or.inr (Or.inr (Or.inr (Or.inr (Or.inr (Or.inr (Or.inr (Or.inr (Or.inr (Or.inr (Or.inl (e 17 (by rw [h]; decide))))))))))))))))))) | exact Or.inr (Or.inr (Or.inr (Or.inr (Or.inr (Or.inr (Or.inr (Or.inr (Or.inr (Or.inr (Or.inr (Or.inr (Or.inr (Or.inr (Or.inr (Or.inr (Or.inr (Or.inr (Or.inl (e 18 (by rw [h]; decide)))))))))))))))))))) | exact Or.inr (Or.inr (Or.inr (Or.inr (Or.inr (Or.inr (Or.inr (Or.inr (Or.inr (Or.inr (Or.inr (Or.inr (Or.inr (Or.inr (Or.inr (Or.inr (Or.inr (Or.inr (Or.inr (Or.inl (e 19 (by rw [h]; decide))))))))))))))))))))) | exact Or.inr (Or.inr (Or.inr (Or.inr (Or.inr (Or.inr (Or.inr (Or.inr (Or.inr (Or.inr (Or.inr (Or.inr (Or.inr (Or.inr (Or.inr (Or.inr (Or.inr (Or.inr (Or.inr (Or.inr (Or.inl (e 20 (by rw [h]; decide)))))))))))))))))))))) | exact Or.inr (Or.inr (Or.inr (Or.inr (Or.inr (Or.inr (Or.inr (Or.inr (Or.inr (Or.inr (Or.inr (Or.inr (Or.inr (Or.inr (Or.inr (Or.inr (Or.inr (Or.inr (Or.inr (Or.inr (Or.inr (Or.inl (e 21 (by rw [h]; decide))))))))))))))))))))))) | exact Or.inr (Or.inr (Or.inr (Or.inr (Or.inr (Or.inr (Or.inr (Or.inr (Or.inr (Or.inr (Or.inr (Or.inr (Or.inr (Or.inr (Or.inr (Or.inr (Or.inr (Or.inr (Or.inr (Or.inr (Or.inr (Or.inr (Or.inl (e 22 (by rw [h]; decide)))))))))))))))))))))))) | exact Or.inr (Or.inr (Or.inr (Or.inr (Or.inr (Or.inr (Or.inr (Or.inr (Or.inr (Or.inr (Or.inr (Or.inr (Or.inr (Or.inr (Or.inr (Or.inr (Or.inr (Or.inr (Or.inr (Or.inr (Or.inr (Or.inr (Or.inr (Or.inl (e 23 (by rw [h]; decide))))))))))))))))))))))))) | exact Or.inr (Or.inr (Or.inr (Or.inr (Or.inr (Or.inr (Or.inr (Or.inr (Or.inr (Or.inr (Or.inr (Or.inr (Or.inr (Or.inr (Or.inr (Or.inr (Or.inr (Or.inr (Or.inr (Or.inr (Or.inr (Or.inr (Or.inr (Or.inr (Or.inl (e 24 (by rw [h]; decide)))))))))))))))))))))))))) | exact Or.inr (Or.inr (Or.inr (Or.inr (Or.inr (Or.inr (Or.inr (Or.inr (Or.inr (Or.inr (Or.inr (Or.inr (Or.inr (Or.inr (Or.inr (Or.inr (Or.inr (Or.inr (Or.inr (Or.inr (Or.inr (Or.inr (Or.inr (Or.inr (Or.inr (e 25 (by rw [h]; decide))))))))))))))))))))))))))
theorem sw_3_7 (x : Int32) : (x.toInt < 3 ∨ 7 < x.toInt) ∨ x = 3 ∨ x = 4 ∨ x = 5 ∨ x = 6 ∨ x = 7 := by
  by_cases h : x.toInt < 3 ∨ 7 < x.toInt
  · exact Or.inl h
  · refine Or.inr ?_
    have e : ∀ (y : Int32), x.toInt = y.toInt → x = y := fun y h => Int32.toInt_inj.mp h
    have h2 : x.toInt = 3 ∨ x.toInt = 4 ∨ x.toInt = 5 ∨ x.toInt = 6 ∨ x.toInt = 7 := by omega
    rcases h2 with h | h | h | h | h <;> first | exact Or.inl (e 3 (by rw [h]; decide)) | exact Or.inr (Or.inl (e 4 (by rw [h]; decide))) | exact Or.inr (Or.inr (Or.inl (e 5 (by rw [h]; decide)))) | exact Or.inr (Or.inr (Or.inr (Or.inl (e 6 (by rw [h]; decide))))) | exact Or.inr (Or.inr (Or.inr (Or.inr (e 7 (by rw [h]; decide)))))
end
section
theorem i_vc : Claimed_1_1 ∧ Claimed_1_2 := sorry
end
