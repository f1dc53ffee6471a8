-- ===== PART A: goes FIRST, ahead of the names: the tables' words, and 'selects' of the private methods out of them =====
/-- a private method of a class that the tables say can be made, by its rows of tables_1 -/
def lw_okq (q : MethodName × Nat) : Prop := (q.1.cls ≠ "java/lang/invoke/MethodHandle" ∧ q.1.cls ≠ "java/lang/invoke/VarHandle") ∧ Cond.instantiable q.1.cls q.2 ∈ tables_1 ∧ Cond.privateMethod q.1 ∈ tables_1 ∧ Cond.instanceMethod q.1 ∈ tables_1
set_option maxRecDepth 100000 in
theorem lw_p0 : lw_okq (⟨"StepsAhead$Products", "numberNew", "([III)V"⟩, 2) := ⟨⟨by simp, by simp⟩, List.mem_of_getElem? (i := 47) rfl, List.mem_of_getElem? (i := 60) rfl, List.mem_of_getElem? (i := 61) rfl⟩
set_option maxRecDepth 100000 in
theorem lw_p1 : lw_okq (⟨"StepsAhead$Products", "findOthers", "([III)V"⟩, 2) := ⟨⟨by simp, by simp⟩, List.mem_of_getElem? (i := 47) rfl, List.mem_of_getElem? (i := 64) rfl, List.mem_of_getElem? (i := 65) rfl⟩
set_option maxRecDepth 100000 in
theorem lw_p2 : lw_okq (⟨"StepsAhead", "found", "(I)LStepsAhead$Routine;"⟩, 7) := ⟨⟨by simp, by simp⟩, List.mem_of_getElem? (i := 17) rfl, List.mem_of_getElem? (i := 228) rfl, List.mem_of_getElem? (i := 229) rfl⟩
set_option maxRecDepth 100000 in
theorem lw_p3 : lw_okq (⟨"StepsAhead", "append", "(LStepsAhead$Routine;LStepsAhead$Op;)I"⟩, 7) := ⟨⟨by simp, by simp⟩, List.mem_of_getElem? (i := 17) rfl, List.mem_of_getElem? (i := 288) rfl, List.mem_of_getElem? (i := 289) rfl⟩
set_option maxRecDepth 100000 in
theorem lw_p4 : lw_okq (⟨"StepsAhead$Routine", "noteCalls", "()V"⟩, 12) := ⟨⟨by simp, by simp⟩, List.mem_of_getElem? (i := 132) rfl, List.mem_of_getElem? (i := 297) rfl, List.mem_of_getElem? (i := 298) rfl⟩
set_option maxRecDepth 100000 in
theorem lw_p5 : lw_okq (⟨"StepsAhead$Routine", "pushOpen", "(I)V"⟩, 12) := ⟨⟨by simp, by simp⟩, List.mem_of_getElem? (i := 132) rfl, List.mem_of_getElem? (i := 302) rfl, List.mem_of_getElem? (i := 303) rfl⟩
set_option maxRecDepth 100000 in
theorem lw_p6 : lw_okq (⟨"StepsAhead", "forgetFrom", "(I)V"⟩, 7) := ⟨⟨by simp, by simp⟩, List.mem_of_getElem? (i := 17) rfl, List.mem_of_getElem? (i := 319) rfl, List.mem_of_getElem? (i := 320) rfl⟩
set_option maxRecDepth 100000 in
theorem lw_p7 : lw_okq (⟨"StepsAhead", "found", "(II)LStepsAhead$Op;"⟩, 7) := ⟨⟨by simp, by simp⟩, List.mem_of_getElem? (i := 17) rfl, List.mem_of_getElem? (i := 467) rfl, List.mem_of_getElem? (i := 468) rfl⟩
set_option maxRecDepth 100000 in
theorem lw_p8 : lw_okq (⟨"StepsAhead", "refusalOf", "(LStepsAhead$Routine;I)I"⟩, 7) := ⟨⟨by simp, by simp⟩, List.mem_of_getElem? (i := 17) rfl, List.mem_of_getElem? (i := 571) rfl, List.mem_of_getElem? (i := 572) rfl⟩
set_option maxRecDepth 100000 in
theorem lw_p9 : lw_okq (⟨"StepsAhead", "reached", "(LStepsAhead$Routine;)I"⟩, 7) := ⟨⟨by simp, by simp⟩, List.mem_of_getElem? (i := 17) rfl, List.mem_of_getElem? (i := 575) rfl, List.mem_of_getElem? (i := 576) rfl⟩
set_option maxRecDepth 100000 in
theorem lw_p10 : lw_okq (⟨"StepsAhead", "areWhole", "(I)Z"⟩, 7) := ⟨⟨by simp, by simp⟩, List.mem_of_getElem? (i := 17) rfl, List.mem_of_getElem? (i := 579) rfl, List.mem_of_getElem? (i := 580) rfl⟩
set_option maxRecDepth 100000 in
theorem lw_p11 : lw_okq (⟨"StepsAhead$Reckoner", "pushRow", "()V"⟩, 7) := ⟨⟨by simp, by simp⟩, List.mem_of_getElem? (i := 41) rfl, List.mem_of_getElem? (i := 591) rfl, List.mem_of_getElem? (i := 592) rfl⟩
set_option maxRecDepth 100000 in
theorem lw_p12 : lw_okq (⟨"StepsAhead$Reckoner", "add", "([JIJ)V"⟩, 7) := ⟨⟨by simp, by simp⟩, List.mem_of_getElem? (i := 41) rfl, List.mem_of_getElem? (i := 601) rfl, List.mem_of_getElem? (i := 602) rfl⟩
set_option maxRecDepth 100000 in
theorem lw_p13 : lw_okq (⟨"StepsAhead$Reckoner", "takeCall", "(LStepsAhead$Call;)V"⟩, 7) := ⟨⟨by simp, by simp⟩, List.mem_of_getElem? (i := 41) rfl, List.mem_of_getElem? (i := 608) rfl, List.mem_of_getElem? (i := 609) rfl⟩
set_option maxRecDepth 100000 in
theorem lw_p14 : lw_okq (⟨"StepsAhead$Reckoner", "putSecond", "([JIILStepsAhead$Call;)V"⟩, 7) := ⟨⟨by simp, by simp⟩, List.mem_of_getElem? (i := 41) rfl, List.mem_of_getElem? (i := 629) rfl, List.mem_of_getElem? (i := 630) rfl⟩
set_option maxRecDepth 100000 in
theorem lw_p15 : lw_okq (⟨"StepsAhead$Reckoner", "addOp", "()V"⟩, 7) := ⟨⟨by simp, by simp⟩, List.mem_of_getElem? (i := 41) rfl, List.mem_of_getElem? (i := 633) rfl, List.mem_of_getElem? (i := 634) rfl⟩
def lw_privs_1 : List (MethodName × Nat) := [(⟨"StepsAhead$Products", "numberNew", "([III)V"⟩, 2), (⟨"StepsAhead$Products", "findOthers", "([III)V"⟩, 2), (⟨"StepsAhead", "found", "(I)LStepsAhead$Routine;"⟩, 7), (⟨"StepsAhead", "append", "(LStepsAhead$Routine;LStepsAhead$Op;)I"⟩, 7), (⟨"StepsAhead$Routine", "noteCalls", "()V"⟩, 12), (⟨"StepsAhead$Routine", "pushOpen", "(I)V"⟩, 12), (⟨"StepsAhead", "forgetFrom", "(I)V"⟩, 7), (⟨"StepsAhead", "found", "(II)LStepsAhead$Op;"⟩, 7), (⟨"StepsAhead", "refusalOf", "(LStepsAhead$Routine;I)I"⟩, 7), (⟨"StepsAhead", "reached", "(LStepsAhead$Routine;)I"⟩, 7), (⟨"StepsAhead", "areWhole", "(I)Z"⟩, 7), (⟨"StepsAhead$Reckoner", "pushRow", "()V"⟩, 7), (⟨"StepsAhead$Reckoner", "add", "([JIJ)V"⟩, 7), (⟨"StepsAhead$Reckoner", "takeCall", "(LStepsAhead$Call;)V"⟩, 7), (⟨"StepsAhead$Reckoner", "putSecond", "([JIILStepsAhead$Call;)V"⟩, 7), (⟨"StepsAhead$Reckoner", "addOp", "()V"⟩, 7)]
theorem lw_r1 : ∀ q ∈ lw_privs_1, lw_okq q := List.forall_mem_cons.mpr ⟨lw_p0, List.forall_mem_cons.mpr ⟨lw_p1, List.forall_mem_cons.mpr ⟨lw_p2, List.forall_mem_cons.mpr ⟨lw_p3, List.forall_mem_cons.mpr ⟨lw_p4, List.forall_mem_cons.mpr ⟨lw_p5, List.forall_mem_cons.mpr ⟨lw_p6, List.forall_mem_cons.mpr ⟨lw_p7, List.forall_mem_cons.mpr ⟨lw_p8, List.forall_mem_cons.mpr ⟨lw_p9, List.forall_mem_cons.mpr ⟨lw_p10, List.forall_mem_cons.mpr ⟨lw_p11, List.forall_mem_cons.mpr ⟨lw_p12, List.forall_mem_cons.mpr ⟨lw_p13, List.forall_mem_cons.mpr ⟨lw_p14, List.forall_mem_cons.mpr ⟨lw_p15, fun _ h => absurd h List.not_mem_nil⟩⟩⟩⟩⟩⟩⟩⟩⟩⟩⟩⟩⟩⟩⟩⟩
set_option maxRecDepth 100000 in
theorem lw_p16 : lw_okq (⟨"StepsAhead$Reckoner", "takeEither", "()V"⟩, 7) := ⟨⟨by simp, by simp⟩, List.mem_of_getElem? (i := 41) rfl, List.mem_of_getElem? (i := 637) rfl, List.mem_of_getElem? (i := 638) rfl⟩
set_option maxRecDepth 100000 in
theorem lw_p17 : lw_okq (⟨"StepsAhead$Reckoner", "takeLoop", "(LStepsAhead$Loop;)V"⟩, 7) := ⟨⟨by simp, by simp⟩, List.mem_of_getElem? (i := 41) rfl, List.mem_of_getElem? (i := 648) rfl, List.mem_of_getElem? (i := 649) rfl⟩
set_option maxRecDepth 100000 in
theorem lw_p18 : lw_okq (⟨"StepsAhead$Reckoner", "sumFixed", "([JILStepsAhead$Loop;)V"⟩, 7) := ⟨⟨by simp, by simp⟩, List.mem_of_getElem? (i := 41) rfl, List.mem_of_getElem? (i := 659) rfl, List.mem_of_getElem? (i := 660) rfl⟩
set_option maxRecDepth 100000 in
theorem lw_p19 : lw_okq (⟨"StepsAhead$Reckoner", "sumToExpression", "([JILStepsAhead$Loop;)V"⟩, 7) := ⟨⟨by simp, by simp⟩, List.mem_of_getElem? (i := 41) rfl, List.mem_of_getElem? (i := 675) rfl, List.mem_of_getElem? (i := 676) rfl⟩
set_option maxRecDepth 100000 in
theorem lw_p20 : lw_okq (⟨"StepsAhead$Reckoner", "factorOfPower", "(I[JII)J"⟩, 7) := ⟨⟨by simp, by simp⟩, List.mem_of_getElem? (i := 41) rfl, List.mem_of_getElem? (i := 679) rfl, List.mem_of_getElem? (i := 680) rfl⟩
set_option maxRecDepth 100000 in
theorem lw_p21 : lw_okq (⟨"StepsAhead$Reckoner", "keep", "([J)V"⟩, 7) := ⟨⟨by simp, by simp⟩, List.mem_of_getElem? (i := 41) rfl, List.mem_of_getElem? (i := 687) rfl, List.mem_of_getElem? (i := 688) rfl⟩
set_option maxRecDepth 100000 in
theorem lw_p22 : lw_okq (⟨"StepsAhead$Runner", "pass", "(LStepsAhead$Routine;)V"⟩, 7) := ⟨⟨by simp, by simp⟩, List.mem_of_getElem? (i := 104) rfl, List.mem_of_getElem? (i := 750) rfl, List.mem_of_getElem? (i := 751) rfl⟩
set_option maxRecDepth 100000 in
theorem lw_p23 : lw_okq (⟨"StepsAhead$Runner", "goRound", "(LStepsAhead$Routine;LStepsAhead$Loop;)V"⟩, 7) := ⟨⟨by simp, by simp⟩, List.mem_of_getElem? (i := 104) rfl, List.mem_of_getElem? (i := 766) rfl, List.mem_of_getElem? (i := 767) rfl⟩
set_option maxRecDepth 100000 in
theorem lw_p24 : lw_okq (⟨"StepsAhead$Runner", "comes", "()Z"⟩, 7) := ⟨⟨by simp, by simp⟩, List.mem_of_getElem? (i := 104) rfl, List.mem_of_getElem? (i := 778) rfl, List.mem_of_getElem? (i := 779) rfl⟩
set_option maxRecDepth 100000 in
theorem lw_p25 : lw_okq (⟨"StepsAhead$Runner", "goInto", "(LStepsAhead$Routine;LStepsAhead$Call;)V"⟩, 7) := ⟨⟨by simp, by simp⟩, List.mem_of_getElem? (i := 104) rfl, List.mem_of_getElem? (i := 783) rfl, List.mem_of_getElem? (i := 784) rfl⟩
set_option maxRecDepth 100000 in
theorem lw_p26 : lw_okq (⟨"StepsAhead$Runner", "choose", "(LStepsAhead$Either;)V"⟩, 7) := ⟨⟨by simp, by simp⟩, List.mem_of_getElem? (i := 104) rfl, List.mem_of_getElem? (i := 788) rfl, List.mem_of_getElem? (i := 789) rfl⟩
set_option maxRecDepth 100000 in
theorem lw_p27 : lw_okq (⟨"StepsAhead$Runner", "doesBoth", "()Z"⟩, 7) := ⟨⟨by simp, by simp⟩, List.mem_of_getElem? (i := 104) rfl, List.mem_of_getElem? (i := 792) rfl, List.mem_of_getElem? (i := 793) rfl⟩
set_option maxRecDepth 100000 in
theorem lw_p28 : lw_okq (⟨"StepsAhead$Runner", "lotTellsSecond", "()Z"⟩, 7) := ⟨⟨by simp, by simp⟩, List.mem_of_getElem? (i := 104) rfl, List.mem_of_getElem? (i := 796) rfl, List.mem_of_getElem? (i := 797) rfl⟩
set_option maxRecDepth 100000 in
theorem lw_p29 : lw_okq (⟨"StepsAhead$Runner", "passClosing", "(LStepsAhead$Routine;LStepsAhead$Op;LStepsAhead$Op;)V"⟩, 7) := ⟨⟨by simp, by simp⟩, List.mem_of_getElem? (i := 104) rfl, List.mem_of_getElem? (i := 801) rfl, List.mem_of_getElem? (i := 802) rfl⟩
set_option maxRecDepth 100000 in
theorem lw_p30 : lw_okq (⟨"StepsAhead$Runner", "endPart", "(LStepsAhead$Either;I)V"⟩, 7) := ⟨⟨by simp, by simp⟩, List.mem_of_getElem? (i := 104) rfl, List.mem_of_getElem? (i := 805) rfl, List.mem_of_getElem? (i := 806) rfl⟩
set_option maxRecDepth 100000 in
theorem lw_p31 : lw_okq (⟨"StepsAheadModel", "isRoutine", "(I)Z"⟩, 40) := ⟨⟨by simp, by simp⟩, List.mem_of_getElem? (i := 829) rfl, List.mem_of_getElem? (i := 975) rfl, List.mem_of_getElem? (i := 976) rfl⟩
def lw_privs_2 : List (MethodName × Nat) := [(⟨"StepsAhead$Reckoner", "takeEither", "()V"⟩, 7), (⟨"StepsAhead$Reckoner", "takeLoop", "(LStepsAhead$Loop;)V"⟩, 7), (⟨"StepsAhead$Reckoner", "sumFixed", "([JILStepsAhead$Loop;)V"⟩, 7), (⟨"StepsAhead$Reckoner", "sumToExpression", "([JILStepsAhead$Loop;)V"⟩, 7), (⟨"StepsAhead$Reckoner", "factorOfPower", "(I[JII)J"⟩, 7), (⟨"StepsAhead$Reckoner", "keep", "([J)V"⟩, 7), (⟨"StepsAhead$Runner", "pass", "(LStepsAhead$Routine;)V"⟩, 7), (⟨"StepsAhead$Runner", "goRound", "(LStepsAhead$Routine;LStepsAhead$Loop;)V"⟩, 7), (⟨"StepsAhead$Runner", "comes", "()Z"⟩, 7), (⟨"StepsAhead$Runner", "goInto", "(LStepsAhead$Routine;LStepsAhead$Call;)V"⟩, 7), (⟨"StepsAhead$Runner", "choose", "(LStepsAhead$Either;)V"⟩, 7), (⟨"StepsAhead$Runner", "doesBoth", "()Z"⟩, 7), (⟨"StepsAhead$Runner", "lotTellsSecond", "()Z"⟩, 7), (⟨"StepsAhead$Runner", "passClosing", "(LStepsAhead$Routine;LStepsAhead$Op;LStepsAhead$Op;)V"⟩, 7), (⟨"StepsAhead$Runner", "endPart", "(LStepsAhead$Either;I)V"⟩, 7), (⟨"StepsAheadModel", "isRoutine", "(I)Z"⟩, 40)]
theorem lw_r2 : ∀ q ∈ lw_privs_2, lw_okq q := List.forall_mem_cons.mpr ⟨lw_p16, List.forall_mem_cons.mpr ⟨lw_p17, List.forall_mem_cons.mpr ⟨lw_p18, List.forall_mem_cons.mpr ⟨lw_p19, List.forall_mem_cons.mpr ⟨lw_p20, List.forall_mem_cons.mpr ⟨lw_p21, List.forall_mem_cons.mpr ⟨lw_p22, List.forall_mem_cons.mpr ⟨lw_p23, List.forall_mem_cons.mpr ⟨lw_p24, List.forall_mem_cons.mpr ⟨lw_p25, List.forall_mem_cons.mpr ⟨lw_p26, List.forall_mem_cons.mpr ⟨lw_p27, List.forall_mem_cons.mpr ⟨lw_p28, List.forall_mem_cons.mpr ⟨lw_p29, List.forall_mem_cons.mpr ⟨lw_p30, List.forall_mem_cons.mpr ⟨lw_p31, fun _ h => absurd h List.not_mem_nil⟩⟩⟩⟩⟩⟩⟩⟩⟩⟩⟩⟩⟩⟩⟩⟩
set_option maxRecDepth 100000 in
theorem lw_p32 : lw_okq (⟨"StepsAheadModel", "come", "(IIII)I"⟩, 40) := ⟨⟨by simp, by simp⟩, List.mem_of_getElem? (i := 829) rfl, List.mem_of_getElem? (i := 981) rfl, List.mem_of_getElem? (i := 982) rfl⟩
set_option maxRecDepth 100000 in
theorem lw_p33 : lw_okq (⟨"StepsAheadModel", "lookOpen", "(II)V"⟩, 40) := ⟨⟨by simp, by simp⟩, List.mem_of_getElem? (i := 829) rfl, List.mem_of_getElem? (i := 989) rfl, List.mem_of_getElem? (i := 990) rfl⟩
set_option maxRecDepth 100000 in
theorem lw_p34 : lw_okq (⟨"StepsAheadModel", "isOp", "(II)Z"⟩, 40) := ⟨⟨by simp, by simp⟩, List.mem_of_getElem? (i := 829) rfl, List.mem_of_getElem? (i := 1016) rfl, List.mem_of_getElem? (i := 1017) rfl⟩
set_option maxRecDepth 100000 in
theorem lw_p35 : lw_okq (⟨"StepsAheadModel", "size", "(I)I"⟩, 40) := ⟨⟨by simp, by simp⟩, List.mem_of_getElem? (i := 829) rfl, List.mem_of_getElem? (i := 1037) rfl, List.mem_of_getElem? (i := 1038) rfl⟩
set_option maxRecDepth 100000 in
theorem lw_p36 : lw_okq (⟨"StepsAheadModel", "begins", "(I)V"⟩, 40) := ⟨⟨by simp, by simp⟩, List.mem_of_getElem? (i := 829) rfl, List.mem_of_getElem? (i := 1041) rfl, List.mem_of_getElem? (i := 1042) rfl⟩
set_option maxRecDepth 100000 in
theorem lw_p37 : lw_okq (⟨"StepsAheadModel", "notZero", "(II)I"⟩, 40) := ⟨⟨by simp, by simp⟩, List.mem_of_getElem? (i := 829) rfl, List.mem_of_getElem? (i := 1045) rfl, List.mem_of_getElem? (i := 1046) rfl⟩
set_option maxRecDepth 100000 in
theorem lw_p38 : lw_okq (⟨"StepsAheadModel", "mark", "(II)I"⟩, 40) := ⟨⟨by simp, by simp⟩, List.mem_of_getElem? (i := 829) rfl, List.mem_of_getElem? (i := 1049) rfl, List.mem_of_getElem? (i := 1050) rfl⟩
set_option maxRecDepth 100000 in
theorem lw_p39 : lw_okq (⟨"StepsAheadModel", "refusal", "(II)I"⟩, 40) := ⟨⟨by simp, by simp⟩, List.mem_of_getElem? (i := 829) rfl, List.mem_of_getElem? (i := 1061) rfl, List.mem_of_getElem? (i := 1062) rfl⟩
set_option maxRecDepth 100000 in
theorem lw_p40 : lw_okq (⟨"StepsAheadModel", "know", "()V"⟩, 40) := ⟨⟨by simp, by simp⟩, List.mem_of_getElem? (i := 829) rfl, List.mem_of_getElem? (i := 1065) rfl, List.mem_of_getElem? (i := 1066) rfl⟩
set_option maxRecDepth 100000 in
theorem lw_p41 : lw_okq (⟨"StepsAheadModel", "make", "(II)Z"⟩, 40) := ⟨⟨by simp, by simp⟩, List.mem_of_getElem? (i := 829) rfl, List.mem_of_getElem? (i := 1069) rfl, List.mem_of_getElem? (i := 1070) rfl⟩
set_option maxRecDepth 100000 in
theorem lw_p42 : lw_okq (⟨"StepsAheadModel", "empty", "(I)V"⟩, 40) := ⟨⟨by simp, by simp⟩, List.mem_of_getElem? (i := 829) rfl, List.mem_of_getElem? (i := 1073) rfl, List.mem_of_getElem? (i := 1074) rfl⟩
set_option maxRecDepth 100000 in
theorem lw_p43 : lw_okq (⟨"StepsAheadModel", "joins", "(II)Z"⟩, 40) := ⟨⟨by simp, by simp⟩, List.mem_of_getElem? (i := 829) rfl, List.mem_of_getElem? (i := 1078) rfl, List.mem_of_getElem? (i := 1079) rfl⟩
set_option maxRecDepth 100000 in
theorem lw_p44 : lw_okq (⟨"StepsAheadModel", "isGood", "(I)Z"⟩, 40) := ⟨⟨by simp, by simp⟩, List.mem_of_getElem? (i := 829) rfl, List.mem_of_getElem? (i := 1082) rfl, List.mem_of_getElem? (i := 1083) rfl⟩
set_option maxRecDepth 100000 in
theorem lw_p45 : lw_okq (⟨"StepsAheadModel", "sumUp", "(III)Z"⟩, 40) := ⟨⟨by simp, by simp⟩, List.mem_of_getElem? (i := 829) rfl, List.mem_of_getElem? (i := 1088) rfl, List.mem_of_getElem? (i := 1089) rfl⟩
set_option maxRecDepth 100000 in
theorem lw_p46 : lw_okq (⟨"StepsAheadModel", "code", "(I)I"⟩, 40) := ⟨⟨by simp, by simp⟩, List.mem_of_getElem? (i := 829) rfl, List.mem_of_getElem? (i := 1095) rfl, List.mem_of_getElem? (i := 1096) rfl⟩
set_option maxRecDepth 100000 in
theorem lw_p47 : lw_okq (⟨"StepsAheadModel", "makePowers", "(IIII)V"⟩, 40) := ⟨⟨by simp, by simp⟩, List.mem_of_getElem? (i := 829) rfl, List.mem_of_getElem? (i := 1099) rfl, List.mem_of_getElem? (i := 1100) rfl⟩
def lw_privs_3 : List (MethodName × Nat) := [(⟨"StepsAheadModel", "come", "(IIII)I"⟩, 40), (⟨"StepsAheadModel", "lookOpen", "(II)V"⟩, 40), (⟨"StepsAheadModel", "isOp", "(II)Z"⟩, 40), (⟨"StepsAheadModel", "size", "(I)I"⟩, 40), (⟨"StepsAheadModel", "begins", "(I)V"⟩, 40), (⟨"StepsAheadModel", "notZero", "(II)I"⟩, 40), (⟨"StepsAheadModel", "mark", "(II)I"⟩, 40), (⟨"StepsAheadModel", "refusal", "(II)I"⟩, 40), (⟨"StepsAheadModel", "know", "()V"⟩, 40), (⟨"StepsAheadModel", "make", "(II)Z"⟩, 40), (⟨"StepsAheadModel", "empty", "(I)V"⟩, 40), (⟨"StepsAheadModel", "joins", "(II)Z"⟩, 40), (⟨"StepsAheadModel", "isGood", "(I)Z"⟩, 40), (⟨"StepsAheadModel", "sumUp", "(III)Z"⟩, 40), (⟨"StepsAheadModel", "code", "(I)I"⟩, 40), (⟨"StepsAheadModel", "makePowers", "(IIII)V"⟩, 40)]
theorem lw_r3 : ∀ q ∈ lw_privs_3, lw_okq q := List.forall_mem_cons.mpr ⟨lw_p32, List.forall_mem_cons.mpr ⟨lw_p33, List.forall_mem_cons.mpr ⟨lw_p34, List.forall_mem_cons.mpr ⟨lw_p35, List.forall_mem_cons.mpr ⟨lw_p36, List.forall_mem_cons.mpr ⟨lw_p37, List.forall_mem_cons.mpr ⟨lw_p38, List.forall_mem_cons.mpr ⟨lw_p39, List.forall_mem_cons.mpr ⟨lw_p40, List.forall_mem_cons.mpr ⟨lw_p41, List.forall_mem_cons.mpr ⟨lw_p42, List.forall_mem_cons.mpr ⟨lw_p43, List.forall_mem_cons.mpr ⟨lw_p44, List.forall_mem_cons.mpr ⟨lw_p45, List.forall_mem_cons.mpr ⟨lw_p46, List.forall_mem_cons.mpr ⟨lw_p47, fun _ h => absurd h List.not_mem_nil⟩⟩⟩⟩⟩⟩⟩⟩⟩⟩⟩⟩⟩⟩⟩⟩
set_option maxRecDepth 100000 in
theorem lw_p48 : lw_okq (⟨"StepsAheadModel", "degree", "(I)I"⟩, 40) := ⟨⟨by simp, by simp⟩, List.mem_of_getElem? (i := 829) rfl, List.mem_of_getElem? (i := 1103) rfl, List.mem_of_getElem? (i := 1104) rfl⟩
set_option maxRecDepth 100000 in
theorem lw_p49 : lw_okq (⟨"StepsAheadModel", "putIn", "(IIII)V"⟩, 40) := ⟨⟨by simp, by simp⟩, List.mem_of_getElem? (i := 829) rfl, List.mem_of_getElem? (i := 1108) rfl, List.mem_of_getElem? (i := 1109) rfl⟩
set_option maxRecDepth 100000 in
theorem lw_p50 : lw_okq (⟨"StepsAheadModel", "countTerms", "(I)I"⟩, 40) := ⟨⟨by simp, by simp⟩, List.mem_of_getElem? (i := 829) rfl, List.mem_of_getElem? (i := 1112) rfl, List.mem_of_getElem? (i := 1113) rfl⟩
set_option maxRecDepth 100000 in
theorem lw_p51 : lw_okq (⟨"StepsAheadModel", "rowBy", "(II)I"⟩, 40) := ⟨⟨by simp, by simp⟩, List.mem_of_getElem? (i := 829) rfl, List.mem_of_getElem? (i := 1122) rfl, List.mem_of_getElem? (i := 1123) rfl⟩
set_option maxRecDepth 100000 in
theorem lw_p52 : lw_okq (⟨"StepsAheadModel", "valueOf", "(IIII)J"⟩, 40) := ⟨⟨by simp, by simp⟩, List.mem_of_getElem? (i := 829) rfl, List.mem_of_getElem? (i := 1137) rfl, List.mem_of_getElem? (i := 1138) rfl⟩
set_option maxRecDepth 100000 in
theorem lw_p53 : lw_okq (⟨"StepsAheadModel", "isSure", "(I)Z"⟩, 40) := ⟨⟨by simp, by simp⟩, List.mem_of_getElem? (i := 829) rfl, List.mem_of_getElem? (i := 1146) rfl, List.mem_of_getElem? (i := 1147) rfl⟩
set_option maxRecDepth 100000 in
theorem lw_p54 : lw_okq (⟨"StepsAheadModel", "go", "(IIII)I"⟩, 40) := ⟨⟨by simp, by simp⟩, List.mem_of_getElem? (i := 829) rfl, List.mem_of_getElem? (i := 1155) rfl, List.mem_of_getElem? (i := 1156) rfl⟩
set_option maxRecDepth 100000 in
theorem lw_p55 : lw_okq (⟨"StepsAheadModel", "worthOf", "(II)I"⟩, 40) := ⟨⟨by simp, by simp⟩, List.mem_of_getElem? (i := 829) rfl, List.mem_of_getElem? (i := 1159) rfl, List.mem_of_getElem? (i := 1160) rfl⟩
set_option maxRecDepth 100000 in
theorem lw_p56 : lw_okq (⟨"StepsAheadModel", "closing", "(II)I"⟩, 40) := ⟨⟨by simp, by simp⟩, List.mem_of_getElem? (i := 829) rfl, List.mem_of_getElem? (i := 1163) rfl, List.mem_of_getElem? (i := 1164) rfl⟩
set_option maxRecDepth 100000 in
theorem lw_p57 : lw_okq (⟨"StepsAheadModel", "mayLook", "()Z"⟩, 40) := ⟨⟨by simp, by simp⟩, List.mem_of_getElem? (i := 829) rfl, List.mem_of_getElem? (i := 1167) rfl, List.mem_of_getElem? (i := 1168) rfl⟩
def lw_privs_4 : List (MethodName × Nat) := [(⟨"StepsAheadModel", "degree", "(I)I"⟩, 40), (⟨"StepsAheadModel", "putIn", "(IIII)V"⟩, 40), (⟨"StepsAheadModel", "countTerms", "(I)I"⟩, 40), (⟨"StepsAheadModel", "rowBy", "(II)I"⟩, 40), (⟨"StepsAheadModel", "valueOf", "(IIII)J"⟩, 40), (⟨"StepsAheadModel", "isSure", "(I)Z"⟩, 40), (⟨"StepsAheadModel", "go", "(IIII)I"⟩, 40), (⟨"StepsAheadModel", "worthOf", "(II)I"⟩, 40), (⟨"StepsAheadModel", "closing", "(II)I"⟩, 40), (⟨"StepsAheadModel", "mayLook", "()Z"⟩, 40)]
theorem lw_r4 : ∀ q ∈ lw_privs_4, lw_okq q := List.forall_mem_cons.mpr ⟨lw_p48, List.forall_mem_cons.mpr ⟨lw_p49, List.forall_mem_cons.mpr ⟨lw_p50, List.forall_mem_cons.mpr ⟨lw_p51, List.forall_mem_cons.mpr ⟨lw_p52, List.forall_mem_cons.mpr ⟨lw_p53, List.forall_mem_cons.mpr ⟨lw_p54, List.forall_mem_cons.mpr ⟨lw_p55, List.forall_mem_cons.mpr ⟨lw_p56, List.forall_mem_cons.mpr ⟨lw_p57, fun _ h => absurd h List.not_mem_nil⟩⟩⟩⟩⟩⟩⟩⟩⟩⟩
def lw_privs : List (MethodName × Nat) := lw_privs_1 ++ (lw_privs_2 ++ (lw_privs_3 ++ (lw_privs_4)))
def lw_tbl : List Cond := k2_sels lw_privs ++ tables_1
set_option maxRecDepth 100000 in
theorem lw_privs_ok : ∀ q ∈ lw_privs, lw_okq q := by
  show ∀ q ∈ lw_privs_1 ++ (lw_privs_2 ++ (lw_privs_3 ++ (lw_privs_4))), lw_okq q
  exact List.forall_mem_append.mpr ⟨lw_r1, List.forall_mem_append.mpr ⟨lw_r2, List.forall_mem_append.mpr ⟨lw_r3, lw_r4⟩⟩⟩
