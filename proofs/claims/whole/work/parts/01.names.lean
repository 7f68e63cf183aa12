-- ===== PART A: goes FIRST, ahead of the names: the tables' words, and 'selects' of the private methods out of them =====
/-- a private method of a class that the tables say can be made, by its rows of tables_1 -/
def lw_okq (q : MethodName × Nat) : Prop := (q.1.cls ≠ "java/lang/invoke/MethodHandle" ∧ q.1.cls ≠ "java/lang/invoke/VarHandle") ∧ Cond.instantiable q.1.cls q.2 ∈ tables_1 ∧ Cond.privateMethod q.1 ∈ tables_1 ∧ Cond.instanceMethod q.1 ∈ tables_1
theorem lw_p0 : lw_okq (⟨"DrunkByYear$Reader", "readClause", "()Z"⟩, 4) := ⟨⟨by decide +kernel, by decide +kernel⟩, List.mem_of_getElem? (i := 299) (by decide +kernel), List.mem_of_getElem? (i := 324) (by decide +kernel), List.mem_of_getElem? (i := 325) (by decide +kernel)⟩
theorem lw_p1 : lw_okq (⟨"DrunkByYear$Reader", "takes", "(C)Z"⟩, 4) := ⟨⟨by decide +kernel, by decide +kernel⟩, List.mem_of_getElem? (i := 299) (by decide +kernel), List.mem_of_getElem? (i := 328) (by decide +kernel), List.mem_of_getElem? (i := 329) (by decide +kernel)⟩
theorem lw_p2 : lw_okq (⟨"DrunkByYear$Reader", "takesAll", "(Ljava/lang/String;)Z"⟩, 4) := ⟨⟨by decide +kernel, by decide +kernel⟩, List.mem_of_getElem? (i := 299) (by decide +kernel), List.mem_of_getElem? (i := 333) (by decide +kernel), List.mem_of_getElem? (i := 334) (by decide +kernel)⟩
theorem lw_p3 : lw_okq (⟨"DrunkByYear$Reader", "readNumber", "()I"⟩, 4) := ⟨⟨by decide +kernel, by decide +kernel⟩, List.mem_of_getElem? (i := 299) (by decide +kernel), List.mem_of_getElem? (i := 385) (by decide +kernel), List.mem_of_getElem? (i := 386) (by decide +kernel)⟩
theorem lw_p4 : lw_okq (⟨"DrunkByYear$Reader", "readEither", "(I)Z"⟩, 4) := ⟨⟨by decide +kernel, by decide +kernel⟩, List.mem_of_getElem? (i := 299) (by decide +kernel), List.mem_of_getElem? (i := 392) (by decide +kernel), List.mem_of_getElem? (i := 393) (by decide +kernel)⟩
theorem lw_p5 : lw_okq (⟨"DrunkByYear$Reader", "readFactor", "(I)Z"⟩, 4) := ⟨⟨by decide +kernel, by decide +kernel⟩, List.mem_of_getElem? (i := 299) (by decide +kernel), List.mem_of_getElem? (i := 396) (by decide +kernel), List.mem_of_getElem? (i := 397) (by decide +kernel)⟩
theorem lw_p6 : lw_okq (⟨"DrunkByYear$Reader", "readTest", "()Z"⟩, 4) := ⟨⟨by decide +kernel, by decide +kernel⟩, List.mem_of_getElem? (i := 299) (by decide +kernel), List.mem_of_getElem? (i := 404) (by decide +kernel), List.mem_of_getElem? (i := 405) (by decide +kernel)⟩
theorem lw_p7 : lw_okq (⟨"DrunkByYear$Reader", "readOneOf", "(Ljava/lang/String;)I"⟩, 4) := ⟨⟨by decide +kernel, by decide +kernel⟩, List.mem_of_getElem? (i := 299) (by decide +kernel), List.mem_of_getElem? (i := 409) (by decide +kernel), List.mem_of_getElem? (i := 410) (by decide +kernel)⟩
theorem lw_p8 : lw_okq (⟨"DrunkByYear", "isOne", "(I)Z"⟩, 7) := ⟨⟨by decide +kernel, by decide +kernel⟩, List.mem_of_getElem? (i := 19) (by decide +kernel), List.mem_of_getElem? (i := 512) (by decide +kernel), List.mem_of_getElem? (i := 513) (by decide +kernel)⟩
theorem lw_p9 : lw_okq (⟨"DrunkByYear$World", "stageAt", "(II)I"⟩, 14) := ⟨⟨by decide +kernel, by decide +kernel⟩, List.mem_of_getElem? (i := 82) (by decide +kernel), List.mem_of_getElem? (i := 537) (by decide +kernel), List.mem_of_getElem? (i := 538) (by decide +kernel)⟩
theorem lw_p10 : lw_okq (⟨"DrunkByYear$Village", "holdsFor", "([III)Z"⟩, 7) := ⟨⟨by decide +kernel, by decide +kernel⟩, List.mem_of_getElem? (i := 44) (by decide +kernel), List.mem_of_getElem? (i := 553) (by decide +kernel), List.mem_of_getElem? (i := 554) (by decide +kernel)⟩
theorem lw_p11 : lw_okq (⟨"DrunkByYear", "isVintage", "(I)Z"⟩, 7) := ⟨⟨by decide +kernel, by decide +kernel⟩, List.mem_of_getElem? (i := 19) (by decide +kernel), List.mem_of_getElem? (i := 569) (by decide +kernel), List.mem_of_getElem? (i := 570) (by decide +kernel)⟩
theorem lw_p12 : lw_okq (⟨"DrunkByYear", "isOfSeating", "(I)Z"⟩, 7) := ⟨⟨by decide +kernel, by decide +kernel⟩, List.mem_of_getElem? (i := 19) (by decide +kernel), List.mem_of_getElem? (i := 652) (by decide +kernel), List.mem_of_getElem? (i := 653) (by decide +kernel)⟩
theorem lw_p13 : lw_okq (⟨"DrunkByYear$Search", "begin", "(I)V"⟩, 15) := ⟨⟨by decide +kernel, by decide +kernel⟩, List.mem_of_getElem? (i := 215) (by decide +kernel), List.mem_of_getElem? (i := 660) (by decide +kernel), List.mem_of_getElem? (i := 661) (by decide +kernel)⟩
theorem lw_p14 : lw_okq (⟨"DrunkByYear$Search", "layChoices", "(IZ)V"⟩, 15) := ⟨⟨by decide +kernel, by decide +kernel⟩, List.mem_of_getElem? (i := 215) (by decide +kernel), List.mem_of_getElem? (i := 666) (by decide +kernel), List.mem_of_getElem? (i := 667) (by decide +kernel)⟩
theorem lw_p15 : lw_okq (⟨"DrunkByYear$Search", "isWasted", "(II)Z"⟩, 15) := ⟨⟨by decide +kernel, by decide +kernel⟩, List.mem_of_getElem? (i := 215) (by decide +kernel), List.mem_of_getElem? (i := 673) (by decide +kernel), List.mem_of_getElem? (i := 674) (by decide +kernel)⟩
def lw_privs_1 : List (MethodName × Nat) := [(⟨"DrunkByYear$Reader", "readClause", "()Z"⟩, 4), (⟨"DrunkByYear$Reader", "takes", "(C)Z"⟩, 4), (⟨"DrunkByYear$Reader", "takesAll", "(Ljava/lang/String;)Z"⟩, 4), (⟨"DrunkByYear$Reader", "readNumber", "()I"⟩, 4), (⟨"DrunkByYear$Reader", "readEither", "(I)Z"⟩, 4), (⟨"DrunkByYear$Reader", "readFactor", "(I)Z"⟩, 4), (⟨"DrunkByYear$Reader", "readTest", "()Z"⟩, 4), (⟨"DrunkByYear$Reader", "readOneOf", "(Ljava/lang/String;)I"⟩, 4), (⟨"DrunkByYear", "isOne", "(I)Z"⟩, 7), (⟨"DrunkByYear$World", "stageAt", "(II)I"⟩, 14), (⟨"DrunkByYear$Village", "holdsFor", "([III)Z"⟩, 7), (⟨"DrunkByYear", "isVintage", "(I)Z"⟩, 7), (⟨"DrunkByYear", "isOfSeating", "(I)Z"⟩, 7), (⟨"DrunkByYear$Search", "begin", "(I)V"⟩, 15), (⟨"DrunkByYear$Search", "layChoices", "(IZ)V"⟩, 15), (⟨"DrunkByYear$Search", "isWasted", "(II)Z"⟩, 15)]
theorem lw_r1 : ∀ q ∈ lw_privs_1, lw_okq q := List.forall_mem_cons.mpr ⟨lw_p0, List.forall_mem_cons.mpr ⟨lw_p1, List.forall_mem_cons.mpr ⟨lw_p2, List.forall_mem_cons.mpr ⟨lw_p3, List.forall_mem_cons.mpr ⟨lw_p4, List.forall_mem_cons.mpr ⟨lw_p5, List.forall_mem_cons.mpr ⟨lw_p6, List.forall_mem_cons.mpr ⟨lw_p7, List.forall_mem_cons.mpr ⟨lw_p8, List.forall_mem_cons.mpr ⟨lw_p9, List.forall_mem_cons.mpr ⟨lw_p10, List.forall_mem_cons.mpr ⟨lw_p11, List.forall_mem_cons.mpr ⟨lw_p12, List.forall_mem_cons.mpr ⟨lw_p13, List.forall_mem_cons.mpr ⟨lw_p14, List.forall_mem_cons.mpr ⟨lw_p15, fun _ h => absurd h List.not_mem_nil⟩⟩⟩⟩⟩⟩⟩⟩⟩⟩⟩⟩⟩⟩⟩⟩
theorem lw_p16 : lw_okq (⟨"DrunkByYear$Search", "lookAhead", "(I)V"⟩, 15) := ⟨⟨by decide +kernel, by decide +kernel⟩, List.mem_of_getElem? (i := 215) (by decide +kernel), List.mem_of_getElem? (i := 677) (by decide +kernel), List.mem_of_getElem? (i := 678) (by decide +kernel)⟩
theorem lw_p17 : lw_okq (⟨"DrunkByYear$Search", "sit", "(IIIII)V"⟩, 15) := ⟨⟨by decide +kernel, by decide +kernel⟩, List.mem_of_getElem? (i := 215) (by decide +kernel), List.mem_of_getElem? (i := 683) (by decide +kernel), List.mem_of_getElem? (i := 684) (by decide +kernel)⟩
theorem lw_p18 : lw_okq (⟨"DrunkByYear$Search", "leastCost", "(IIII)I"⟩, 15) := ⟨⟨by decide +kernel, by decide +kernel⟩, List.mem_of_getElem? (i := 215) (by decide +kernel), List.mem_of_getElem? (i := 687) (by decide +kernel), List.mem_of_getElem? (i := 688) (by decide +kernel)⟩
theorem lw_p19 : lw_okq (⟨"DrunkByYear$Search", "isBetter", "(II)Z"⟩, 15) := ⟨⟨by decide +kernel, by decide +kernel⟩, List.mem_of_getElem? (i := 215) (by decide +kernel), List.mem_of_getElem? (i := 691) (by decide +kernel), List.mem_of_getElem? (i := 692) (by decide +kernel)⟩
theorem lw_p20 : lw_okq (⟨"DrunkByYear$Search", "keep", "(II)V"⟩, 15) := ⟨⟨by decide +kernel, by decide +kernel⟩, List.mem_of_getElem? (i := 215) (by decide +kernel), List.mem_of_getElem? (i := 695) (by decide +kernel), List.mem_of_getElem? (i := 696) (by decide +kernel)⟩
theorem lw_p21 : lw_okq (⟨"DrunkByYear$Search", "result", "(I)I"⟩, 15) := ⟨⟨by decide +kernel, by decide +kernel⟩, List.mem_of_getElem? (i := 215) (by decide +kernel), List.mem_of_getElem? (i := 702) (by decide +kernel), List.mem_of_getElem? (i := 703) (by decide +kernel)⟩
theorem lw_p22 : lw_okq (⟨"DrunkByYear", "tellAge", "(LDrunkByYear$Rows;II)I"⟩, 7) := ⟨⟨by decide +kernel, by decide +kernel⟩, List.mem_of_getElem? (i := 19) (by decide +kernel), List.mem_of_getElem? (i := 719) (by decide +kernel), List.mem_of_getElem? (i := 720) (by decide +kernel)⟩
theorem lw_p23 : lw_okq (⟨"DrunkByYear$Acts", "perform", "(LDrunkByYear$Person;IIII)I"⟩, 2) := ⟨⟨by decide +kernel, by decide +kernel⟩, List.mem_of_getElem? (i := 29) (by decide +kernel), List.mem_of_getElem? (i := 809) (by decide +kernel), List.mem_of_getElem? (i := 810) (by decide +kernel)⟩
theorem lw_p24 : lw_okq (⟨"DrunkByYear$Acts", "begin", "(I)V"⟩, 2) := ⟨⟨by decide +kernel, by decide +kernel⟩, List.mem_of_getElem? (i := 29) (by decide +kernel), List.mem_of_getElem? (i := 816) (by decide +kernel), List.mem_of_getElem? (i := 817) (by decide +kernel)⟩
theorem lw_p25 : lw_okq (⟨"DrunkByYearModel", "clauseHere", "()V"⟩, 29) := ⟨⟨by decide +kernel, by decide +kernel⟩, List.mem_of_getElem? (i := 841) (by decide +kernel), List.mem_of_getElem? (i := 946) (by decide +kernel), List.mem_of_getElem? (i := 947) (by decide +kernel)⟩
theorem lw_p26 : lw_okq (⟨"DrunkByYearModel", "here", "()I"⟩, 29) := ⟨⟨by decide +kernel, by decide +kernel⟩, List.mem_of_getElem? (i := 841) (by decide +kernel), List.mem_of_getElem? (i := 950) (by decide +kernel), List.mem_of_getElem? (i := 951) (by decide +kernel)⟩
theorem lw_p27 : lw_okq (⟨"DrunkByYearModel", "tellsHere", "(ILjava/lang/String;)V"⟩, 29) := ⟨⟨by decide +kernel, by decide +kernel⟩, List.mem_of_getElem? (i := 841) (by decide +kernel), List.mem_of_getElem? (i := 955) (by decide +kernel), List.mem_of_getElem? (i := 956) (by decide +kernel)⟩
theorem lw_p28 : lw_okq (⟨"DrunkByYearModel", "spells", "(Ljava/lang/String;)V"⟩, 29) := ⟨⟨by decide +kernel, by decide +kernel⟩, List.mem_of_getElem? (i := 841) (by decide +kernel), List.mem_of_getElem? (i := 959) (by decide +kernel), List.mem_of_getElem? (i := 960) (by decide +kernel)⟩
theorem lw_p29 : lw_okq (⟨"DrunkByYearModel", "must", "(I)V"⟩, 29) := ⟨⟨by decide +kernel, by decide +kernel⟩, List.mem_of_getElem? (i := 841) (by decide +kernel), List.mem_of_getElem? (i := 965) (by decide +kernel), List.mem_of_getElem? (i := 966) (by decide +kernel)⟩
theorem lw_p30 : lw_okq (⟨"DrunkByYearModel", "figures", "()I"⟩, 29) := ⟨⟨by decide +kernel, by decide +kernel⟩, List.mem_of_getElem? (i := 841) (by decide +kernel), List.mem_of_getElem? (i := 969) (by decide +kernel), List.mem_of_getElem? (i := 970) (by decide +kernel)⟩
theorem lw_p31 : lw_okq (⟨"DrunkByYearModel", "much", "(ILjava/lang/String;)V"⟩, 29) := ⟨⟨by decide +kernel, by decide +kernel⟩, List.mem_of_getElem? (i := 841) (by decide +kernel), List.mem_of_getElem? (i := 975) (by decide +kernel), List.mem_of_getElem? (i := 976) (by decide +kernel)⟩
def lw_privs_2 : List (MethodName × Nat) := [(⟨"DrunkByYear$Search", "lookAhead", "(I)V"⟩, 15), (⟨"DrunkByYear$Search", "sit", "(IIIII)V"⟩, 15), (⟨"DrunkByYear$Search", "leastCost", "(IIII)I"⟩, 15), (⟨"DrunkByYear$Search", "isBetter", "(II)Z"⟩, 15), (⟨"DrunkByYear$Search", "keep", "(II)V"⟩, 15), (⟨"DrunkByYear$Search", "result", "(I)I"⟩, 15), (⟨"DrunkByYear", "tellAge", "(LDrunkByYear$Rows;II)I"⟩, 7), (⟨"DrunkByYear$Acts", "perform", "(LDrunkByYear$Person;IIII)I"⟩, 2), (⟨"DrunkByYear$Acts", "begin", "(I)V"⟩, 2), (⟨"DrunkByYearModel", "clauseHere", "()V"⟩, 29), (⟨"DrunkByYearModel", "here", "()I"⟩, 29), (⟨"DrunkByYearModel", "tellsHere", "(ILjava/lang/String;)V"⟩, 29), (⟨"DrunkByYearModel", "spells", "(Ljava/lang/String;)V"⟩, 29), (⟨"DrunkByYearModel", "must", "(I)V"⟩, 29), (⟨"DrunkByYearModel", "figures", "()I"⟩, 29), (⟨"DrunkByYearModel", "much", "(ILjava/lang/String;)V"⟩, 29)]
theorem lw_r2 : ∀ q ∈ lw_privs_2, lw_okq q := List.forall_mem_cons.mpr ⟨lw_p16, List.forall_mem_cons.mpr ⟨lw_p17, List.forall_mem_cons.mpr ⟨lw_p18, List.forall_mem_cons.mpr ⟨lw_p19, List.forall_mem_cons.mpr ⟨lw_p20, List.forall_mem_cons.mpr ⟨lw_p21, List.forall_mem_cons.mpr ⟨lw_p22, List.forall_mem_cons.mpr ⟨lw_p23, List.forall_mem_cons.mpr ⟨lw_p24, List.forall_mem_cons.mpr ⟨lw_p25, List.forall_mem_cons.mpr ⟨lw_p26, List.forall_mem_cons.mpr ⟨lw_p27, List.forall_mem_cons.mpr ⟨lw_p28, List.forall_mem_cons.mpr ⟨lw_p29, List.forall_mem_cons.mpr ⟨lw_p30, List.forall_mem_cons.mpr ⟨lw_p31, fun _ h => absurd h List.not_mem_nil⟩⟩⟩⟩⟩⟩⟩⟩⟩⟩⟩⟩⟩⟩⟩⟩
theorem lw_p32 : lw_okq (⟨"DrunkByYearModel", "some", "()V"⟩, 29) := ⟨⟨by decide +kernel, by decide +kernel⟩, List.mem_of_getElem? (i := 841) (by decide +kernel), List.mem_of_getElem? (i := 979) (by decide +kernel), List.mem_of_getElem? (i := 980) (by decide +kernel)⟩
theorem lw_p33 : lw_okq (⟨"DrunkByYearModel", "every", "()V"⟩, 29) := ⟨⟨by decide +kernel, by decide +kernel⟩, List.mem_of_getElem? (i := 841) (by decide +kernel), List.mem_of_getElem? (i := 983) (by decide +kernel), List.mem_of_getElem? (i := 984) (by decide +kernel)⟩
theorem lw_p34 : lw_okq (⟨"DrunkByYearModel", "factor", "()V"⟩, 29) := ⟨⟨by decide +kernel, by decide +kernel⟩, List.mem_of_getElem? (i := 841) (by decide +kernel), List.mem_of_getElem? (i := 987) (by decide +kernel), List.mem_of_getElem? (i := 988) (by decide +kernel)⟩
theorem lw_p35 : lw_okq (⟨"DrunkByYearModel", "emits", "(I)V"⟩, 29) := ⟨⟨by decide +kernel, by decide +kernel⟩, List.mem_of_getElem? (i := 841) (by decide +kernel), List.mem_of_getElem? (i := 991) (by decide +kernel), List.mem_of_getElem? (i := 992) (by decide +kernel)⟩
theorem lw_p36 : lw_okq (⟨"DrunkByYearModel", "among", "(Ljava/lang/String;)I"⟩, 29) := ⟨⟨by decide +kernel, by decide +kernel⟩, List.mem_of_getElem? (i := 841) (by decide +kernel), List.mem_of_getElem? (i := 996) (by decide +kernel), List.mem_of_getElem? (i := 997) (by decide +kernel)⟩
theorem lw_p37 : lw_okq (⟨"DrunkByYearModel", "newVintage", "(II)I"⟩, 29) := ⟨⟨by decide +kernel, by decide +kernel⟩, List.mem_of_getElem? (i := 841) (by decide +kernel), List.mem_of_getElem? (i := 1010) (by decide +kernel), List.mem_of_getElem? (i := 1011) (by decide +kernel)⟩
theorem lw_p38 : lw_okq (⟨"DrunkByYearModel", "isPerson", "(I)Z"⟩, 29) := ⟨⟨by decide +kernel, by decide +kernel⟩, List.mem_of_getElem? (i := 841) (by decide +kernel), List.mem_of_getElem? (i := 1018) (by decide +kernel), List.mem_of_getElem? (i := 1019) (by decide +kernel)⟩
theorem lw_p39 : lw_okq (⟨"DrunkByYearModel", "ageOf", "(I)I"⟩, 29) := ⟨⟨by decide +kernel, by decide +kernel⟩, List.mem_of_getElem? (i := 841) (by decide +kernel), List.mem_of_getElem? (i := 1025) (by decide +kernel), List.mem_of_getElem? (i := 1026) (by decide +kernel)⟩
theorem lw_p40 : lw_okq (⟨"DrunkByYearModel", "ageBy", "(II)I"⟩, 29) := ⟨⟨by decide +kernel, by decide +kernel⟩, List.mem_of_getElem? (i := 841) (by decide +kernel), List.mem_of_getElem? (i := 1029) (by decide +kernel), List.mem_of_getElem? (i := 1030) (by decide +kernel)⟩
theorem lw_p41 : lw_okq (⟨"DrunkByYearModel", "ageIn", "(II)I"⟩, 29) := ⟨⟨by decide +kernel, by decide +kernel⟩, List.mem_of_getElem? (i := 841) (by decide +kernel), List.mem_of_getElem? (i := 1033) (by decide +kernel), List.mem_of_getElem? (i := 1034) (by decide +kernel)⟩
theorem lw_p42 : lw_okq (⟨"DrunkByYearModel", "isHere", "(I)Z"⟩, 29) := ⟨⟨by decide +kernel, by decide +kernel⟩, List.mem_of_getElem? (i := 841) (by decide +kernel), List.mem_of_getElem? (i := 1037) (by decide +kernel), List.mem_of_getElem? (i := 1038) (by decide +kernel)⟩
theorem lw_p43 : lw_okq (⟨"DrunkByYearModel", "isHereAt", "(II)Z"⟩, 29) := ⟨⟨by decide +kernel, by decide +kernel⟩, List.mem_of_getElem? (i := 841) (by decide +kernel), List.mem_of_getElem? (i := 1041) (by decide +kernel), List.mem_of_getElem? (i := 1042) (by decide +kernel)⟩
theorem lw_p44 : lw_okq (⟨"DrunkByYearModel", "stageAt", "(II)I"⟩, 29) := ⟨⟨by decide +kernel, by decide +kernel⟩, List.mem_of_getElem? (i := 841) (by decide +kernel), List.mem_of_getElem? (i := 1045) (by decide +kernel), List.mem_of_getElem? (i := 1046) (by decide +kernel)⟩
theorem lw_p45 : lw_okq (⟨"DrunkByYearModel", "tellsOf", "(II)I"⟩, 29) := ⟨⟨by decide +kernel, by decide +kernel⟩, List.mem_of_getElem? (i := 841) (by decide +kernel), List.mem_of_getElem? (i := 1049) (by decide +kernel), List.mem_of_getElem? (i := 1050) (by decide +kernel)⟩
theorem lw_p46 : lw_okq (⟨"DrunkByYearModel", "nerveBy", "(II)I"⟩, 29) := ⟨⟨by decide +kernel, by decide +kernel⟩, List.mem_of_getElem? (i := 841) (by decide +kernel), List.mem_of_getElem? (i := 1053) (by decide +kernel), List.mem_of_getElem? (i := 1054) (by decide +kernel)⟩
theorem lw_p47 : lw_okq (⟨"DrunkByYearModel", "looks", "(II)I"⟩, 29) := ⟨⟨by decide +kernel, by decide +kernel⟩, List.mem_of_getElem? (i := 841) (by decide +kernel), List.mem_of_getElem? (i := 1057) (by decide +kernel), List.mem_of_getElem? (i := 1058) (by decide +kernel)⟩
def lw_privs_3 : List (MethodName × Nat) := [(⟨"DrunkByYearModel", "some", "()V"⟩, 29), (⟨"DrunkByYearModel", "every", "()V"⟩, 29), (⟨"DrunkByYearModel", "factor", "()V"⟩, 29), (⟨"DrunkByYearModel", "emits", "(I)V"⟩, 29), (⟨"DrunkByYearModel", "among", "(Ljava/lang/String;)I"⟩, 29), (⟨"DrunkByYearModel", "newVintage", "(II)I"⟩, 29), (⟨"DrunkByYearModel", "isPerson", "(I)Z"⟩, 29), (⟨"DrunkByYearModel", "ageOf", "(I)I"⟩, 29), (⟨"DrunkByYearModel", "ageBy", "(II)I"⟩, 29), (⟨"DrunkByYearModel", "ageIn", "(II)I"⟩, 29), (⟨"DrunkByYearModel", "isHere", "(I)Z"⟩, 29), (⟨"DrunkByYearModel", "isHereAt", "(II)Z"⟩, 29), (⟨"DrunkByYearModel", "stageAt", "(II)I"⟩, 29), (⟨"DrunkByYearModel", "tellsOf", "(II)I"⟩, 29), (⟨"DrunkByYearModel", "nerveBy", "(II)I"⟩, 29), (⟨"DrunkByYearModel", "looks", "(II)I"⟩, 29)]
theorem lw_r3 : ∀ q ∈ lw_privs_3, lw_okq q := List.forall_mem_cons.mpr ⟨lw_p32, List.forall_mem_cons.mpr ⟨lw_p33, List.forall_mem_cons.mpr ⟨lw_p34, List.forall_mem_cons.mpr ⟨lw_p35, List.forall_mem_cons.mpr ⟨lw_p36, List.forall_mem_cons.mpr ⟨lw_p37, List.forall_mem_cons.mpr ⟨lw_p38, List.forall_mem_cons.mpr ⟨lw_p39, List.forall_mem_cons.mpr ⟨lw_p40, List.forall_mem_cons.mpr ⟨lw_p41, List.forall_mem_cons.mpr ⟨lw_p42, List.forall_mem_cons.mpr ⟨lw_p43, List.forall_mem_cons.mpr ⟨lw_p44, List.forall_mem_cons.mpr ⟨lw_p45, List.forall_mem_cons.mpr ⟨lw_p46, List.forall_mem_cons.mpr ⟨lw_p47, fun _ h => absurd h List.not_mem_nil⟩⟩⟩⟩⟩⟩⟩⟩⟩⟩⟩⟩⟩⟩⟩⟩
theorem lw_p48 : lw_okq (⟨"DrunkByYearModel", "isVintage", "(I)Z"⟩, 29) := ⟨⟨by decide +kernel, by decide +kernel⟩, List.mem_of_getElem? (i := 841) (by decide +kernel), List.mem_of_getElem? (i := 1069) (by decide +kernel), List.mem_of_getElem? (i := 1070) (by decide +kernel)⟩
theorem lw_p49 : lw_okq (⟨"DrunkByYearModel", "whoIsHere", "()I"⟩, 29) := ⟨⟨by decide +kernel, by decide +kernel⟩, List.mem_of_getElem? (i := 841) (by decide +kernel), List.mem_of_getElem? (i := 1081) (by decide +kernel), List.mem_of_getElem? (i := 1082) (by decide +kernel)⟩
theorem lw_p50 : lw_okq (⟨"DrunkByYearModel", "allNerve", "()I"⟩, 29) := ⟨⟨by decide +kernel, by decide +kernel⟩, List.mem_of_getElem? (i := 841) (by decide +kernel), List.mem_of_getElem? (i := 1085) (by decide +kernel), List.mem_of_getElem? (i := 1086) (by decide +kernel)⟩
theorem lw_p51 : lw_okq (⟨"DrunkByYearModel", "allBottles", "()I"⟩, 29) := ⟨⟨by decide +kernel, by decide +kernel⟩, List.mem_of_getElem? (i := 841) (by decide +kernel), List.mem_of_getElem? (i := 1089) (by decide +kernel), List.mem_of_getElem? (i := 1090) (by decide +kernel)⟩
theorem lw_p52 : lw_okq (⟨"DrunkByYearModel", "pours", "(II)V"⟩, 29) := ⟨⟨by decide +kernel, by decide +kernel⟩, List.mem_of_getElem? (i := 841) (by decide +kernel), List.mem_of_getElem? (i := 1097) (by decide +kernel), List.mem_of_getElem? (i := 1098) (by decide +kernel)⟩
theorem lw_p53 : lw_okq (⟨"DrunkByYearModel", "dawns", "()V"⟩, 29) := ⟨⟨by decide +kernel, by decide +kernel⟩, List.mem_of_getElem? (i := 841) (by decide +kernel), List.mem_of_getElem? (i := 1109) (by decide +kernel), List.mem_of_getElem? (i := 1110) (by decide +kernel)⟩
theorem lw_p54 : lw_okq (⟨"DrunkByYearModel", "keeps", "()V"⟩, 29) := ⟨⟨by decide +kernel, by decide +kernel⟩, List.mem_of_getElem? (i := 841) (by decide +kernel), List.mem_of_getElem? (i := 1121) (by decide +kernel), List.mem_of_getElem? (i := 1122) (by decide +kernel)⟩
theorem lw_p55 : lw_okq (⟨"DrunkByYearModel", "goesBack", "()V"⟩, 29) := ⟨⟨by decide +kernel, by decide +kernel⟩, List.mem_of_getElem? (i := 841) (by decide +kernel), List.mem_of_getElem? (i := 1125) (by decide +kernel), List.mem_of_getElem? (i := 1126) (by decide +kernel)⟩
theorem lw_p56 : lw_okq (⟨"DrunkByYearModel", "isAsked", "(I)Z"⟩, 29) := ⟨⟨by decide +kernel, by decide +kernel⟩, List.mem_of_getElem? (i := 841) (by decide +kernel), List.mem_of_getElem? (i := 1153) (by decide +kernel), List.mem_of_getElem? (i := 1154) (by decide +kernel)⟩
theorem lw_p57 : lw_okq (⟨"DrunkByYearModel", "everybody", "()I"⟩, 29) := ⟨⟨by decide +kernel, by decide +kernel⟩, List.mem_of_getElem? (i := 841) (by decide +kernel), List.mem_of_getElem? (i := 1157) (by decide +kernel), List.mem_of_getElem? (i := 1158) (by decide +kernel)⟩
theorem lw_p58 : lw_okq (⟨"DrunkByYearModel", "looksForSeating", "(II)V"⟩, 29) := ⟨⟨by decide +kernel, by decide +kernel⟩, List.mem_of_getElem? (i := 841) (by decide +kernel), List.mem_of_getElem? (i := 1161) (by decide +kernel), List.mem_of_getElem? (i := 1162) (by decide +kernel)⟩
theorem lw_p59 : lw_okq (⟨"DrunkByYearModel", "looksForSeats", "()V"⟩, 29) := ⟨⟨by decide +kernel, by decide +kernel⟩, List.mem_of_getElem? (i := 841) (by decide +kernel), List.mem_of_getElem? (i := 1165) (by decide +kernel), List.mem_of_getElem? (i := 1166) (by decide +kernel)⟩
theorem lw_p60 : lw_okq (⟨"DrunkByYearModel", "seatsFrom", "(II)V"⟩, 29) := ⟨⟨by decide +kernel, by decide +kernel⟩, List.mem_of_getElem? (i := 841) (by decide +kernel), List.mem_of_getElem? (i := 1169) (by decide +kernel), List.mem_of_getElem? (i := 1170) (by decide +kernel)⟩
theorem lw_p61 : lw_okq (⟨"DrunkByYearModel", "keepsSeat", "(I)V"⟩, 29) := ⟨⟨by decide +kernel, by decide +kernel⟩, List.mem_of_getElem? (i := 841) (by decide +kernel), List.mem_of_getElem? (i := 1173) (by decide +kernel), List.mem_of_getElem? (i := 1174) (by decide +kernel)⟩
theorem lw_p62 : lw_okq (⟨"DrunkByYearModel", "worth", "()I"⟩, 29) := ⟨⟨by decide +kernel, by decide +kernel⟩, List.mem_of_getElem? (i := 841) (by decide +kernel), List.mem_of_getElem? (i := 1177) (by decide +kernel), List.mem_of_getElem? (i := 1178) (by decide +kernel)⟩
theorem lw_p63 : lw_okq (⟨"DrunkByYearModel", "spread", "()I"⟩, 29) := ⟨⟨by decide +kernel, by decide +kernel⟩, List.mem_of_getElem? (i := 841) (by decide +kernel), List.mem_of_getElem? (i := 1181) (by decide +kernel), List.mem_of_getElem? (i := 1182) (by decide +kernel)⟩
def lw_privs_4 : List (MethodName × Nat) := [(⟨"DrunkByYearModel", "isVintage", "(I)Z"⟩, 29), (⟨"DrunkByYearModel", "whoIsHere", "()I"⟩, 29), (⟨"DrunkByYearModel", "allNerve", "()I"⟩, 29), (⟨"DrunkByYearModel", "allBottles", "()I"⟩, 29), (⟨"DrunkByYearModel", "pours", "(II)V"⟩, 29), (⟨"DrunkByYearModel", "dawns", "()V"⟩, 29), (⟨"DrunkByYearModel", "keeps", "()V"⟩, 29), (⟨"DrunkByYearModel", "goesBack", "()V"⟩, 29), (⟨"DrunkByYearModel", "isAsked", "(I)Z"⟩, 29), (⟨"DrunkByYearModel", "everybody", "()I"⟩, 29), (⟨"DrunkByYearModel", "looksForSeating", "(II)V"⟩, 29), (⟨"DrunkByYearModel", "looksForSeats", "()V"⟩, 29), (⟨"DrunkByYearModel", "seatsFrom", "(II)V"⟩, 29), (⟨"DrunkByYearModel", "keepsSeat", "(I)V"⟩, 29), (⟨"DrunkByYearModel", "worth", "()I"⟩, 29), (⟨"DrunkByYearModel", "spread", "()I"⟩, 29)]
theorem lw_r4 : ∀ q ∈ lw_privs_4, lw_okq q := List.forall_mem_cons.mpr ⟨lw_p48, List.forall_mem_cons.mpr ⟨lw_p49, List.forall_mem_cons.mpr ⟨lw_p50, List.forall_mem_cons.mpr ⟨lw_p51, List.forall_mem_cons.mpr ⟨lw_p52, List.forall_mem_cons.mpr ⟨lw_p53, List.forall_mem_cons.mpr ⟨lw_p54, List.forall_mem_cons.mpr ⟨lw_p55, List.forall_mem_cons.mpr ⟨lw_p56, List.forall_mem_cons.mpr ⟨lw_p57, List.forall_mem_cons.mpr ⟨lw_p58, List.forall_mem_cons.mpr ⟨lw_p59, List.forall_mem_cons.mpr ⟨lw_p60, List.forall_mem_cons.mpr ⟨lw_p61, List.forall_mem_cons.mpr ⟨lw_p62, List.forall_mem_cons.mpr ⟨lw_p63, fun _ h => absurd h List.not_mem_nil⟩⟩⟩⟩⟩⟩⟩⟩⟩⟩⟩⟩⟩⟩⟩⟩
theorem lw_p64 : lw_okq (⟨"DrunkByYearModel", "seatOf", "(I)I"⟩, 29) := ⟨⟨by decide +kernel, by decide +kernel⟩, List.mem_of_getElem? (i := 841) (by decide +kernel), List.mem_of_getElem? (i := 1185) (by decide +kernel), List.mem_of_getElem? (i := 1186) (by decide +kernel)⟩
theorem lw_p65 : lw_okq (⟨"DrunkByYearModel", "isAsSeen", "(II)Z"⟩, 29) := ⟨⟨by decide +kernel, by decide +kernel⟩, List.mem_of_getElem? (i := 841) (by decide +kernel), List.mem_of_getElem? (i := 1208) (by decide +kernel), List.mem_of_getElem? (i := 1209) (by decide +kernel)⟩
theorem lw_p66 : lw_okq (⟨"DrunkByYearModel", "looksForFitting", "(III)V"⟩, 29) := ⟨⟨by decide +kernel, by decide +kernel⟩, List.mem_of_getElem? (i := 841) (by decide +kernel), List.mem_of_getElem? (i := 1216) (by decide +kernel), List.mem_of_getElem? (i := 1217) (by decide +kernel)⟩
theorem lw_p67 : lw_okq (⟨"DrunkByYearModel", "does", "(III)V"⟩, 29) := ⟨⟨by decide +kernel, by decide +kernel⟩, List.mem_of_getElem? (i := 841) (by decide +kernel), List.mem_of_getElem? (i := 1247) (by decide +kernel), List.mem_of_getElem? (i := 1248) (by decide +kernel)⟩
theorem lw_p68 : lw_okq (⟨"DrunkByYearModel", "drinksActs", "(I)I"⟩, 29) := ⟨⟨by decide +kernel, by decide +kernel⟩, List.mem_of_getElem? (i := 841) (by decide +kernel), List.mem_of_getElem? (i := 1263) (by decide +kernel), List.mem_of_getElem? (i := 1264) (by decide +kernel)⟩
theorem lw_p69 : lw_okq (⟨"DrunkByYearModel", "ranBody", "(I)V"⟩, 29) := ⟨⟨by decide +kernel, by decide +kernel⟩, List.mem_of_getElem? (i := 841) (by decide +kernel), List.mem_of_getElem? (i := 1270) (by decide +kernel), List.mem_of_getElem? (i := 1271) (by decide +kernel)⟩
theorem lw_p70 : lw_okq (⟨"DrunkByYearModel", "plainDrinks", "(I)I"⟩, 29) := ⟨⟨by decide +kernel, by decide +kernel⟩, List.mem_of_getElem? (i := 841) (by decide +kernel), List.mem_of_getElem? (i := 1274) (by decide +kernel), List.mem_of_getElem? (i := 1275) (by decide +kernel)⟩
theorem lw_p71 : lw_okq (⟨"DrunkByYearModel", "agesActs", "(I)I"⟩, 29) := ⟨⟨by decide +kernel, by decide +kernel⟩, List.mem_of_getElem? (i := 841) (by decide +kernel), List.mem_of_getElem? (i := 1278) (by decide +kernel), List.mem_of_getElem? (i := 1279) (by decide +kernel)⟩
theorem lw_p72 : lw_okq (⟨"DrunkByYearModel", "plainAges", "(I)I"⟩, 29) := ⟨⟨by decide +kernel, by decide +kernel⟩, List.mem_of_getElem? (i := 841) (by decide +kernel), List.mem_of_getElem? (i := 1282) (by decide +kernel), List.mem_of_getElem? (i := 1283) (by decide +kernel)⟩
theorem lw_p73 : lw_okq (⟨"DrunkByYearModel", "tellsActs", "(I)I"⟩, 29) := ⟨⟨by decide +kernel, by decide +kernel⟩, List.mem_of_getElem? (i := 841) (by decide +kernel), List.mem_of_getElem? (i := 1286) (by decide +kernel), List.mem_of_getElem? (i := 1287) (by decide +kernel)⟩
theorem lw_p74 : lw_okq (⟨"DrunkByYearModel", "plainTelling", "(I)I"⟩, 29) := ⟨⟨by decide +kernel, by decide +kernel⟩, List.mem_of_getElem? (i := 841) (by decide +kernel), List.mem_of_getElem? (i := 1290) (by decide +kernel), List.mem_of_getElem? (i := 1291) (by decide +kernel)⟩
def lw_privs_5 : List (MethodName × Nat) := [(⟨"DrunkByYearModel", "seatOf", "(I)I"⟩, 29), (⟨"DrunkByYearModel", "isAsSeen", "(II)Z"⟩, 29), (⟨"DrunkByYearModel", "looksForFitting", "(III)V"⟩, 29), (⟨"DrunkByYearModel", "does", "(III)V"⟩, 29), (⟨"DrunkByYearModel", "drinksActs", "(I)I"⟩, 29), (⟨"DrunkByYearModel", "ranBody", "(I)V"⟩, 29), (⟨"DrunkByYearModel", "plainDrinks", "(I)I"⟩, 29), (⟨"DrunkByYearModel", "agesActs", "(I)I"⟩, 29), (⟨"DrunkByYearModel", "plainAges", "(I)I"⟩, 29), (⟨"DrunkByYearModel", "tellsActs", "(I)I"⟩, 29), (⟨"DrunkByYearModel", "plainTelling", "(I)I"⟩, 29)]
theorem lw_r5 : ∀ q ∈ lw_privs_5, lw_okq q := List.forall_mem_cons.mpr ⟨lw_p64, List.forall_mem_cons.mpr ⟨lw_p65, List.forall_mem_cons.mpr ⟨lw_p66, List.forall_mem_cons.mpr ⟨lw_p67, List.forall_mem_cons.mpr ⟨lw_p68, List.forall_mem_cons.mpr ⟨lw_p69, List.forall_mem_cons.mpr ⟨lw_p70, List.forall_mem_cons.mpr ⟨lw_p71, List.forall_mem_cons.mpr ⟨lw_p72, List.forall_mem_cons.mpr ⟨lw_p73, List.forall_mem_cons.mpr ⟨lw_p74, fun _ h => absurd h List.not_mem_nil⟩⟩⟩⟩⟩⟩⟩⟩⟩⟩⟩
def lw_privs : List (MethodName × Nat) := lw_privs_1 ++ (lw_privs_2 ++ (lw_privs_3 ++ (lw_privs_4 ++ (lw_privs_5))))
def lw_tbl : List Cond := k2_sels lw_privs ++ tables_1
theorem lw_privs_ok : ∀ q ∈ lw_privs, lw_okq q := by
  show ∀ q ∈ lw_privs_1 ++ (lw_privs_2 ++ (lw_privs_3 ++ (lw_privs_4 ++ (lw_privs_5)))), lw_okq q
  exact List.forall_mem_append.mpr ⟨lw_r1, List.forall_mem_append.mpr ⟨lw_r2, List.forall_mem_append.mpr ⟨lw_r3, List.forall_mem_append.mpr ⟨lw_r4, lw_r5⟩⟩⟩⟩
-- ===== end of PART A; then your names; then what follows =====
/-! ===== BEGIN words of one list among another's, by their places ===== -/
theorem goodIn_r {big : List Cond} (ws : List Cond) (ps : List Nat) (hp : ws = ps.filterMap (fun i => big[i]?)) (h : ws.all goodWord = true) : GoodIn big ws := by
  intro w hw
  have h1 := List.all_eq_true.mp h w hw
  rw [hp] at hw
  obtain ⟨i, -, hi⟩ := List.mem_filterMap.mp hw
  have hm : w ∈ big := by first | exact List.mem_of_getElem? hi | exact List.getElem?_mem hi
  exact ⟨hm, good_of_word h1⟩
theorem goodIn_app {big a b : List Cond} (ha : GoodIn big a) (hb : GoodIn big b) : GoodIn big (a ++ b) := fun w h => (List.mem_append.mp h).elim (ha w) (hb w)
theorem goodIn_ca {big a b : List Cond} {c : Cond} (ha : GoodIn big (c :: a)) (hb : GoodIn big b) : GoodIn big (c :: (a ++ b)) := fun w h => (List.mem_cons.mp h).elim (fun e => ha w (List.mem_cons.mpr (Or.inl e))) (fun h => (List.mem_append.mp h).elim (fun h => ha w (List.mem_cons.mpr (Or.inr h))) (hb w))
theorem goodIn_sub {big ws : List Cond} (hm : ∀ w ∈ ws, w ∈ big) (h : ws.all goodWord = true) : GoodIn big ws := fun w hw => ⟨hm w hw, good_of_word (List.all_eq_true.mp h w hw)⟩
/-! ===== END ===== -/
/-! ===== BEGIN printed: names, fields, word lists, decode rows ===== -/
def RX0 : String := "DrunkByYear$Acts"
def TX0 : u_T := fun k => match k with
  | 0 => ("DrunkByYear$Acts", "bodies", "[I", true)
  | _ => ("DrunkByYear$Acts", "ran", "I", false)
def tyX0 : Nat → FieldType := fun k => match k with
  | 0 => .array .int
  | _ => .int
abbrev wsX00 : List Cond := u_ws RX0 TX0 2
theorem nmX0 : ∀ a, a < 2 → ∀ b, b < 2 → a ≠ b → (TX0 a).2.1 ≠ (TX0 b).2.1 := by decide +kernel
theorem tyX0_ok : ∀ k, k < 2 → parseFieldDescriptor (TX0 k).2.2.1 = some (tyX0 k) := by decide +kernel
abbrev cX0_init : ByteArray := prog_2_method_1_code
def yX0_init : MethodName := ⟨RX0, "<init>", "()V"⟩
abbrev cX0_perform : ByteArray := prog_2_method_2_code
def yX0_perform : MethodName := ⟨RX0, "perform", "(LDrunkByYear$Person;IIII)I"⟩
abbrev cX0_begin : ByteArray := prog_2_method_3_code
def yX0_begin : MethodName := ⟨RX0, "begin", "(I)V"⟩
def RX1 : String := "DrunkByYear$Person"
def TX1 : u_T := fun k => match k with
  | 0 => ("DrunkByYear$Person", "number", "I", true)
  | 1 => ("DrunkByYear$Person", "kind", "I", false)
  | 2 => ("DrunkByYear$Person", "v", "I", false)
  | 3 => ("DrunkByYear$Person", "born", "I", false)
  | 4 => ("DrunkByYear$Person", "life", "I", false)
  | 5 => ("DrunkByYear$Person", "has", "I", false)
  | _ => ("DrunkByYear$Person", "row", "[I", true)
def tyX1 : Nat → FieldType := fun k => match k with
  | 0 => .int
  | 1 => .int
  | 2 => .int
  | 3 => .int
  | 4 => .int
  | 5 => .int
  | _ => .array .int
abbrev wsX10 : List Cond := u_ws RX1 TX1 7
theorem nmX1 : ∀ a, a < 7 → ∀ b, b < 7 → a ≠ b → (TX1 a).2.1 ≠ (TX1 b).2.1 := by decide +kernel
theorem tyX1_ok : ∀ k, k < 7 → parseFieldDescriptor (TX1 k).2.2.1 = some (tyX1 k) := by decide +kernel
abbrev cX1_init : ByteArray := prog_3_method_1_code
def yX1_init : MethodName := ⟨RX1, "<init>", "(I)V"⟩
abbrev cX1_comeToLife : ByteArray := prog_3_method_2_code
def yX1_comeToLife : MethodName := ⟨RX1, "comeToLife", "(IIII)V"⟩
abbrev cX1_become : ByteArray := prog_3_method_3_code
def yX1_become : MethodName := ⟨RX1, "become", "(LDrunkByYear$Person;)V"⟩
abbrev cX1_isHereAt : ByteArray := prog_3_method_4_code
def yX1_isHereAt : MethodName := ⟨RX1, "isHereAt", "(I)Z"⟩
abbrev cX1_ageIn : ByteArray := prog_3_method_5_code
def yX1_ageIn : MethodName := ⟨RX1, "ageIn", "(II)I"⟩
abbrev cX1_ageHad : ByteArray := prog_3_method_6_code
def yX1_ageHad : MethodName := ⟨RX1, "ageHad", "(IIII)I"⟩
def RX2 : String := "DrunkByYear$Reader"
def TX2 : u_T := fun k => match k with
  | 0 => ("DrunkByYear$Reader", "text", "[C", true)
  | 1 => ("DrunkByYear$Reader", "size", "I", true)
  | 2 => ("DrunkByYear$Reader", "village", "LDrunkByYear$Village;", true)
  | _ => ("DrunkByYear$Reader", "at", "I", false)
def tyX2 : Nat → FieldType := fun k => match k with
  | 0 => .array .char
  | 1 => .int
  | 2 => .object "DrunkByYear$Village"
  | _ => .int
abbrev wsX20 : List Cond := u_ws RX2 TX2 4
theorem nmX2 : ∀ a, a < 4 → ∀ b, b < 4 → a ≠ b → (TX2 a).2.1 ≠ (TX2 b).2.1 := by decide +kernel
theorem tyX2_ok : ∀ k, k < 4 → parseFieldDescriptor (TX2 k).2.2.1 = some (tyX2 k) := by decide +kernel
abbrev cX2_init : ByteArray := prog_4_method_1_code
def yX2_init : MethodName := ⟨RX2, "<init>", "([CILDrunkByYear$Village;)V"⟩
abbrev cX2_readVillage : ByteArray := prog_4_method_2_code
def yX2_readVillage : MethodName := ⟨RX2, "readVillage", "()Z"⟩
abbrev cX2_readClause : ByteArray := prog_4_method_3_code
def yX2_readClause : MethodName := ⟨RX2, "readClause", "()Z"⟩
abbrev cX2_readEither : ByteArray := prog_4_method_4_code
def yX2_readEither : MethodName := ⟨RX2, "readEither", "(I)Z"⟩
abbrev cX2_readFactor : ByteArray := prog_4_method_5_code
def yX2_readFactor : MethodName := ⟨RX2, "readFactor", "(I)Z"⟩
abbrev cX2_readTest : ByteArray := prog_4_method_6_code
def yX2_readTest : MethodName := ⟨RX2, "readTest", "()Z"⟩
abbrev cX2_readNumber : ByteArray := prog_4_method_7_code
def yX2_readNumber : MethodName := ⟨RX2, "readNumber", "()I"⟩
abbrev cX2_readOneOf : ByteArray := prog_4_method_8_code
def yX2_readOneOf : MethodName := ⟨RX2, "readOneOf", "(Ljava/lang/String;)I"⟩
abbrev cX2_takesAll : ByteArray := prog_4_method_9_code
def yX2_takesAll : MethodName := ⟨RX2, "takesAll", "(Ljava/lang/String;)Z"⟩
abbrev cX2_takes : ByteArray := prog_4_method_10_code
def yX2_takes : MethodName := ⟨RX2, "takes", "(C)Z"⟩
def RX3 : String := "DrunkByYear$Rows"
def TX3 : u_T := fun k => match k with
  | 0 => ("DrunkByYear$Rows", "what", "[I", true)
  | 1 => ("DrunkByYear$Rows", "who", "[I", true)
  | 2 => ("DrunkByYear$Rows", "number", "[I", true)
  | _ => ("DrunkByYear$Rows", "size", "I", false)
def tyX3 : Nat → FieldType := fun k => match k with
  | 0 => .array .int
  | 1 => .array .int
  | 2 => .array .int
  | _ => .int
abbrev wsX30 : List Cond := u_ws RX3 TX3 4
theorem nmX3 : ∀ a, a < 4 → ∀ b, b < 4 → a ≠ b → (TX3 a).2.1 ≠ (TX3 b).2.1 := by decide +kernel
theorem tyX3_ok : ∀ k, k < 4 → parseFieldDescriptor (TX3 k).2.2.1 = some (tyX3 k) := by decide +kernel
abbrev cX3_init : ByteArray := prog_5_method_1_code
def yX3_init : MethodName := ⟨RX3, "<init>", "(I)V"⟩
abbrev cX3_empty : ByteArray := prog_5_method_2_code
def yX3_empty : MethodName := ⟨RX3, "empty", "()I"⟩
abbrev cX3_add : ByteArray := prog_5_method_3_code
def yX3_add : MethodName := ⟨RX3, "add", "(III)I"⟩
abbrev cX3_become : ByteArray := prog_5_method_4_code
def yX3_become : MethodName := ⟨RX3, "become", "(LDrunkByYear$Rows;)V"⟩
def RX4 : String := "DrunkByYear$Search"
def TX4 : u_T := fun k => match k with
  | 0 => ("DrunkByYear$Search", "world", "LDrunkByYear$World;", true)
  | 1 => ("DrunkByYear$Search", "age", "[[I", true)
  | 2 => ("DrunkByYear$Search", "nerve", "[[I", true)
  | 3 => ("DrunkByYear$Search", "may", "[I", true)
  | 4 => ("DrunkByYear$Search", "left", "[I", true)
  | 5 => ("DrunkByYear$Search", "seat", "[I", true)
  | 6 => ("DrunkByYear$Search", "bestSeat", "[I", true)
  | 7 => ("DrunkByYear$Search", "havingAhead", "[I", true)
  | 8 => ("DrunkByYear$Search", "nerveAhead", "[I", true)
  | 9 => ("DrunkByYear$Search", "lowAhead", "[I", true)
  | 10 => ("DrunkByYear$Search", "highAhead", "[I", true)
  | 11 => ("DrunkByYear$Search", "aim", "I", false)
  | 12 => ("DrunkByYear$Search", "bestCost", "I", false)
  | 13 => ("DrunkByYear$Search", "bestHaving", "I", false)
  | _ => ("DrunkByYear$Search", "found", "Z", false)
def tyX4 : Nat → FieldType := fun k => match k with
  | 0 => .object "DrunkByYear$World"
  | 1 => .array (.array .int)
  | 2 => .array (.array .int)
  | 3 => .array .int
  | 4 => .array .int
  | 5 => .array .int
  | 6 => .array .int
  | 7 => .array .int
  | 8 => .array .int
  | 9 => .array .int
  | 10 => .array .int
  | 11 => .int
  | 12 => .int
  | 13 => .int
  | _ => .boolean
abbrev wsX40 : List Cond := u_ws RX4 TX4 15
theorem nmX4 : ∀ a, a < 15 → ∀ b, b < 15 → a ≠ b → (TX4 a).2.1 ≠ (TX4 b).2.1 := by decide +kernel
theorem tyX4_ok : ∀ k, k < 15 → parseFieldDescriptor (TX4 k).2.2.1 = some (tyX4 k) := by decide +kernel
abbrev cX4_init : ByteArray := prog_6_method_1_code
def yX4_init : MethodName := ⟨RX4, "<init>", "(LDrunkByYear$World;)V"⟩
abbrev cX4_answer : ByteArray := prog_6_method_2_code
def yX4_answer : MethodName := ⟨RX4, "answer", "(III)I"⟩
abbrev cX4_begin : ByteArray := prog_6_method_3_code
def yX4_begin : MethodName := ⟨RX4, "begin", "(I)V"⟩
abbrev cX4_result : ByteArray := prog_6_method_4_code
def yX4_result : MethodName := ⟨RX4, "result", "(I)I"⟩
abbrev cX4_layChoices : ByteArray := prog_6_method_5_code
def yX4_layChoices : MethodName := ⟨RX4, "layChoices", "(IZ)V"⟩
abbrev cX4_isWasted : ByteArray := prog_6_method_6_code
def yX4_isWasted : MethodName := ⟨RX4, "isWasted", "(II)Z"⟩
abbrev cX4_lookAhead : ByteArray := prog_6_method_7_code
def yX4_lookAhead : MethodName := ⟨RX4, "lookAhead", "(I)V"⟩
abbrev cX4_sit : ByteArray := prog_6_method_8_code
def yX4_sit : MethodName := ⟨RX4, "sit", "(IIIII)V"⟩
abbrev cX4_leastCost : ByteArray := prog_6_method_9_code
def yX4_leastCost : MethodName := ⟨RX4, "leastCost", "(IIII)I"⟩
abbrev cX4_isBetter : ByteArray := prog_6_method_10_code
def yX4_isBetter : MethodName := ⟨RX4, "isBetter", "(II)Z"⟩
abbrev cX4_keep : ByteArray := prog_6_method_11_code
def yX4_keep : MethodName := ⟨RX4, "keep", "(II)V"⟩
def RX5 : String := "DrunkByYear$Village"
def TX5 : u_T := fun k => match k with
  | 0 => ("DrunkByYear$Village", "grown", "I", false)
  | 1 => ("DrunkByYear$Village", "old", "I", false)
  | 2 => ("DrunkByYear$Village", "clauses", "I", false)
  | 3 => ("DrunkByYear$Village", "steps", "I", false)
  | 4 => ("DrunkByYear$Village", "step", "[I", true)
  | 5 => ("DrunkByYear$Village", "nerve", "[I", true)
  | _ => ("DrunkByYear$Village", "end", "[I", true)
def tyX5 : Nat → FieldType := fun k => match k with
  | 0 => .int
  | 1 => .int
  | 2 => .int
  | 3 => .int
  | 4 => .array .int
  | 5 => .array .int
  | _ => .array .int
abbrev wsX50 : List Cond := u_ws RX5 TX5 7
theorem nmX5 : ∀ a, a < 7 → ∀ b, b < 7 → a ≠ b → (TX5 a).2.1 ≠ (TX5 b).2.1 := by decide +kernel
theorem tyX5_ok : ∀ k, k < 7 → parseFieldDescriptor (TX5 k).2.2.1 = some (tyX5 k) := by decide +kernel
abbrev cX5_init : ByteArray := prog_7_method_1_code
def yX5_init : MethodName := ⟨RX5, "<init>", "()V"⟩
abbrev cX5_forget : ByteArray := prog_7_method_2_code
def yX5_forget : MethodName := ⟨RX5, "forget", "()V"⟩
abbrev cX5_addStep : ByteArray := prog_7_method_3_code
def yX5_addStep : MethodName := ⟨RX5, "addStep", "(I)V"⟩
abbrev cX5_testStep : ByteArray := prog_7_method_4_code
def yX5_testStep : MethodName := ⟨RX5, "testStep", "(III)I"⟩
abbrev cX5_endClause : ByteArray := prog_7_method_5_code
def yX5_endClause : MethodName := ⟨RX5, "endClause", "(I)V"⟩
abbrev cX5_nerveFor : ByteArray := prog_7_method_6_code
def yX5_nerveFor : MethodName := ⟨RX5, "nerveFor", "([I)I"⟩
abbrev cX5_holdsFor : ByteArray := prog_7_method_7_code
def yX5_holdsFor : MethodName := ⟨RX5, "holdsFor", "([III)Z"⟩
abbrev cX5_passes : ByteArray := prog_7_method_8_code
def yX5_passes : MethodName := ⟨RX5, "passes", "([II)Z"⟩
def RX6 : String := "DrunkByYear$World"
def TX6 : u_T := fun k => match k with
  | 0 => ("DrunkByYear$World", "year", "I", false)
  | 1 => ("DrunkByYear$World", "people", "I", false)
  | 2 => ("DrunkByYear$World", "vintages", "I", false)
  | 3 => ("DrunkByYear$World", "villages", "I", false)
  | 4 => ("DrunkByYear$World", "signs", "I", false)
  | 5 => ("DrunkByYear$World", "holds", "LDrunkByYear$Village;", false)
  | 6 => ("DrunkByYear$World", "folk", "[LDrunkByYear$Person;", true)
  | 7 => ("DrunkByYear$World", "wineYear", "[I", true)
  | 8 => ("DrunkByYear$World", "bottles", "[I", true)
  | 9 => ("DrunkByYear$World", "tape", "[C", true)
  | 10 => ("DrunkByYear$World", "seen", "LDrunkByYear$Rows;", true)
  | 11 => ("DrunkByYear$World", "night", "LDrunkByYear$Rows;", true)
  | 12 => ("DrunkByYear$World", "book", "LDrunkByYear$Rows;", true)
  | _ => ("DrunkByYear$World", "facts", "[I", true)
def tyX6 : Nat → FieldType := fun k => match k with
  | 0 => .int
  | 1 => .int
  | 2 => .int
  | 3 => .int
  | 4 => .int
  | 5 => .object "DrunkByYear$Village"
  | 6 => .array (.object "DrunkByYear$Person")
  | 7 => .array .int
  | 8 => .array .int
  | 9 => .array .char
  | 10 => .object "DrunkByYear$Rows"
  | 11 => .object "DrunkByYear$Rows"
  | 12 => .object "DrunkByYear$Rows"
  | _ => .array .int
abbrev wsX60 : List Cond := u_ws RX6 TX6 14
theorem nmX6 : ∀ a, a < 14 → ∀ b, b < 14 → a ≠ b → (TX6 a).2.1 ≠ (TX6 b).2.1 := by decide +kernel
theorem tyX6_ok : ∀ k, k < 14 → parseFieldDescriptor (TX6 k).2.2.1 = some (tyX6 k) := by decide +kernel
abbrev cX6_init : ByteArray := prog_8_method_1_code
def yX6_init : MethodName := ⟨RX6, "<init>", "(LDrunkByYear$Village;)V"⟩
abbrev cX6_become : ByteArray := prog_8_method_2_code
def yX6_become : MethodName := ⟨RX6, "become", "(LDrunkByYear$World;)V"⟩
abbrev cX6_addVintage : ByteArray := prog_8_method_3_code
def yX6_addVintage : MethodName := ⟨RX6, "addVintage", "(II)I"⟩
abbrev cX6_ageBy : ByteArray := prog_8_method_4_code
def yX6_ageBy : MethodName := ⟨RX6, "ageBy", "(II)I"⟩
abbrev cX6_stageBy : ByteArray := prog_8_method_5_code
def yX6_stageBy : MethodName := ⟨RX6, "stageBy", "(II)I"⟩
abbrev cX6_stageAt : ByteArray := prog_8_method_6_code
def yX6_stageAt : MethodName := ⟨RX6, "stageAt", "(II)I"⟩
abbrev cX6_nerveBy : ByteArray := prog_8_method_7_code
def yX6_nerveBy : MethodName := ⟨RX6, "nerveBy", "(II)I"⟩
abbrev cX6_whoIsHere : ByteArray := prog_8_method_8_code
def yX6_whoIsHere : MethodName := ⟨RX6, "whoIsHere", "()I"⟩
abbrev cX6_nerveOfAll : ByteArray := prog_8_method_9_code
def yX6_nerveOfAll : MethodName := ⟨RX6, "nerveOfAll", "()I"⟩
abbrev cX6_bottlesInAll : ByteArray := prog_8_method_10_code
def yX6_bottlesInAll : MethodName := ⟨RX6, "bottlesInAll", "()I"⟩
abbrev cX6_pourOut : ByteArray := prog_8_method_11_code
def yX6_pourOut : MethodName := ⟨RX6, "pourOut", "(II)Z"⟩
abbrev cX6_growLight : ByteArray := prog_8_method_12_code
def yX6_growLight : MethodName := ⟨RX6, "growLight", "(I)V"⟩
abbrev cX6_liveThroughNight : ByteArray := prog_8_method_13_code
def yX6_liveThroughNight : MethodName := ⟨RX6, "liveThroughNight", "()V"⟩
abbrev cX6_isAsSeen : ByteArray := prog_8_method_14_code
def yX6_isAsSeen : MethodName := ⟨RX6, "isAsSeen", "(IIII)Z"⟩
def RX7 : String := "DrunkByYear"
def TX7 : u_T := fun k => match k with
  | 0 => ("DrunkByYear", "villages", "[LDrunkByYear$Village;", true)
  | 1 => ("DrunkByYear", "now", "LDrunkByYear$World;", true)
  | 2 => ("DrunkByYear", "image", "LDrunkByYear$World;", true)
  | 3 => ("DrunkByYear", "trial", "LDrunkByYear$World;", true)
  | 4 => ("DrunkByYear", "search", "LDrunkByYear$Search;", true)
  | 5 => ("DrunkByYear", "acts", "LDrunkByYear$Acts;", true)
  | _ => ("DrunkByYear", "imaged", "Z", false)
def tyX7 : Nat → FieldType := fun k => match k with
  | 0 => .array (.object "DrunkByYear$Village")
  | 1 => .object "DrunkByYear$World"
  | 2 => .object "DrunkByYear$World"
  | 3 => .object "DrunkByYear$World"
  | 4 => .object "DrunkByYear$Search"
  | 5 => .object "DrunkByYear$Acts"
  | _ => .boolean
abbrev wsX70 : List Cond := u_ws RX7 TX7 7
theorem nmX7 : ∀ a, a < 7 → ∀ b, b < 7 → a ≠ b → (TX7 a).2.1 ≠ (TX7 b).2.1 := by decide +kernel
theorem tyX7_ok : ∀ k, k < 7 → parseFieldDescriptor (TX7 k).2.2.1 = some (tyX7 k) := by decide +kernel
abbrev cX7_init : ByteArray := prog_1_method_1_code
def yX7_init : MethodName := ⟨RX7, "<init>", "()V"⟩
abbrev cX7_feed : ByteArray := prog_1_method_2_code
def yX7_feed : MethodName := ⟨RX7, "feed", "(I)I"⟩
abbrev cX7_village : ByteArray := prog_1_method_3_code
def yX7_village : MethodName := ⟨RX7, "village", "()I"⟩
abbrev cX7_person : ByteArray := prog_1_method_4_code
def yX7_person : MethodName := ⟨RX7, "person", "(IIII)I"⟩
abbrev cX7_vintage : ByteArray := prog_1_method_5_code
def yX7_vintage : MethodName := ⟨RX7, "vintage", "(II)I"⟩
abbrev cX7_of : ByteArray := prog_1_method_6_code
def yX7_of : MethodName := ⟨RX7, "of", "(II)I"⟩
abbrev cX7_row : ByteArray := prog_1_method_7_code
def yX7_row : MethodName := ⟨RX7, "row", "(III)I"⟩
abbrev cX7_wine : ByteArray := prog_1_method_8_code
def yX7_wine : MethodName := ⟨RX7, "wine", "(II)I"⟩
abbrev cX7_stock : ByteArray := prog_1_method_9_code
def yX7_stock : MethodName := ⟨RX7, "stock", "(II)I"⟩
abbrev cX7_told : ByteArray := prog_1_method_10_code
def yX7_told : MethodName := ⟨RX7, "told", "(I)I"⟩
abbrev cX7_pour : ByteArray := prog_1_method_11_code
def yX7_pour : MethodName := ⟨RX7, "pour", "(II)I"⟩
abbrev cX7_dry : ByteArray := prog_1_method_12_code
def yX7_dry : MethodName := ⟨RX7, "dry", "(I)I"⟩
abbrev cX7_dawn : ByteArray := prog_1_method_13_code
def yX7_dawn : MethodName := ⟨RX7, "dawn", "(I)I"⟩
abbrev cX7_blend : ByteArray := prog_1_method_14_code
def yX7_blend : MethodName := ⟨RX7, "blend", "(II)I"⟩
abbrev cX7_alive : ByteArray := prog_1_method_15_code
def yX7_alive : MethodName := ⟨RX7, "alive", "(I)I"⟩
abbrev cX7_brings : ByteArray := prog_1_method_16_code
def yX7_brings : MethodName := ⟨RX7, "brings", "(I)I"⟩
abbrev cX7_nearest : ByteArray := prog_1_method_17_code
def yX7_nearest : MethodName := ⟨RX7, "nearest", "(II)I"⟩
abbrev cX7_two : ByteArray := prog_1_method_18_code
def yX7_two : MethodName := ⟨RX7, "two", "()I"⟩
abbrev cX7_meet : ByteArray := prog_1_method_19_code
def yX7_meet : MethodName := ⟨RX7, "meet", "(III)I"⟩
abbrev cX7_fewest : ByteArray := prog_1_method_20_code
def yX7_fewest : MethodName := ⟨RX7, "fewest", "(II)I"⟩
abbrev cX7_close : ByteArray := prog_1_method_21_code
def yX7_close : MethodName := ⟨RX7, "close", "(I)I"⟩
abbrev cX7_boldest : ByteArray := prog_1_method_22_code
def yX7_boldest : MethodName := ⟨RX7, "boldest", "(I)I"⟩
abbrev cX7_see : ByteArray := prog_1_method_23_code
def yX7_see : MethodName := ⟨RX7, "see", "(II)I"⟩
abbrev cX7_drank : ByteArray := prog_1_method_24_code
def yX7_drank : MethodName := ⟨RX7, "drank", "(I)I"⟩
abbrev cX7_birth : ByteArray := prog_1_method_25_code
def yX7_birth : MethodName := ⟨RX7, "birth", "(II)I"⟩
abbrev cX7_firm : ByteArray := prog_1_method_26_code
def yX7_firm : MethodName := ⟨RX7, "firm", "(II)I"⟩
abbrev cX7_odds : ByteArray := prog_1_method_27_code
def yX7_odds : MethodName := ⟨RX7, "odds", "(III)J"⟩
abbrev cX7_mean : ByteArray := prog_1_method_28_code
def yX7_mean : MethodName := ⟨RX7, "mean", "(I)J"⟩
abbrev cX7_night : ByteArray := prog_1_method_29_code
def yX7_night : MethodName := ⟨RX7, "night", "(III)I"⟩
abbrev cX7_done : ByteArray := prog_1_method_30_code
def yX7_done : MethodName := ⟨RX7, "done", "(I)I"⟩
abbrev cX7_book : ByteArray := prog_1_method_31_code
def yX7_book : MethodName := ⟨RX7, "book", "(II)I"⟩
abbrev cX7_looked : ByteArray := prog_1_method_32_code
def yX7_looked : MethodName := ⟨RX7, "looked", "()I"⟩
abbrev cX7_act : ByteArray := prog_1_method_33_code
def yX7_act : MethodName := ⟨RX7, "act", "(III)I"⟩
abbrev cX7_trace : ByteArray := prog_1_method_34_code
def yX7_trace : MethodName := ⟨RX7, "trace", "(I)I"⟩
abbrev cX7_as : ByteArray := prog_1_method_35_code
def yX7_as : MethodName := ⟨RX7, "as", "(II)I"⟩
abbrev cX7_image : ByteArray := prog_1_method_36_code
def yX7_image : MethodName := ⟨RX7, "image", "()I"⟩
abbrev cX7_undo : ByteArray := prog_1_method_37_code
def yX7_undo : MethodName := ⟨RX7, "undo", "()I"⟩
abbrev cX7_count : ByteArray := prog_1_method_38_code
def yX7_count : MethodName := ⟨RX7, "count", "(I)I"⟩
abbrev cX7_isOne : ByteArray := prog_1_method_39_code
def yX7_isOne : MethodName := ⟨RX7, "isOne", "(I)Z"⟩
abbrev cX7_isVintage : ByteArray := prog_1_method_40_code
def yX7_isVintage : MethodName := ⟨RX7, "isVintage", "(I)Z"⟩
abbrev cX7_isOfSeating : ByteArray := prog_1_method_41_code
def yX7_isOfSeating : MethodName := ⟨RX7, "isOfSeating", "(I)Z"⟩
abbrev cX7_isKind : ByteArray := prog_1_method_42_code
def yX7_isKind : MethodName := ⟨RX7, "isKind", "(I)Z"⟩
abbrev cX7_isDigit : ByteArray := prog_1_method_43_code
def yX7_isDigit : MethodName := ⟨RX7, "isDigit", "(I)Z"⟩
abbrev cX7_isBottles : ByteArray := prog_1_method_44_code
def yX7_isBottles : MethodName := ⟨RX7, "isBottles", "(I)Z"⟩
abbrev cX7_isCountOrFirst : ByteArray := prog_1_method_45_code
def yX7_isCountOrFirst : MethodName := ⟨RX7, "isCountOrFirst", "(I)Z"⟩
abbrev cX7_shown : ByteArray := prog_1_method_46_code
def yX7_shown : MethodName := ⟨RX7, "shown", "(I)I"⟩
abbrev cX7_tellAge : ByteArray := prog_1_method_47_code
def yX7_tellAge : MethodName := ⟨RX7, "tellAge", "(LDrunkByYear$Rows;II)I"⟩
abbrev cX7_partOfFraction : ByteArray := prog_1_method_48_code
def yX7_partOfFraction : MethodName := ⟨RX7, "partOfFraction", "(III)J"⟩
def RX8 : String := "DrunkByYearModel"
def TX8 : u_T := fun k => match k with
  | 0 => ("DrunkByYearModel", "thrown", "I", false)
  | 1 => ("DrunkByYearModel", "s", "[I", true)
  | 2 => ("DrunkByYearModel", "image", "[I", true)
  | 3 => ("DrunkByYearModel", "frame", "[I", true)
  | 4 => ("DrunkByYearModel", "hasImage", "Z", false)
  | 5 => ("DrunkByYearModel", "act", "I", false)
  | 6 => ("DrunkByYearModel", "spot", "I", false)
  | 7 => ("DrunkByYearModel", "end", "I", false)
  | 8 => ("DrunkByYearModel", "isWrong", "Z", false)
  | 9 => ("DrunkByYearModel", "open", "I", false)
  | 10 => ("DrunkByYearModel", "by", "[I", true)
  | 11 => ("DrunkByYearModel", "truths", "[Z", true)
  | 12 => ("DrunkByYearModel", "ages", "[I", true)
  | 13 => ("DrunkByYearModel", "nerves", "[I", true)
  | 14 => ("DrunkByYearModel", "seat", "[I", true)
  | 15 => ("DrunkByYearModel", "bestSeat", "[I", true)
  | 16 => ("DrunkByYearModel", "left", "[I", true)
  | 17 => ("DrunkByYearModel", "areHere", "[Z", true)
  | 18 => ("DrunkByYearModel", "seatSort", "I", false)
  | 19 => ("DrunkByYearModel", "wanted", "I", false)
  | 20 => ("DrunkByYearModel", "bestDrinkers", "I", false)
  | 21 => ("DrunkByYearModel", "bestWorth", "I", false)
  | 22 => ("DrunkByYearModel", "fitting", "I", false)
  | 23 => ("DrunkByYearModel", "firstFitting", "I", false)
  | 24 => ("DrunkByYearModel", "bodies", "[I", true)
  | 25 => ("DrunkByYearModel", "ran", "I", false)
  | 26 => ("DrunkByYearModel", "kind", "I", false)
  | 27 => ("DrunkByYearModel", "number", "I", false)
  | _ => ("DrunkByYearModel", "tellsV", "I", false)
def tyX8 : Nat → FieldType := fun k => match k with
  | 0 => .int
  | 1 => .array .int
  | 2 => .array .int
  | 3 => .array .int
  | 4 => .boolean
  | 5 => .int
  | 6 => .int
  | 7 => .int
  | 8 => .boolean
  | 9 => .int
  | 10 => .array .int
  | 11 => .array .boolean
  | 12 => .array .int
  | 13 => .array .int
  | 14 => .array .int
  | 15 => .array .int
  | 16 => .array .int
  | 17 => .array .boolean
  | 18 => .int
  | 19 => .int
  | 20 => .int
  | 21 => .int
  | 22 => .int
  | 23 => .int
  | 24 => .array .int
  | 25 => .int
  | 26 => .int
  | 27 => .int
  | _ => .int
abbrev wsX80 : List Cond := u_ws RX8 TX8 29
theorem nmX8 : ∀ a, a < 29 → ∀ b, b < 29 → a ≠ b → (TX8 a).2.1 ≠ (TX8 b).2.1 := by decide +kernel
theorem tyX8_ok : ∀ k, k < 29 → parseFieldDescriptor (TX8 k).2.2.1 = some (tyX8 k) := by decide +kernel
abbrev cX8_init : ByteArray := prog_10_method_1_code
def yX8_init : MethodName := ⟨RX8, "<init>", "()V"⟩
abbrev cX8_in : ByteArray := prog_10_method_3_code
def yX8_in : MethodName := ⟨RX8, "in", "(III)Z"⟩
abbrev cX8_apart : ByteArray := prog_10_method_4_code
def yX8_apart : MethodName := ⟨RX8, "apart", "(II)I"⟩
abbrev cX8_isPerson : ByteArray := prog_10_method_5_code
def yX8_isPerson : MethodName := ⟨RX8, "isPerson", "(I)Z"⟩
abbrev cX8_isVintage : ByteArray := prog_10_method_6_code
def yX8_isVintage : MethodName := ⟨RX8, "isVintage", "(I)Z"⟩
abbrev cX8_isAge : ByteArray := prog_10_method_7_code
def yX8_isAge : MethodName := ⟨RX8, "isAge", "(I)Z"⟩
abbrev cX8_orNone : ByteArray := prog_10_method_8_code
def yX8_orNone : MethodName := ⟨RX8, "orNone", "(I)I"⟩
abbrev cX8_keeps : ByteArray := prog_10_method_9_code
def yX8_keeps : MethodName := ⟨RX8, "keeps", "()V"⟩
abbrev cX8_goesBack : ByteArray := prog_10_method_10_code
def yX8_goesBack : MethodName := ⟨RX8, "goesBack", "()V"⟩
abbrev cX8_feed : ByteArray := prog_10_method_11_code
def yX8_feed : MethodName := ⟨RX8, "feed", "(I)I"⟩
abbrev cX8_here : ByteArray := prog_10_method_12_code
def yX8_here : MethodName := ⟨RX8, "here", "()I"⟩
abbrev cX8_must : ByteArray := prog_10_method_13_code
def yX8_must : MethodName := ⟨RX8, "must", "(I)V"⟩
abbrev cX8_spells : ByteArray := prog_10_method_14_code
def yX8_spells : MethodName := ⟨RX8, "spells", "(Ljava/lang/String;)V"⟩
abbrev cX8_figures : ByteArray := prog_10_method_15_code
def yX8_figures : MethodName := ⟨RX8, "figures", "()I"⟩
abbrev cX8_among : ByteArray := prog_10_method_16_code
def yX8_among : MethodName := ⟨RX8, "among", "(Ljava/lang/String;)I"⟩
abbrev cX8_emits : ByteArray := prog_10_method_17_code
def yX8_emits : MethodName := ⟨RX8, "emits", "(I)V"⟩
abbrev cX8_factor : ByteArray := prog_10_method_18_code
def yX8_factor : MethodName := ⟨RX8, "factor", "()V"⟩
abbrev cX8_every : ByteArray := prog_10_method_19_code
def yX8_every : MethodName := ⟨RX8, "every", "()V"⟩
abbrev cX8_some : ByteArray := prog_10_method_20_code
def yX8_some : MethodName := ⟨RX8, "some", "()V"⟩
abbrev cX8_much : ByteArray := prog_10_method_21_code
def yX8_much : MethodName := ⟨RX8, "much", "(ILjava/lang/String;)V"⟩
abbrev cX8_tellsHere : ByteArray := prog_10_method_22_code
def yX8_tellsHere : MethodName := ⟨RX8, "tellsHere", "(ILjava/lang/String;)V"⟩
abbrev cX8_clauseHere : ByteArray := prog_10_method_23_code
def yX8_clauseHere : MethodName := ⟨RX8, "clauseHere", "()V"⟩
abbrev cX8_village : ByteArray := prog_10_method_24_code
def yX8_village : MethodName := ⟨RX8, "village", "()I"⟩
abbrev cX8_tellsOf : ByteArray := prog_10_method_25_code
def yX8_tellsOf : MethodName := ⟨RX8, "tellsOf", "(II)I"⟩
abbrev cX8_ageIn : ByteArray := prog_10_method_26_code
def yX8_ageIn : MethodName := ⟨RX8, "ageIn", "(II)I"⟩
abbrev cX8_ageBy : ByteArray := prog_10_method_27_code
def yX8_ageBy : MethodName := ⟨RX8, "ageBy", "(II)I"⟩
abbrev cX8_isHereAt : ByteArray := prog_10_method_28_code
def yX8_isHereAt : MethodName := ⟨RX8, "isHereAt", "(II)Z"⟩
abbrev cX8_stageAt : ByteArray := prog_10_method_29_code
def yX8_stageAt : MethodName := ⟨RX8, "stageAt", "(II)I"⟩
abbrev cX8_looks : ByteArray := prog_10_method_30_code
def yX8_looks : MethodName := ⟨RX8, "looks", "(II)I"⟩
abbrev cX8_nerveBy : ByteArray := prog_10_method_31_code
def yX8_nerveBy : MethodName := ⟨RX8, "nerveBy", "(II)I"⟩
abbrev cX8_ageOf : ByteArray := prog_10_method_32_code
def yX8_ageOf : MethodName := ⟨RX8, "ageOf", "(I)I"⟩
abbrev cX8_isHere : ByteArray := prog_10_method_33_code
def yX8_isHere : MethodName := ⟨RX8, "isHere", "(I)Z"⟩
abbrev cX8_whoIsHere : ByteArray := prog_10_method_34_code
def yX8_whoIsHere : MethodName := ⟨RX8, "whoIsHere", "()I"⟩
abbrev cX8_countOf : ByteArray := prog_10_method_35_code
def yX8_countOf : MethodName := ⟨RX8, "countOf", "(I)I"⟩
abbrev cX8_allNerve : ByteArray := prog_10_method_36_code
def yX8_allNerve : MethodName := ⟨RX8, "allNerve", "()I"⟩
abbrev cX8_allBottles : ByteArray := prog_10_method_37_code
def yX8_allBottles : MethodName := ⟨RX8, "allBottles", "()I"⟩
abbrev cX8_person : ByteArray := prog_10_method_38_code
def yX8_person : MethodName := ⟨RX8, "person", "(IIII)I"⟩
abbrev cX8_newVintage : ByteArray := prog_10_method_39_code
def yX8_newVintage : MethodName := ⟨RX8, "newVintage", "(II)I"⟩
abbrev cX8_vintage : ByteArray := prog_10_method_40_code
def yX8_vintage : MethodName := ⟨RX8, "vintage", "(II)I"⟩
abbrev cX8_of : ByteArray := prog_10_method_41_code
def yX8_of : MethodName := ⟨RX8, "of", "(II)I"⟩
abbrev cX8_row : ByteArray := prog_10_method_42_code
def yX8_row : MethodName := ⟨RX8, "row", "(III)I"⟩
abbrev cX8_wine : ByteArray := prog_10_method_43_code
def yX8_wine : MethodName := ⟨RX8, "wine", "(II)I"⟩
abbrev cX8_stock : ByteArray := prog_10_method_44_code
def yX8_stock : MethodName := ⟨RX8, "stock", "(II)I"⟩
abbrev cX8_told : ByteArray := prog_10_method_45_code
def yX8_told : MethodName := ⟨RX8, "told", "(I)I"⟩
abbrev cX8_pours : ByteArray := prog_10_method_46_code
def yX8_pours : MethodName := ⟨RX8, "pours", "(II)V"⟩
abbrev cX8_pour : ByteArray := prog_10_method_47_code
def yX8_pour : MethodName := ⟨RX8, "pour", "(II)I"⟩
abbrev cX8_dry : ByteArray := prog_10_method_48_code
def yX8_dry : MethodName := ⟨RX8, "dry", "(I)I"⟩
abbrev cX8_dawns : ByteArray := prog_10_method_49_code
def yX8_dawns : MethodName := ⟨RX8, "dawns", "()V"⟩
abbrev cX8_dawn : ByteArray := prog_10_method_50_code
def yX8_dawn : MethodName := ⟨RX8, "dawn", "(I)I"⟩
abbrev cX8_blend : ByteArray := prog_10_method_51_code
def yX8_blend : MethodName := ⟨RX8, "blend", "(II)I"⟩
abbrev cX8_alive : ByteArray := prog_10_method_52_code
def yX8_alive : MethodName := ⟨RX8, "alive", "(I)I"⟩
abbrev cX8_brings : ByteArray := prog_10_method_53_code
def yX8_brings : MethodName := ⟨RX8, "brings", "(I)I"⟩
abbrev cX8_nearest : ByteArray := prog_10_method_54_code
def yX8_nearest : MethodName := ⟨RX8, "nearest", "(II)I"⟩
abbrev cX8_two : ByteArray := prog_10_method_55_code
def yX8_two : MethodName := ⟨RX8, "two", "()I"⟩
abbrev cX8_meet : ByteArray := prog_10_method_56_code
def yX8_meet : MethodName := ⟨RX8, "meet", "(III)I"⟩
abbrev cX8_looksForSeats : ByteArray := prog_10_method_57_code
def yX8_looksForSeats : MethodName := ⟨RX8, "looksForSeats", "()V"⟩
abbrev cX8_spread : ByteArray := prog_10_method_58_code
def yX8_spread : MethodName := ⟨RX8, "spread", "()I"⟩
abbrev cX8_worth : ByteArray := prog_10_method_59_code
def yX8_worth : MethodName := ⟨RX8, "worth", "()I"⟩
abbrev cX8_keepsSeat : ByteArray := prog_10_method_60_code
def yX8_keepsSeat : MethodName := ⟨RX8, "keepsSeat", "(I)V"⟩
abbrev cX8_seatsFrom : ByteArray := prog_10_method_61_code
def yX8_seatsFrom : MethodName := ⟨RX8, "seatsFrom", "(II)V"⟩
abbrev cX8_looksForSeating : ByteArray := prog_10_method_62_code
def yX8_looksForSeating : MethodName := ⟨RX8, "looksForSeating", "(II)V"⟩
abbrev cX8_everybody : ByteArray := prog_10_method_63_code
def yX8_everybody : MethodName := ⟨RX8, "everybody", "()I"⟩
abbrev cX8_isAsked : ByteArray := prog_10_method_64_code
def yX8_isAsked : MethodName := ⟨RX8, "isAsked", "(I)Z"⟩
abbrev cX8_seatOf : ByteArray := prog_10_method_65_code
def yX8_seatOf : MethodName := ⟨RX8, "seatOf", "(I)I"⟩
abbrev cX8_fewest : ByteArray := prog_10_method_66_code
def yX8_fewest : MethodName := ⟨RX8, "fewest", "(II)I"⟩
abbrev cX8_close : ByteArray := prog_10_method_67_code
def yX8_close : MethodName := ⟨RX8, "close", "(I)I"⟩
abbrev cX8_boldest : ByteArray := prog_10_method_68_code
def yX8_boldest : MethodName := ⟨RX8, "boldest", "(I)I"⟩
abbrev cX8_see : ByteArray := prog_10_method_69_code
def yX8_see : MethodName := ⟨RX8, "see", "(II)I"⟩
abbrev cX8_isAsSeen : ByteArray := prog_10_method_70_code
def yX8_isAsSeen : MethodName := ⟨RX8, "isAsSeen", "(II)Z"⟩
abbrev cX8_drank : ByteArray := prog_10_method_71_code
def yX8_drank : MethodName := ⟨RX8, "drank", "(I)I"⟩
abbrev cX8_looksForFitting : ByteArray := prog_10_method_72_code
def yX8_looksForFitting : MethodName := ⟨RX8, "looksForFitting", "(III)V"⟩
abbrev cX8_birth : ByteArray := prog_10_method_73_code
def yX8_birth : MethodName := ⟨RX8, "birth", "(II)I"⟩
abbrev cX8_firm : ByteArray := prog_10_method_74_code
def yX8_firm : MethodName := ⟨RX8, "firm", "(II)I"⟩
abbrev cX8_lowest : ByteArray := prog_10_method_75_code
def yX8_lowest : MethodName := ⟨RX8, "lowest", "(JJI)J"⟩
abbrev cX8_odds : ByteArray := prog_10_method_76_code
def yX8_odds : MethodName := ⟨RX8, "odds", "(III)J"⟩
abbrev cX8_mean : ByteArray := prog_10_method_77_code
def yX8_mean : MethodName := ⟨RX8, "mean", "(I)J"⟩
abbrev cX8_night : ByteArray := prog_10_method_78_code
def yX8_night : MethodName := ⟨RX8, "night", "(III)I"⟩
abbrev cX8_does : ByteArray := prog_10_method_79_code
def yX8_does : MethodName := ⟨RX8, "does", "(III)V"⟩
abbrev cX8_done : ByteArray := prog_10_method_80_code
def yX8_done : MethodName := ⟨RX8, "done", "(I)I"⟩
abbrev cX8_book : ByteArray := prog_10_method_81_code
def yX8_book : MethodName := ⟨RX8, "book", "(II)I"⟩
abbrev cX8_looked : ByteArray := prog_10_method_82_code
def yX8_looked : MethodName := ⟨RX8, "looked", "()I"⟩
abbrev cX8_ranBody : ByteArray := prog_10_method_83_code
def yX8_ranBody : MethodName := ⟨RX8, "ranBody", "(I)V"⟩
abbrev cX8_isUnder : ByteArray := prog_10_method_84_code
def yX8_isUnder : MethodName := ⟨RX8, "isUnder", "(II)Z"⟩
abbrev cX8_plainDrinks : ByteArray := prog_10_method_85_code
def yX8_plainDrinks : MethodName := ⟨RX8, "plainDrinks", "(I)I"⟩
abbrev cX8_drinksActs : ByteArray := prog_10_method_86_code
def yX8_drinksActs : MethodName := ⟨RX8, "drinksActs", "(I)I"⟩
abbrev cX8_plainAges : ByteArray := prog_10_method_87_code
def yX8_plainAges : MethodName := ⟨RX8, "plainAges", "(I)I"⟩
abbrev cX8_agesActs : ByteArray := prog_10_method_88_code
def yX8_agesActs : MethodName := ⟨RX8, "agesActs", "(I)I"⟩
abbrev cX8_plainTelling : ByteArray := prog_10_method_89_code
def yX8_plainTelling : MethodName := ⟨RX8, "plainTelling", "(I)I"⟩
abbrev cX8_tellsActs : ByteArray := prog_10_method_90_code
def yX8_tellsActs : MethodName := ⟨RX8, "tellsActs", "(I)I"⟩
abbrev cX8_act : ByteArray := prog_10_method_91_code
def yX8_act : MethodName := ⟨RX8, "act", "(III)I"⟩
abbrev cX8_trace : ByteArray := prog_10_method_92_code
def yX8_trace : MethodName := ⟨RX8, "trace", "(I)I"⟩
abbrev cX8_as : ByteArray := prog_10_method_93_code
def yX8_as : MethodName := ⟨RX8, "as", "(II)I"⟩
abbrev cX8_image : ByteArray := prog_10_method_94_code
def yX8_image : MethodName := ⟨RX8, "image", "()I"⟩
abbrev cX8_undo : ByteArray := prog_10_method_95_code
def yX8_undo : MethodName := ⟨RX8, "undo", "()I"⟩
abbrev cX8_count : ByteArray := prog_10_method_96_code
def yX8_count : MethodName := ⟨RX8, "count", "(I)I"⟩
def RJ11 : String := "java/lang/Character"
def TJ11 : u_T := fun k => match k with
  | _ => ("", "", "", false)
def tyJ11 : Nat → FieldType := fun k => match k with
  | _ => .int
abbrev wsJ110 : List Cond := u_ws RJ11 TJ11 0
theorem nmJ11 : ∀ a, a < 0 → ∀ b, b < 0 → a ≠ b → (TJ11 a).2.1 ≠ (TJ11 b).2.1 := by decide +kernel
theorem tyJ11_ok : ∀ k, k < 0 → parseFieldDescriptor (TJ11 k).2.2.1 = some (tyJ11 k) := by decide +kernel
abbrev cJ11_isValidCodePoint_9a6ad : ByteArray := prog_11_method_11_code
def yJ11_isValidCodePoint_9a6ad : MethodName := ⟨RJ11, "isValidCodePoint", "(I)Z"⟩
abbrev cJ11_highSurrogate_5068e : ByteArray := prog_11_method_28_code
def yJ11_highSurrogate_5068e : MethodName := ⟨RJ11, "highSurrogate", "(I)C"⟩
abbrev cJ11_lowSurrogate_5068e : ByteArray := prog_11_method_29_code
def yJ11_lowSurrogate_5068e : MethodName := ⟨RJ11, "lowSurrogate", "(I)C"⟩
def RJ6 : String := "java/lang/Integer"
def TJ6 : u_T := fun k => match k with
  | _ => ("", "", "", false)
def tyJ6 : Nat → FieldType := fun k => match k with
  | _ => .int
abbrev wsJ60 : List Cond := u_ws RJ6 TJ6 0
theorem nmJ6 : ∀ a, a < 0 → ∀ b, b < 0 → a ≠ b → (TJ6 a).2.1 ≠ (TJ6 b).2.1 := by decide +kernel
theorem tyJ6_ok : ∀ k, k < 0 → parseFieldDescriptor (TJ6 k).2.2.1 = some (tyJ6 k) := by decide +kernel
abbrev cJ6_bitCount_0f7a4 : ByteArray := prog_12_method_49_code
def yJ6_bitCount_0f7a4 : MethodName := ⟨RJ6, "bitCount", "(I)I"⟩
def RJ9 : String := "java/lang/Math"
def TJ9 : u_T := fun k => match k with
  | _ => ("", "", "", false)
def tyJ9 : Nat → FieldType := fun k => match k with
  | _ => .int
abbrev wsJ90 : List Cond := u_ws RJ9 TJ9 0
theorem nmJ9 : ∀ a, a < 0 → ∀ b, b < 0 → a ≠ b → (TJ9 a).2.1 ≠ (TJ9 b).2.1 := by decide +kernel
theorem tyJ9_ok : ∀ k, k < 0 → parseFieldDescriptor (TJ9 k).2.2.1 = some (tyJ9 k) := by decide +kernel
abbrev cJ9_abs_0f7a4 : ByteArray := prog_13_method_59_code
def yJ9_abs_0f7a4 : MethodName := ⟨RJ9, "abs", "(I)I"⟩
abbrev cJ9_max_7cf53 : ByteArray := prog_13_method_65_code
def yJ9_max_7cf53 : MethodName := ⟨RJ9, "max", "(II)I"⟩
abbrev cJ9_min_7cf53 : ByteArray := prog_13_method_69_code
def yJ9_min_7cf53 : MethodName := ⟨RJ9, "min", "(II)I"⟩
def RJ0 : String := "java/lang/String"
def TJ0 : u_T := fun k => match k with
  | _ => ("", "", "", false)
def tyJ0 : Nat → FieldType := fun k => match k with
  | _ => .int
abbrev wsJ00 : List Cond := u_ws RJ0 TJ0 0
theorem nmJ0 : ∀ a, a < 0 → ∀ b, b < 0 → a ≠ b → (TJ0 a).2.1 ≠ (TJ0 b).2.1 := by decide +kernel
theorem tyJ0_ok : ∀ k, k < 0 → parseFieldDescriptor (TJ0 k).2.2.1 = some (tyJ0 k) := by decide +kernel
abbrev cJ0_length_8abf5 : ByteArray := prog_14_method_54_code
def yJ0_length_8abf5 : MethodName := ⟨RJ0, "length", "()I"⟩
abbrev cJ0_charAt_5068e : ByteArray := prog_14_method_56_code
def yJ0_charAt_5068e : MethodName := ⟨RJ0, "charAt", "(I)C"⟩
abbrev cJ0_indexOf_0f7a4 : ByteArray := prog_14_method_79_code
def yJ0_indexOf_0f7a4 : MethodName := ⟨RJ0, "indexOf", "(I)I"⟩
abbrev cJ0_indexOf_7cf53 : ByteArray := prog_14_method_80_code
def yJ0_indexOf_7cf53 : MethodName := ⟨RJ0, "indexOf", "(II)I"⟩
abbrev cJ0_coder_7d493 : ByteArray := prog_14_method_152_code
def yJ0_coder_7d493 : MethodName := ⟨RJ0, "coder", "()B"⟩
abbrev cJ0_isLatin1_aae02 : ByteArray := prog_14_method_154_code
def yJ0_isLatin1_aae02 : MethodName := ⟨RJ0, "isLatin1", "()Z"⟩
abbrev cJ0_checkIndex_df160 : ByteArray := prog_14_method_155_code
def yJ0_checkIndex_df160 : MethodName := ⟨RJ0, "checkIndex", "(II)V"⟩
abbrev cJ0_checkBoundsBeginEnd_23922 : ByteArray := prog_14_method_158_code
def yJ0_checkBoundsBeginEnd_23922 : MethodName := ⟨RJ0, "checkBoundsBeginEnd", "(III)V"⟩
def RJ1 : String := "java/lang/StringLatin1"
def TJ1 : u_T := fun k => match k with
  | _ => ("", "", "", false)
def tyJ1 : Nat → FieldType := fun k => match k with
  | _ => .int
abbrev wsJ10 : List Cond := u_ws RJ1 TJ1 0
theorem nmJ1 : ∀ a, a < 0 → ∀ b, b < 0 → a ≠ b → (TJ1 a).2.1 ≠ (TJ1 b).2.1 := by decide +kernel
theorem tyJ1_ok : ∀ k, k < 0 → parseFieldDescriptor (TJ1 k).2.2.1 = some (tyJ1 k) := by decide +kernel
abbrev cJ1_charAt_3b067 : ByteArray := prog_15_method_2_code
def yJ1_charAt_3b067 : MethodName := ⟨RJ1, "charAt", "([BI)C"⟩
abbrev cJ1_canEncode_9a6ad : ByteArray := prog_15_method_4_code
def yJ1_canEncode_9a6ad : MethodName := ⟨RJ1, "canEncode", "(I)Z"⟩
abbrev cJ1_indexOf_4cfef : ByteArray := prog_15_method_22_code
def yJ1_indexOf_4cfef : MethodName := ⟨RJ1, "indexOf", "([BIII)I"⟩
abbrev cJ1_indexOfChar_4cfef : ByteArray := prog_15_method_23_code
def yJ1_indexOfChar_4cfef : MethodName := ⟨RJ1, "indexOfChar", "([BIII)I"⟩
def RJ2 : String := "java/lang/StringUTF16"
def TJ2 : u_T := fun k => match k with
  | _ => ("", "", "", false)
def tyJ2 : Nat → FieldType := fun k => match k with
  | _ => .int
abbrev wsJ20 : List Cond := u_ws RJ2 TJ2 0
theorem nmJ2 : ∀ a, a < 0 → ∀ b, b < 0 → a ≠ b → (TJ2 a).2.1 ≠ (TJ2 b).2.1 := by decide +kernel
theorem tyJ2_ok : ∀ k, k < 0 → parseFieldDescriptor (TJ2 k).2.2.1 = some (tyJ2 k) := by decide +kernel
abbrev cJ2_getChar_3b067 : ByteArray := prog_16_method_5_code
def yJ2_getChar_3b067 : MethodName := ⟨RJ2, "getChar", "([BI)C"⟩
abbrev cJ2_length_9d52b : ByteArray := prog_16_method_6_code
def yJ2_length_9d52b : MethodName := ⟨RJ2, "length", "([B)I"⟩
abbrev cJ2_indexOf_4cfef : ByteArray := prog_16_method_40_code
def yJ2_indexOf_4cfef : MethodName := ⟨RJ2, "indexOf", "([BIII)I"⟩
abbrev cJ2_indexOfChar_4cfef : ByteArray := prog_16_method_47_code
def yJ2_indexOfChar_4cfef : MethodName := ⟨RJ2, "indexOfChar", "([BIII)I"⟩
abbrev cJ2_indexOfCharUnsafe_4cfef : ByteArray := prog_16_method_48_code
def yJ2_indexOfCharUnsafe_4cfef : MethodName := ⟨RJ2, "indexOfCharUnsafe", "([BIII)I"⟩
abbrev cJ2_indexOfSupplementary_4cfef : ByteArray := prog_16_method_49_code
def yJ2_indexOfSupplementary_4cfef : MethodName := ⟨RJ2, "indexOfSupplementary", "([BIII)I"⟩
abbrev cJ2_charAt_3b067 : ByteArray := prog_16_method_83_code
def yJ2_charAt_3b067 : MethodName := ⟨RJ2, "charAt", "([BI)C"⟩
abbrev cJ2_checkIndex_2214a : ByteArray := prog_16_method_91_code
def yJ2_checkIndex_2214a : MethodName := ⟨RJ2, "checkIndex", "(I[B)V"⟩
abbrev cJ2_checkBoundsBeginEnd_d044e : ByteArray := prog_16_method_93_code
def yJ2_checkBoundsBeginEnd_d044e : MethodName := ⟨RJ2, "checkBoundsBeginEnd", "(II[B)V"⟩
def RJ10 : String := "java/lang/System"
def TJ10 : u_T := fun k => match k with
  | _ => ("", "", "", false)
def tyJ10 : Nat → FieldType := fun k => match k with
  | _ => .int
abbrev wsJ100 : List Cond := u_ws RJ10 TJ10 0
theorem nmJ10 : ∀ a, a < 0 → ∀ b, b < 0 → a ≠ b → (TJ10 a).2.1 ≠ (TJ10 b).2.1 := by decide +kernel
theorem tyJ10_ok : ∀ k, k < 0 → parseFieldDescriptor (TJ10 k).2.2.1 = some (tyJ10 k) := by decide +kernel
def RJ3 : String := "jdk/internal/util/Preconditions"
def TJ3 : u_T := fun k => match k with
  | _ => ("", "", "", false)
def tyJ3 : Nat → FieldType := fun k => match k with
  | _ => .int
abbrev wsJ30 : List Cond := u_ws RJ3 TJ3 0
theorem nmJ3 : ∀ a, a < 0 → ∀ b, b < 0 → a ≠ b → (TJ3 a).2.1 ≠ (TJ3 b).2.1 := by decide +kernel
theorem tyJ3_ok : ∀ k, k < 0 → parseFieldDescriptor (TJ3 k).2.2.1 = some (tyJ3 k) := by decide +kernel
abbrev cJ3_checkIndex_8e157 : ByteArray := prog_18_method_11_code
def yJ3_checkIndex_8e157 : MethodName := ⟨RJ3, "checkIndex", "(IILjava/util/function/BiFunction;)I"⟩
abbrev cJ3_checkFromToIndex_8c36e : ByteArray := prog_18_method_12_code
def yJ3_checkFromToIndex_8c36e : MethodName := ⟨RJ3, "checkFromToIndex", "(IIILjava/util/function/BiFunction;)I"⟩
def RL : String := "DrunkByYearLaw"
abbrev cL_law : ByteArray := code
def yL_law : MethodName := ⟨RL, "law", "([I)Z"⟩
