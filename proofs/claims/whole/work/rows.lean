section
-- ===== PART A: goes FIRST, ahead of the names: the tables' words, and 'selects' of the private methods out of them =====
/-- a private method of a class that the tables say can be made, by its rows of tables_1 -/
def lw_okq (q : MethodName × Nat) : Prop := (q.1.cls ≠ "java/lang/invoke/MethodHandle" ∧ q.1.cls ≠ "java/lang/invoke/VarHandle") ∧ Cond.instantiable q.1.cls q.2 ∈ tables_1 ∧ Cond.privateMethod q.1 ∈ tables_1 ∧ Cond.instanceMethod q.1 ∈ tables_1
theorem lw_p0 : lw_okq (⟨"DrunkByYear$Reader", "readClause", "()Z"⟩, 4) := ⟨⟨by decide +kernel, by decide +kernel⟩, List.mem_of_getElem? (i := 299) (by decide +kernel), List.mem_of_getElem? (i := 324) (by decide +kernel), List.mem_of_getElem? (i := 325) (by decide +kernel)⟩
theorem lw_p1 : lw_okq (⟨"DrunkByYear$Reader", "takes", "(C)Z"⟩, 4) := ⟨⟨by decide +kernel, by decide +kernel⟩, List.mem_of_getElem? (i := 299) (by decide +kernel), List.mem_of_getElem? (i := 328) (by decide +kernel), List.mem_of_getElem? (i := 329) (by decide +kernel)⟩
theorem lw_p2 : lw_okq (⟨"DrunkByYear$Reader", "takesAll", "(Ljava/lang/String;)Z"⟩, 4) := ⟨⟨by decide +kernel, by decide +kernel⟩, List.mem_of_getElem? (i := 299) (by decide +kernel), List.mem_of_getElem? (i := 333) (by decide +kernel), List.mem_of_getElem? (i := 334) (by decide +kernel)⟩
theorem lw_p3 : lw_okq (⟨"DrunkByYear$Reader", "readNumber", "()I"⟩, 4) := ⟨⟨by decide +kernel, by decide +kernel⟩, List.mem_of_getElem? (i := 299) (by decide +kernel), List.mem_of_getElem? (i := 385) (by decide +kernel), List.mem_of_getElem? (i := 386) (by decide +kernel)⟩
theorem lw_p4 : lw_okq (⟨"DrunkByYear$Reader", "readEither", "(I)Z"⟩, 4) := ⟨⟨by decide +kernel, by decide +kernel⟩, List.mem_of_getElem? (i := 299) (by decide +kernel), List.mem_of_getElem? (i := 392) (by decide +kernel), List.mem_of_getElem? (i := 393) (by decide +kernel)⟩
theorem lw_p5 : lw_okq (⟨"DrunkByYear$Reader", "readFactor", "(I)Z"⟩, 4) := ⟨⟨by decide +kernel, by decide +kernel⟩, List.mem_of_getElem? (i := 299) (by decide +kernel), List.mem_of_getElem? (i := 396) (by decide +kernel), List.mem_of_getElem? (i := 397) (by decide +kernel)⟩
theorem lw_p6 : lw_okq (⟨"DrunkByYear$Reader", "readTest", "()Z"⟩, 4) := ⟨⟨by decide +kernel, by decide +kernel⟩, List.mem_of_getElem? (i := 299) (by decide +kernel), List.mem_of_getElem? (i := 404) (by decide +kernel), List.mem_of_getElem? (i := 405) (by decide +kernel)⟩
theorem lw_p7 : lw_okq (⟨"DrunkByYear$Reader", "readOneOf", "(Ljava/lang/String;)I"⟩, 4) := ⟨⟨by decide +kernel, by decide +kernel⟩, List.mem_of_getElem? (i := 299) (by decide +kernel), List.mem_of_getElem? (i := 409) (by decide +kernel), List.mem_of_getElem? (i := 410) (by decide +kernel)⟩
theorem lw_p8 : lw_okq (⟨"DrunkByYear", "isOne", "(I)Z"⟩, 7) := ⟨⟨by decide +kernel, by decide +kernel⟩, List.mem_of_getElem? (i := 19) (by decide +kernel), List.mem_of_getElem? (i := 512) (by decide +kernel), List.mem_of_getElem? (i := 513) (by decide +kernel)⟩
theorem lw_p9 : lw_okq (⟨"DrunkByYear$World", "stageAt", "(II)I"⟩, 14) := ⟨⟨by decide +kernel, by decide +kernel⟩, List.mem_of_getElem? (i := 82) (by decide +kernel), List.mem_of_getElem? (i := 537) (by decide +kernel), List.mem_of_getElem? (i := 538) (by decide +kernel)⟩
theorem lw_p10 : lw_okq (⟨"DrunkByYear$Village", "holdsFor", "([III)Z"⟩, 7) := ⟨⟨by decide +kernel, by decide +kernel⟩, List.mem_of_getElem? (i := 44) (by decide +kernel), List.mem_of_getElem? (i := 553) (by decide +kernel), List.mem_of_getElem? (i := 554) (by decide +kernel)⟩
theorem lw_p11 : lw_okq (⟨"DrunkByYear", "isVintage", "(I)Z"⟩, 7) := ⟨⟨by decide +kernel, by decide +kernel⟩, List.mem_of_getElem? (i := 19) (by decide +kernel), List.mem_of_getElem? (i := 569) (by decide +kernel), List.mem_of_getElem? (i := 570) (by decide +kernel)⟩
theorem lw_p12 : lw_okq (⟨"DrunkByYear", "isOfSeating", "(I)Z"⟩, 7) := ⟨⟨by decide +kernel, by decide +kernel⟩, List.mem_of_getElem? (i := 19) (by decide +kernel), List.mem_of_getElem? (i := 652) (by decide +kernel), List.mem_of_getElem? (i := 653) (by decide +kernel)⟩
theorem lw_p13 : lw_okq (⟨"DrunkByYear$Search", "begin", "(I)V"⟩, 15) := ⟨⟨by decide +kernel, by decide +kernel⟩, List.mem_of_getElem? (i := 215) (by decide +kernel), List.mem_of_getElem? (i := 660) (by decide +kernel), List.mem_of_getElem? (i := 661) (by decide +kernel)⟩
theorem lw_p14 : lw_okq (⟨"DrunkByYear$Search", "layChoices", "(IZ)V"⟩, 15) := ⟨⟨by decide +kernel, by decide +kernel⟩, List.mem_of_getElem? (i := 215) (by decide +kernel), List.mem_of_getElem? (i := 666) (by decide +kernel), List.mem_of_getElem? (i := 667) (by decide +kernel)⟩
theorem lw_p15 : lw_okq (⟨"DrunkByYear$Search", "isWasted", "(II)Z"⟩, 15) := ⟨⟨by decide +kernel, by decide +kernel⟩, List.mem_of_getElem? (i := 215) (by decide +kernel), List.mem_of_getElem? (i := 673) (by decide +kernel), List.mem_of_getElem? (i := 674) (by decide +kernel)⟩
def lw_privs_1 : List (MethodName × Nat) := [(⟨"DrunkByYear$Reader", "readClause", "()Z"⟩, 4), (⟨"DrunkByYear$Reader", "takes", "(C)Z"⟩, 4), (⟨"DrunkByYear$Reader", "takesAll", "(Ljava/lang/String;)Z"⟩, 4), (⟨"DrunkByYear$Reader", "readNumber", "()I"⟩, 4), (⟨"DrunkByYear$Reader", "readEither", "(I)Z"⟩, 4), (⟨"DrunkByYear$Reader", "readFactor", "(I)Z"⟩, 4), (⟨"DrunkByYear$Reader", "readTest", "()Z"⟩, 4), (⟨"DrunkByYear$Reader", "readOneOf", "(Ljava/lang/String;)I"⟩, 4), (⟨"DrunkByYear", "isOne", "(I)Z"⟩, 7), (⟨"DrunkByYear$World", "stageAt", "(II)I"⟩, 14), (⟨"DrunkByYear$Village", "holdsFor", "([III)Z"⟩, 7), (⟨"DrunkByYear", "isVintage", "(I)Z"⟩, 7), (⟨"DrunkByYear", "isOfSeating", "(I)Z"⟩, 7), (⟨"DrunkByYear$Search", "begin", "(I)V"⟩, 15), (⟨"DrunkByYear$Search", "layChoices", "(IZ)V"⟩, 15), (⟨"DrunkByYear$Search", "isWasted", "(II)Z"⟩, 15)]
theorem lw_r1 : ∀ q ∈ lw_privs_1, lw_okq q := List.forall_mem_cons.mpr ⟨lw_p0, List.forall_mem_cons.mpr ⟨lw_p1, List.forall_mem_cons.mpr ⟨lw_p2, List.forall_mem_cons.mpr ⟨lw_p3, List.forall_mem_cons.mpr ⟨lw_p4, List.forall_mem_cons.mpr ⟨lw_p5, List.forall_mem_cons.mpr ⟨lw_p6, List.forall_mem_cons.mpr ⟨lw_p7, List.forall_mem_cons.mpr ⟨lw_p8, List.forall_mem_cons.mpr ⟨lw_p9, List.forall_mem_cons.mpr ⟨lw_p10, List.forall_mem_cons.mpr ⟨lw_p11, List.forall_mem_cons.mpr ⟨lw_p12, List.forall_mem_cons.mpr ⟨lw_p13, List.forall_mem_cons.mpr ⟨lw_p14, List.forall_mem_cons.mpr ⟨lw_p15, fun _ h => absurd h List.not_mem_nil⟩⟩⟩⟩⟩⟩⟩⟩⟩⟩⟩⟩⟩⟩⟩⟩
theorem lw_p16 : lw_okq (⟨"DrunkByYear$Search", "lookAhead", "(I)V"⟩, 15) := ⟨⟨by decide +kernel, by decide +kernel⟩, List.mem_of_getElem? (i := 215) (by decide +kernel), List.mem_of_getElem? (i := 677) (by decide +kernel), List.mem_of_getElem? (i := 678) (by decide +kernel)⟩
theorem lw_p17 : lw_okq (⟨"DrunkByYear$Search", "sit", "(IIIII)V"⟩, 15) := ⟨⟨by decide +kernel, by decide +kernel⟩, List.mem_of_getElem? (i := 215) (by decide +kernel), List.mem_of_getElem? (i := 683) (by decide +kernel), List.mem_of_getElem? (i := 684) (by decide +kernel)⟩
theorem lw_p18 : lw_okq (⟨"DrunkByYear$Search", "leastCost", "(IIII)I"⟩, 15) := ⟨⟨by decide +kernel, by decide +kernel⟩, List.mem_of_getElem? (i := 215) (by decide +kernel), List.mem_of_getElem? (i := 687) (by decide +kernel), List.mem_of_getElem? (i := 688) (by decide +kernel)⟩
theorem lw_p19 : lw_okq (⟨"DrunkByYear$Search", "isBetter", "(II)Z"⟩, 15) := ⟨⟨by decide +kernel, by decide +kernel⟩, List.mem_of_getElem? (i := 215) (by decide +kernel), List.mem_of_getElem? (i := 691) (by decide +kernel), List.mem_of_getElem? (i := 692) (by decide +kernel)⟩
theorem lw_p20 : lw_okq (⟨"DrunkByYear$Search", "keep", "(II)V"⟩, 15) := ⟨⟨by decide +kernel, by decide +kernel⟩, List.mem_of_getElem? (i := 215) (by decide +kernel), List.mem_of_getElem? (i := 695) (by decide +kernel), List.mem_of_getElem? (i := 696) (by decide +kernel)⟩
theorem lw_p21 : lw_okq (⟨"DrunkByYear$Search", "result", "(I)I"⟩, 15) := ⟨⟨by decide +kernel, by decide +kernel⟩, List.mem_of_getElem? (i := 215) (by decide +kernel), List.mem_of_getElem? (i := 702) (by decide +kernel), List.mem_of_getElem? (i := 703) (by decide +kernel)⟩
theorem lw_p22 : lw_okq (⟨"DrunkByYear", "tellAge", "(LDrunkByYear$Rows;II)I"⟩, 7) := ⟨⟨by decide +kernel, by decide +kernel⟩, List.mem_of_getElem? (i := 19) (by decide +kernel), List.mem_of_getElem? (i := 719) (by decide +kernel), List.mem_of_getElem? (i := 720) (by decide +kernel)⟩
theorem lw_p23 : lw_okq (⟨"DrunkByYear$Acts", "begin", "(I)V"⟩, 2) := ⟨⟨by decide +kernel, by decide +kernel⟩, List.mem_of_getElem? (i := 29) (by decide +kernel), List.mem_of_getElem? (i := 816) (by decide +kernel), List.mem_of_getElem? (i := 817) (by decide +kernel)⟩
theorem lw_p24 : lw_okq (⟨"DrunkByYearModel", "clauseHere", "()V"⟩, 29) := ⟨⟨by decide +kernel, by decide +kernel⟩, List.mem_of_getElem? (i := 841) (by decide +kernel), List.mem_of_getElem? (i := 946) (by decide +kernel), List.mem_of_getElem? (i := 947) (by decide +kernel)⟩
theorem lw_p25 : lw_okq (⟨"DrunkByYearModel", "here", "()I"⟩, 29) := ⟨⟨by decide +kernel, by decide +kernel⟩, List.mem_of_getElem? (i := 841) (by decide +kernel), List.mem_of_getElem? (i := 950) (by decide +kernel), List.mem_of_getElem? (i := 951) (by decide +kernel)⟩
theorem lw_p26 : lw_okq (⟨"DrunkByYearModel", "tellsHere", "(ILjava/lang/String;)V"⟩, 29) := ⟨⟨by decide +kernel, by decide +kernel⟩, List.mem_of_getElem? (i := 841) (by decide +kernel), List.mem_of_getElem? (i := 955) (by decide +kernel), List.mem_of_getElem? (i := 956) (by decide +kernel)⟩
theorem lw_p27 : lw_okq (⟨"DrunkByYearModel", "spells", "(Ljava/lang/String;)V"⟩, 29) := ⟨⟨by decide +kernel, by decide +kernel⟩, List.mem_of_getElem? (i := 841) (by decide +kernel), List.mem_of_getElem? (i := 959) (by decide +kernel), List.mem_of_getElem? (i := 960) (by decide +kernel)⟩
theorem lw_p28 : lw_okq (⟨"DrunkByYearModel", "must", "(I)V"⟩, 29) := ⟨⟨by decide +kernel, by decide +kernel⟩, List.mem_of_getElem? (i := 841) (by decide +kernel), List.mem_of_getElem? (i := 965) (by decide +kernel), List.mem_of_getElem? (i := 966) (by decide +kernel)⟩
theorem lw_p29 : lw_okq (⟨"DrunkByYearModel", "figures", "()I"⟩, 29) := ⟨⟨by decide +kernel, by decide +kernel⟩, List.mem_of_getElem? (i := 841) (by decide +kernel), List.mem_of_getElem? (i := 969) (by decide +kernel), List.mem_of_getElem? (i := 970) (by decide +kernel)⟩
theorem lw_p30 : lw_okq (⟨"DrunkByYearModel", "much", "(ILjava/lang/String;)V"⟩, 29) := ⟨⟨by decide +kernel, by decide +kernel⟩, List.mem_of_getElem? (i := 841) (by decide +kernel), List.mem_of_getElem? (i := 975) (by decide +kernel), List.mem_of_getElem? (i := 976) (by decide +kernel)⟩
theorem lw_p31 : lw_okq (⟨"DrunkByYearModel", "some", "()V"⟩, 29) := ⟨⟨by decide +kernel, by decide +kernel⟩, List.mem_of_getElem? (i := 841) (by decide +kernel), List.mem_of_getElem? (i := 979) (by decide +kernel), List.mem_of_getElem? (i := 980) (by decide +kernel)⟩
def lw_privs_2 : List (MethodName × Nat) := [(⟨"DrunkByYear$Search", "lookAhead", "(I)V"⟩, 15), (⟨"DrunkByYear$Search", "sit", "(IIIII)V"⟩, 15), (⟨"DrunkByYear$Search", "leastCost", "(IIII)I"⟩, 15), (⟨"DrunkByYear$Search", "isBetter", "(II)Z"⟩, 15), (⟨"DrunkByYear$Search", "keep", "(II)V"⟩, 15), (⟨"DrunkByYear$Search", "result", "(I)I"⟩, 15), (⟨"DrunkByYear", "tellAge", "(LDrunkByYear$Rows;II)I"⟩, 7), (⟨"DrunkByYear$Acts", "begin", "(I)V"⟩, 2), (⟨"DrunkByYearModel", "clauseHere", "()V"⟩, 29), (⟨"DrunkByYearModel", "here", "()I"⟩, 29), (⟨"DrunkByYearModel", "tellsHere", "(ILjava/lang/String;)V"⟩, 29), (⟨"DrunkByYearModel", "spells", "(Ljava/lang/String;)V"⟩, 29), (⟨"DrunkByYearModel", "must", "(I)V"⟩, 29), (⟨"DrunkByYearModel", "figures", "()I"⟩, 29), (⟨"DrunkByYearModel", "much", "(ILjava/lang/String;)V"⟩, 29), (⟨"DrunkByYearModel", "some", "()V"⟩, 29)]
theorem lw_r2 : ∀ q ∈ lw_privs_2, lw_okq q := List.forall_mem_cons.mpr ⟨lw_p16, List.forall_mem_cons.mpr ⟨lw_p17, List.forall_mem_cons.mpr ⟨lw_p18, List.forall_mem_cons.mpr ⟨lw_p19, List.forall_mem_cons.mpr ⟨lw_p20, List.forall_mem_cons.mpr ⟨lw_p21, List.forall_mem_cons.mpr ⟨lw_p22, List.forall_mem_cons.mpr ⟨lw_p23, List.forall_mem_cons.mpr ⟨lw_p24, List.forall_mem_cons.mpr ⟨lw_p25, List.forall_mem_cons.mpr ⟨lw_p26, List.forall_mem_cons.mpr ⟨lw_p27, List.forall_mem_cons.mpr ⟨lw_p28, List.forall_mem_cons.mpr ⟨lw_p29, List.forall_mem_cons.mpr ⟨lw_p30, List.forall_mem_cons.mpr ⟨lw_p31, fun _ h => absurd h List.not_mem_nil⟩⟩⟩⟩⟩⟩⟩⟩⟩⟩⟩⟩⟩⟩⟩⟩
theorem lw_p32 : lw_okq (⟨"DrunkByYearModel", "every", "()V"⟩, 29) := ⟨⟨by decide +kernel, by decide +kernel⟩, List.mem_of_getElem? (i := 841) (by decide +kernel), List.mem_of_getElem? (i := 983) (by decide +kernel), List.mem_of_getElem? (i := 984) (by decide +kernel)⟩
theorem lw_p33 : lw_okq (⟨"DrunkByYearModel", "factor", "()V"⟩, 29) := ⟨⟨by decide +kernel, by decide +kernel⟩, List.mem_of_getElem? (i := 841) (by decide +kernel), List.mem_of_getElem? (i := 987) (by decide +kernel), List.mem_of_getElem? (i := 988) (by decide +kernel)⟩
theorem lw_p34 : lw_okq (⟨"DrunkByYearModel", "emits", "(I)V"⟩, 29) := ⟨⟨by decide +kernel, by decide +kernel⟩, List.mem_of_getElem? (i := 841) (by decide +kernel), List.mem_of_getElem? (i := 991) (by decide +kernel), List.mem_of_getElem? (i := 992) (by decide +kernel)⟩
theorem lw_p35 : lw_okq (⟨"DrunkByYearModel", "among", "(Ljava/lang/String;)I"⟩, 29) := ⟨⟨by decide +kernel, by decide +kernel⟩, List.mem_of_getElem? (i := 841) (by decide +kernel), List.mem_of_getElem? (i := 996) (by decide +kernel), List.mem_of_getElem? (i := 997) (by decide +kernel)⟩
theorem lw_p36 : lw_okq (⟨"DrunkByYearModel", "newVintage", "(II)I"⟩, 29) := ⟨⟨by decide +kernel, by decide +kernel⟩, List.mem_of_getElem? (i := 841) (by decide +kernel), List.mem_of_getElem? (i := 1010) (by decide +kernel), List.mem_of_getElem? (i := 1011) (by decide +kernel)⟩
theorem lw_p37 : lw_okq (⟨"DrunkByYearModel", "isPerson", "(I)Z"⟩, 29) := ⟨⟨by decide +kernel, by decide +kernel⟩, List.mem_of_getElem? (i := 841) (by decide +kernel), List.mem_of_getElem? (i := 1018) (by decide +kernel), List.mem_of_getElem? (i := 1019) (by decide +kernel)⟩
theorem lw_p38 : lw_okq (⟨"DrunkByYearModel", "ageOf", "(I)I"⟩, 29) := ⟨⟨by decide +kernel, by decide +kernel⟩, List.mem_of_getElem? (i := 841) (by decide +kernel), List.mem_of_getElem? (i := 1025) (by decide +kernel), List.mem_of_getElem? (i := 1026) (by decide +kernel)⟩
theorem lw_p39 : lw_okq (⟨"DrunkByYearModel", "ageBy", "(II)I"⟩, 29) := ⟨⟨by decide +kernel, by decide +kernel⟩, List.mem_of_getElem? (i := 841) (by decide +kernel), List.mem_of_getElem? (i := 1029) (by decide +kernel), List.mem_of_getElem? (i := 1030) (by decide +kernel)⟩
theorem lw_p40 : lw_okq (⟨"DrunkByYearModel", "ageIn", "(II)I"⟩, 29) := ⟨⟨by decide +kernel, by decide +kernel⟩, List.mem_of_getElem? (i := 841) (by decide +kernel), List.mem_of_getElem? (i := 1033) (by decide +kernel), List.mem_of_getElem? (i := 1034) (by decide +kernel)⟩
theorem lw_p41 : lw_okq (⟨"DrunkByYearModel", "isHere", "(I)Z"⟩, 29) := ⟨⟨by decide +kernel, by decide +kernel⟩, List.mem_of_getElem? (i := 841) (by decide +kernel), List.mem_of_getElem? (i := 1037) (by decide +kernel), List.mem_of_getElem? (i := 1038) (by decide +kernel)⟩
theorem lw_p42 : lw_okq (⟨"DrunkByYearModel", "isHereAt", "(II)Z"⟩, 29) := ⟨⟨by decide +kernel, by decide +kernel⟩, List.mem_of_getElem? (i := 841) (by decide +kernel), List.mem_of_getElem? (i := 1041) (by decide +kernel), List.mem_of_getElem? (i := 1042) (by decide +kernel)⟩
theorem lw_p43 : lw_okq (⟨"DrunkByYearModel", "stageAt", "(II)I"⟩, 29) := ⟨⟨by decide +kernel, by decide +kernel⟩, List.mem_of_getElem? (i := 841) (by decide +kernel), List.mem_of_getElem? (i := 1045) (by decide +kernel), List.mem_of_getElem? (i := 1046) (by decide +kernel)⟩
theorem lw_p44 : lw_okq (⟨"DrunkByYearModel", "tellsOf", "(II)I"⟩, 29) := ⟨⟨by decide +kernel, by decide +kernel⟩, List.mem_of_getElem? (i := 841) (by decide +kernel), List.mem_of_getElem? (i := 1049) (by decide +kernel), List.mem_of_getElem? (i := 1050) (by decide +kernel)⟩
theorem lw_p45 : lw_okq (⟨"DrunkByYearModel", "nerveBy", "(II)I"⟩, 29) := ⟨⟨by decide +kernel, by decide +kernel⟩, List.mem_of_getElem? (i := 841) (by decide +kernel), List.mem_of_getElem? (i := 1053) (by decide +kernel), List.mem_of_getElem? (i := 1054) (by decide +kernel)⟩
theorem lw_p46 : lw_okq (⟨"DrunkByYearModel", "looks", "(II)I"⟩, 29) := ⟨⟨by decide +kernel, by decide +kernel⟩, List.mem_of_getElem? (i := 841) (by decide +kernel), List.mem_of_getElem? (i := 1057) (by decide +kernel), List.mem_of_getElem? (i := 1058) (by decide +kernel)⟩
theorem lw_p47 : lw_okq (⟨"DrunkByYearModel", "isVintage", "(I)Z"⟩, 29) := ⟨⟨by decide +kernel, by decide +kernel⟩, List.mem_of_getElem? (i := 841) (by decide +kernel), List.mem_of_getElem? (i := 1069) (by decide +kernel), List.mem_of_getElem? (i := 1070) (by decide +kernel)⟩
def lw_privs_3 : List (MethodName × Nat) := [(⟨"DrunkByYearModel", "every", "()V"⟩, 29), (⟨"DrunkByYearModel", "factor", "()V"⟩, 29), (⟨"DrunkByYearModel", "emits", "(I)V"⟩, 29), (⟨"DrunkByYearModel", "among", "(Ljava/lang/String;)I"⟩, 29), (⟨"DrunkByYearModel", "newVintage", "(II)I"⟩, 29), (⟨"DrunkByYearModel", "isPerson", "(I)Z"⟩, 29), (⟨"DrunkByYearModel", "ageOf", "(I)I"⟩, 29), (⟨"DrunkByYearModel", "ageBy", "(II)I"⟩, 29), (⟨"DrunkByYearModel", "ageIn", "(II)I"⟩, 29), (⟨"DrunkByYearModel", "isHere", "(I)Z"⟩, 29), (⟨"DrunkByYearModel", "isHereAt", "(II)Z"⟩, 29), (⟨"DrunkByYearModel", "stageAt", "(II)I"⟩, 29), (⟨"DrunkByYearModel", "tellsOf", "(II)I"⟩, 29), (⟨"DrunkByYearModel", "nerveBy", "(II)I"⟩, 29), (⟨"DrunkByYearModel", "looks", "(II)I"⟩, 29), (⟨"DrunkByYearModel", "isVintage", "(I)Z"⟩, 29)]
theorem lw_r3 : ∀ q ∈ lw_privs_3, lw_okq q := List.forall_mem_cons.mpr ⟨lw_p32, List.forall_mem_cons.mpr ⟨lw_p33, List.forall_mem_cons.mpr ⟨lw_p34, List.forall_mem_cons.mpr ⟨lw_p35, List.forall_mem_cons.mpr ⟨lw_p36, List.forall_mem_cons.mpr ⟨lw_p37, List.forall_mem_cons.mpr ⟨lw_p38, List.forall_mem_cons.mpr ⟨lw_p39, List.forall_mem_cons.mpr ⟨lw_p40, List.forall_mem_cons.mpr ⟨lw_p41, List.forall_mem_cons.mpr ⟨lw_p42, List.forall_mem_cons.mpr ⟨lw_p43, List.forall_mem_cons.mpr ⟨lw_p44, List.forall_mem_cons.mpr ⟨lw_p45, List.forall_mem_cons.mpr ⟨lw_p46, List.forall_mem_cons.mpr ⟨lw_p47, fun _ h => absurd h List.not_mem_nil⟩⟩⟩⟩⟩⟩⟩⟩⟩⟩⟩⟩⟩⟩⟩⟩
theorem lw_p48 : lw_okq (⟨"DrunkByYearModel", "whoIsHere", "()I"⟩, 29) := ⟨⟨by decide +kernel, by decide +kernel⟩, List.mem_of_getElem? (i := 841) (by decide +kernel), List.mem_of_getElem? (i := 1081) (by decide +kernel), List.mem_of_getElem? (i := 1082) (by decide +kernel)⟩
theorem lw_p49 : lw_okq (⟨"DrunkByYearModel", "allNerve", "()I"⟩, 29) := ⟨⟨by decide +kernel, by decide +kernel⟩, List.mem_of_getElem? (i := 841) (by decide +kernel), List.mem_of_getElem? (i := 1085) (by decide +kernel), List.mem_of_getElem? (i := 1086) (by decide +kernel)⟩
theorem lw_p50 : lw_okq (⟨"DrunkByYearModel", "allBottles", "()I"⟩, 29) := ⟨⟨by decide +kernel, by decide +kernel⟩, List.mem_of_getElem? (i := 841) (by decide +kernel), List.mem_of_getElem? (i := 1089) (by decide +kernel), List.mem_of_getElem? (i := 1090) (by decide +kernel)⟩
theorem lw_p51 : lw_okq (⟨"DrunkByYearModel", "pours", "(II)V"⟩, 29) := ⟨⟨by decide +kernel, by decide +kernel⟩, List.mem_of_getElem? (i := 841) (by decide +kernel), List.mem_of_getElem? (i := 1097) (by decide +kernel), List.mem_of_getElem? (i := 1098) (by decide +kernel)⟩
theorem lw_p52 : lw_okq (⟨"DrunkByYearModel", "dawns", "()V"⟩, 29) := ⟨⟨by decide +kernel, by decide +kernel⟩, List.mem_of_getElem? (i := 841) (by decide +kernel), List.mem_of_getElem? (i := 1109) (by decide +kernel), List.mem_of_getElem? (i := 1110) (by decide +kernel)⟩
theorem lw_p53 : lw_okq (⟨"DrunkByYearModel", "keeps", "()V"⟩, 29) := ⟨⟨by decide +kernel, by decide +kernel⟩, List.mem_of_getElem? (i := 841) (by decide +kernel), List.mem_of_getElem? (i := 1121) (by decide +kernel), List.mem_of_getElem? (i := 1122) (by decide +kernel)⟩
theorem lw_p54 : lw_okq (⟨"DrunkByYearModel", "goesBack", "()V"⟩, 29) := ⟨⟨by decide +kernel, by decide +kernel⟩, List.mem_of_getElem? (i := 841) (by decide +kernel), List.mem_of_getElem? (i := 1125) (by decide +kernel), List.mem_of_getElem? (i := 1126) (by decide +kernel)⟩
theorem lw_p55 : lw_okq (⟨"DrunkByYearModel", "isAsked", "(I)Z"⟩, 29) := ⟨⟨by decide +kernel, by decide +kernel⟩, List.mem_of_getElem? (i := 841) (by decide +kernel), List.mem_of_getElem? (i := 1153) (by decide +kernel), List.mem_of_getElem? (i := 1154) (by decide +kernel)⟩
theorem lw_p56 : lw_okq (⟨"DrunkByYearModel", "everybody", "()I"⟩, 29) := ⟨⟨by decide +kernel, by decide +kernel⟩, List.mem_of_getElem? (i := 841) (by decide +kernel), List.mem_of_getElem? (i := 1157) (by decide +kernel), List.mem_of_getElem? (i := 1158) (by decide +kernel)⟩
theorem lw_p57 : lw_okq (⟨"DrunkByYearModel", "looksForSeating", "(II)V"⟩, 29) := ⟨⟨by decide +kernel, by decide +kernel⟩, List.mem_of_getElem? (i := 841) (by decide +kernel), List.mem_of_getElem? (i := 1161) (by decide +kernel), List.mem_of_getElem? (i := 1162) (by decide +kernel)⟩
theorem lw_p58 : lw_okq (⟨"DrunkByYearModel", "looksForSeats", "()V"⟩, 29) := ⟨⟨by decide +kernel, by decide +kernel⟩, List.mem_of_getElem? (i := 841) (by decide +kernel), List.mem_of_getElem? (i := 1165) (by decide +kernel), List.mem_of_getElem? (i := 1166) (by decide +kernel)⟩
theorem lw_p59 : lw_okq (⟨"DrunkByYearModel", "seatsFrom", "(II)V"⟩, 29) := ⟨⟨by decide +kernel, by decide +kernel⟩, List.mem_of_getElem? (i := 841) (by decide +kernel), List.mem_of_getElem? (i := 1169) (by decide +kernel), List.mem_of_getElem? (i := 1170) (by decide +kernel)⟩
theorem lw_p60 : lw_okq (⟨"DrunkByYearModel", "keepsSeat", "(I)V"⟩, 29) := ⟨⟨by decide +kernel, by decide +kernel⟩, List.mem_of_getElem? (i := 841) (by decide +kernel), List.mem_of_getElem? (i := 1173) (by decide +kernel), List.mem_of_getElem? (i := 1174) (by decide +kernel)⟩
theorem lw_p61 : lw_okq (⟨"DrunkByYearModel", "worth", "()I"⟩, 29) := ⟨⟨by decide +kernel, by decide +kernel⟩, List.mem_of_getElem? (i := 841) (by decide +kernel), List.mem_of_getElem? (i := 1177) (by decide +kernel), List.mem_of_getElem? (i := 1178) (by decide +kernel)⟩
theorem lw_p62 : lw_okq (⟨"DrunkByYearModel", "spread", "()I"⟩, 29) := ⟨⟨by decide +kernel, by decide +kernel⟩, List.mem_of_getElem? (i := 841) (by decide +kernel), List.mem_of_getElem? (i := 1181) (by decide +kernel), List.mem_of_getElem? (i := 1182) (by decide +kernel)⟩
theorem lw_p63 : lw_okq (⟨"DrunkByYearModel", "seatOf", "(I)I"⟩, 29) := ⟨⟨by decide +kernel, by decide +kernel⟩, List.mem_of_getElem? (i := 841) (by decide +kernel), List.mem_of_getElem? (i := 1185) (by decide +kernel), List.mem_of_getElem? (i := 1186) (by decide +kernel)⟩
def lw_privs_4 : List (MethodName × Nat) := [(⟨"DrunkByYearModel", "whoIsHere", "()I"⟩, 29), (⟨"DrunkByYearModel", "allNerve", "()I"⟩, 29), (⟨"DrunkByYearModel", "allBottles", "()I"⟩, 29), (⟨"DrunkByYearModel", "pours", "(II)V"⟩, 29), (⟨"DrunkByYearModel", "dawns", "()V"⟩, 29), (⟨"DrunkByYearModel", "keeps", "()V"⟩, 29), (⟨"DrunkByYearModel", "goesBack", "()V"⟩, 29), (⟨"DrunkByYearModel", "isAsked", "(I)Z"⟩, 29), (⟨"DrunkByYearModel", "everybody", "()I"⟩, 29), (⟨"DrunkByYearModel", "looksForSeating", "(II)V"⟩, 29), (⟨"DrunkByYearModel", "looksForSeats", "()V"⟩, 29), (⟨"DrunkByYearModel", "seatsFrom", "(II)V"⟩, 29), (⟨"DrunkByYearModel", "keepsSeat", "(I)V"⟩, 29), (⟨"DrunkByYearModel", "worth", "()I"⟩, 29), (⟨"DrunkByYearModel", "spread", "()I"⟩, 29), (⟨"DrunkByYearModel", "seatOf", "(I)I"⟩, 29)]
theorem lw_r4 : ∀ q ∈ lw_privs_4, lw_okq q := List.forall_mem_cons.mpr ⟨lw_p48, List.forall_mem_cons.mpr ⟨lw_p49, List.forall_mem_cons.mpr ⟨lw_p50, List.forall_mem_cons.mpr ⟨lw_p51, List.forall_mem_cons.mpr ⟨lw_p52, List.forall_mem_cons.mpr ⟨lw_p53, List.forall_mem_cons.mpr ⟨lw_p54, List.forall_mem_cons.mpr ⟨lw_p55, List.forall_mem_cons.mpr ⟨lw_p56, List.forall_mem_cons.mpr ⟨lw_p57, List.forall_mem_cons.mpr ⟨lw_p58, List.forall_mem_cons.mpr ⟨lw_p59, List.forall_mem_cons.mpr ⟨lw_p60, List.forall_mem_cons.mpr ⟨lw_p61, List.forall_mem_cons.mpr ⟨lw_p62, List.forall_mem_cons.mpr ⟨lw_p63, fun _ h => absurd h List.not_mem_nil⟩⟩⟩⟩⟩⟩⟩⟩⟩⟩⟩⟩⟩⟩⟩⟩
theorem lw_p64 : lw_okq (⟨"DrunkByYearModel", "isAsSeen", "(II)Z"⟩, 29) := ⟨⟨by decide +kernel, by decide +kernel⟩, List.mem_of_getElem? (i := 841) (by decide +kernel), List.mem_of_getElem? (i := 1208) (by decide +kernel), List.mem_of_getElem? (i := 1209) (by decide +kernel)⟩
theorem lw_p65 : lw_okq (⟨"DrunkByYearModel", "looksForFitting", "(III)V"⟩, 29) := ⟨⟨by decide +kernel, by decide +kernel⟩, List.mem_of_getElem? (i := 841) (by decide +kernel), List.mem_of_getElem? (i := 1216) (by decide +kernel), List.mem_of_getElem? (i := 1217) (by decide +kernel)⟩
theorem lw_p66 : lw_okq (⟨"DrunkByYearModel", "does", "(III)V"⟩, 29) := ⟨⟨by decide +kernel, by decide +kernel⟩, List.mem_of_getElem? (i := 841) (by decide +kernel), List.mem_of_getElem? (i := 1247) (by decide +kernel), List.mem_of_getElem? (i := 1248) (by decide +kernel)⟩
theorem lw_p67 : lw_okq (⟨"DrunkByYearModel", "drinksActs", "(I)I"⟩, 29) := ⟨⟨by decide +kernel, by decide +kernel⟩, List.mem_of_getElem? (i := 841) (by decide +kernel), List.mem_of_getElem? (i := 1263) (by decide +kernel), List.mem_of_getElem? (i := 1264) (by decide +kernel)⟩
theorem lw_p68 : lw_okq (⟨"DrunkByYearModel", "ranBody", "(I)V"⟩, 29) := ⟨⟨by decide +kernel, by decide +kernel⟩, List.mem_of_getElem? (i := 841) (by decide +kernel), List.mem_of_getElem? (i := 1270) (by decide +kernel), List.mem_of_getElem? (i := 1271) (by decide +kernel)⟩
theorem lw_p69 : lw_okq (⟨"DrunkByYearModel", "plainDrinks", "(I)I"⟩, 29) := ⟨⟨by decide +kernel, by decide +kernel⟩, List.mem_of_getElem? (i := 841) (by decide +kernel), List.mem_of_getElem? (i := 1274) (by decide +kernel), List.mem_of_getElem? (i := 1275) (by decide +kernel)⟩
theorem lw_p70 : lw_okq (⟨"DrunkByYearModel", "agesActs", "(I)I"⟩, 29) := ⟨⟨by decide +kernel, by decide +kernel⟩, List.mem_of_getElem? (i := 841) (by decide +kernel), List.mem_of_getElem? (i := 1278) (by decide +kernel), List.mem_of_getElem? (i := 1279) (by decide +kernel)⟩
theorem lw_p71 : lw_okq (⟨"DrunkByYearModel", "plainAges", "(I)I"⟩, 29) := ⟨⟨by decide +kernel, by decide +kernel⟩, List.mem_of_getElem? (i := 841) (by decide +kernel), List.mem_of_getElem? (i := 1282) (by decide +kernel), List.mem_of_getElem? (i := 1283) (by decide +kernel)⟩
theorem lw_p72 : lw_okq (⟨"DrunkByYearModel", "tellsActs", "(I)I"⟩, 29) := ⟨⟨by decide +kernel, by decide +kernel⟩, List.mem_of_getElem? (i := 841) (by decide +kernel), List.mem_of_getElem? (i := 1286) (by decide +kernel), List.mem_of_getElem? (i := 1287) (by decide +kernel)⟩
theorem lw_p73 : lw_okq (⟨"DrunkByYearModel", "plainTelling", "(I)I"⟩, 29) := ⟨⟨by decide +kernel, by decide +kernel⟩, List.mem_of_getElem? (i := 841) (by decide +kernel), List.mem_of_getElem? (i := 1290) (by decide +kernel), List.mem_of_getElem? (i := 1291) (by decide +kernel)⟩
def lw_privs_5 : List (MethodName × Nat) := [(⟨"DrunkByYearModel", "isAsSeen", "(II)Z"⟩, 29), (⟨"DrunkByYearModel", "looksForFitting", "(III)V"⟩, 29), (⟨"DrunkByYearModel", "does", "(III)V"⟩, 29), (⟨"DrunkByYearModel", "drinksActs", "(I)I"⟩, 29), (⟨"DrunkByYearModel", "ranBody", "(I)V"⟩, 29), (⟨"DrunkByYearModel", "plainDrinks", "(I)I"⟩, 29), (⟨"DrunkByYearModel", "agesActs", "(I)I"⟩, 29), (⟨"DrunkByYearModel", "plainAges", "(I)I"⟩, 29), (⟨"DrunkByYearModel", "tellsActs", "(I)I"⟩, 29), (⟨"DrunkByYearModel", "plainTelling", "(I)I"⟩, 29)]
theorem lw_r5 : ∀ q ∈ lw_privs_5, lw_okq q := List.forall_mem_cons.mpr ⟨lw_p64, List.forall_mem_cons.mpr ⟨lw_p65, List.forall_mem_cons.mpr ⟨lw_p66, List.forall_mem_cons.mpr ⟨lw_p67, List.forall_mem_cons.mpr ⟨lw_p68, List.forall_mem_cons.mpr ⟨lw_p69, List.forall_mem_cons.mpr ⟨lw_p70, List.forall_mem_cons.mpr ⟨lw_p71, List.forall_mem_cons.mpr ⟨lw_p72, List.forall_mem_cons.mpr ⟨lw_p73, fun _ h => absurd h List.not_mem_nil⟩⟩⟩⟩⟩⟩⟩⟩⟩⟩
def lw_privs : List (MethodName × Nat) := lw_privs_1 ++ (lw_privs_2 ++ (lw_privs_3 ++ (lw_privs_4 ++ (lw_privs_5))))
def lw_tbl : List Cond := k2_sels lw_privs ++ tables_1
theorem lw_privs_ok : ∀ q ∈ lw_privs, lw_okq q := by
  show ∀ q ∈ lw_privs_1 ++ (lw_privs_2 ++ (lw_privs_3 ++ (lw_privs_4 ++ (lw_privs_5)))), lw_okq q
  exact List.forall_mem_append.mpr ⟨lw_r1, List.forall_mem_append.mpr ⟨lw_r2, List.forall_mem_append.mpr ⟨lw_r3, List.forall_mem_append.mpr ⟨lw_r4, lw_r5⟩⟩⟩⟩
-- ===== end of PART A; then your names; then what follows =====
/-! ===== BEGIN words of one list among another's, by their places ===== -/
theorem goodIn_r {big : List Cond} (ws : List Cond) (ps : List Nat) (hp : ws = ps.filterMap (fun i => big[i]?)) (h : ws.all goodWord = true) : GoodIn big ws := by
  intro w hw
  have h1 := List.all_eq_true.mp h w hw
  rw [hp] at hw
  obtain ⟨i, -, hi⟩ := List.mem_filterMap.mp hw
  have hm : w ∈ big := by first | exact List.mem_of_getElem? hi | exact List.getElem?_mem hi
  exact ⟨hm, good_of_word h1⟩
theorem goodIn_app {big a b : List Cond} (ha : GoodIn big a) (hb : GoodIn big b) : GoodIn big (a ++ b) := fun w h => (List.mem_append.mp h).elim (ha w) (hb w)
theorem goodIn_ca {big a b : List Cond} {c : Cond} (ha : GoodIn big (c :: a)) (hb : GoodIn big b) : GoodIn big (c :: (a ++ b)) := fun w h => (List.mem_cons.mp h).elim (fun e => ha w (List.mem_cons.mpr (Or.inl e))) (fun h => (List.mem_append.mp h).elim (fun h => ha w (List.mem_cons.mpr (Or.inr h))) (hb w))
theorem goodIn_sub {big ws : List Cond} (hm : ∀ w ∈ ws, w ∈ big) (h : ws.all goodWord = true) : GoodIn big ws := fun w hw => ⟨hm w hw, good_of_word (List.all_eq_true.mp h w hw)⟩
/-! ===== END ===== -/
/-! ===== BEGIN printed: names, fields, word lists, decode rows ===== -/
def RX0 : String := "DrunkByYear$Acts"
def TX0 : u_T := fun k => match k with
  | 0 => ("DrunkByYear$Acts", "bodies", "[I", true)
  | _ => ("DrunkByYear$Acts", "ran", "I", false)
def tyX0 : Nat → FieldType := fun k => match k with
  | 0 => .array .int
  | _ => .int
abbrev wsX00 : List Cond := u_ws RX0 TX0 2
theorem nmX0 : ∀ a, a < 2 → ∀ b, b < 2 → a ≠ b → (TX0 a).2.1 ≠ (TX0 b).2.1 := by decide +kernel
theorem tyX0_ok : ∀ k, k < 2 → parseFieldDescriptor (TX0 k).2.2.1 = some (tyX0 k) := by decide +kernel
abbrev cX0_init : ByteArray := prog_2_method_1_code
def yX0_init : MethodName := ⟨RX0, "<init>", "()V"⟩
abbrev cX0_perform : ByteArray := prog_2_method_2_code
def yX0_perform : MethodName := ⟨RX0, "perform", "(LDrunkByYear$Person;IIII)I"⟩
abbrev cX0_begin : ByteArray := prog_2_method_3_code
def yX0_begin : MethodName := ⟨RX0, "begin", "(I)V"⟩
def RX1 : String := "DrunkByYear$Person"
def TX1 : u_T := fun k => match k with
  | 0 => ("DrunkByYear$Person", "number", "I", true)
  | 1 => ("DrunkByYear$Person", "kind", "I", false)
  | 2 => ("DrunkByYear$Person", "v", "I", false)
  | 3 => ("DrunkByYear$Person", "born", "I", false)
  | 4 => ("DrunkByYear$Person", "life", "I", false)
  | 5 => ("DrunkByYear$Person", "has", "I", false)
  | _ => ("DrunkByYear$Person", "row", "[I", true)
def tyX1 : Nat → FieldType := fun k => match k with
  | 0 => .int
  | 1 => .int
  | 2 => .int
  | 3 => .int
  | 4 => .int
  | 5 => .int
  | _ => .array .int
abbrev wsX10 : List Cond := u_ws RX1 TX1 7
theorem nmX1 : ∀ a, a < 7 → ∀ b, b < 7 → a ≠ b → (TX1 a).2.1 ≠ (TX1 b).2.1 := by decide +kernel
theorem tyX1_ok : ∀ k, k < 7 → parseFieldDescriptor (TX1 k).2.2.1 = some (tyX1 k) := by decide +kernel
abbrev cX1_init : ByteArray := prog_3_method_1_code
def yX1_init : MethodName := ⟨RX1, "<init>", "(I)V"⟩
abbrev cX1_comeToLife : ByteArray := prog_3_method_2_code
def yX1_comeToLife : MethodName := ⟨RX1, "comeToLife", "(IIII)V"⟩
abbrev cX1_become : ByteArray := prog_3_method_3_code
def yX1_become : MethodName := ⟨RX1, "become", "(LDrunkByYear$Person;)V"⟩
abbrev cX1_isHereAt : ByteArray := prog_3_method_4_code
def yX1_isHereAt : MethodName := ⟨RX1, "isHereAt", "(I)Z"⟩
abbrev cX1_ageIn : ByteArray := prog_3_method_5_code
def yX1_ageIn : MethodName := ⟨RX1, "ageIn", "(II)I"⟩
abbrev cX1_ageHad : ByteArray := prog_3_method_6_code
def yX1_ageHad : MethodName := ⟨RX1, "ageHad", "(IIII)I"⟩
def RX2 : String := "DrunkByYear$Reader"
def TX2 : u_T := fun k => match k with
  | 0 => ("DrunkByYear$Reader", "text", "[C", true)
  | 1 => ("DrunkByYear$Reader", "size", "I", true)
  | 2 => ("DrunkByYear$Reader", "village", "LDrunkByYear$Village;", true)
  | _ => ("DrunkByYear$Reader", "at", "I", false)
def tyX2 : Nat → FieldType := fun k => match k with
  | 0 => .array .char
  | 1 => .int
  | 2 => .object "DrunkByYear$Village"
  | _ => .int
abbrev wsX20 : List Cond := u_ws RX2 TX2 4
theorem nmX2 : ∀ a, a < 4 → ∀ b, b < 4 → a ≠ b → (TX2 a).2.1 ≠ (TX2 b).2.1 := by decide +kernel
theorem tyX2_ok : ∀ k, k < 4 → parseFieldDescriptor (TX2 k).2.2.1 = some (tyX2 k) := by decide +kernel
abbrev cX2_init : ByteArray := prog_4_method_1_code
def yX2_init : MethodName := ⟨RX2, "<init>", "([CILDrunkByYear$Village;)V"⟩
abbrev cX2_readVillage : ByteArray := prog_4_method_2_code
def yX2_readVillage : MethodName := ⟨RX2, "readVillage", "()Z"⟩
abbrev cX2_readClause : ByteArray := prog_4_method_3_code
def yX2_readClause : MethodName := ⟨RX2, "readClause", "()Z"⟩
abbrev cX2_readEither : ByteArray := prog_4_method_4_code
def yX2_readEither : MethodName := ⟨RX2, "readEither", "(I)Z"⟩
abbrev cX2_readFactor : ByteArray := prog_4_method_5_code
def yX2_readFactor : MethodName := ⟨RX2, "readFactor", "(I)Z"⟩
abbrev cX2_readTest : ByteArray := prog_4_method_6_code
def yX2_readTest : MethodName := ⟨RX2, "readTest", "()Z"⟩
abbrev cX2_readNumber : ByteArray := prog_4_method_7_code
def yX2_readNumber : MethodName := ⟨RX2, "readNumber", "()I"⟩
abbrev cX2_readOneOf : ByteArray := prog_4_method_8_code
def yX2_readOneOf : MethodName := ⟨RX2, "readOneOf", "(Ljava/lang/String;)I"⟩
abbrev cX2_takesAll : ByteArray := prog_4_method_9_code
def yX2_takesAll : MethodName := ⟨RX2, "takesAll", "(Ljava/lang/String;)Z"⟩
abbrev cX2_takes : ByteArray := prog_4_method_10_code
def yX2_takes : MethodName := ⟨RX2, "takes", "(C)Z"⟩
def RX3 : String := "DrunkByYear$Rows"
def TX3 : u_T := fun k => match k with
  | 0 => ("DrunkByYear$Rows", "what", "[I", true)
  | 1 => ("DrunkByYear$Rows", "who", "[I", true)
  | 2 => ("DrunkByYear$Rows", "number", "[I", true)
  | _ => ("DrunkByYear$Rows", "size", "I", false)
def tyX3 : Nat → FieldType := fun k => match k with
  | 0 => .array .int
  | 1 => .array .int
  | 2 => .array .int
  | _ => .int
abbrev wsX30 : List Cond := u_ws RX3 TX3 4
theorem nmX3 : ∀ a, a < 4 → ∀ b, b < 4 → a ≠ b → (TX3 a).2.1 ≠ (TX3 b).2.1 := by decide +kernel
theorem tyX3_ok : ∀ k, k < 4 → parseFieldDescriptor (TX3 k).2.2.1 = some (tyX3 k) := by decide +kernel
abbrev cX3_init : ByteArray := prog_5_method_1_code
def yX3_init : MethodName := ⟨RX3, "<init>", "(I)V"⟩
abbrev cX3_empty : ByteArray := prog_5_method_2_code
def yX3_empty : MethodName := ⟨RX3, "empty", "()I"⟩
abbrev cX3_add : ByteArray := prog_5_method_3_code
def yX3_add : MethodName := ⟨RX3, "add", "(III)I"⟩
abbrev cX3_become : ByteArray := prog_5_method_4_code
def yX3_become : MethodName := ⟨RX3, "become", "(LDrunkByYear$Rows;)V"⟩
def RX4 : String := "DrunkByYear$Search"
def TX4 : u_T := fun k => match k with
  | 0 => ("DrunkByYear$Search", "world", "LDrunkByYear$World;", true)
  | 1 => ("DrunkByYear$Search", "age", "[[I", true)
  | 2 => ("DrunkByYear$Search", "nerve", "[[I", true)
  | 3 => ("DrunkByYear$Search", "may", "[I", true)
  | 4 => ("DrunkByYear$Search", "left", "[I", true)
  | 5 => ("DrunkByYear$Search", "seat", "[I", true)
  | 6 => ("DrunkByYear$Search", "bestSeat", "[I", true)
  | 7 => ("DrunkByYear$Search", "havingAhead", "[I", true)
  | 8 => ("DrunkByYear$Search", "nerveAhead", "[I", true)
  | 9 => ("DrunkByYear$Search", "lowAhead", "[I", true)
  | 10 => ("DrunkByYear$Search", "highAhead", "[I", true)
  | 11 => ("DrunkByYear$Search", "aim", "I", false)
  | 12 => ("DrunkByYear$Search", "bestCost", "I", false)
  | 13 => ("DrunkByYear$Search", "bestHaving", "I", false)
  | _ => ("DrunkByYear$Search", "found", "Z", false)
def tyX4 : Nat → FieldType := fun k => match k with
  | 0 => .object "DrunkByYear$World"
  | 1 => .array (.array .int)
  | 2 => .array (.array .int)
  | 3 => .array .int
  | 4 => .array .int
  | 5 => .array .int
  | 6 => .array .int
  | 7 => .array .int
  | 8 => .array .int
  | 9 => .array .int
  | 10 => .array .int
  | 11 => .int
  | 12 => .int
  | 13 => .int
  | _ => .boolean
abbrev wsX40 : List Cond := u_ws RX4 TX4 15
theorem nmX4 : ∀ a, a < 15 → ∀ b, b < 15 → a ≠ b → (TX4 a).2.1 ≠ (TX4 b).2.1 := by decide +kernel
theorem tyX4_ok : ∀ k, k < 15 → parseFieldDescriptor (TX4 k).2.2.1 = some (tyX4 k) := by decide +kernel
abbrev cX4_init : ByteArray := prog_6_method_1_code
def yX4_init : MethodName := ⟨RX4, "<init>", "(LDrunkByYear$World;)V"⟩
abbrev cX4_answer : ByteArray := prog_6_method_2_code
def yX4_answer : MethodName := ⟨RX4, "answer", "(III)I"⟩
abbrev cX4_begin : ByteArray := prog_6_method_3_code
def yX4_begin : MethodName := ⟨RX4, "begin", "(I)V"⟩
abbrev cX4_result : ByteArray := prog_6_method_4_code
def yX4_result : MethodName := ⟨RX4, "result", "(I)I"⟩
abbrev cX4_layChoices : ByteArray := prog_6_method_5_code
def yX4_layChoices : MethodName := ⟨RX4, "layChoices", "(IZ)V"⟩
abbrev cX4_isWasted : ByteArray := prog_6_method_6_code
def yX4_isWasted : MethodName := ⟨RX4, "isWasted", "(II)Z"⟩
abbrev cX4_lookAhead : ByteArray := prog_6_method_7_code
def yX4_lookAhead : MethodName := ⟨RX4, "lookAhead", "(I)V"⟩
abbrev cX4_sit : ByteArray := prog_6_method_8_code
def yX4_sit : MethodName := ⟨RX4, "sit", "(IIIII)V"⟩
abbrev cX4_leastCost : ByteArray := prog_6_method_9_code
def yX4_leastCost : MethodName := ⟨RX4, "leastCost", "(IIII)I"⟩
abbrev cX4_isBetter : ByteArray := prog_6_method_10_code
def yX4_isBetter : MethodName := ⟨RX4, "isBetter", "(II)Z"⟩
abbrev cX4_keep : ByteArray := prog_6_method_11_code
def yX4_keep : MethodName := ⟨RX4, "keep", "(II)V"⟩
def RX5 : String := "DrunkByYear$Village"
def TX5 : u_T := fun k => match k with
  | 0 => ("DrunkByYear$Village", "grown", "I", false)
  | 1 => ("DrunkByYear$Village", "old", "I", false)
  | 2 => ("DrunkByYear$Village", "clauses", "I", false)
  | 3 => ("DrunkByYear$Village", "steps", "I", false)
  | 4 => ("DrunkByYear$Village", "step", "[I", true)
  | 5 => ("DrunkByYear$Village", "nerve", "[I", true)
  | _ => ("DrunkByYear$Village", "end", "[I", true)
def tyX5 : Nat → FieldType := fun k => match k with
  | 0 => .int
  | 1 => .int
  | 2 => .int
  | 3 => .int
  | 4 => .array .int
  | 5 => .array .int
  | _ => .array .int
abbrev wsX50 : List Cond := u_ws RX5 TX5 7
theorem nmX5 : ∀ a, a < 7 → ∀ b, b < 7 → a ≠ b → (TX5 a).2.1 ≠ (TX5 b).2.1 := by decide +kernel
theorem tyX5_ok : ∀ k, k < 7 → parseFieldDescriptor (TX5 k).2.2.1 = some (tyX5 k) := by decide +kernel
abbrev cX5_init : ByteArray := prog_7_method_1_code
def yX5_init : MethodName := ⟨RX5, "<init>", "()V"⟩
abbrev cX5_forget : ByteArray := prog_7_method_2_code
def yX5_forget : MethodName := ⟨RX5, "forget", "()V"⟩
abbrev cX5_addStep : ByteArray := prog_7_method_3_code
def yX5_addStep : MethodName := ⟨RX5, "addStep", "(I)V"⟩
abbrev cX5_testStep : ByteArray := prog_7_method_4_code
def yX5_testStep : MethodName := ⟨RX5, "testStep", "(III)I"⟩
abbrev cX5_endClause : ByteArray := prog_7_method_5_code
def yX5_endClause : MethodName := ⟨RX5, "endClause", "(I)V"⟩
abbrev cX5_nerveFor : ByteArray := prog_7_method_6_code
def yX5_nerveFor : MethodName := ⟨RX5, "nerveFor", "([I)I"⟩
abbrev cX5_holdsFor : ByteArray := prog_7_method_7_code
def yX5_holdsFor : MethodName := ⟨RX5, "holdsFor", "([III)Z"⟩
abbrev cX5_passes : ByteArray := prog_7_method_8_code
def yX5_passes : MethodName := ⟨RX5, "passes", "([II)Z"⟩
def RX6 : String := "DrunkByYear$World"
def TX6 : u_T := fun k => match k with
  | 0 => ("DrunkByYear$World", "year", "I", false)
  | 1 => ("DrunkByYear$World", "people", "I", false)
  | 2 => ("DrunkByYear$World", "vintages", "I", false)
  | 3 => ("DrunkByYear$World", "villages", "I", false)
  | 4 => ("DrunkByYear$World", "signs", "I", false)
  | 5 => ("DrunkByYear$World", "holds", "LDrunkByYear$Village;", false)
  | 6 => ("DrunkByYear$World", "folk", "[LDrunkByYear$Person;", true)
  | 7 => ("DrunkByYear$World", "wineYear", "[I", true)
  | 8 => ("DrunkByYear$World", "bottles", "[I", true)
  | 9 => ("DrunkByYear$World", "tape", "[C", true)
  | 10 => ("DrunkByYear$World", "seen", "LDrunkByYear$Rows;", true)
  | 11 => ("DrunkByYear$World", "night", "LDrunkByYear$Rows;", true)
  | 12 => ("DrunkByYear$World", "book", "LDrunkByYear$Rows;", true)
  | _ => ("DrunkByYear$World", "facts", "[I", true)
def tyX6 : Nat → FieldType := fun k => match k with
  | 0 => .int
  | 1 => .int
  | 2 => .int
  | 3 => .int
  | 4 => .int
  | 5 => .object "DrunkByYear$Village"
  | 6 => .array (.object "DrunkByYear$Person")
  | 7 => .array .int
  | 8 => .array .int
  | 9 => .array .char
  | 10 => .object "DrunkByYear$Rows"
  | 11 => .object "DrunkByYear$Rows"
  | 12 => .object "DrunkByYear$Rows"
  | _ => .array .int
abbrev wsX60 : List Cond := u_ws RX6 TX6 14
theorem nmX6 : ∀ a, a < 14 → ∀ b, b < 14 → a ≠ b → (TX6 a).2.1 ≠ (TX6 b).2.1 := by decide +kernel
theorem tyX6_ok : ∀ k, k < 14 → parseFieldDescriptor (TX6 k).2.2.1 = some (tyX6 k) := by decide +kernel
abbrev cX6_init : ByteArray := prog_8_method_1_code
def yX6_init : MethodName := ⟨RX6, "<init>", "(LDrunkByYear$Village;)V"⟩
abbrev cX6_become : ByteArray := prog_8_method_2_code
def yX6_become : MethodName := ⟨RX6, "become", "(LDrunkByYear$World;)V"⟩
abbrev cX6_addVintage : ByteArray := prog_8_method_3_code
def yX6_addVintage : MethodName := ⟨RX6, "addVintage", "(II)I"⟩
abbrev cX6_ageBy : ByteArray := prog_8_method_4_code
def yX6_ageBy : MethodName := ⟨RX6, "ageBy", "(II)I"⟩
abbrev cX6_stageBy : ByteArray := prog_8_method_5_code
def yX6_stageBy : MethodName := ⟨RX6, "stageBy", "(II)I"⟩
abbrev cX6_stageAt : ByteArray := prog_8_method_6_code
def yX6_stageAt : MethodName := ⟨RX6, "stageAt", "(II)I"⟩
abbrev cX6_nerveBy : ByteArray := prog_8_method_7_code
def yX6_nerveBy : MethodName := ⟨RX6, "nerveBy", "(II)I"⟩
abbrev cX6_whoIsHere : ByteArray := prog_8_method_8_code
def yX6_whoIsHere : MethodName := ⟨RX6, "whoIsHere", "()I"⟩
abbrev cX6_nerveOfAll : ByteArray := prog_8_method_9_code
def yX6_nerveOfAll : MethodName := ⟨RX6, "nerveOfAll", "()I"⟩
abbrev cX6_bottlesInAll : ByteArray := prog_8_method_10_code
def yX6_bottlesInAll : MethodName := ⟨RX6, "bottlesInAll", "()I"⟩
abbrev cX6_pourOut : ByteArray := prog_8_method_11_code
def yX6_pourOut : MethodName := ⟨RX6, "pourOut", "(II)Z"⟩
abbrev cX6_growLight : ByteArray := prog_8_method_12_code
def yX6_growLight : MethodName := ⟨RX6, "growLight", "(I)V"⟩
abbrev cX6_liveThroughNight : ByteArray := prog_8_method_13_code
def yX6_liveThroughNight : MethodName := ⟨RX6, "liveThroughNight", "()V"⟩
abbrev cX6_isAsSeen : ByteArray := prog_8_method_14_code
def yX6_isAsSeen : MethodName := ⟨RX6, "isAsSeen", "(IIII)Z"⟩
def RX7 : String := "DrunkByYear"
def TX7 : u_T := fun k => match k with
  | 0 => ("DrunkByYear", "villages", "[LDrunkByYear$Village;", true)
  | 1 => ("DrunkByYear", "now", "LDrunkByYear$World;", true)
  | 2 => ("DrunkByYear", "image", "LDrunkByYear$World;", true)
  | 3 => ("DrunkByYear", "trial", "LDrunkByYear$World;", true)
  | 4 => ("DrunkByYear", "search", "LDrunkByYear$Search;", true)
  | 5 => ("DrunkByYear", "acts", "LDrunkByYear$Acts;", true)
  | _ => ("DrunkByYear", "imaged", "Z", false)
def tyX7 : Nat → FieldType := fun k => match k with
  | 0 => .array (.object "DrunkByYear$Village")
  | 1 => .object "DrunkByYear$World"
  | 2 => .object "DrunkByYear$World"
  | 3 => .object "DrunkByYear$World"
  | 4 => .object "DrunkByYear$Search"
  | 5 => .object "DrunkByYear$Acts"
  | _ => .boolean
abbrev wsX70 : List Cond := u_ws RX7 TX7 7
theorem nmX7 : ∀ a, a < 7 → ∀ b, b < 7 → a ≠ b → (TX7 a).2.1 ≠ (TX7 b).2.1 := by decide +kernel
theorem tyX7_ok : ∀ k, k < 7 → parseFieldDescriptor (TX7 k).2.2.1 = some (tyX7 k) := by decide +kernel
abbrev cX7_init : ByteArray := prog_1_method_1_code
def yX7_init : MethodName := ⟨RX7, "<init>", "()V"⟩
abbrev cX7_feed : ByteArray := prog_1_method_2_code
def yX7_feed : MethodName := ⟨RX7, "feed", "(I)I"⟩
abbrev cX7_village : ByteArray := prog_1_method_3_code
def yX7_village : MethodName := ⟨RX7, "village", "()I"⟩
abbrev cX7_person : ByteArray := prog_1_method_4_code
def yX7_person : MethodName := ⟨RX7, "person", "(IIII)I"⟩
abbrev cX7_vintage : ByteArray := prog_1_method_5_code
def yX7_vintage : MethodName := ⟨RX7, "vintage", "(II)I"⟩
abbrev cX7_of : ByteArray := prog_1_method_6_code
def yX7_of : MethodName := ⟨RX7, "of", "(II)I"⟩
abbrev cX7_row : ByteArray := prog_1_method_7_code
def yX7_row : MethodName := ⟨RX7, "row", "(III)I"⟩
abbrev cX7_wine : ByteArray := prog_1_method_8_code
def yX7_wine : MethodName := ⟨RX7, "wine", "(II)I"⟩
abbrev cX7_stock : ByteArray := prog_1_method_9_code
def yX7_stock : MethodName := ⟨RX7, "stock", "(II)I"⟩
abbrev cX7_told : ByteArray := prog_1_method_10_code
def yX7_told : MethodName := ⟨RX7, "told", "(I)I"⟩
abbrev cX7_pour : ByteArray := prog_1_method_11_code
def yX7_pour : MethodName := ⟨RX7, "pour", "(II)I"⟩
abbrev cX7_dry : ByteArray := prog_1_method_12_code
def yX7_dry : MethodName := ⟨RX7, "dry", "(I)I"⟩
abbrev cX7_dawn : ByteArray := prog_1_method_13_code
def yX7_dawn : MethodName := ⟨RX7, "dawn", "(I)I"⟩
abbrev cX7_blend : ByteArray := prog_1_method_14_code
def yX7_blend : MethodName := ⟨RX7, "blend", "(II)I"⟩
abbrev cX7_alive : ByteArray := prog_1_method_15_code
def yX7_alive : MethodName := ⟨RX7, "alive", "(I)I"⟩
abbrev cX7_brings : ByteArray := prog_1_method_16_code
def yX7_brings : MethodName := ⟨RX7, "brings", "(I)I"⟩
abbrev cX7_nearest : ByteArray := prog_1_method_17_code
def yX7_nearest : MethodName := ⟨RX7, "nearest", "(II)I"⟩
abbrev cX7_two : ByteArray := prog_1_method_18_code
def yX7_two : MethodName := ⟨RX7, "two", "()I"⟩
abbrev cX7_meet : ByteArray := prog_1_method_19_code
def yX7_meet : MethodName := ⟨RX7, "meet", "(III)I"⟩
abbrev cX7_fewest : ByteArray := prog_1_method_20_code
def yX7_fewest : MethodName := ⟨RX7, "fewest", "(II)I"⟩
abbrev cX7_close : ByteArray := prog_1_method_21_code
def yX7_close : MethodName := ⟨RX7, "close", "(I)I"⟩
abbrev cX7_boldest : ByteArray := prog_1_method_22_code
def yX7_boldest : MethodName := ⟨RX7, "boldest", "(I)I"⟩
abbrev cX7_see : ByteArray := prog_1_method_23_code
def yX7_see : MethodName := ⟨RX7, "see", "(II)I"⟩
abbrev cX7_drank : ByteArray := prog_1_method_24_code
def yX7_drank : MethodName := ⟨RX7, "drank", "(I)I"⟩
abbrev cX7_birth : ByteArray := prog_1_method_25_code
def yX7_birth : MethodName := ⟨RX7, "birth", "(II)I"⟩
abbrev cX7_firm : ByteArray := prog_1_method_26_code
def yX7_firm : MethodName := ⟨RX7, "firm", "(II)I"⟩
abbrev cX7_odds : ByteArray := prog_1_method_27_code
def yX7_odds : MethodName := ⟨RX7, "odds", "(III)J"⟩
abbrev cX7_mean : ByteArray := prog_1_method_28_code
def yX7_mean : MethodName := ⟨RX7, "mean", "(I)J"⟩
abbrev cX7_night : ByteArray := prog_1_method_29_code
def yX7_night : MethodName := ⟨RX7, "night", "(III)I"⟩
abbrev cX7_done : ByteArray := prog_1_method_30_code
def yX7_done : MethodName := ⟨RX7, "done", "(I)I"⟩
abbrev cX7_book : ByteArray := prog_1_method_31_code
def yX7_book : MethodName := ⟨RX7, "book", "(II)I"⟩
abbrev cX7_looked : ByteArray := prog_1_method_32_code
def yX7_looked : MethodName := ⟨RX7, "looked", "()I"⟩
abbrev cX7_act : ByteArray := prog_1_method_33_code
def yX7_act : MethodName := ⟨RX7, "act", "(III)I"⟩
abbrev cX7_trace : ByteArray := prog_1_method_34_code
def yX7_trace : MethodName := ⟨RX7, "trace", "(I)I"⟩
abbrev cX7_as : ByteArray := prog_1_method_35_code
def yX7_as : MethodName := ⟨RX7, "as", "(II)I"⟩
abbrev cX7_image : ByteArray := prog_1_method_36_code
def yX7_image : MethodName := ⟨RX7, "image", "()I"⟩
abbrev cX7_undo : ByteArray := prog_1_method_37_code
def yX7_undo : MethodName := ⟨RX7, "undo", "()I"⟩
abbrev cX7_count : ByteArray := prog_1_method_38_code
def yX7_count : MethodName := ⟨RX7, "count", "(I)I"⟩
abbrev cX7_isOne : ByteArray := prog_1_method_39_code
def yX7_isOne : MethodName := ⟨RX7, "isOne", "(I)Z"⟩
abbrev cX7_isVintage : ByteArray := prog_1_method_40_code
def yX7_isVintage : MethodName := ⟨RX7, "isVintage", "(I)Z"⟩
abbrev cX7_isOfSeating : ByteArray := prog_1_method_41_code
def yX7_isOfSeating : MethodName := ⟨RX7, "isOfSeating", "(I)Z"⟩
abbrev cX7_isKind : ByteArray := prog_1_method_42_code
def yX7_isKind : MethodName := ⟨RX7, "isKind", "(I)Z"⟩
abbrev cX7_isDigit : ByteArray := prog_1_method_43_code
def yX7_isDigit : MethodName := ⟨RX7, "isDigit", "(I)Z"⟩
abbrev cX7_isBottles : ByteArray := prog_1_method_44_code
def yX7_isBottles : MethodName := ⟨RX7, "isBottles", "(I)Z"⟩
abbrev cX7_isCountOrFirst : ByteArray := prog_1_method_45_code
def yX7_isCountOrFirst : MethodName := ⟨RX7, "isCountOrFirst", "(I)Z"⟩
abbrev cX7_shown : ByteArray := prog_1_method_46_code
def yX7_shown : MethodName := ⟨RX7, "shown", "(I)I"⟩
abbrev cX7_tellAge : ByteArray := prog_1_method_47_code
def yX7_tellAge : MethodName := ⟨RX7, "tellAge", "(LDrunkByYear$Rows;II)I"⟩
abbrev cX7_partOfFraction : ByteArray := prog_1_method_48_code
def yX7_partOfFraction : MethodName := ⟨RX7, "partOfFraction", "(III)J"⟩
def RX8 : String := "DrunkByYearModel"
def TX8 : u_T := fun k => match k with
  | 0 => ("DrunkByYearModel", "thrown", "I", false)
  | 1 => ("DrunkByYearModel", "s", "[I", true)
  | 2 => ("DrunkByYearModel", "image", "[I", true)
  | 3 => ("DrunkByYearModel", "frame", "[I", true)
  | 4 => ("DrunkByYearModel", "hasImage", "Z", false)
  | 5 => ("DrunkByYearModel", "act", "I", false)
  | 6 => ("DrunkByYearModel", "spot", "I", false)
  | 7 => ("DrunkByYearModel", "end", "I", false)
  | 8 => ("DrunkByYearModel", "isWrong", "Z", false)
  | 9 => ("DrunkByYearModel", "open", "I", false)
  | 10 => ("DrunkByYearModel", "by", "[I", true)
  | 11 => ("DrunkByYearModel", "truths", "[Z", true)
  | 12 => ("DrunkByYearModel", "ages", "[I", true)
  | 13 => ("DrunkByYearModel", "nerves", "[I", true)
  | 14 => ("DrunkByYearModel", "seat", "[I", true)
  | 15 => ("DrunkByYearModel", "bestSeat", "[I", true)
  | 16 => ("DrunkByYearModel", "left", "[I", true)
  | 17 => ("DrunkByYearModel", "areHere", "[Z", true)
  | 18 => ("DrunkByYearModel", "seatSort", "I", false)
  | 19 => ("DrunkByYearModel", "wanted", "I", false)
  | 20 => ("DrunkByYearModel", "bestDrinkers", "I", false)
  | 21 => ("DrunkByYearModel", "bestWorth", "I", false)
  | 22 => ("DrunkByYearModel", "fitting", "I", false)
  | 23 => ("DrunkByYearModel", "firstFitting", "I", false)
  | 24 => ("DrunkByYearModel", "bodies", "[I", true)
  | 25 => ("DrunkByYearModel", "ran", "I", false)
  | 26 => ("DrunkByYearModel", "kind", "I", false)
  | 27 => ("DrunkByYearModel", "number", "I", false)
  | _ => ("DrunkByYearModel", "tellsV", "I", false)
def tyX8 : Nat → FieldType := fun k => match k with
  | 0 => .int
  | 1 => .array .int
  | 2 => .array .int
  | 3 => .array .int
  | 4 => .boolean
  | 5 => .int
  | 6 => .int
  | 7 => .int
  | 8 => .boolean
  | 9 => .int
  | 10 => .array .int
  | 11 => .array .boolean
  | 12 => .array .int
  | 13 => .array .int
  | 14 => .array .int
  | 15 => .array .int
  | 16 => .array .int
  | 17 => .array .boolean
  | 18 => .int
  | 19 => .int
  | 20 => .int
  | 21 => .int
  | 22 => .int
  | 23 => .int
  | 24 => .array .int
  | 25 => .int
  | 26 => .int
  | 27 => .int
  | _ => .int
abbrev wsX80 : List Cond := u_ws RX8 TX8 29
theorem nmX8 : ∀ a, a < 29 → ∀ b, b < 29 → a ≠ b → (TX8 a).2.1 ≠ (TX8 b).2.1 := by decide +kernel
theorem tyX8_ok : ∀ k, k < 29 → parseFieldDescriptor (TX8 k).2.2.1 = some (tyX8 k) := by decide +kernel
abbrev cX8_init : ByteArray := prog_10_method_1_code
def yX8_init : MethodName := ⟨RX8, "<init>", "()V"⟩
abbrev cX8_in : ByteArray := prog_10_method_3_code
def yX8_in : MethodName := ⟨RX8, "in", "(III)Z"⟩
abbrev cX8_apart : ByteArray := prog_10_method_4_code
def yX8_apart : MethodName := ⟨RX8, "apart", "(II)I"⟩
abbrev cX8_isPerson : ByteArray := prog_10_method_5_code
def yX8_isPerson : MethodName := ⟨RX8, "isPerson", "(I)Z"⟩
abbrev cX8_isVintage : ByteArray := prog_10_method_6_code
def yX8_isVintage : MethodName := ⟨RX8, "isVintage", "(I)Z"⟩
abbrev cX8_isAge : ByteArray := prog_10_method_7_code
def yX8_isAge : MethodName := ⟨RX8, "isAge", "(I)Z"⟩
abbrev cX8_orNone : ByteArray := prog_10_method_8_code
def yX8_orNone : MethodName := ⟨RX8, "orNone", "(I)I"⟩
abbrev cX8_keeps : ByteArray := prog_10_method_9_code
def yX8_keeps : MethodName := ⟨RX8, "keeps", "()V"⟩
abbrev cX8_goesBack : ByteArray := prog_10_method_10_code
def yX8_goesBack : MethodName := ⟨RX8, "goesBack", "()V"⟩
abbrev cX8_feed : ByteArray := prog_10_method_11_code
def yX8_feed : MethodName := ⟨RX8, "feed", "(I)I"⟩
abbrev cX8_here : ByteArray := prog_10_method_12_code
def yX8_here : MethodName := ⟨RX8, "here", "()I"⟩
abbrev cX8_must : ByteArray := prog_10_method_13_code
def yX8_must : MethodName := ⟨RX8, "must", "(I)V"⟩
abbrev cX8_spells : ByteArray := prog_10_method_14_code
def yX8_spells : MethodName := ⟨RX8, "spells", "(Ljava/lang/String;)V"⟩
abbrev cX8_figures : ByteArray := prog_10_method_15_code
def yX8_figures : MethodName := ⟨RX8, "figures", "()I"⟩
abbrev cX8_among : ByteArray := prog_10_method_16_code
def yX8_among : MethodName := ⟨RX8, "among", "(Ljava/lang/String;)I"⟩
abbrev cX8_emits : ByteArray := prog_10_method_17_code
def yX8_emits : MethodName := ⟨RX8, "emits", "(I)V"⟩
abbrev cX8_factor : ByteArray := prog_10_method_18_code
def yX8_factor : MethodName := ⟨RX8, "factor", "()V"⟩
abbrev cX8_every : ByteArray := prog_10_method_19_code
def yX8_every : MethodName := ⟨RX8, "every", "()V"⟩
abbrev cX8_some : ByteArray := prog_10_method_20_code
def yX8_some : MethodName := ⟨RX8, "some", "()V"⟩
abbrev cX8_much : ByteArray := prog_10_method_21_code
def yX8_much : MethodName := ⟨RX8, "much", "(ILjava/lang/String;)V"⟩
abbrev cX8_tellsHere : ByteArray := prog_10_method_22_code
def yX8_tellsHere : MethodName := ⟨RX8, "tellsHere", "(ILjava/lang/String;)V"⟩
abbrev cX8_clauseHere : ByteArray := prog_10_method_23_code
def yX8_clauseHere : MethodName := ⟨RX8, "clauseHere", "()V"⟩
abbrev cX8_village : ByteArray := prog_10_method_24_code
def yX8_village : MethodName := ⟨RX8, "village", "()I"⟩
abbrev cX8_tellsOf : ByteArray := prog_10_method_25_code
def yX8_tellsOf : MethodName := ⟨RX8, "tellsOf", "(II)I"⟩
abbrev cX8_ageIn : ByteArray := prog_10_method_26_code
def yX8_ageIn : MethodName := ⟨RX8, "ageIn", "(II)I"⟩
abbrev cX8_ageBy : ByteArray := prog_10_method_27_code
def yX8_ageBy : MethodName := ⟨RX8, "ageBy", "(II)I"⟩
abbrev cX8_isHereAt : ByteArray := prog_10_method_28_code
def yX8_isHereAt : MethodName := ⟨RX8, "isHereAt", "(II)Z"⟩
abbrev cX8_stageAt : ByteArray := prog_10_method_29_code
def yX8_stageAt : MethodName := ⟨RX8, "stageAt", "(II)I"⟩
abbrev cX8_looks : ByteArray := prog_10_method_30_code
def yX8_looks : MethodName := ⟨RX8, "looks", "(II)I"⟩
abbrev cX8_nerveBy : ByteArray := prog_10_method_31_code
def yX8_nerveBy : MethodName := ⟨RX8, "nerveBy", "(II)I"⟩
abbrev cX8_ageOf : ByteArray := prog_10_method_32_code
def yX8_ageOf : MethodName := ⟨RX8, "ageOf", "(I)I"⟩
abbrev cX8_isHere : ByteArray := prog_10_method_33_code
def yX8_isHere : MethodName := ⟨RX8, "isHere", "(I)Z"⟩
abbrev cX8_whoIsHere : ByteArray := prog_10_method_34_code
def yX8_whoIsHere : MethodName := ⟨RX8, "whoIsHere", "()I"⟩
abbrev cX8_countOf : ByteArray := prog_10_method_35_code
def yX8_countOf : MethodName := ⟨RX8, "countOf", "(I)I"⟩
abbrev cX8_allNerve : ByteArray := prog_10_method_36_code
def yX8_allNerve : MethodName := ⟨RX8, "allNerve", "()I"⟩
abbrev cX8_allBottles : ByteArray := prog_10_method_37_code
def yX8_allBottles : MethodName := ⟨RX8, "allBottles", "()I"⟩
abbrev cX8_person : ByteArray := prog_10_method_38_code
def yX8_person : MethodName := ⟨RX8, "person", "(IIII)I"⟩
abbrev cX8_newVintage : ByteArray := prog_10_method_39_code
def yX8_newVintage : MethodName := ⟨RX8, "newVintage", "(II)I"⟩
abbrev cX8_vintage : ByteArray := prog_10_method_40_code
def yX8_vintage : MethodName := ⟨RX8, "vintage", "(II)I"⟩
abbrev cX8_of : ByteArray := prog_10_method_41_code
def yX8_of : MethodName := ⟨RX8, "of", "(II)I"⟩
abbrev cX8_row : ByteArray := prog_10_method_42_code
def yX8_row : MethodName := ⟨RX8, "row", "(III)I"⟩
abbrev cX8_wine : ByteArray := prog_10_method_43_code
def yX8_wine : MethodName := ⟨RX8, "wine", "(II)I"⟩
abbrev cX8_stock : ByteArray := prog_10_method_44_code
def yX8_stock : MethodName := ⟨RX8, "stock", "(II)I"⟩
abbrev cX8_told : ByteArray := prog_10_method_45_code
def yX8_told : MethodName := ⟨RX8, "told", "(I)I"⟩
abbrev cX8_pours : ByteArray := prog_10_method_46_code
def yX8_pours : MethodName := ⟨RX8, "pours", "(II)V"⟩
abbrev cX8_pour : ByteArray := prog_10_method_47_code
def yX8_pour : MethodName := ⟨RX8, "pour", "(II)I"⟩
abbrev cX8_dry : ByteArray := prog_10_method_48_code
def yX8_dry : MethodName := ⟨RX8, "dry", "(I)I"⟩
abbrev cX8_dawns : ByteArray := prog_10_method_49_code
def yX8_dawns : MethodName := ⟨RX8, "dawns", "()V"⟩
abbrev cX8_dawn : ByteArray := prog_10_method_50_code
def yX8_dawn : MethodName := ⟨RX8, "dawn", "(I)I"⟩
abbrev cX8_blend : ByteArray := prog_10_method_51_code
def yX8_blend : MethodName := ⟨RX8, "blend", "(II)I"⟩
abbrev cX8_alive : ByteArray := prog_10_method_52_code
def yX8_alive : MethodName := ⟨RX8, "alive", "(I)I"⟩
abbrev cX8_brings : ByteArray := prog_10_method_53_code
def yX8_brings : MethodName := ⟨RX8, "brings", "(I)I"⟩
abbrev cX8_nearest : ByteArray := prog_10_method_54_code
def yX8_nearest : MethodName := ⟨RX8, "nearest", "(II)I"⟩
abbrev cX8_two : ByteArray := prog_10_method_55_code
def yX8_two : MethodName := ⟨RX8, "two", "()I"⟩
abbrev cX8_meet : ByteArray := prog_10_method_56_code
def yX8_meet : MethodName := ⟨RX8, "meet", "(III)I"⟩
abbrev cX8_looksForSeats : ByteArray := prog_10_method_57_code
def yX8_looksForSeats : MethodName := ⟨RX8, "looksForSeats", "()V"⟩
abbrev cX8_spread : ByteArray := prog_10_method_58_code
def yX8_spread : MethodName := ⟨RX8, "spread", "()I"⟩
abbrev cX8_worth : ByteArray := prog_10_method_59_code
def yX8_worth : MethodName := ⟨RX8, "worth", "()I"⟩
abbrev cX8_keepsSeat : ByteArray := prog_10_method_60_code
def yX8_keepsSeat : MethodName := ⟨RX8, "keepsSeat", "(I)V"⟩
abbrev cX8_seatsFrom : ByteArray := prog_10_method_61_code
def yX8_seatsFrom : MethodName := ⟨RX8, "seatsFrom", "(II)V"⟩
abbrev cX8_looksForSeating : ByteArray := prog_10_method_62_code
def yX8_looksForSeating : MethodName := ⟨RX8, "looksForSeating", "(II)V"⟩
abbrev cX8_everybody : ByteArray := prog_10_method_63_code
def yX8_everybody : MethodName := ⟨RX8, "everybody", "()I"⟩
abbrev cX8_isAsked : ByteArray := prog_10_method_64_code
def yX8_isAsked : MethodName := ⟨RX8, "isAsked", "(I)Z"⟩
abbrev cX8_seatOf : ByteArray := prog_10_method_65_code
def yX8_seatOf : MethodName := ⟨RX8, "seatOf", "(I)I"⟩
abbrev cX8_fewest : ByteArray := prog_10_method_66_code
def yX8_fewest : MethodName := ⟨RX8, "fewest", "(II)I"⟩
abbrev cX8_close : ByteArray := prog_10_method_67_code
def yX8_close : MethodName := ⟨RX8, "close", "(I)I"⟩
abbrev cX8_boldest : ByteArray := prog_10_method_68_code
def yX8_boldest : MethodName := ⟨RX8, "boldest", "(I)I"⟩
abbrev cX8_see : ByteArray := prog_10_method_69_code
def yX8_see : MethodName := ⟨RX8, "see", "(II)I"⟩
abbrev cX8_isAsSeen : ByteArray := prog_10_method_70_code
def yX8_isAsSeen : MethodName := ⟨RX8, "isAsSeen", "(II)Z"⟩
abbrev cX8_drank : ByteArray := prog_10_method_71_code
def yX8_drank : MethodName := ⟨RX8, "drank", "(I)I"⟩
abbrev cX8_looksForFitting : ByteArray := prog_10_method_72_code
def yX8_looksForFitting : MethodName := ⟨RX8, "looksForFitting", "(III)V"⟩
abbrev cX8_birth : ByteArray := prog_10_method_73_code
def yX8_birth : MethodName := ⟨RX8, "birth", "(II)I"⟩
abbrev cX8_firm : ByteArray := prog_10_method_74_code
def yX8_firm : MethodName := ⟨RX8, "firm", "(II)I"⟩
abbrev cX8_lowest : ByteArray := prog_10_method_75_code
def yX8_lowest : MethodName := ⟨RX8, "lowest", "(JJI)J"⟩
abbrev cX8_odds : ByteArray := prog_10_method_76_code
def yX8_odds : MethodName := ⟨RX8, "odds", "(III)J"⟩
abbrev cX8_mean : ByteArray := prog_10_method_77_code
def yX8_mean : MethodName := ⟨RX8, "mean", "(I)J"⟩
abbrev cX8_night : ByteArray := prog_10_method_78_code
def yX8_night : MethodName := ⟨RX8, "night", "(III)I"⟩
abbrev cX8_does : ByteArray := prog_10_method_79_code
def yX8_does : MethodName := ⟨RX8, "does", "(III)V"⟩
abbrev cX8_done : ByteArray := prog_10_method_80_code
def yX8_done : MethodName := ⟨RX8, "done", "(I)I"⟩
abbrev cX8_book : ByteArray := prog_10_method_81_code
def yX8_book : MethodName := ⟨RX8, "book", "(II)I"⟩
abbrev cX8_looked : ByteArray := prog_10_method_82_code
def yX8_looked : MethodName := ⟨RX8, "looked", "()I"⟩
abbrev cX8_ranBody : ByteArray := prog_10_method_83_code
def yX8_ranBody : MethodName := ⟨RX8, "ranBody", "(I)V"⟩
abbrev cX8_isUnder : ByteArray := prog_10_method_84_code
def yX8_isUnder : MethodName := ⟨RX8, "isUnder", "(II)Z"⟩
abbrev cX8_plainDrinks : ByteArray := prog_10_method_85_code
def yX8_plainDrinks : MethodName := ⟨RX8, "plainDrinks", "(I)I"⟩
abbrev cX8_drinksActs : ByteArray := prog_10_method_86_code
def yX8_drinksActs : MethodName := ⟨RX8, "drinksActs", "(I)I"⟩
abbrev cX8_plainAges : ByteArray := prog_10_method_87_code
def yX8_plainAges : MethodName := ⟨RX8, "plainAges", "(I)I"⟩
abbrev cX8_agesActs : ByteArray := prog_10_method_88_code
def yX8_agesActs : MethodName := ⟨RX8, "agesActs", "(I)I"⟩
abbrev cX8_plainTelling : ByteArray := prog_10_method_89_code
def yX8_plainTelling : MethodName := ⟨RX8, "plainTelling", "(I)I"⟩
abbrev cX8_tellsActs : ByteArray := prog_10_method_90_code
def yX8_tellsActs : MethodName := ⟨RX8, "tellsActs", "(I)I"⟩
abbrev cX8_act : ByteArray := prog_10_method_91_code
def yX8_act : MethodName := ⟨RX8, "act", "(III)I"⟩
abbrev cX8_trace : ByteArray := prog_10_method_92_code
def yX8_trace : MethodName := ⟨RX8, "trace", "(I)I"⟩
abbrev cX8_as : ByteArray := prog_10_method_93_code
def yX8_as : MethodName := ⟨RX8, "as", "(II)I"⟩
abbrev cX8_image : ByteArray := prog_10_method_94_code
def yX8_image : MethodName := ⟨RX8, "image", "()I"⟩
abbrev cX8_undo : ByteArray := prog_10_method_95_code
def yX8_undo : MethodName := ⟨RX8, "undo", "()I"⟩
abbrev cX8_count : ByteArray := prog_10_method_96_code
def yX8_count : MethodName := ⟨RX8, "count", "(I)I"⟩
def RJ11 : String := "java/lang/Character"
def TJ11 : u_T := fun k => match k with
  | _ => ("", "", "", false)
def tyJ11 : Nat → FieldType := fun k => match k with
  | _ => .int
abbrev wsJ110 : List Cond := u_ws RJ11 TJ11 0
theorem nmJ11 : ∀ a, a < 0 → ∀ b, b < 0 → a ≠ b → (TJ11 a).2.1 ≠ (TJ11 b).2.1 := by decide +kernel
theorem tyJ11_ok : ∀ k, k < 0 → parseFieldDescriptor (TJ11 k).2.2.1 = some (tyJ11 k) := by decide +kernel
abbrev cJ11_isValidCodePoint_9a6ad : ByteArray := prog_11_method_11_code
def yJ11_isValidCodePoint_9a6ad : MethodName := ⟨RJ11, "isValidCodePoint", "(I)Z"⟩
abbrev cJ11_highSurrogate_5068e : ByteArray := prog_11_method_28_code
def yJ11_highSurrogate_5068e : MethodName := ⟨RJ11, "highSurrogate", "(I)C"⟩
abbrev cJ11_lowSurrogate_5068e : ByteArray := prog_11_method_29_code
def yJ11_lowSurrogate_5068e : MethodName := ⟨RJ11, "lowSurrogate", "(I)C"⟩
def RJ6 : String := "java/lang/Integer"
def TJ6 : u_T := fun k => match k with
  | _ => ("", "", "", false)
def tyJ6 : Nat → FieldType := fun k => match k with
  | _ => .int
abbrev wsJ60 : List Cond := u_ws RJ6 TJ6 0
theorem nmJ6 : ∀ a, a < 0 → ∀ b, b < 0 → a ≠ b → (TJ6 a).2.1 ≠ (TJ6 b).2.1 := by decide +kernel
theorem tyJ6_ok : ∀ k, k < 0 → parseFieldDescriptor (TJ6 k).2.2.1 = some (tyJ6 k) := by decide +kernel
abbrev cJ6_bitCount_0f7a4 : ByteArray := prog_12_method_49_code
def yJ6_bitCount_0f7a4 : MethodName := ⟨RJ6, "bitCount", "(I)I"⟩
def RJ9 : String := "java/lang/Math"
def TJ9 : u_T := fun k => match k with
  | _ => ("", "", "", false)
def tyJ9 : Nat → FieldType := fun k => match k with
  | _ => .int
abbrev wsJ90 : List Cond := u_ws RJ9 TJ9 0
theorem nmJ9 : ∀ a, a < 0 → ∀ b, b < 0 → a ≠ b → (TJ9 a).2.1 ≠ (TJ9 b).2.1 := by decide +kernel
theorem tyJ9_ok : ∀ k, k < 0 → parseFieldDescriptor (TJ9 k).2.2.1 = some (tyJ9 k) := by decide +kernel
abbrev cJ9_abs_0f7a4 : ByteArray := prog_13_method_59_code
def yJ9_abs_0f7a4 : MethodName := ⟨RJ9, "abs", "(I)I"⟩
abbrev cJ9_max_7cf53 : ByteArray := prog_13_method_65_code
def yJ9_max_7cf53 : MethodName := ⟨RJ9, "max", "(II)I"⟩
abbrev cJ9_min_7cf53 : ByteArray := prog_13_method_69_code
def yJ9_min_7cf53 : MethodName := ⟨RJ9, "min", "(II)I"⟩
def RJ0 : String := "java/lang/String"
def TJ0 : u_T := fun k => match k with
  | _ => ("", "", "", false)
def tyJ0 : Nat → FieldType := fun k => match k with
  | _ => .int
abbrev wsJ00 : List Cond := u_ws RJ0 TJ0 0
theorem nmJ0 : ∀ a, a < 0 → ∀ b, b < 0 → a ≠ b → (TJ0 a).2.1 ≠ (TJ0 b).2.1 := by decide +kernel
theorem tyJ0_ok : ∀ k, k < 0 → parseFieldDescriptor (TJ0 k).2.2.1 = some (tyJ0 k) := by decide +kernel
abbrev cJ0_length_8abf5 : ByteArray := prog_14_method_54_code
def yJ0_length_8abf5 : MethodName := ⟨RJ0, "length", "()I"⟩
abbrev cJ0_charAt_5068e : ByteArray := prog_14_method_56_code
def yJ0_charAt_5068e : MethodName := ⟨RJ0, "charAt", "(I)C"⟩
abbrev cJ0_indexOf_0f7a4 : ByteArray := prog_14_method_79_code
def yJ0_indexOf_0f7a4 : MethodName := ⟨RJ0, "indexOf", "(I)I"⟩
abbrev cJ0_indexOf_7cf53 : ByteArray := prog_14_method_80_code
def yJ0_indexOf_7cf53 : MethodName := ⟨RJ0, "indexOf", "(II)I"⟩
abbrev cJ0_coder_7d493 : ByteArray := prog_14_method_152_code
def yJ0_coder_7d493 : MethodName := ⟨RJ0, "coder", "()B"⟩
abbrev cJ0_isLatin1_aae02 : ByteArray := prog_14_method_154_code
def yJ0_isLatin1_aae02 : MethodName := ⟨RJ0, "isLatin1", "()Z"⟩
abbrev cJ0_checkIndex_df160 : ByteArray := prog_14_method_155_code
def yJ0_checkIndex_df160 : MethodName := ⟨RJ0, "checkIndex", "(II)V"⟩
abbrev cJ0_checkBoundsBeginEnd_23922 : ByteArray := prog_14_method_158_code
def yJ0_checkBoundsBeginEnd_23922 : MethodName := ⟨RJ0, "checkBoundsBeginEnd", "(III)V"⟩
def RJ1 : String := "java/lang/StringLatin1"
def TJ1 : u_T := fun k => match k with
  | _ => ("", "", "", false)
def tyJ1 : Nat → FieldType := fun k => match k with
  | _ => .int
abbrev wsJ10 : List Cond := u_ws RJ1 TJ1 0
theorem nmJ1 : ∀ a, a < 0 → ∀ b, b < 0 → a ≠ b → (TJ1 a).2.1 ≠ (TJ1 b).2.1 := by decide +kernel
theorem tyJ1_ok : ∀ k, k < 0 → parseFieldDescriptor (TJ1 k).2.2.1 = some (tyJ1 k) := by decide +kernel
abbrev cJ1_charAt_3b067 : ByteArray := prog_15_method_2_code
def yJ1_charAt_3b067 : MethodName := ⟨RJ1, "charAt", "([BI)C"⟩
abbrev cJ1_canEncode_9a6ad : ByteArray := prog_15_method_4_code
def yJ1_canEncode_9a6ad : MethodName := ⟨RJ1, "canEncode", "(I)Z"⟩
abbrev cJ1_indexOf_4cfef : ByteArray := prog_15_method_22_code
def yJ1_indexOf_4cfef : MethodName := ⟨RJ1, "indexOf", "([BIII)I"⟩
abbrev cJ1_indexOfChar_4cfef : ByteArray := prog_15_method_23_code
def yJ1_indexOfChar_4cfef : MethodName := ⟨RJ1, "indexOfChar", "([BIII)I"⟩
def RJ2 : String := "java/lang/StringUTF16"
def TJ2 : u_T := fun k => match k with
  | _ => ("", "", "", false)
def tyJ2 : Nat → FieldType := fun k => match k with
  | _ => .int
abbrev wsJ20 : List Cond := u_ws RJ2 TJ2 0
theorem nmJ2 : ∀ a, a < 0 → ∀ b, b < 0 → a ≠ b → (TJ2 a).2.1 ≠ (TJ2 b).2.1 := by decide +kernel
theorem tyJ2_ok : ∀ k, k < 0 → parseFieldDescriptor (TJ2 k).2.2.1 = some (tyJ2 k) := by decide +kernel
abbrev cJ2_getChar_3b067 : ByteArray := prog_16_method_5_code
def yJ2_getChar_3b067 : MethodName := ⟨RJ2, "getChar", "([BI)C"⟩
abbrev cJ2_length_9d52b : ByteArray := prog_16_method_6_code
def yJ2_length_9d52b : MethodName := ⟨RJ2, "length", "([B)I"⟩
abbrev cJ2_indexOf_4cfef : ByteArray := prog_16_method_40_code
def yJ2_indexOf_4cfef : MethodName := ⟨RJ2, "indexOf", "([BIII)I"⟩
abbrev cJ2_indexOfChar_4cfef : ByteArray := prog_16_method_47_code
def yJ2_indexOfChar_4cfef : MethodName := ⟨RJ2, "indexOfChar", "([BIII)I"⟩
abbrev cJ2_indexOfCharUnsafe_4cfef : ByteArray := prog_16_method_48_code
def yJ2_indexOfCharUnsafe_4cfef : MethodName := ⟨RJ2, "indexOfCharUnsafe", "([BIII)I"⟩
abbrev cJ2_indexOfSupplementary_4cfef : ByteArray := prog_16_method_49_code
def yJ2_indexOfSupplementary_4cfef : MethodName := ⟨RJ2, "indexOfSupplementary", "([BIII)I"⟩
abbrev cJ2_charAt_3b067 : ByteArray := prog_16_method_83_code
def yJ2_charAt_3b067 : MethodName := ⟨RJ2, "charAt", "([BI)C"⟩
abbrev cJ2_checkIndex_2214a : ByteArray := prog_16_method_91_code
def yJ2_checkIndex_2214a : MethodName := ⟨RJ2, "checkIndex", "(I[B)V"⟩
abbrev cJ2_checkBoundsBeginEnd_d044e : ByteArray := prog_16_method_93_code
def yJ2_checkBoundsBeginEnd_d044e : MethodName := ⟨RJ2, "checkBoundsBeginEnd", "(II[B)V"⟩
def RJ10 : String := "java/lang/System"
def TJ10 : u_T := fun k => match k with
  | _ => ("", "", "", false)
def tyJ10 : Nat → FieldType := fun k => match k with
  | _ => .int
abbrev wsJ100 : List Cond := u_ws RJ10 TJ10 0
theorem nmJ10 : ∀ a, a < 0 → ∀ b, b < 0 → a ≠ b → (TJ10 a).2.1 ≠ (TJ10 b).2.1 := by decide +kernel
theorem tyJ10_ok : ∀ k, k < 0 → parseFieldDescriptor (TJ10 k).2.2.1 = some (tyJ10 k) := by decide +kernel
def RJ3 : String := "jdk/internal/util/Preconditions"
def TJ3 : u_T := fun k => match k with
  | _ => ("", "", "", false)
def tyJ3 : Nat → FieldType := fun k => match k with
  | _ => .int
abbrev wsJ30 : List Cond := u_ws RJ3 TJ3 0
theorem nmJ3 : ∀ a, a < 0 → ∀ b, b < 0 → a ≠ b → (TJ3 a).2.1 ≠ (TJ3 b).2.1 := by decide +kernel
theorem tyJ3_ok : ∀ k, k < 0 → parseFieldDescriptor (TJ3 k).2.2.1 = some (tyJ3 k) := by decide +kernel
abbrev cJ3_checkIndex_8e157 : ByteArray := prog_18_method_11_code
def yJ3_checkIndex_8e157 : MethodName := ⟨RJ3, "checkIndex", "(IILjava/util/function/BiFunction;)I"⟩
abbrev cJ3_checkFromToIndex_8c36e : ByteArray := prog_18_method_12_code
def yJ3_checkFromToIndex_8c36e : MethodName := ⟨RJ3, "checkFromToIndex", "(IIILjava/util/function/BiFunction;)I"⟩
def RL : String := "DrunkByYearLaw"
abbrev cL_law : ByteArray := code
def yL_law : MethodName := ⟨RL, "law", "([I)Z"⟩
end
section
theorem dX0_init_0 : decode cX0_init 0 = .ok (.aload_n 0, 1) := by decide +kernel
theorem dX0_init_1 : decode cX0_init 1 = .ok (.invokespecial 3, 3) := by decide +kernel
theorem dX0_init_4 : decode cX0_init 4 = .ok (.aload_n 0, 1) := by decide +kernel
theorem dX0_init_5 : decode cX0_init 5 = .ok (.bipush 20, 2) := by decide +kernel
theorem dX0_init_7 : decode cX0_init 7 = .ok (.newarray .int, 2) := by decide +kernel
theorem dX0_init_9 : decode cX0_init 9 = .ok (.putfield 9, 3) := by decide +kernel
theorem dX0_init_12 : decode cX0_init 12 = .ok (.return_, 1) := by decide +kernel
theorem dX0_perform_0 : decode cX0_perform 0 = .ok (.iload_n 3, 1) := by decide +kernel
theorem dX0_perform_1 : decode cX0_perform 1 = .ok (.istore 6, 2) := by decide +kernel
theorem dX0_perform_3 : decode cX0_perform 3 = .ok (.iconst 0, 1) := by decide +kernel
theorem dX0_perform_4 : decode cX0_perform 4 = .ok (.istore 7, 2) := by decide +kernel
theorem dX0_perform_6 : decode cX0_perform 6 = .ok (.iload 7, 2) := by decide +kernel
theorem dX0_perform_8 : decode cX0_perform 8 = .ok (.getstatic 15, 3) := by decide +kernel
theorem dX0_perform_11 : decode cX0_perform 11 = .ok (.arraylength, 1) := by decide +kernel
theorem dX0_perform_12 : decode cX0_perform 12 = .ok (.if_icmp .ge 35, 3) := by decide +kernel
theorem dX0_perform_15 : decode cX0_perform 15 = .ok (.iload 6, 2) := by decide +kernel
theorem dX0_perform_17 : decode cX0_perform 17 = .ok (.ifCond .le 30, 3) := by decide +kernel
theorem dX0_perform_20 : decode cX0_perform 20 = .ok (.getstatic 18, 3) := by decide +kernel
theorem dX0_perform_23 : decode cX0_perform 23 = .ok (.iconst 3, 1) := by decide +kernel
theorem dX0_perform_24 : decode cX0_perform 24 = .ok (.iload 6, 2) := by decide +kernel
theorem dX0_perform_26 : decode cX0_perform 26 = .ok (.imul, 1) := by decide +kernel
theorem dX0_perform_27 : decode cX0_perform 27 = .ok (.iload_n 2, 1) := by decide +kernel
theorem dX0_perform_28 : decode cX0_perform 28 = .ok (.iadd, 1) := by decide +kernel
theorem dX0_perform_29 : decode cX0_perform 29 = .ok (.iaload, 1) := by decide +kernel
theorem dX0_perform_30 : decode cX0_perform 30 = .ok (.ifCond .ne 17, 3) := by decide +kernel
theorem dX0_perform_33 : decode cX0_perform 33 = .ok (.getstatic 15, 3) := by decide +kernel
theorem dX0_perform_36 : decode cX0_perform 36 = .ok (.iload 6, 2) := by decide +kernel
theorem dX0_perform_38 : decode cX0_perform 38 = .ok (.iaload, 1) := by decide +kernel
theorem dX0_perform_39 : decode cX0_perform 39 = .ok (.istore 6, 2) := by decide +kernel
theorem dX0_perform_41 : decode cX0_perform 41 = .ok (.iinc 7 1, 3) := by decide +kernel
theorem dX0_perform_44 : decode cX0_perform 44 = .ok (.goto (-38), 3) := by decide +kernel
theorem dX0_perform_47 : decode cX0_perform 47 = .ok (.getstatic 18, 3) := by decide +kernel
theorem dX0_perform_50 : decode cX0_perform 50 = .ok (.iconst 3, 1) := by decide +kernel
theorem dX0_perform_51 : decode cX0_perform 51 = .ok (.iload 6, 2) := by decide +kernel
theorem dX0_perform_53 : decode cX0_perform 53 = .ok (.imul, 1) := by decide +kernel
theorem dX0_perform_54 : decode cX0_perform 54 = .ok (.iload_n 2, 1) := by decide +kernel
theorem dX0_perform_55 : decode cX0_perform 55 = .ok (.iadd, 1) := by decide +kernel
theorem dX0_perform_56 : decode cX0_perform 56 = .ok (.iaload, 1) := by decide +kernel
theorem dX0_perform_57 : decode cX0_perform 57 = .ok (.istore 7, 2) := by decide +kernel
theorem dX0_perform_59 : decode cX0_perform 59 = .ok (.aload_n 0, 1) := by decide +kernel
theorem dX0_perform_60 : decode cX0_perform 60 = .ok (.iload 7, 2) := by decide +kernel
theorem dX0_perform_62 : decode cX0_perform 62 = .ok (.invokevirtual 21, 3) := by decide +kernel
theorem dX0_perform_65 : decode cX0_perform 65 = .ok (.iload 5, 2) := by decide +kernel
theorem dX0_perform_67 : decode cX0_perform 67 = .ok (.iconst 1, 1) := by decide +kernel
theorem dX0_perform_68 : decode cX0_perform 68 = .ok (.iadd, 1) := by decide +kernel
theorem dX0_perform_69 : decode cX0_perform 69 = .ok (.istore 8, 2) := by decide +kernel
theorem dX0_perform_71 : decode cX0_perform 71 = .ok (.aload_n 1, 1) := by decide +kernel
theorem dX0_perform_72 : decode cX0_perform 72 = .ok (.getfield 25, 3) := by decide +kernel
theorem dX0_perform_75 : decode cX0_perform 75 = .ok (.istore 9, 2) := by decide +kernel
theorem dX0_perform_77 : decode cX0_perform 77 = .ok (.aload_n 1, 1) := by decide +kernel
theorem dX0_perform_78 : decode cX0_perform 78 = .ok (.getfield 31, 3) := by decide +kernel
theorem dX0_perform_81 : decode cX0_perform 81 = .ok (.istore 10, 2) := by decide +kernel
theorem dX0_perform_83 : decode cX0_perform 83 = .ok (.iload 8, 2) := by decide +kernel
theorem dX0_perform_85 : decode cX0_perform 85 = .ok (.bipush 12, 2) := by decide +kernel
theorem dX0_perform_87 : decode cX0_perform 87 = .ok (.if_icmp .le 5, 3) := by decide +kernel
theorem dX0_perform_90 : decode cX0_perform 90 = .ok (.iconst 0, 1) := by decide +kernel
theorem dX0_perform_91 : decode cX0_perform 91 = .ok (.ireturn, 1) := by decide +kernel
theorem dX0_perform_92 : decode cX0_perform 92 = .ok (.iload 7, 2) := by decide +kernel
theorem dX0_perform_94 : decode cX0_perform 94 = .ok (.lookupswitch 248 #[(1, 82), (2, 88), (3, 106), (11, 123), (21, 141), (31, 158), (41, 177), (51, 209), (61, 228)], 82) := by decide +kernel
theorem dX0_perform_176 : decode cX0_perform 176 = .ok (.iload 4, 2) := by decide +kernel
theorem dX0_perform_178 : decode cX0_perform 178 = .ok (.iload 9, 2) := by decide +kernel
theorem dX0_perform_180 : decode cX0_perform 180 = .ok (.iadd, 1) := by decide +kernel
theorem dX0_perform_181 : decode cX0_perform 181 = .ok (.ireturn, 1) := by decide +kernel
theorem dX0_perform_182 : decode cX0_perform 182 = .ok (.aload_n 0, 1) := by decide +kernel
theorem dX0_perform_183 : decode cX0_perform 183 = .ok (.aload_n 1, 1) := by decide +kernel
theorem dX0_perform_184 : decode cX0_perform 184 = .ok (.iconst 0, 1) := by decide +kernel
theorem dX0_perform_185 : decode cX0_perform 185 = .ok (.aload_n 1, 1) := by decide +kernel
theorem dX0_perform_186 : decode cX0_perform 186 = .ok (.getfield 34, 3) := by decide +kernel
theorem dX0_perform_189 : decode cX0_perform 189 = .ok (.iload 4, 2) := by decide +kernel
theorem dX0_perform_191 : decode cX0_perform 191 = .ok (.iload 8, 2) := by decide +kernel
theorem dX0_perform_193 : decode cX0_perform 193 = .ok (.invokevirtual 37, 3) := by decide +kernel
theorem dX0_perform_196 : decode cX0_perform 196 = .ok (.iload 10, 2) := by decide +kernel
theorem dX0_perform_198 : decode cX0_perform 198 = .ok (.isub, 1) := by decide +kernel
theorem dX0_perform_199 : decode cX0_perform 199 = .ok (.ireturn, 1) := by decide +kernel
theorem dX0_perform_200 : decode cX0_perform 200 = .ok (.aload_n 0, 1) := by decide +kernel
theorem dX0_perform_201 : decode cX0_perform 201 = .ok (.aload_n 1, 1) := by decide +kernel
theorem dX0_perform_202 : decode cX0_perform 202 = .ok (.iconst 1, 1) := by decide +kernel
theorem dX0_perform_203 : decode cX0_perform 203 = .ok (.aload_n 1, 1) := by decide +kernel
theorem dX0_perform_204 : decode cX0_perform 204 = .ok (.getfield 34, 3) := by decide +kernel
theorem dX0_perform_207 : decode cX0_perform 207 = .ok (.iload 4, 2) := by decide +kernel
theorem dX0_perform_209 : decode cX0_perform 209 = .ok (.iload 8, 2) := by decide +kernel
theorem dX0_perform_211 : decode cX0_perform 211 = .ok (.invokevirtual 37, 3) := by decide +kernel
theorem dX0_perform_214 : decode cX0_perform 214 = .ok (.iconst 2, 1) := by decide +kernel
theorem dX0_perform_215 : decode cX0_perform 215 = .ok (.imul, 1) := by decide +kernel
theorem dX0_perform_216 : decode cX0_perform 216 = .ok (.ireturn, 1) := by decide +kernel
theorem dX0_perform_217 : decode cX0_perform 217 = .ok (.aload_n 0, 1) := by decide +kernel
theorem dX0_perform_218 : decode cX0_perform 218 = .ok (.aload_n 1, 1) := by decide +kernel
theorem dX0_perform_219 : decode cX0_perform 219 = .ok (.iconst 0, 1) := by decide +kernel
theorem dX0_perform_220 : decode cX0_perform 220 = .ok (.getstatic 15, 3) := by decide +kernel
theorem dX0_perform_223 : decode cX0_perform 223 = .ok (.iconst 1, 1) := by decide +kernel
theorem dX0_perform_224 : decode cX0_perform 224 = .ok (.iaload, 1) := by decide +kernel
theorem dX0_perform_225 : decode cX0_perform 225 = .ok (.iload 4, 2) := by decide +kernel
theorem dX0_perform_227 : decode cX0_perform 227 = .ok (.iconst 3, 1) := by decide +kernel
theorem dX0_perform_228 : decode cX0_perform 228 = .ok (.imul, 1) := by decide +kernel
theorem dX0_perform_229 : decode cX0_perform 229 = .ok (.iload 8, 2) := by decide +kernel
theorem dX0_perform_231 : decode cX0_perform 231 = .ok (.invokevirtual 37, 3) := by decide +kernel
theorem dX0_perform_234 : decode cX0_perform 234 = .ok (.ireturn, 1) := by decide +kernel
theorem dX0_perform_235 : decode cX0_perform 235 = .ok (.aload_n 0, 1) := by decide +kernel
theorem dX0_perform_236 : decode cX0_perform 236 = .ok (.aload_n 1, 1) := by decide +kernel
theorem dX0_perform_237 : decode cX0_perform 237 = .ok (.iconst 1, 1) := by decide +kernel
theorem dX0_perform_238 : decode cX0_perform 238 = .ok (.getstatic 15, 3) := by decide +kernel
theorem dX0_perform_241 : decode cX0_perform 241 = .ok (.iconst 2, 1) := by decide +kernel
theorem dX0_perform_242 : decode cX0_perform 242 = .ok (.iaload, 1) := by decide +kernel
theorem dX0_perform_243 : decode cX0_perform 243 = .ok (.iload 4, 2) := by decide +kernel
theorem dX0_perform_245 : decode cX0_perform 245 = .ok (.iload 8, 2) := by decide +kernel
theorem dX0_perform_247 : decode cX0_perform 247 = .ok (.invokevirtual 37, 3) := by decide +kernel
theorem dX0_perform_250 : decode cX0_perform 250 = .ok (.ineg, 1) := by decide +kernel
theorem dX0_perform_251 : decode cX0_perform 251 = .ok (.ireturn, 1) := by decide +kernel
theorem dX0_perform_252 : decode cX0_perform 252 = .ok (.aload_n 0, 1) := by decide +kernel
theorem dX0_perform_253 : decode cX0_perform 253 = .ok (.aload_n 1, 1) := by decide +kernel
theorem dX0_perform_254 : decode cX0_perform 254 = .ok (.iconst 2, 1) := by decide +kernel
theorem dX0_perform_255 : decode cX0_perform 255 = .ok (.getstatic 15, 3) := by decide +kernel
theorem dX0_perform_258 : decode cX0_perform 258 = .ok (.iconst 3, 1) := by decide +kernel
theorem dX0_perform_259 : decode cX0_perform 259 = .ok (.iaload, 1) := by decide +kernel
theorem dX0_perform_260 : decode cX0_perform 260 = .ok (.iload 4, 2) := by decide +kernel
theorem dX0_perform_262 : decode cX0_perform 262 = .ok (.iload 8, 2) := by decide +kernel
theorem dX0_perform_264 : decode cX0_perform 264 = .ok (.invokevirtual 37, 3) := by decide +kernel
theorem dX0_perform_267 : decode cX0_perform 267 = .ok (.bipush 7, 2) := by decide +kernel
theorem dX0_perform_269 : decode cX0_perform 269 = .ok (.ixor, 1) := by decide +kernel
theorem dX0_perform_270 : decode cX0_perform 270 = .ok (.ireturn, 1) := by decide +kernel
theorem dX0_perform_271 : decode cX0_perform 271 = .ok (.aload_n 0, 1) := by decide +kernel
theorem dX0_perform_272 : decode cX0_perform 272 = .ok (.aload_n 1, 1) := by decide +kernel
theorem dX0_perform_273 : decode cX0_perform 273 = .ok (.iconst 2, 1) := by decide +kernel
theorem dX0_perform_274 : decode cX0_perform 274 = .ok (.getstatic 15, 3) := by decide +kernel
theorem dX0_perform_277 : decode cX0_perform 277 = .ok (.iconst 4, 1) := by decide +kernel
theorem dX0_perform_278 : decode cX0_perform 278 = .ok (.iaload, 1) := by decide +kernel
theorem dX0_perform_279 : decode cX0_perform 279 = .ok (.iload 4, 2) := by decide +kernel
theorem dX0_perform_281 : decode cX0_perform 281 = .ok (.iconst 1, 1) := by decide +kernel
theorem dX0_perform_282 : decode cX0_perform 282 = .ok (.isub, 1) := by decide +kernel
theorem dX0_perform_283 : decode cX0_perform 283 = .ok (.iload 8, 2) := by decide +kernel
theorem dX0_perform_285 : decode cX0_perform 285 = .ok (.invokevirtual 37, 3) := by decide +kernel
theorem dX0_perform_288 : decode cX0_perform 288 = .ok (.aload_n 0, 1) := by decide +kernel
theorem dX0_perform_289 : decode cX0_perform 289 = .ok (.aload_n 1, 1) := by decide +kernel
theorem dX0_perform_290 : decode cX0_perform 290 = .ok (.iconst 0, 1) := by decide +kernel
theorem dX0_perform_291 : decode cX0_perform 291 = .ok (.aload_n 1, 1) := by decide +kernel
theorem dX0_perform_292 : decode cX0_perform 292 = .ok (.getfield 34, 3) := by decide +kernel
theorem dX0_perform_295 : decode cX0_perform 295 = .ok (.iconst 2, 1) := by decide +kernel
theorem dX0_perform_296 : decode cX0_perform 296 = .ok (.iload 8, 2) := by decide +kernel
theorem dX0_perform_298 : decode cX0_perform 298 = .ok (.invokevirtual 37, 3) := by decide +kernel
theorem dX0_perform_301 : decode cX0_perform 301 = .ok (.iadd, 1) := by decide +kernel
theorem dX0_perform_302 : decode cX0_perform 302 = .ok (.ireturn, 1) := by decide +kernel
theorem dX0_perform_303 : decode cX0_perform 303 = .ok (.aload_n 0, 1) := by decide +kernel
theorem dX0_perform_304 : decode cX0_perform 304 = .ok (.aload_n 1, 1) := by decide +kernel
theorem dX0_perform_305 : decode cX0_perform 305 = .ok (.iconst 0, 1) := by decide +kernel
theorem dX0_perform_306 : decode cX0_perform 306 = .ok (.getstatic 15, 3) := by decide +kernel
theorem dX0_perform_309 : decode cX0_perform 309 = .ok (.iconst 5, 1) := by decide +kernel
theorem dX0_perform_310 : decode cX0_perform 310 = .ok (.iaload, 1) := by decide +kernel
theorem dX0_perform_311 : decode cX0_perform 311 = .ok (.iload 4, 2) := by decide +kernel
theorem dX0_perform_313 : decode cX0_perform 313 = .ok (.iload 8, 2) := by decide +kernel
theorem dX0_perform_315 : decode cX0_perform 315 = .ok (.invokevirtual 37, 3) := by decide +kernel
theorem dX0_perform_318 : decode cX0_perform 318 = .ok (.iload 9, 2) := by decide +kernel
theorem dX0_perform_320 : decode cX0_perform 320 = .ok (.ixor, 1) := by decide +kernel
theorem dX0_perform_321 : decode cX0_perform 321 = .ok (.ireturn, 1) := by decide +kernel
theorem dX0_perform_322 : decode cX0_perform 322 = .ok (.aload_n 0, 1) := by decide +kernel
theorem dX0_perform_323 : decode cX0_perform 323 = .ok (.aload_n 1, 1) := by decide +kernel
theorem dX0_perform_324 : decode cX0_perform 324 = .ok (.iconst 1, 1) := by decide +kernel
theorem dX0_perform_325 : decode cX0_perform 325 = .ok (.getstatic 15, 3) := by decide +kernel
theorem dX0_perform_328 : decode cX0_perform 328 = .ok (.bipush 6, 2) := by decide +kernel
theorem dX0_perform_330 : decode cX0_perform 330 = .ok (.iaload, 1) := by decide +kernel
theorem dX0_perform_331 : decode cX0_perform 331 = .ok (.iload 4, 2) := by decide +kernel
theorem dX0_perform_333 : decode cX0_perform 333 = .ok (.iload 8, 2) := by decide +kernel
theorem dX0_perform_335 : decode cX0_perform 335 = .ok (.invokevirtual 37, 3) := by decide +kernel
theorem dX0_perform_338 : decode cX0_perform 338 = .ok (.iload 10, 2) := by decide +kernel
theorem dX0_perform_340 : decode cX0_perform 340 = .ok (.iadd, 1) := by decide +kernel
theorem dX0_perform_341 : decode cX0_perform 341 = .ok (.ireturn, 1) := by decide +kernel
theorem dX0_perform_342 : decode cX0_perform 342 = .ok (.iconst 0, 1) := by decide +kernel
theorem dX0_perform_343 : decode cX0_perform 343 = .ok (.ireturn, 1) := by decide +kernel
theorem dX0_begin_0 : decode cX0_begin 0 = .ok (.aload_n 0, 1) := by decide +kernel
theorem dX0_begin_1 : decode cX0_begin 1 = .ok (.getfield 41, 3) := by decide +kernel
theorem dX0_begin_4 : decode cX0_begin 4 = .ok (.aload_n 0, 1) := by decide +kernel
theorem dX0_begin_5 : decode cX0_begin 5 = .ok (.getfield 9, 3) := by decide +kernel
theorem dX0_begin_8 : decode cX0_begin 8 = .ok (.arraylength, 1) := by decide +kernel
theorem dX0_begin_9 : decode cX0_begin 9 = .ok (.if_icmp .ge 13, 3) := by decide +kernel
theorem dX0_begin_12 : decode cX0_begin 12 = .ok (.aload_n 0, 1) := by decide +kernel
theorem dX0_begin_13 : decode cX0_begin 13 = .ok (.getfield 9, 3) := by decide +kernel
theorem dX0_begin_16 : decode cX0_begin 16 = .ok (.aload_n 0, 1) := by decide +kernel
theorem dX0_begin_17 : decode cX0_begin 17 = .ok (.getfield 41, 3) := by decide +kernel
theorem dX0_begin_20 : decode cX0_begin 20 = .ok (.iload_n 1, 1) := by decide +kernel
theorem dX0_begin_21 : decode cX0_begin 21 = .ok (.iastore, 1) := by decide +kernel
theorem dX0_begin_22 : decode cX0_begin 22 = .ok (.aload_n 0, 1) := by decide +kernel
theorem dX0_begin_23 : decode cX0_begin 23 = .ok (.dup, 1) := by decide +kernel
theorem dX0_begin_24 : decode cX0_begin 24 = .ok (.getfield 41, 3) := by decide +kernel
theorem dX0_begin_27 : decode cX0_begin 27 = .ok (.iconst 1, 1) := by decide +kernel
theorem dX0_begin_28 : decode cX0_begin 28 = .ok (.iadd, 1) := by decide +kernel
theorem dX0_begin_29 : decode cX0_begin 29 = .ok (.putfield 41, 3) := by decide +kernel
theorem dX0_begin_32 : decode cX0_begin 32 = .ok (.return_, 1) := by decide +kernel
theorem dX1_init_0 : decode cX1_init 0 = .ok (.aload_n 0, 1) := by decide +kernel
theorem dX1_init_1 : decode cX1_init 1 = .ok (.invokespecial 3, 3) := by decide +kernel
theorem dX1_init_4 : decode cX1_init 4 = .ok (.aload_n 0, 1) := by decide +kernel
theorem dX1_init_5 : decode cX1_init 5 = .ok (.iconst (-1), 1) := by decide +kernel
theorem dX1_init_6 : decode cX1_init 6 = .ok (.putfield 9, 3) := by decide +kernel
theorem dX1_init_9 : decode cX1_init 9 = .ok (.aload_n 0, 1) := by decide +kernel
theorem dX1_init_10 : decode cX1_init 10 = .ok (.iconst 4, 1) := by decide +kernel
theorem dX1_init_11 : decode cX1_init 11 = .ok (.newarray .int, 2) := by decide +kernel
theorem dX1_init_13 : decode cX1_init 13 = .ok (.putfield 15, 3) := by decide +kernel
theorem dX1_init_16 : decode cX1_init 16 = .ok (.aload_n 0, 1) := by decide +kernel
theorem dX1_init_17 : decode cX1_init 17 = .ok (.iload_n 1, 1) := by decide +kernel
theorem dX1_init_18 : decode cX1_init 18 = .ok (.putfield 19, 3) := by decide +kernel
theorem dX1_init_21 : decode cX1_init 21 = .ok (.return_, 1) := by decide +kernel
theorem dX1_comeToLife_0 : decode cX1_comeToLife 0 = .ok (.aload_n 0, 1) := by decide +kernel
theorem dX1_comeToLife_1 : decode cX1_comeToLife 1 = .ok (.iload_n 1, 1) := by decide +kernel
theorem dX1_comeToLife_2 : decode cX1_comeToLife 2 = .ok (.putfield 22, 3) := by decide +kernel
theorem dX1_comeToLife_5 : decode cX1_comeToLife 5 = .ok (.aload_n 0, 1) := by decide +kernel
theorem dX1_comeToLife_6 : decode cX1_comeToLife 6 = .ok (.iload_n 2, 1) := by decide +kernel
theorem dX1_comeToLife_7 : decode cX1_comeToLife 7 = .ok (.putfield 25, 3) := by decide +kernel
theorem dX1_comeToLife_10 : decode cX1_comeToLife 10 = .ok (.aload_n 0, 1) := by decide +kernel
theorem dX1_comeToLife_11 : decode cX1_comeToLife 11 = .ok (.iload_n 3, 1) := by decide +kernel
theorem dX1_comeToLife_12 : decode cX1_comeToLife 12 = .ok (.putfield 28, 3) := by decide +kernel
theorem dX1_comeToLife_15 : decode cX1_comeToLife 15 = .ok (.aload_n 0, 1) := by decide +kernel
theorem dX1_comeToLife_16 : decode cX1_comeToLife 16 = .ok (.iload 4, 2) := by decide +kernel
theorem dX1_comeToLife_18 : decode cX1_comeToLife 18 = .ok (.putfield 31, 3) := by decide +kernel
theorem dX1_comeToLife_21 : decode cX1_comeToLife 21 = .ok (.aload_n 0, 1) := by decide +kernel
theorem dX1_comeToLife_22 : decode cX1_comeToLife 22 = .ok (.iconst (-1), 1) := by decide +kernel
theorem dX1_comeToLife_23 : decode cX1_comeToLife 23 = .ok (.putfield 9, 3) := by decide +kernel
theorem dX1_comeToLife_26 : decode cX1_comeToLife 26 = .ok (.iconst 0, 1) := by decide +kernel
theorem dX1_comeToLife_27 : decode cX1_comeToLife 27 = .ok (.istore 5, 2) := by decide +kernel
theorem dX1_comeToLife_29 : decode cX1_comeToLife 29 = .ok (.iload 5, 2) := by decide +kernel
theorem dX1_comeToLife_31 : decode cX1_comeToLife 31 = .ok (.aload_n 0, 1) := by decide +kernel
theorem dX1_comeToLife_32 : decode cX1_comeToLife 32 = .ok (.getfield 15, 3) := by decide +kernel
theorem dX1_comeToLife_35 : decode cX1_comeToLife 35 = .ok (.arraylength, 1) := by decide +kernel
theorem dX1_comeToLife_36 : decode cX1_comeToLife 36 = .ok (.if_icmp .ge 17, 3) := by decide +kernel
theorem dX1_comeToLife_39 : decode cX1_comeToLife 39 = .ok (.aload_n 0, 1) := by decide +kernel
theorem dX1_comeToLife_40 : decode cX1_comeToLife 40 = .ok (.getfield 15, 3) := by decide +kernel
theorem dX1_comeToLife_43 : decode cX1_comeToLife 43 = .ok (.iload 5, 2) := by decide +kernel
theorem dX1_comeToLife_45 : decode cX1_comeToLife 45 = .ok (.iconst 0, 1) := by decide +kernel
theorem dX1_comeToLife_46 : decode cX1_comeToLife 46 = .ok (.iastore, 1) := by decide +kernel
theorem dX1_comeToLife_47 : decode cX1_comeToLife 47 = .ok (.iinc 5 1, 3) := by decide +kernel
theorem dX1_comeToLife_50 : decode cX1_comeToLife 50 = .ok (.goto (-21), 3) := by decide +kernel
theorem dX1_comeToLife_53 : decode cX1_comeToLife 53 = .ok (.return_, 1) := by decide +kernel
theorem dX1_become_0 : decode cX1_become 0 = .ok (.aload_n 0, 1) := by decide +kernel
theorem dX1_become_1 : decode cX1_become 1 = .ok (.aload_n 1, 1) := by decide +kernel
theorem dX1_become_2 : decode cX1_become 2 = .ok (.getfield 22, 3) := by decide +kernel
theorem dX1_become_5 : decode cX1_become 5 = .ok (.aload_n 1, 1) := by decide +kernel
theorem dX1_become_6 : decode cX1_become 6 = .ok (.getfield 25, 3) := by decide +kernel
theorem dX1_become_9 : decode cX1_become 9 = .ok (.aload_n 1, 1) := by decide +kernel
theorem dX1_become_10 : decode cX1_become 10 = .ok (.getfield 28, 3) := by decide +kernel
theorem dX1_become_13 : decode cX1_become 13 = .ok (.aload_n 1, 1) := by decide +kernel
theorem dX1_become_14 : decode cX1_become 14 = .ok (.getfield 31, 3) := by decide +kernel
theorem dX1_become_17 : decode cX1_become 17 = .ok (.invokevirtual 34, 3) := by decide +kernel
theorem dX1_become_20 : decode cX1_become 20 = .ok (.aload_n 0, 1) := by decide +kernel
theorem dX1_become_21 : decode cX1_become 21 = .ok (.aload_n 1, 1) := by decide +kernel
theorem dX1_become_22 : decode cX1_become 22 = .ok (.getfield 9, 3) := by decide +kernel
theorem dX1_become_25 : decode cX1_become 25 = .ok (.putfield 9, 3) := by decide +kernel
theorem dX1_become_28 : decode cX1_become 28 = .ok (.aload_n 1, 1) := by decide +kernel
theorem dX1_become_29 : decode cX1_become 29 = .ok (.getfield 15, 3) := by decide +kernel
theorem dX1_become_32 : decode cX1_become 32 = .ok (.iconst 0, 1) := by decide +kernel
theorem dX1_become_33 : decode cX1_become 33 = .ok (.aload_n 0, 1) := by decide +kernel
theorem dX1_become_34 : decode cX1_become 34 = .ok (.getfield 15, 3) := by decide +kernel
theorem dX1_become_37 : decode cX1_become 37 = .ok (.iconst 0, 1) := by decide +kernel
theorem dX1_become_38 : decode cX1_become 38 = .ok (.aload_n 0, 1) := by decide +kernel
theorem dX1_become_39 : decode cX1_become 39 = .ok (.getfield 15, 3) := by decide +kernel
theorem dX1_become_42 : decode cX1_become 42 = .ok (.arraylength, 1) := by decide +kernel
theorem dX1_become_43 : decode cX1_become 43 = .ok (.invokestatic 38, 3) := by decide +kernel
theorem dX1_become_46 : decode cX1_become 46 = .ok (.return_, 1) := by decide +kernel
theorem dX1_isHereAt_0 : decode cX1_isHereAt 0 = .ok (.iload_n 1, 1) := by decide +kernel
theorem dX1_isHereAt_1 : decode cX1_isHereAt 1 = .ok (.ifCond .lt 15, 3) := by decide +kernel
theorem dX1_isHereAt_4 : decode cX1_isHereAt 4 = .ok (.iload_n 1, 1) := by decide +kernel
theorem dX1_isHereAt_5 : decode cX1_isHereAt 5 = .ok (.aload_n 0, 1) := by decide +kernel
theorem dX1_isHereAt_6 : decode cX1_isHereAt 6 = .ok (.getfield 31, 3) := by decide +kernel
theorem dX1_isHereAt_9 : decode cX1_isHereAt 9 = .ok (.if_icmp .gt 7, 3) := by decide +kernel
theorem dX1_isHereAt_12 : decode cX1_isHereAt 12 = .ok (.iconst 1, 1) := by decide +kernel
theorem dX1_isHereAt_13 : decode cX1_isHereAt 13 = .ok (.goto 4, 3) := by decide +kernel
theorem dX1_isHereAt_16 : decode cX1_isHereAt 16 = .ok (.iconst 0, 1) := by decide +kernel
theorem dX1_isHereAt_17 : decode cX1_isHereAt 17 = .ok (.ireturn, 1) := by decide +kernel
theorem dX1_ageIn_0 : decode cX1_ageIn 0 = .ok (.aload_n 0, 1) := by decide +kernel
theorem dX1_ageIn_1 : decode cX1_ageIn 1 = .ok (.iload_n 1, 1) := by decide +kernel
theorem dX1_ageIn_2 : decode cX1_ageIn 2 = .ok (.iload_n 2, 1) := by decide +kernel
theorem dX1_ageIn_3 : decode cX1_ageIn 3 = .ok (.aload_n 0, 1) := by decide +kernel
theorem dX1_ageIn_4 : decode cX1_ageIn 4 = .ok (.getfield 28, 3) := by decide +kernel
theorem dX1_ageIn_7 : decode cX1_ageIn 7 = .ok (.aload_n 0, 1) := by decide +kernel
theorem dX1_ageIn_8 : decode cX1_ageIn 8 = .ok (.getfield 25, 3) := by decide +kernel
theorem dX1_ageIn_11 : decode cX1_ageIn 11 = .ok (.invokevirtual 44, 3) := by decide +kernel
theorem dX1_ageIn_14 : decode cX1_ageIn 14 = .ok (.ireturn, 1) := by decide +kernel
theorem dX1_ageHad_0 : decode cX1_ageHad 0 = .ok (.iload_n 1, 1) := by decide +kernel
theorem dX1_ageHad_1 : decode cX1_ageHad 1 = .ok (.iload_n 3, 1) := by decide +kernel
theorem dX1_ageHad_2 : decode cX1_ageHad 2 = .ok (.isub, 1) := by decide +kernel
theorem dX1_ageHad_3 : decode cX1_ageHad 3 = .ok (.istore 5, 2) := by decide +kernel
theorem dX1_ageHad_5 : decode cX1_ageHad 5 = .ok (.iload_n 2, 1) := by decide +kernel
theorem dX1_ageHad_6 : decode cX1_ageHad 6 = .ok (.ifCond .ge 6, 3) := by decide +kernel
theorem dX1_ageHad_9 : decode cX1_ageHad 9 = .ok (.iload 5, 2) := by decide +kernel
theorem dX1_ageHad_11 : decode cX1_ageHad 11 = .ok (.ireturn, 1) := by decide +kernel
theorem dX1_ageHad_12 : decode cX1_ageHad 12 = .ok (.aload_n 0, 1) := by decide +kernel
theorem dX1_ageHad_13 : decode cX1_ageHad 13 = .ok (.getfield 22, 3) := by decide +kernel
theorem dX1_ageHad_16 : decode cX1_ageHad 16 = .ok (.tableswitch 95 1 6 #[40, 47, 56, 59, 69, 83], 40) := by decide +kernel
theorem dX1_ageHad_56 : decode cX1_ageHad 56 = .ok (.iload_n 2, 1) := by decide +kernel
theorem dX1_ageHad_57 : decode cX1_ageHad 57 = .ok (.iload_n 3, 1) := by decide +kernel
theorem dX1_ageHad_58 : decode cX1_ageHad 58 = .ok (.isub, 1) := by decide +kernel
theorem dX1_ageHad_59 : decode cX1_ageHad 59 = .ok (.iload 4, 2) := by decide +kernel
theorem dX1_ageHad_61 : decode cX1_ageHad 61 = .ok (.isub, 1) := by decide +kernel
theorem dX1_ageHad_62 : decode cX1_ageHad 62 = .ok (.ireturn, 1) := by decide +kernel
theorem dX1_ageHad_63 : decode cX1_ageHad 63 = .ok (.iload 5, 2) := by decide +kernel
theorem dX1_ageHad_65 : decode cX1_ageHad 65 = .ok (.iload_n 2, 1) := by decide +kernel
theorem dX1_ageHad_66 : decode cX1_ageHad 66 = .ok (.iload_n 1, 1) := by decide +kernel
theorem dX1_ageHad_67 : decode cX1_ageHad 67 = .ok (.isub, 1) := by decide +kernel
theorem dX1_ageHad_68 : decode cX1_ageHad 68 = .ok (.iconst 2, 1) := by decide +kernel
theorem dX1_ageHad_69 : decode cX1_ageHad 69 = .ok (.idiv, 1) := by decide +kernel
theorem dX1_ageHad_70 : decode cX1_ageHad 70 = .ok (.iadd, 1) := by decide +kernel
theorem dX1_ageHad_71 : decode cX1_ageHad 71 = .ok (.ireturn, 1) := by decide +kernel
theorem dX1_ageHad_72 : decode cX1_ageHad 72 = .ok (.iload 5, 2) := by decide +kernel
theorem dX1_ageHad_74 : decode cX1_ageHad 74 = .ok (.ireturn, 1) := by decide +kernel
theorem dX1_ageHad_75 : decode cX1_ageHad 75 = .ok (.iload_n 2, 1) := by decide +kernel
theorem dX1_ageHad_76 : decode cX1_ageHad 76 = .ok (.iload_n 3, 1) := by decide +kernel
theorem dX1_ageHad_77 : decode cX1_ageHad 77 = .ok (.isub, 1) := by decide +kernel
theorem dX1_ageHad_78 : decode cX1_ageHad 78 = .ok (.iload 4, 2) := by decide +kernel
theorem dX1_ageHad_80 : decode cX1_ageHad 80 = .ok (.isub, 1) := by decide +kernel
theorem dX1_ageHad_81 : decode cX1_ageHad 81 = .ok (.iload 4, 2) := by decide +kernel
theorem dX1_ageHad_83 : decode cX1_ageHad 83 = .ok (.isub, 1) := by decide +kernel
theorem dX1_ageHad_84 : decode cX1_ageHad 84 = .ok (.ireturn, 1) := by decide +kernel
theorem dX1_ageHad_85 : decode cX1_ageHad 85 = .ok (.iload 5, 2) := by decide +kernel
theorem dX1_ageHad_87 : decode cX1_ageHad 87 = .ok (.iload 5, 2) := by decide +kernel
theorem dX1_ageHad_89 : decode cX1_ageHad 89 = .ok (.iload_n 2, 1) := by decide +kernel
theorem dX1_ageHad_90 : decode cX1_ageHad 90 = .ok (.iload_n 1, 1) := by decide +kernel
theorem dX1_ageHad_91 : decode cX1_ageHad 91 = .ok (.isub, 1) := by decide +kernel
theorem dX1_ageHad_92 : decode cX1_ageHad 92 = .ok (.iconst 2, 1) := by decide +kernel
theorem dX1_ageHad_93 : decode cX1_ageHad 93 = .ok (.idiv, 1) := by decide +kernel
theorem dX1_ageHad_94 : decode cX1_ageHad 94 = .ok (.iadd, 1) := by decide +kernel
theorem dX1_ageHad_95 : decode cX1_ageHad 95 = .ok (.invokestatic 48, 3) := by decide +kernel
theorem dX1_ageHad_98 : decode cX1_ageHad 98 = .ok (.ireturn, 1) := by decide +kernel
theorem dX1_ageHad_99 : decode cX1_ageHad 99 = .ok (.iload 5, 2) := by decide +kernel
theorem dX1_ageHad_101 : decode cX1_ageHad 101 = .ok (.aload_n 0, 1) := by decide +kernel
theorem dX1_ageHad_102 : decode cX1_ageHad 102 = .ok (.getfield 15, 3) := by decide +kernel
theorem dX1_ageHad_105 : decode cX1_ageHad 105 = .ok (.iload_n 2, 1) := by decide +kernel
theorem dX1_ageHad_106 : decode cX1_ageHad 106 = .ok (.iconst 3, 1) := by decide +kernel
theorem dX1_ageHad_107 : decode cX1_ageHad 107 = .ok (.iand, 1) := by decide +kernel
theorem dX1_ageHad_108 : decode cX1_ageHad 108 = .ok (.iaload, 1) := by decide +kernel
theorem dX1_ageHad_109 : decode cX1_ageHad 109 = .ok (.isub, 1) := by decide +kernel
theorem dX1_ageHad_110 : decode cX1_ageHad 110 = .ok (.ireturn, 1) := by decide +kernel
theorem dX1_ageHad_111 : decode cX1_ageHad 111 = .ok (.iload_n 2, 1) := by decide +kernel
theorem dX1_ageHad_112 : decode cX1_ageHad 112 = .ok (.iload_n 3, 1) := by decide +kernel
theorem dX1_ageHad_113 : decode cX1_ageHad 113 = .ok (.isub, 1) := by decide +kernel
theorem dX1_ageHad_114 : decode cX1_ageHad 114 = .ok (.ireturn, 1) := by decide +kernel
theorem dX2_init_0 : decode cX2_init 0 = .ok (.aload_n 0, 1) := by decide +kernel
theorem dX2_init_1 : decode cX2_init 1 = .ok (.invokespecial 3, 3) := by decide +kernel
theorem dX2_init_4 : decode cX2_init 4 = .ok (.aload_n 0, 1) := by decide +kernel
theorem dX2_init_5 : decode cX2_init 5 = .ok (.aload_n 1, 1) := by decide +kernel
theorem dX2_init_6 : decode cX2_init 6 = .ok (.putfield 9, 3) := by decide +kernel
theorem dX2_init_9 : decode cX2_init 9 = .ok (.aload_n 0, 1) := by decide +kernel
theorem dX2_init_10 : decode cX2_init 10 = .ok (.iload_n 2, 1) := by decide +kernel
theorem dX2_init_11 : decode cX2_init 11 = .ok (.putfield 15, 3) := by decide +kernel
theorem dX2_init_14 : decode cX2_init 14 = .ok (.aload_n 0, 1) := by decide +kernel
theorem dX2_init_15 : decode cX2_init 15 = .ok (.aload_n 3, 1) := by decide +kernel
theorem dX2_init_16 : decode cX2_init 16 = .ok (.putfield 19, 3) := by decide +kernel
theorem dX2_init_19 : decode cX2_init 19 = .ok (.return_, 1) := by decide +kernel
theorem dX2_readVillage_0 : decode cX2_readVillage 0 = .ok (.aload_n 0, 1) := by decide +kernel
theorem dX2_readVillage_1 : decode cX2_readVillage 1 = .ok (.getfield 19, 3) := by decide +kernel
theorem dX2_readVillage_4 : decode cX2_readVillage 4 = .ok (.invokevirtual 23, 3) := by decide +kernel
theorem dX2_readVillage_7 : decode cX2_readVillage 7 = .ok (.iconst 1, 1) := by decide +kernel
theorem dX2_readVillage_8 : decode cX2_readVillage 8 = .ok (.istore_n 1, 1) := by decide +kernel
theorem dX2_readVillage_9 : decode cX2_readVillage 9 = .ok (.iload_n 1, 1) := by decide +kernel
theorem dX2_readVillage_10 : decode cX2_readVillage 10 = .ok (.bipush 10, 2) := by decide +kernel
theorem dX2_readVillage_12 : decode cX2_readVillage 12 = .ok (.if_icmp .gt 48, 3) := by decide +kernel
theorem dX2_readVillage_15 : decode cX2_readVillage 15 = .ok (.aload_n 0, 1) := by decide +kernel
theorem dX2_readVillage_16 : decode cX2_readVillage 16 = .ok (.invokevirtual 28, 3) := by decide +kernel
theorem dX2_readVillage_19 : decode cX2_readVillage 19 = .ok (.ifCond .ne 5, 3) := by decide +kernel
theorem dX2_readVillage_22 : decode cX2_readVillage 22 = .ok (.iconst 0, 1) := by decide +kernel
theorem dX2_readVillage_23 : decode cX2_readVillage 23 = .ok (.ireturn, 1) := by decide +kernel
theorem dX2_readVillage_24 : decode cX2_readVillage 24 = .ok (.aload_n 0, 1) := by decide +kernel
theorem dX2_readVillage_25 : decode cX2_readVillage 25 = .ok (.getfield 32, 3) := by decide +kernel
theorem dX2_readVillage_28 : decode cX2_readVillage 28 = .ok (.aload_n 0, 1) := by decide +kernel
theorem dX2_readVillage_29 : decode cX2_readVillage 29 = .ok (.getfield 15, 3) := by decide +kernel
theorem dX2_readVillage_32 : decode cX2_readVillage 32 = .ok (.if_icmp .ne 5, 3) := by decide +kernel
theorem dX2_readVillage_35 : decode cX2_readVillage 35 = .ok (.iconst 1, 1) := by decide +kernel
theorem dX2_readVillage_36 : decode cX2_readVillage 36 = .ok (.ireturn, 1) := by decide +kernel
theorem dX2_readVillage_37 : decode cX2_readVillage 37 = .ok (.iload_n 1, 1) := by decide +kernel
theorem dX2_readVillage_38 : decode cX2_readVillage 38 = .ok (.bipush 10, 2) := by decide +kernel
theorem dX2_readVillage_40 : decode cX2_readVillage 40 = .ok (.if_icmp .eq 12, 3) := by decide +kernel
theorem dX2_readVillage_43 : decode cX2_readVillage 43 = .ok (.aload_n 0, 1) := by decide +kernel
theorem dX2_readVillage_44 : decode cX2_readVillage 44 = .ok (.bipush 59, 2) := by decide +kernel
theorem dX2_readVillage_46 : decode cX2_readVillage 46 = .ok (.invokevirtual 35, 3) := by decide +kernel
theorem dX2_readVillage_49 : decode cX2_readVillage 49 = .ok (.ifCond .ne 5, 3) := by decide +kernel
theorem dX2_readVillage_52 : decode cX2_readVillage 52 = .ok (.iconst 0, 1) := by decide +kernel
theorem dX2_readVillage_53 : decode cX2_readVillage 53 = .ok (.ireturn, 1) := by decide +kernel
theorem dX2_readVillage_54 : decode cX2_readVillage 54 = .ok (.iinc 1 1, 3) := by decide +kernel
theorem dX2_readVillage_57 : decode cX2_readVillage 57 = .ok (.goto (-48), 3) := by decide +kernel
theorem dX2_readVillage_60 : decode cX2_readVillage 60 = .ok (.iconst 0, 1) := by decide +kernel
theorem dX2_readVillage_61 : decode cX2_readVillage 61 = .ok (.ireturn, 1) := by decide +kernel
theorem dX2_readClause_0 : decode cX2_readClause 0 = .ok (.aload_n 0, 1) := by decide +kernel
theorem dX2_readClause_1 : decode cX2_readClause 1 = .ok (.bipush 103, 2) := by decide +kernel
theorem dX2_readClause_3 : decode cX2_readClause 3 = .ok (.invokevirtual 35, 3) := by decide +kernel
theorem dX2_readClause_6 : decode cX2_readClause 6 = .ok (.ifCond .eq 44, 3) := by decide +kernel
theorem dX2_readClause_9 : decode cX2_readClause 9 = .ok (.aload_n 0, 1) := by decide +kernel
theorem dX2_readClause_10 : decode cX2_readClause 10 = .ok (.getfield 19, 3) := by decide +kernel
theorem dX2_readClause_13 : decode cX2_readClause 13 = .ok (.aload_n 0, 1) := by decide +kernel
theorem dX2_readClause_14 : decode cX2_readClause 14 = .ok (.ldc 39, 2) := by decide +kernel
theorem dX2_readClause_16 : decode cX2_readClause 16 = .ok (.invokevirtual 41, 3) := by decide +kernel
theorem dX2_readClause_19 : decode cX2_readClause 19 = .ok (.ifCond .eq 10, 3) := by decide +kernel
theorem dX2_readClause_22 : decode cX2_readClause 22 = .ok (.aload_n 0, 1) := by decide +kernel
theorem dX2_readClause_23 : decode cX2_readClause 23 = .ok (.invokevirtual 45, 3) := by decide +kernel
theorem dX2_readClause_26 : decode cX2_readClause 26 = .ok (.goto 4, 3) := by decide +kernel
theorem dX2_readClause_29 : decode cX2_readClause 29 = .ok (.iconst (-1), 1) := by decide +kernel
theorem dX2_readClause_30 : decode cX2_readClause 30 = .ok (.putfield 49, 3) := by decide +kernel
theorem dX2_readClause_33 : decode cX2_readClause 33 = .ok (.aload_n 0, 1) := by decide +kernel
theorem dX2_readClause_34 : decode cX2_readClause 34 = .ok (.getfield 19, 3) := by decide +kernel
theorem dX2_readClause_37 : decode cX2_readClause 37 = .ok (.getfield 49, 3) := by decide +kernel
theorem dX2_readClause_40 : decode cX2_readClause 40 = .ok (.iconst (-1), 1) := by decide +kernel
theorem dX2_readClause_41 : decode cX2_readClause 41 = .ok (.if_icmp .eq 7, 3) := by decide +kernel
theorem dX2_readClause_44 : decode cX2_readClause 44 = .ok (.iconst 1, 1) := by decide +kernel
theorem dX2_readClause_45 : decode cX2_readClause 45 = .ok (.goto 4, 3) := by decide +kernel
theorem dX2_readClause_48 : decode cX2_readClause 48 = .ok (.iconst 0, 1) := by decide +kernel
theorem dX2_readClause_49 : decode cX2_readClause 49 = .ok (.ireturn, 1) := by decide +kernel
theorem dX2_readClause_50 : decode cX2_readClause 50 = .ok (.aload_n 0, 1) := by decide +kernel
theorem dX2_readClause_51 : decode cX2_readClause 51 = .ok (.bipush 111, 2) := by decide +kernel
theorem dX2_readClause_53 : decode cX2_readClause 53 = .ok (.invokevirtual 35, 3) := by decide +kernel
theorem dX2_readClause_56 : decode cX2_readClause 56 = .ok (.ifCond .eq 44, 3) := by decide +kernel
theorem dX2_readClause_59 : decode cX2_readClause 59 = .ok (.aload_n 0, 1) := by decide +kernel
theorem dX2_readClause_60 : decode cX2_readClause 60 = .ok (.getfield 19, 3) := by decide +kernel
theorem dX2_readClause_63 : decode cX2_readClause 63 = .ok (.aload_n 0, 1) := by decide +kernel
theorem dX2_readClause_64 : decode cX2_readClause 64 = .ok (.ldc 52, 2) := by decide +kernel
theorem dX2_readClause_66 : decode cX2_readClause 66 = .ok (.invokevirtual 41, 3) := by decide +kernel
theorem dX2_readClause_69 : decode cX2_readClause 69 = .ok (.ifCond .eq 10, 3) := by decide +kernel
theorem dX2_readClause_72 : decode cX2_readClause 72 = .ok (.aload_n 0, 1) := by decide +kernel
theorem dX2_readClause_73 : decode cX2_readClause 73 = .ok (.invokevirtual 45, 3) := by decide +kernel
theorem dX2_readClause_76 : decode cX2_readClause 76 = .ok (.goto 4, 3) := by decide +kernel
theorem dX2_readClause_79 : decode cX2_readClause 79 = .ok (.iconst (-1), 1) := by decide +kernel
theorem dX2_readClause_80 : decode cX2_readClause 80 = .ok (.putfield 54, 3) := by decide +kernel
theorem dX2_readClause_83 : decode cX2_readClause 83 = .ok (.aload_n 0, 1) := by decide +kernel
theorem dX2_readClause_84 : decode cX2_readClause 84 = .ok (.getfield 19, 3) := by decide +kernel
theorem dX2_readClause_87 : decode cX2_readClause 87 = .ok (.getfield 54, 3) := by decide +kernel
theorem dX2_readClause_90 : decode cX2_readClause 90 = .ok (.iconst (-1), 1) := by decide +kernel
theorem dX2_readClause_91 : decode cX2_readClause 91 = .ok (.if_icmp .eq 7, 3) := by decide +kernel
theorem dX2_readClause_94 : decode cX2_readClause 94 = .ok (.iconst 1, 1) := by decide +kernel
theorem dX2_readClause_95 : decode cX2_readClause 95 = .ok (.goto 4, 3) := by decide +kernel
theorem dX2_readClause_98 : decode cX2_readClause 98 = .ok (.iconst 0, 1) := by decide +kernel
theorem dX2_readClause_99 : decode cX2_readClause 99 = .ok (.ireturn, 1) := by decide +kernel
theorem dX2_readClause_100 : decode cX2_readClause 100 = .ok (.aload_n 0, 1) := by decide +kernel
theorem dX2_readClause_101 : decode cX2_readClause 101 = .ok (.bipush 98, 2) := by decide +kernel
theorem dX2_readClause_103 : decode cX2_readClause 103 = .ok (.invokevirtual 35, 3) := by decide +kernel
theorem dX2_readClause_106 : decode cX2_readClause 106 = .ok (.ifCond .eq 7, 3) := by decide +kernel
theorem dX2_readClause_109 : decode cX2_readClause 109 = .ok (.iconst 1, 1) := by decide +kernel
theorem dX2_readClause_110 : decode cX2_readClause 110 = .ok (.goto 4, 3) := by decide +kernel
theorem dX2_readClause_113 : decode cX2_readClause 113 = .ok (.iconst (-1), 1) := by decide +kernel
theorem dX2_readClause_114 : decode cX2_readClause 114 = .ok (.istore_n 1, 1) := by decide +kernel
theorem dX2_readClause_115 : decode cX2_readClause 115 = .ok (.aload_n 0, 1) := by decide +kernel
theorem dX2_readClause_116 : decode cX2_readClause 116 = .ok (.iload_n 1, 1) := by decide +kernel
theorem dX2_readClause_117 : decode cX2_readClause 117 = .ok (.ifCond .le 8, 3) := by decide +kernel
theorem dX2_readClause_120 : decode cX2_readClause 120 = .ok (.ldc 57, 2) := by decide +kernel
theorem dX2_readClause_122 : decode cX2_readClause 122 = .ok (.goto 5, 3) := by decide +kernel
theorem dX2_readClause_125 : decode cX2_readClause 125 = .ok (.ldc 59, 2) := by decide +kernel
theorem dX2_readClause_127 : decode cX2_readClause 127 = .ok (.invokevirtual 41, 3) := by decide +kernel
theorem dX2_readClause_130 : decode cX2_readClause 130 = .ok (.ifCond .ne 5, 3) := by decide +kernel
theorem dX2_readClause_133 : decode cX2_readClause 133 = .ok (.iconst 0, 1) := by decide +kernel
theorem dX2_readClause_134 : decode cX2_readClause 134 = .ok (.ireturn, 1) := by decide +kernel
theorem dX2_readClause_135 : decode cX2_readClause 135 = .ok (.aload_n 0, 1) := by decide +kernel
theorem dX2_readClause_136 : decode cX2_readClause 136 = .ok (.invokevirtual 45, 3) := by decide +kernel
theorem dX2_readClause_139 : decode cX2_readClause 139 = .ok (.istore_n 2, 1) := by decide +kernel
theorem dX2_readClause_140 : decode cX2_readClause 140 = .ok (.iload_n 2, 1) := by decide +kernel
theorem dX2_readClause_141 : decode cX2_readClause 141 = .ok (.iconst (-1), 1) := by decide +kernel
theorem dX2_readClause_142 : decode cX2_readClause 142 = .ok (.if_icmp .eq 20, 3) := by decide +kernel
theorem dX2_readClause_145 : decode cX2_readClause 145 = .ok (.aload_n 0, 1) := by decide +kernel
theorem dX2_readClause_146 : decode cX2_readClause 146 = .ok (.bipush 32, 2) := by decide +kernel
theorem dX2_readClause_148 : decode cX2_readClause 148 = .ok (.invokevirtual 35, 3) := by decide +kernel
theorem dX2_readClause_151 : decode cX2_readClause 151 = .ok (.ifCond .eq 11, 3) := by decide +kernel
theorem dX2_readClause_154 : decode cX2_readClause 154 = .ok (.aload_n 0, 1) := by decide +kernel
theorem dX2_readClause_155 : decode cX2_readClause 155 = .ok (.iconst 0, 1) := by decide +kernel
theorem dX2_readClause_156 : decode cX2_readClause 156 = .ok (.invokevirtual 61, 3) := by decide +kernel
theorem dX2_readClause_159 : decode cX2_readClause 159 = .ok (.ifCond .ne 5, 3) := by decide +kernel
theorem dX2_readClause_162 : decode cX2_readClause 162 = .ok (.iconst 0, 1) := by decide +kernel
theorem dX2_readClause_163 : decode cX2_readClause 163 = .ok (.ireturn, 1) := by decide +kernel
theorem dX2_readClause_164 : decode cX2_readClause 164 = .ok (.aload_n 0, 1) := by decide +kernel
theorem dX2_readClause_165 : decode cX2_readClause 165 = .ok (.getfield 19, 3) := by decide +kernel
theorem dX2_readClause_168 : decode cX2_readClause 168 = .ok (.iload_n 1, 1) := by decide +kernel
theorem dX2_readClause_169 : decode cX2_readClause 169 = .ok (.iload_n 2, 1) := by decide +kernel
theorem dX2_readClause_170 : decode cX2_readClause 170 = .ok (.imul, 1) := by decide +kernel
theorem dX2_readClause_171 : decode cX2_readClause 171 = .ok (.invokevirtual 65, 3) := by decide +kernel
theorem dX2_readClause_174 : decode cX2_readClause 174 = .ok (.iconst 1, 1) := by decide +kernel
theorem dX2_readClause_175 : decode cX2_readClause 175 = .ok (.ireturn, 1) := by decide +kernel
theorem dX2_readEither_0 : decode cX2_readEither 0 = .ok (.iconst 0, 1) := by decide +kernel
theorem dX2_readEither_1 : decode cX2_readEither 1 = .ok (.istore_n 2, 1) := by decide +kernel
theorem dX2_readEither_2 : decode cX2_readEither 2 = .ok (.iconst 0, 1) := by decide +kernel
theorem dX2_readEither_3 : decode cX2_readEither 3 = .ok (.istore_n 3, 1) := by decide +kernel
theorem dX2_readEither_4 : decode cX2_readEither 4 = .ok (.iconst 0, 1) := by decide +kernel
theorem dX2_readEither_5 : decode cX2_readEither 5 = .ok (.istore 4, 2) := by decide +kernel
theorem dX2_readEither_7 : decode cX2_readEither 7 = .ok (.iload 4, 2) := by decide +kernel
theorem dX2_readEither_9 : decode cX2_readEither 9 = .ok (.bipush 100, 2) := by decide +kernel
theorem dX2_readEither_11 : decode cX2_readEither 11 = .ok (.if_icmp .ge 72, 3) := by decide +kernel
theorem dX2_readEither_14 : decode cX2_readEither 14 = .ok (.aload_n 0, 1) := by decide +kernel
theorem dX2_readEither_15 : decode cX2_readEither 15 = .ok (.iload_n 1, 1) := by decide +kernel
theorem dX2_readEither_16 : decode cX2_readEither 16 = .ok (.invokevirtual 69, 3) := by decide +kernel
theorem dX2_readEither_19 : decode cX2_readEither 19 = .ok (.ifCond .ne 5, 3) := by decide +kernel
theorem dX2_readEither_22 : decode cX2_readEither 22 = .ok (.iconst 0, 1) := by decide +kernel
theorem dX2_readEither_23 : decode cX2_readEither 23 = .ok (.ireturn, 1) := by decide +kernel
theorem dX2_readEither_24 : decode cX2_readEither 24 = .ok (.iload_n 2, 1) := by decide +kernel
theorem dX2_readEither_25 : decode cX2_readEither 25 = .ok (.ifCond .eq 12, 3) := by decide +kernel
theorem dX2_readEither_28 : decode cX2_readEither 28 = .ok (.aload_n 0, 1) := by decide +kernel
theorem dX2_readEither_29 : decode cX2_readEither 29 = .ok (.getfield 19, 3) := by decide +kernel
theorem dX2_readEither_32 : decode cX2_readEither 32 = .ok (.bipush (-2), 2) := by decide +kernel
theorem dX2_readEither_34 : decode cX2_readEither 34 = .ok (.invokevirtual 72, 3) := by decide +kernel
theorem dX2_readEither_37 : decode cX2_readEither 37 = .ok (.aload_n 0, 1) := by decide +kernel
theorem dX2_readEither_38 : decode cX2_readEither 38 = .ok (.bipush 38, 2) := by decide +kernel
theorem dX2_readEither_40 : decode cX2_readEither 40 = .ok (.invokevirtual 35, 3) := by decide +kernel
theorem dX2_readEither_43 : decode cX2_readEither 43 = .ok (.istore_n 2, 1) := by decide +kernel
theorem dX2_readEither_44 : decode cX2_readEither 44 = .ok (.iload_n 2, 1) := by decide +kernel
theorem dX2_readEither_45 : decode cX2_readEither 45 = .ok (.ifCond .eq 6, 3) := by decide +kernel
theorem dX2_readEither_48 : decode cX2_readEither 48 = .ok (.goto 29, 3) := by decide +kernel
theorem dX2_readEither_51 : decode cX2_readEither 51 = .ok (.iload_n 3, 1) := by decide +kernel
theorem dX2_readEither_52 : decode cX2_readEither 52 = .ok (.ifCond .eq 12, 3) := by decide +kernel
theorem dX2_readEither_55 : decode cX2_readEither 55 = .ok (.aload_n 0, 1) := by decide +kernel
theorem dX2_readEither_56 : decode cX2_readEither 56 = .ok (.getfield 19, 3) := by decide +kernel
theorem dX2_readEither_59 : decode cX2_readEither 59 = .ok (.bipush (-3), 2) := by decide +kernel
theorem dX2_readEither_61 : decode cX2_readEither 61 = .ok (.invokevirtual 72, 3) := by decide +kernel
theorem dX2_readEither_64 : decode cX2_readEither 64 = .ok (.aload_n 0, 1) := by decide +kernel
theorem dX2_readEither_65 : decode cX2_readEither 65 = .ok (.bipush 124, 2) := by decide +kernel
theorem dX2_readEither_67 : decode cX2_readEither 67 = .ok (.invokevirtual 35, 3) := by decide +kernel
theorem dX2_readEither_70 : decode cX2_readEither 70 = .ok (.istore_n 3, 1) := by decide +kernel
theorem dX2_readEither_71 : decode cX2_readEither 71 = .ok (.iload_n 3, 1) := by decide +kernel
theorem dX2_readEither_72 : decode cX2_readEither 72 = .ok (.ifCond .ne 5, 3) := by decide +kernel
theorem dX2_readEither_75 : decode cX2_readEither 75 = .ok (.iconst 1, 1) := by decide +kernel
theorem dX2_readEither_76 : decode cX2_readEither 76 = .ok (.ireturn, 1) := by decide +kernel
theorem dX2_readEither_77 : decode cX2_readEither 77 = .ok (.iinc 4 1, 3) := by decide +kernel
theorem dX2_readEither_80 : decode cX2_readEither 80 = .ok (.goto (-73), 3) := by decide +kernel
theorem dX2_readEither_83 : decode cX2_readEither 83 = .ok (.iconst 0, 1) := by decide +kernel
theorem dX2_readEither_84 : decode cX2_readEither 84 = .ok (.ireturn, 1) := by decide +kernel
theorem dX2_readFactor_0 : decode cX2_readFactor 0 = .ok (.iload_n 1, 1) := by decide +kernel
theorem dX2_readFactor_1 : decode cX2_readFactor 1 = .ok (.iconst 5, 1) := by decide +kernel
theorem dX2_readFactor_2 : decode cX2_readFactor 2 = .ok (.if_icmp .ge 30, 3) := by decide +kernel
theorem dX2_readFactor_5 : decode cX2_readFactor 5 = .ok (.aload_n 0, 1) := by decide +kernel
theorem dX2_readFactor_6 : decode cX2_readFactor 6 = .ok (.bipush 33, 2) := by decide +kernel
theorem dX2_readFactor_8 : decode cX2_readFactor 8 = .ok (.invokevirtual 35, 3) := by decide +kernel
theorem dX2_readFactor_11 : decode cX2_readFactor 11 = .ok (.ifCond .eq 21, 3) := by decide +kernel
theorem dX2_readFactor_14 : decode cX2_readFactor 14 = .ok (.aload_n 0, 1) := by decide +kernel
theorem dX2_readFactor_15 : decode cX2_readFactor 15 = .ok (.iload_n 1, 1) := by decide +kernel
theorem dX2_readFactor_16 : decode cX2_readFactor 16 = .ok (.iconst 1, 1) := by decide +kernel
theorem dX2_readFactor_17 : decode cX2_readFactor 17 = .ok (.iadd, 1) := by decide +kernel
theorem dX2_readFactor_18 : decode cX2_readFactor 18 = .ok (.invokevirtual 69, 3) := by decide +kernel
theorem dX2_readFactor_21 : decode cX2_readFactor 21 = .ok (.istore_n 2, 1) := by decide +kernel
theorem dX2_readFactor_22 : decode cX2_readFactor 22 = .ok (.aload_n 0, 1) := by decide +kernel
theorem dX2_readFactor_23 : decode cX2_readFactor 23 = .ok (.getfield 19, 3) := by decide +kernel
theorem dX2_readFactor_26 : decode cX2_readFactor 26 = .ok (.iconst (-1), 1) := by decide +kernel
theorem dX2_readFactor_27 : decode cX2_readFactor 27 = .ok (.invokevirtual 72, 3) := by decide +kernel
theorem dX2_readFactor_30 : decode cX2_readFactor 30 = .ok (.iload_n 2, 1) := by decide +kernel
theorem dX2_readFactor_31 : decode cX2_readFactor 31 = .ok (.ireturn, 1) := by decide +kernel
theorem dX2_readFactor_32 : decode cX2_readFactor 32 = .ok (.iload_n 1, 1) := by decide +kernel
theorem dX2_readFactor_33 : decode cX2_readFactor 33 = .ok (.iconst 5, 1) := by decide +kernel
theorem dX2_readFactor_34 : decode cX2_readFactor 34 = .ok (.if_icmp .ge 37, 3) := by decide +kernel
theorem dX2_readFactor_37 : decode cX2_readFactor 37 = .ok (.aload_n 0, 1) := by decide +kernel
theorem dX2_readFactor_38 : decode cX2_readFactor 38 = .ok (.bipush 40, 2) := by decide +kernel
theorem dX2_readFactor_40 : decode cX2_readFactor 40 = .ok (.invokevirtual 35, 3) := by decide +kernel
theorem dX2_readFactor_43 : decode cX2_readFactor 43 = .ok (.ifCond .eq 28, 3) := by decide +kernel
theorem dX2_readFactor_46 : decode cX2_readFactor 46 = .ok (.aload_n 0, 1) := by decide +kernel
theorem dX2_readFactor_47 : decode cX2_readFactor 47 = .ok (.iload_n 1, 1) := by decide +kernel
theorem dX2_readFactor_48 : decode cX2_readFactor 48 = .ok (.iconst 1, 1) := by decide +kernel
theorem dX2_readFactor_49 : decode cX2_readFactor 49 = .ok (.iadd, 1) := by decide +kernel
theorem dX2_readFactor_50 : decode cX2_readFactor 50 = .ok (.invokevirtual 61, 3) := by decide +kernel
theorem dX2_readFactor_53 : decode cX2_readFactor 53 = .ok (.ifCond .eq 16, 3) := by decide +kernel
theorem dX2_readFactor_56 : decode cX2_readFactor 56 = .ok (.aload_n 0, 1) := by decide +kernel
theorem dX2_readFactor_57 : decode cX2_readFactor 57 = .ok (.bipush 41, 2) := by decide +kernel
theorem dX2_readFactor_59 : decode cX2_readFactor 59 = .ok (.invokevirtual 35, 3) := by decide +kernel
theorem dX2_readFactor_62 : decode cX2_readFactor 62 = .ok (.ifCond .eq 7, 3) := by decide +kernel
theorem dX2_readFactor_65 : decode cX2_readFactor 65 = .ok (.iconst 1, 1) := by decide +kernel
theorem dX2_readFactor_66 : decode cX2_readFactor 66 = .ok (.goto 4, 3) := by decide +kernel
theorem dX2_readFactor_69 : decode cX2_readFactor 69 = .ok (.iconst 0, 1) := by decide +kernel
theorem dX2_readFactor_70 : decode cX2_readFactor 70 = .ok (.ireturn, 1) := by decide +kernel
theorem dX2_readFactor_71 : decode cX2_readFactor 71 = .ok (.aload_n 0, 1) := by decide +kernel
theorem dX2_readFactor_72 : decode cX2_readFactor 72 = .ok (.invokevirtual 75, 3) := by decide +kernel
theorem dX2_readFactor_75 : decode cX2_readFactor 75 = .ok (.ireturn, 1) := by decide +kernel
theorem dX2_readTest_0 : decode cX2_readTest 0 = .ok (.aload_n 0, 1) := by decide +kernel
theorem dX2_readTest_1 : decode cX2_readTest 1 = .ok (.ldc 78, 2) := by decide +kernel
theorem dX2_readTest_3 : decode cX2_readTest 3 = .ok (.invokevirtual 80, 3) := by decide +kernel
theorem dX2_readTest_6 : decode cX2_readTest 6 = .ok (.istore_n 1, 1) := by decide +kernel
theorem dX2_readTest_7 : decode cX2_readTest 7 = .ok (.iload_n 1, 1) := by decide +kernel
theorem dX2_readTest_8 : decode cX2_readTest 8 = .ok (.ifCond .ge 5, 3) := by decide +kernel
theorem dX2_readTest_11 : decode cX2_readTest 11 = .ok (.iconst 0, 1) := by decide +kernel
theorem dX2_readTest_12 : decode cX2_readTest 12 = .ok (.ireturn, 1) := by decide +kernel
theorem dX2_readTest_13 : decode cX2_readTest 13 = .ok (.aload_n 0, 1) := by decide +kernel
theorem dX2_readTest_14 : decode cX2_readTest 14 = .ok (.ldc 84, 2) := by decide +kernel
theorem dX2_readTest_16 : decode cX2_readTest 16 = .ok (.invokevirtual 80, 3) := by decide +kernel
theorem dX2_readTest_19 : decode cX2_readTest 19 = .ok (.istore_n 2, 1) := by decide +kernel
theorem dX2_readTest_20 : decode cX2_readTest 20 = .ok (.iload_n 2, 1) := by decide +kernel
theorem dX2_readTest_21 : decode cX2_readTest 21 = .ok (.ifCond .ge 5, 3) := by decide +kernel
theorem dX2_readTest_24 : decode cX2_readTest 24 = .ok (.iconst 0, 1) := by decide +kernel
theorem dX2_readTest_25 : decode cX2_readTest 25 = .ok (.ireturn, 1) := by decide +kernel
theorem dX2_readTest_26 : decode cX2_readTest 26 = .ok (.aload_n 0, 1) := by decide +kernel
theorem dX2_readTest_27 : decode cX2_readTest 27 = .ok (.invokevirtual 45, 3) := by decide +kernel
theorem dX2_readTest_30 : decode cX2_readTest 30 = .ok (.istore_n 3, 1) := by decide +kernel
theorem dX2_readTest_31 : decode cX2_readTest 31 = .ok (.iload_n 3, 1) := by decide +kernel
theorem dX2_readTest_32 : decode cX2_readTest 32 = .ok (.iconst (-1), 1) := by decide +kernel
theorem dX2_readTest_33 : decode cX2_readTest 33 = .ok (.if_icmp .ne 5, 3) := by decide +kernel
theorem dX2_readTest_36 : decode cX2_readTest 36 = .ok (.iconst 0, 1) := by decide +kernel
theorem dX2_readTest_37 : decode cX2_readTest 37 = .ok (.ireturn, 1) := by decide +kernel
theorem dX2_readTest_38 : decode cX2_readTest 38 = .ok (.aload_n 0, 1) := by decide +kernel
theorem dX2_readTest_39 : decode cX2_readTest 39 = .ok (.getfield 19, 3) := by decide +kernel
theorem dX2_readTest_42 : decode cX2_readTest 42 = .ok (.iload_n 1, 1) := by decide +kernel
theorem dX2_readTest_43 : decode cX2_readTest 43 = .ok (.iload_n 2, 1) := by decide +kernel
theorem dX2_readTest_44 : decode cX2_readTest 44 = .ok (.iload_n 3, 1) := by decide +kernel
theorem dX2_readTest_45 : decode cX2_readTest 45 = .ok (.invokestatic 86, 3) := by decide +kernel
theorem dX2_readTest_48 : decode cX2_readTest 48 = .ok (.invokevirtual 72, 3) := by decide +kernel
theorem dX2_readTest_51 : decode cX2_readTest 51 = .ok (.iconst 1, 1) := by decide +kernel
theorem dX2_readTest_52 : decode cX2_readTest 52 = .ok (.ireturn, 1) := by decide +kernel
theorem dX2_readNumber_0 : decode cX2_readNumber 0 = .ok (.aload_n 0, 1) := by decide +kernel
theorem dX2_readNumber_1 : decode cX2_readNumber 1 = .ok (.getfield 32, 3) := by decide +kernel
theorem dX2_readNumber_4 : decode cX2_readNumber 4 = .ok (.aload_n 0, 1) := by decide +kernel
theorem dX2_readNumber_5 : decode cX2_readNumber 5 = .ok (.getfield 15, 3) := by decide +kernel
theorem dX2_readNumber_8 : decode cX2_readNumber 8 = .ok (.if_icmp .ge 18, 3) := by decide +kernel
theorem dX2_readNumber_11 : decode cX2_readNumber 11 = .ok (.aload_n 0, 1) := by decide +kernel
theorem dX2_readNumber_12 : decode cX2_readNumber 12 = .ok (.getfield 9, 3) := by decide +kernel
theorem dX2_readNumber_15 : decode cX2_readNumber 15 = .ok (.aload_n 0, 1) := by decide +kernel
theorem dX2_readNumber_16 : decode cX2_readNumber 16 = .ok (.getfield 32, 3) := by decide +kernel
theorem dX2_readNumber_19 : decode cX2_readNumber 19 = .ok (.caload, 1) := by decide +kernel
theorem dX2_readNumber_20 : decode cX2_readNumber 20 = .ok (.bipush 48, 2) := by decide +kernel
theorem dX2_readNumber_22 : decode cX2_readNumber 22 = .ok (.isub, 1) := by decide +kernel
theorem dX2_readNumber_23 : decode cX2_readNumber 23 = .ok (.goto 4, 3) := by decide +kernel
theorem dX2_readNumber_26 : decode cX2_readNumber 26 = .ok (.iconst (-1), 1) := by decide +kernel
theorem dX2_readNumber_27 : decode cX2_readNumber 27 = .ok (.istore_n 1, 1) := by decide +kernel
theorem dX2_readNumber_28 : decode cX2_readNumber 28 = .ok (.iload_n 1, 1) := by decide +kernel
theorem dX2_readNumber_29 : decode cX2_readNumber 29 = .ok (.ifCond .lt 9, 3) := by decide +kernel
theorem dX2_readNumber_32 : decode cX2_readNumber 32 = .ok (.iload_n 1, 1) := by decide +kernel
theorem dX2_readNumber_33 : decode cX2_readNumber 33 = .ok (.bipush 9, 2) := by decide +kernel
theorem dX2_readNumber_35 : decode cX2_readNumber 35 = .ok (.if_icmp .le 5, 3) := by decide +kernel
theorem dX2_readNumber_38 : decode cX2_readNumber 38 = .ok (.iconst (-1), 1) := by decide +kernel
theorem dX2_readNumber_39 : decode cX2_readNumber 39 = .ok (.ireturn, 1) := by decide +kernel
theorem dX2_readNumber_40 : decode cX2_readNumber 40 = .ok (.aload_n 0, 1) := by decide +kernel
theorem dX2_readNumber_41 : decode cX2_readNumber 41 = .ok (.dup, 1) := by decide +kernel
theorem dX2_readNumber_42 : decode cX2_readNumber 42 = .ok (.getfield 32, 3) := by decide +kernel
theorem dX2_readNumber_45 : decode cX2_readNumber 45 = .ok (.iconst 1, 1) := by decide +kernel
theorem dX2_readNumber_46 : decode cX2_readNumber 46 = .ok (.iadd, 1) := by decide +kernel
theorem dX2_readNumber_47 : decode cX2_readNumber 47 = .ok (.putfield 32, 3) := by decide +kernel
theorem dX2_readNumber_50 : decode cX2_readNumber 50 = .ok (.aload_n 0, 1) := by decide +kernel
theorem dX2_readNumber_51 : decode cX2_readNumber 51 = .ok (.getfield 32, 3) := by decide +kernel
theorem dX2_readNumber_54 : decode cX2_readNumber 54 = .ok (.aload_n 0, 1) := by decide +kernel
theorem dX2_readNumber_55 : decode cX2_readNumber 55 = .ok (.getfield 15, 3) := by decide +kernel
theorem dX2_readNumber_58 : decode cX2_readNumber 58 = .ok (.if_icmp .ge 18, 3) := by decide +kernel
theorem dX2_readNumber_61 : decode cX2_readNumber 61 = .ok (.aload_n 0, 1) := by decide +kernel
theorem dX2_readNumber_62 : decode cX2_readNumber 62 = .ok (.getfield 9, 3) := by decide +kernel
theorem dX2_readNumber_65 : decode cX2_readNumber 65 = .ok (.aload_n 0, 1) := by decide +kernel
theorem dX2_readNumber_66 : decode cX2_readNumber 66 = .ok (.getfield 32, 3) := by decide +kernel
theorem dX2_readNumber_69 : decode cX2_readNumber 69 = .ok (.caload, 1) := by decide +kernel
theorem dX2_readNumber_70 : decode cX2_readNumber 70 = .ok (.bipush 48, 2) := by decide +kernel
theorem dX2_readNumber_72 : decode cX2_readNumber 72 = .ok (.isub, 1) := by decide +kernel
theorem dX2_readNumber_73 : decode cX2_readNumber 73 = .ok (.goto 4, 3) := by decide +kernel
theorem dX2_readNumber_76 : decode cX2_readNumber 76 = .ok (.iconst (-1), 1) := by decide +kernel
theorem dX2_readNumber_77 : decode cX2_readNumber 77 = .ok (.istore_n 2, 1) := by decide +kernel
theorem dX2_readNumber_78 : decode cX2_readNumber 78 = .ok (.iload_n 1, 1) := by decide +kernel
theorem dX2_readNumber_79 : decode cX2_readNumber 79 = .ok (.ifCond .eq 13, 3) := by decide +kernel
theorem dX2_readNumber_82 : decode cX2_readNumber 82 = .ok (.iload_n 2, 1) := by decide +kernel
theorem dX2_readNumber_83 : decode cX2_readNumber 83 = .ok (.ifCond .lt 9, 3) := by decide +kernel
theorem dX2_readNumber_86 : decode cX2_readNumber 86 = .ok (.iload_n 2, 1) := by decide +kernel
theorem dX2_readNumber_87 : decode cX2_readNumber 87 = .ok (.bipush 9, 2) := by decide +kernel
theorem dX2_readNumber_89 : decode cX2_readNumber 89 = .ok (.if_icmp .le 5, 3) := by decide +kernel
theorem dX2_readNumber_92 : decode cX2_readNumber 92 = .ok (.iload_n 1, 1) := by decide +kernel
theorem dX2_readNumber_93 : decode cX2_readNumber 93 = .ok (.ireturn, 1) := by decide +kernel
theorem dX2_readNumber_94 : decode cX2_readNumber 94 = .ok (.aload_n 0, 1) := by decide +kernel
theorem dX2_readNumber_95 : decode cX2_readNumber 95 = .ok (.dup, 1) := by decide +kernel
theorem dX2_readNumber_96 : decode cX2_readNumber 96 = .ok (.getfield 32, 3) := by decide +kernel
theorem dX2_readNumber_99 : decode cX2_readNumber 99 = .ok (.iconst 1, 1) := by decide +kernel
theorem dX2_readNumber_100 : decode cX2_readNumber 100 = .ok (.iadd, 1) := by decide +kernel
theorem dX2_readNumber_101 : decode cX2_readNumber 101 = .ok (.putfield 32, 3) := by decide +kernel
theorem dX2_readNumber_104 : decode cX2_readNumber 104 = .ok (.bipush 10, 2) := by decide +kernel
theorem dX2_readNumber_106 : decode cX2_readNumber 106 = .ok (.iload_n 1, 1) := by decide +kernel
theorem dX2_readNumber_107 : decode cX2_readNumber 107 = .ok (.imul, 1) := by decide +kernel
theorem dX2_readNumber_108 : decode cX2_readNumber 108 = .ok (.iload_n 2, 1) := by decide +kernel
theorem dX2_readNumber_109 : decode cX2_readNumber 109 = .ok (.iadd, 1) := by decide +kernel
theorem dX2_readNumber_110 : decode cX2_readNumber 110 = .ok (.ireturn, 1) := by decide +kernel
theorem dX2_readOneOf_0 : decode cX2_readOneOf 0 = .ok (.aload_n 0, 1) := by decide +kernel
theorem dX2_readOneOf_1 : decode cX2_readOneOf 1 = .ok (.getfield 32, 3) := by decide +kernel
theorem dX2_readOneOf_4 : decode cX2_readOneOf 4 = .ok (.aload_n 0, 1) := by decide +kernel
theorem dX2_readOneOf_5 : decode cX2_readOneOf 5 = .ok (.getfield 15, 3) := by decide +kernel
theorem dX2_readOneOf_8 : decode cX2_readOneOf 8 = .ok (.if_icmp .ge 19, 3) := by decide +kernel
theorem dX2_readOneOf_11 : decode cX2_readOneOf 11 = .ok (.aload_n 1, 1) := by decide +kernel
theorem dX2_readOneOf_12 : decode cX2_readOneOf 12 = .ok (.aload_n 0, 1) := by decide +kernel
theorem dX2_readOneOf_13 : decode cX2_readOneOf 13 = .ok (.getfield 9, 3) := by decide +kernel
theorem dX2_readOneOf_16 : decode cX2_readOneOf 16 = .ok (.aload_n 0, 1) := by decide +kernel
theorem dX2_readOneOf_17 : decode cX2_readOneOf 17 = .ok (.getfield 32, 3) := by decide +kernel
theorem dX2_readOneOf_20 : decode cX2_readOneOf 20 = .ok (.caload, 1) := by decide +kernel
theorem dX2_readOneOf_21 : decode cX2_readOneOf 21 = .ok (.invokevirtual 90, 3) := by decide +kernel
theorem dX2_readOneOf_24 : decode cX2_readOneOf 24 = .ok (.goto 4, 3) := by decide +kernel
theorem dX2_readOneOf_27 : decode cX2_readOneOf 27 = .ok (.iconst (-1), 1) := by decide +kernel
theorem dX2_readOneOf_28 : decode cX2_readOneOf 28 = .ok (.istore_n 2, 1) := by decide +kernel
theorem dX2_readOneOf_29 : decode cX2_readOneOf 29 = .ok (.iload_n 2, 1) := by decide +kernel
theorem dX2_readOneOf_30 : decode cX2_readOneOf 30 = .ok (.ifCond .lt 13, 3) := by decide +kernel
theorem dX2_readOneOf_33 : decode cX2_readOneOf 33 = .ok (.aload_n 0, 1) := by decide +kernel
theorem dX2_readOneOf_34 : decode cX2_readOneOf 34 = .ok (.dup, 1) := by decide +kernel
theorem dX2_readOneOf_35 : decode cX2_readOneOf 35 = .ok (.getfield 32, 3) := by decide +kernel
theorem dX2_readOneOf_38 : decode cX2_readOneOf 38 = .ok (.iconst 1, 1) := by decide +kernel
theorem dX2_readOneOf_39 : decode cX2_readOneOf 39 = .ok (.iadd, 1) := by decide +kernel
theorem dX2_readOneOf_40 : decode cX2_readOneOf 40 = .ok (.putfield 32, 3) := by decide +kernel
theorem dX2_readOneOf_43 : decode cX2_readOneOf 43 = .ok (.iload_n 2, 1) := by decide +kernel
theorem dX2_readOneOf_44 : decode cX2_readOneOf 44 = .ok (.ireturn, 1) := by decide +kernel
theorem dX2_takesAll_0 : decode cX2_takesAll 0 = .ok (.iconst 0, 1) := by decide +kernel
theorem dX2_takesAll_1 : decode cX2_takesAll 1 = .ok (.istore_n 2, 1) := by decide +kernel
theorem dX2_takesAll_2 : decode cX2_takesAll 2 = .ok (.iload_n 2, 1) := by decide +kernel
theorem dX2_takesAll_3 : decode cX2_takesAll 3 = .ok (.aload_n 1, 1) := by decide +kernel
theorem dX2_takesAll_4 : decode cX2_takesAll 4 = .ok (.invokevirtual 96, 3) := by decide +kernel
theorem dX2_takesAll_7 : decode cX2_takesAll 7 = .ok (.if_icmp .ge 23, 3) := by decide +kernel
theorem dX2_takesAll_10 : decode cX2_takesAll 10 = .ok (.aload_n 0, 1) := by decide +kernel
theorem dX2_takesAll_11 : decode cX2_takesAll 11 = .ok (.aload_n 1, 1) := by decide +kernel
theorem dX2_takesAll_12 : decode cX2_takesAll 12 = .ok (.iload_n 2, 1) := by decide +kernel
theorem dX2_takesAll_13 : decode cX2_takesAll 13 = .ok (.invokevirtual 99, 3) := by decide +kernel
theorem dX2_takesAll_16 : decode cX2_takesAll 16 = .ok (.invokevirtual 35, 3) := by decide +kernel
theorem dX2_takesAll_19 : decode cX2_takesAll 19 = .ok (.ifCond .ne 5, 3) := by decide +kernel
theorem dX2_takesAll_22 : decode cX2_takesAll 22 = .ok (.iconst 0, 1) := by decide +kernel
theorem dX2_takesAll_23 : decode cX2_takesAll 23 = .ok (.ireturn, 1) := by decide +kernel
theorem dX2_takesAll_24 : decode cX2_takesAll 24 = .ok (.iinc 2 1, 3) := by decide +kernel
theorem dX2_takesAll_27 : decode cX2_takesAll 27 = .ok (.goto (-25), 3) := by decide +kernel
theorem dX2_takesAll_30 : decode cX2_takesAll 30 = .ok (.iconst 1, 1) := by decide +kernel
theorem dX2_takesAll_31 : decode cX2_takesAll 31 = .ok (.ireturn, 1) := by decide +kernel
theorem dX2_takes_0 : decode cX2_takes 0 = .ok (.aload_n 0, 1) := by decide +kernel
theorem dX2_takes_1 : decode cX2_takes 1 = .ok (.getfield 32, 3) := by decide +kernel
theorem dX2_takes_4 : decode cX2_takes 4 = .ok (.aload_n 0, 1) := by decide +kernel
theorem dX2_takes_5 : decode cX2_takes 5 = .ok (.getfield 15, 3) := by decide +kernel
theorem dX2_takes_8 : decode cX2_takes 8 = .ok (.if_icmp .ge 16, 3) := by decide +kernel
theorem dX2_takes_11 : decode cX2_takes 11 = .ok (.aload_n 0, 1) := by decide +kernel
theorem dX2_takes_12 : decode cX2_takes 12 = .ok (.getfield 9, 3) := by decide +kernel
theorem dX2_takes_15 : decode cX2_takes 15 = .ok (.aload_n 0, 1) := by decide +kernel
theorem dX2_takes_16 : decode cX2_takes 16 = .ok (.getfield 32, 3) := by decide +kernel
theorem dX2_takes_19 : decode cX2_takes 19 = .ok (.caload, 1) := by decide +kernel
theorem dX2_takes_20 : decode cX2_takes 20 = .ok (.iload_n 1, 1) := by decide +kernel
theorem dX2_takes_21 : decode cX2_takes 21 = .ok (.if_icmp .eq 5, 3) := by decide +kernel
theorem dX2_takes_24 : decode cX2_takes 24 = .ok (.iconst 0, 1) := by decide +kernel
theorem dX2_takes_25 : decode cX2_takes 25 = .ok (.ireturn, 1) := by decide +kernel
theorem dX2_takes_26 : decode cX2_takes 26 = .ok (.aload_n 0, 1) := by decide +kernel
theorem dX2_takes_27 : decode cX2_takes 27 = .ok (.dup, 1) := by decide +kernel
theorem dX2_takes_28 : decode cX2_takes 28 = .ok (.getfield 32, 3) := by decide +kernel
theorem dX2_takes_31 : decode cX2_takes 31 = .ok (.iconst 1, 1) := by decide +kernel
theorem dX2_takes_32 : decode cX2_takes 32 = .ok (.iadd, 1) := by decide +kernel
theorem dX2_takes_33 : decode cX2_takes 33 = .ok (.putfield 32, 3) := by decide +kernel
theorem dX2_takes_36 : decode cX2_takes 36 = .ok (.iconst 1, 1) := by decide +kernel
theorem dX2_takes_37 : decode cX2_takes 37 = .ok (.ireturn, 1) := by decide +kernel
theorem dX3_init_0 : decode cX3_init 0 = .ok (.aload_n 0, 1) := by decide +kernel
theorem dX3_init_1 : decode cX3_init 1 = .ok (.invokespecial 3, 3) := by decide +kernel
theorem dX3_init_4 : decode cX3_init 4 = .ok (.aload_n 0, 1) := by decide +kernel
theorem dX3_init_5 : decode cX3_init 5 = .ok (.iload_n 1, 1) := by decide +kernel
theorem dX3_init_6 : decode cX3_init 6 = .ok (.newarray .int, 2) := by decide +kernel
theorem dX3_init_8 : decode cX3_init 8 = .ok (.putfield 9, 3) := by decide +kernel
theorem dX3_init_11 : decode cX3_init 11 = .ok (.aload_n 0, 1) := by decide +kernel
theorem dX3_init_12 : decode cX3_init 12 = .ok (.iload_n 1, 1) := by decide +kernel
theorem dX3_init_13 : decode cX3_init 13 = .ok (.newarray .int, 2) := by decide +kernel
theorem dX3_init_15 : decode cX3_init 15 = .ok (.putfield 15, 3) := by decide +kernel
theorem dX3_init_18 : decode cX3_init 18 = .ok (.aload_n 0, 1) := by decide +kernel
theorem dX3_init_19 : decode cX3_init 19 = .ok (.iload_n 1, 1) := by decide +kernel
theorem dX3_init_20 : decode cX3_init 20 = .ok (.newarray .int, 2) := by decide +kernel
theorem dX3_init_22 : decode cX3_init 22 = .ok (.putfield 18, 3) := by decide +kernel
theorem dX3_init_25 : decode cX3_init 25 = .ok (.return_, 1) := by decide +kernel
theorem dX3_empty_0 : decode cX3_empty 0 = .ok (.aload_n 0, 1) := by decide +kernel
theorem dX3_empty_1 : decode cX3_empty 1 = .ok (.iconst 0, 1) := by decide +kernel
theorem dX3_empty_2 : decode cX3_empty 2 = .ok (.putfield 21, 3) := by decide +kernel
theorem dX3_empty_5 : decode cX3_empty 5 = .ok (.iconst 0, 1) := by decide +kernel
theorem dX3_empty_6 : decode cX3_empty 6 = .ok (.ireturn, 1) := by decide +kernel
theorem dX3_add_0 : decode cX3_add 0 = .ok (.aload_n 0, 1) := by decide +kernel
theorem dX3_add_1 : decode cX3_add 1 = .ok (.getfield 21, 3) := by decide +kernel
theorem dX3_add_4 : decode cX3_add 4 = .ok (.aload_n 0, 1) := by decide +kernel
theorem dX3_add_5 : decode cX3_add 5 = .ok (.getfield 9, 3) := by decide +kernel
theorem dX3_add_8 : decode cX3_add 8 = .ok (.arraylength, 1) := by decide +kernel
theorem dX3_add_9 : decode cX3_add 9 = .ok (.if_icmp .lt 6, 3) := by decide +kernel
theorem dX3_add_12 : decode cX3_add 12 = .ok (.bipush (-4), 2) := by decide +kernel
theorem dX3_add_14 : decode cX3_add 14 = .ok (.ireturn, 1) := by decide +kernel
theorem dX3_add_15 : decode cX3_add 15 = .ok (.aload_n 0, 1) := by decide +kernel
theorem dX3_add_16 : decode cX3_add 16 = .ok (.getfield 9, 3) := by decide +kernel
theorem dX3_add_19 : decode cX3_add 19 = .ok (.aload_n 0, 1) := by decide +kernel
theorem dX3_add_20 : decode cX3_add 20 = .ok (.getfield 21, 3) := by decide +kernel
theorem dX3_add_23 : decode cX3_add 23 = .ok (.iload_n 1, 1) := by decide +kernel
theorem dX3_add_24 : decode cX3_add 24 = .ok (.iastore, 1) := by decide +kernel
theorem dX3_add_25 : decode cX3_add 25 = .ok (.aload_n 0, 1) := by decide +kernel
theorem dX3_add_26 : decode cX3_add 26 = .ok (.getfield 15, 3) := by decide +kernel
theorem dX3_add_29 : decode cX3_add 29 = .ok (.aload_n 0, 1) := by decide +kernel
theorem dX3_add_30 : decode cX3_add 30 = .ok (.getfield 21, 3) := by decide +kernel
theorem dX3_add_33 : decode cX3_add 33 = .ok (.iload_n 2, 1) := by decide +kernel
theorem dX3_add_34 : decode cX3_add 34 = .ok (.iastore, 1) := by decide +kernel
theorem dX3_add_35 : decode cX3_add 35 = .ok (.aload_n 0, 1) := by decide +kernel
theorem dX3_add_36 : decode cX3_add 36 = .ok (.getfield 18, 3) := by decide +kernel
theorem dX3_add_39 : decode cX3_add 39 = .ok (.aload_n 0, 1) := by decide +kernel
theorem dX3_add_40 : decode cX3_add 40 = .ok (.getfield 21, 3) := by decide +kernel
theorem dX3_add_43 : decode cX3_add 43 = .ok (.iload_n 3, 1) := by decide +kernel
theorem dX3_add_44 : decode cX3_add 44 = .ok (.iastore, 1) := by decide +kernel
theorem dX3_add_45 : decode cX3_add 45 = .ok (.aload_n 0, 1) := by decide +kernel
theorem dX3_add_46 : decode cX3_add 46 = .ok (.dup, 1) := by decide +kernel
theorem dX3_add_47 : decode cX3_add 47 = .ok (.getfield 21, 3) := by decide +kernel
theorem dX3_add_50 : decode cX3_add 50 = .ok (.iconst 1, 1) := by decide +kernel
theorem dX3_add_51 : decode cX3_add 51 = .ok (.iadd, 1) := by decide +kernel
theorem dX3_add_52 : decode cX3_add 52 = .ok (.putfield 21, 3) := by decide +kernel
theorem dX3_add_55 : decode cX3_add 55 = .ok (.aload_n 0, 1) := by decide +kernel
theorem dX3_add_56 : decode cX3_add 56 = .ok (.getfield 21, 3) := by decide +kernel
theorem dX3_add_59 : decode cX3_add 59 = .ok (.ireturn, 1) := by decide +kernel
theorem dX3_become_0 : decode cX3_become 0 = .ok (.aload_n 0, 1) := by decide +kernel
theorem dX3_become_1 : decode cX3_become 1 = .ok (.invokevirtual 25, 3) := by decide +kernel
theorem dX3_become_4 : decode cX3_become 4 = .ok (.pop, 1) := by decide +kernel
theorem dX3_become_5 : decode cX3_become 5 = .ok (.iconst 0, 1) := by decide +kernel
theorem dX3_become_6 : decode cX3_become 6 = .ok (.istore_n 2, 1) := by decide +kernel
theorem dX3_become_7 : decode cX3_become 7 = .ok (.iload_n 2, 1) := by decide +kernel
theorem dX3_become_8 : decode cX3_become 8 = .ok (.aload_n 1, 1) := by decide +kernel
theorem dX3_become_9 : decode cX3_become 9 = .ok (.getfield 21, 3) := by decide +kernel
theorem dX3_become_12 : decode cX3_become 12 = .ok (.if_icmp .ge 32, 3) := by decide +kernel
theorem dX3_become_15 : decode cX3_become 15 = .ok (.aload_n 0, 1) := by decide +kernel
theorem dX3_become_16 : decode cX3_become 16 = .ok (.aload_n 1, 1) := by decide +kernel
theorem dX3_become_17 : decode cX3_become 17 = .ok (.getfield 9, 3) := by decide +kernel
theorem dX3_become_20 : decode cX3_become 20 = .ok (.iload_n 2, 1) := by decide +kernel
theorem dX3_become_21 : decode cX3_become 21 = .ok (.iaload, 1) := by decide +kernel
theorem dX3_become_22 : decode cX3_become 22 = .ok (.aload_n 1, 1) := by decide +kernel
theorem dX3_become_23 : decode cX3_become 23 = .ok (.getfield 15, 3) := by decide +kernel
theorem dX3_become_26 : decode cX3_become 26 = .ok (.iload_n 2, 1) := by decide +kernel
theorem dX3_become_27 : decode cX3_become 27 = .ok (.iaload, 1) := by decide +kernel
theorem dX3_become_28 : decode cX3_become 28 = .ok (.aload_n 1, 1) := by decide +kernel
theorem dX3_become_29 : decode cX3_become 29 = .ok (.getfield 18, 3) := by decide +kernel
theorem dX3_become_32 : decode cX3_become 32 = .ok (.iload_n 2, 1) := by decide +kernel
theorem dX3_become_33 : decode cX3_become 33 = .ok (.iaload, 1) := by decide +kernel
theorem dX3_become_34 : decode cX3_become 34 = .ok (.invokevirtual 29, 3) := by decide +kernel
theorem dX3_become_37 : decode cX3_become 37 = .ok (.pop, 1) := by decide +kernel
theorem dX3_become_38 : decode cX3_become 38 = .ok (.iinc 2 1, 3) := by decide +kernel
theorem dX3_become_41 : decode cX3_become 41 = .ok (.goto (-34), 3) := by decide +kernel
theorem dX3_become_44 : decode cX3_become 44 = .ok (.return_, 1) := by decide +kernel
theorem dX4_init_0 : decode cX4_init 0 = .ok (.aload_n 0, 1) := by decide +kernel
theorem dX4_init_1 : decode cX4_init 1 = .ok (.invokespecial 3, 3) := by decide +kernel
theorem dX4_init_4 : decode cX4_init 4 = .ok (.aload_n 0, 1) := by decide +kernel
theorem dX4_init_5 : decode cX4_init 5 = .ok (.bipush 6, 2) := by decide +kernel
theorem dX4_init_7 : decode cX4_init 7 = .ok (.bipush 6, 2) := by decide +kernel
theorem dX4_init_9 : decode cX4_init 9 = .ok (.multianewarray 11 2, 4) := by decide +kernel
theorem dX4_init_13 : decode cX4_init 13 = .ok (.putfield 13, 3) := by decide +kernel
theorem dX4_init_16 : decode cX4_init 16 = .ok (.aload_n 0, 1) := by decide +kernel
theorem dX4_init_17 : decode cX4_init 17 = .ok (.bipush 6, 2) := by decide +kernel
theorem dX4_init_19 : decode cX4_init 19 = .ok (.bipush 6, 2) := by decide +kernel
theorem dX4_init_21 : decode cX4_init 21 = .ok (.multianewarray 11 2, 4) := by decide +kernel
theorem dX4_init_25 : decode cX4_init 25 = .ok (.putfield 16, 3) := by decide +kernel
theorem dX4_init_28 : decode cX4_init 28 = .ok (.aload_n 0, 1) := by decide +kernel
theorem dX4_init_29 : decode cX4_init 29 = .ok (.bipush 6, 2) := by decide +kernel
theorem dX4_init_31 : decode cX4_init 31 = .ok (.newarray .int, 2) := by decide +kernel
theorem dX4_init_33 : decode cX4_init 33 = .ok (.putfield 19, 3) := by decide +kernel
theorem dX4_init_36 : decode cX4_init 36 = .ok (.aload_n 0, 1) := by decide +kernel
theorem dX4_init_37 : decode cX4_init 37 = .ok (.bipush 6, 2) := by decide +kernel
theorem dX4_init_39 : decode cX4_init 39 = .ok (.newarray .int, 2) := by decide +kernel
theorem dX4_init_41 : decode cX4_init 41 = .ok (.putfield 23, 3) := by decide +kernel
theorem dX4_init_44 : decode cX4_init 44 = .ok (.aload_n 0, 1) := by decide +kernel
theorem dX4_init_45 : decode cX4_init 45 = .ok (.bipush 6, 2) := by decide +kernel
theorem dX4_init_47 : decode cX4_init 47 = .ok (.newarray .int, 2) := by decide +kernel
theorem dX4_init_49 : decode cX4_init 49 = .ok (.putfield 26, 3) := by decide +kernel
theorem dX4_init_52 : decode cX4_init 52 = .ok (.aload_n 0, 1) := by decide +kernel
theorem dX4_init_53 : decode cX4_init 53 = .ok (.bipush 6, 2) := by decide +kernel
theorem dX4_init_55 : decode cX4_init 55 = .ok (.newarray .int, 2) := by decide +kernel
theorem dX4_init_57 : decode cX4_init 57 = .ok (.putfield 29, 3) := by decide +kernel
theorem dX4_init_60 : decode cX4_init 60 = .ok (.aload_n 0, 1) := by decide +kernel
theorem dX4_init_61 : decode cX4_init 61 = .ok (.bipush 7, 2) := by decide +kernel
theorem dX4_init_63 : decode cX4_init 63 = .ok (.newarray .int, 2) := by decide +kernel
theorem dX4_init_65 : decode cX4_init 65 = .ok (.putfield 32, 3) := by decide +kernel
theorem dX4_init_68 : decode cX4_init 68 = .ok (.aload_n 0, 1) := by decide +kernel
theorem dX4_init_69 : decode cX4_init 69 = .ok (.bipush 7, 2) := by decide +kernel
theorem dX4_init_71 : decode cX4_init 71 = .ok (.newarray .int, 2) := by decide +kernel
theorem dX4_init_73 : decode cX4_init 73 = .ok (.putfield 35, 3) := by decide +kernel
theorem dX4_init_76 : decode cX4_init 76 = .ok (.aload_n 0, 1) := by decide +kernel
theorem dX4_init_77 : decode cX4_init 77 = .ok (.bipush 7, 2) := by decide +kernel
theorem dX4_init_79 : decode cX4_init 79 = .ok (.newarray .int, 2) := by decide +kernel
theorem dX4_init_81 : decode cX4_init 81 = .ok (.putfield 38, 3) := by decide +kernel
theorem dX4_init_84 : decode cX4_init 84 = .ok (.aload_n 0, 1) := by decide +kernel
theorem dX4_init_85 : decode cX4_init 85 = .ok (.bipush 7, 2) := by decide +kernel
theorem dX4_init_87 : decode cX4_init 87 = .ok (.newarray .int, 2) := by decide +kernel
theorem dX4_init_89 : decode cX4_init 89 = .ok (.putfield 41, 3) := by decide +kernel
theorem dX4_init_92 : decode cX4_init 92 = .ok (.aload_n 0, 1) := by decide +kernel
theorem dX4_init_93 : decode cX4_init 93 = .ok (.aload_n 1, 1) := by decide +kernel
theorem dX4_init_94 : decode cX4_init 94 = .ok (.putfield 44, 3) := by decide +kernel
theorem dX4_init_97 : decode cX4_init 97 = .ok (.return_, 1) := by decide +kernel
theorem dX4_answer_0 : decode cX4_answer 0 = .ok (.aload_n 0, 1) := by decide +kernel
theorem dX4_answer_1 : decode cX4_answer 1 = .ok (.iload_n 1, 1) := by decide +kernel
theorem dX4_answer_2 : decode cX4_answer 2 = .ok (.invokevirtual 48, 3) := by decide +kernel
theorem dX4_answer_5 : decode cX4_answer 5 = .ok (.iconst 1, 1) := by decide +kernel
theorem dX4_answer_6 : decode cX4_answer 6 = .ok (.istore 4, 2) := by decide +kernel
theorem dX4_answer_8 : decode cX4_answer 8 = .ok (.aload_n 0, 1) := by decide +kernel
theorem dX4_answer_9 : decode cX4_answer 9 = .ok (.getfield 44, 3) := by decide +kernel
theorem dX4_answer_12 : decode cX4_answer 12 = .ok (.getfield 52, 3) := by decide +kernel
theorem dX4_answer_15 : decode cX4_answer 15 = .ok (.iconst 1, 1) := by decide +kernel
theorem dX4_answer_16 : decode cX4_answer 16 = .ok (.isub, 1) := by decide +kernel
theorem dX4_answer_17 : decode cX4_answer 17 = .ok (.istore 5, 2) := by decide +kernel
theorem dX4_answer_19 : decode cX4_answer 19 = .ok (.iload 5, 2) := by decide +kernel
theorem dX4_answer_21 : decode cX4_answer 21 = .ok (.ifCond .lt 58, 3) := by decide +kernel
theorem dX4_answer_24 : decode cX4_answer 24 = .ok (.aload_n 0, 1) := by decide +kernel
theorem dX4_answer_25 : decode cX4_answer 25 = .ok (.iload 5, 2) := by decide +kernel
theorem dX4_answer_27 : decode cX4_answer 27 = .ok (.iload_n 2, 1) := by decide +kernel
theorem dX4_answer_28 : decode cX4_answer 28 = .ok (.iload 5, 2) := by decide +kernel
theorem dX4_answer_30 : decode cX4_answer 30 = .ok (.ishr, 1) := by decide +kernel
theorem dX4_answer_31 : decode cX4_answer 31 = .ok (.iconst 1, 1) := by decide +kernel
theorem dX4_answer_32 : decode cX4_answer 32 = .ok (.iand, 1) := by decide +kernel
theorem dX4_answer_33 : decode cX4_answer 33 = .ok (.iconst 1, 1) := by decide +kernel
theorem dX4_answer_34 : decode cX4_answer 34 = .ok (.if_icmp .ne 7, 3) := by decide +kernel
theorem dX4_answer_37 : decode cX4_answer 37 = .ok (.iconst 1, 1) := by decide +kernel
theorem dX4_answer_38 : decode cX4_answer 38 = .ok (.goto 4, 3) := by decide +kernel
theorem dX4_answer_41 : decode cX4_answer 41 = .ok (.iconst 0, 1) := by decide +kernel
theorem dX4_answer_42 : decode cX4_answer 42 = .ok (.invokevirtual 58, 3) := by decide +kernel
theorem dX4_answer_45 : decode cX4_answer 45 = .ok (.aload_n 0, 1) := by decide +kernel
theorem dX4_answer_46 : decode cX4_answer 46 = .ok (.iload 5, 2) := by decide +kernel
theorem dX4_answer_48 : decode cX4_answer 48 = .ok (.invokevirtual 62, 3) := by decide +kernel
theorem dX4_answer_51 : decode cX4_answer 51 = .ok (.iload 4, 2) := by decide +kernel
theorem dX4_answer_53 : decode cX4_answer 53 = .ok (.ifCond .eq 17, 3) := by decide +kernel
theorem dX4_answer_56 : decode cX4_answer 56 = .ok (.aload_n 0, 1) := by decide +kernel
theorem dX4_answer_57 : decode cX4_answer 57 = .ok (.getfield 19, 3) := by decide +kernel
theorem dX4_answer_60 : decode cX4_answer 60 = .ok (.iload 5, 2) := by decide +kernel
theorem dX4_answer_62 : decode cX4_answer 62 = .ok (.iaload, 1) := by decide +kernel
theorem dX4_answer_63 : decode cX4_answer 63 = .ok (.ifCond .eq 7, 3) := by decide +kernel
theorem dX4_answer_66 : decode cX4_answer 66 = .ok (.iconst 1, 1) := by decide +kernel
theorem dX4_answer_67 : decode cX4_answer 67 = .ok (.goto 4, 3) := by decide +kernel
theorem dX4_answer_70 : decode cX4_answer 70 = .ok (.iconst 0, 1) := by decide +kernel
theorem dX4_answer_71 : decode cX4_answer 71 = .ok (.istore 4, 2) := by decide +kernel
theorem dX4_answer_73 : decode cX4_answer 73 = .ok (.iinc 5 (-1), 3) := by decide +kernel
theorem dX4_answer_76 : decode cX4_answer 76 = .ok (.goto (-57), 3) := by decide +kernel
theorem dX4_answer_79 : decode cX4_answer 79 = .ok (.iload 4, 2) := by decide +kernel
theorem dX4_answer_81 : decode cX4_answer 81 = .ok (.ifCond .eq 14, 3) := by decide +kernel
theorem dX4_answer_84 : decode cX4_answer 84 = .ok (.aload_n 0, 1) := by decide +kernel
theorem dX4_answer_85 : decode cX4_answer 85 = .ok (.iconst 0, 1) := by decide +kernel
theorem dX4_answer_86 : decode cX4_answer 86 = .ok (.iconst 0, 1) := by decide +kernel
theorem dX4_answer_87 : decode cX4_answer 87 = .ok (.ldc 65, 2) := by decide +kernel
theorem dX4_answer_89 : decode cX4_answer 89 = .ok (.ldc 66, 2) := by decide +kernel
theorem dX4_answer_91 : decode cX4_answer 91 = .ok (.iconst 0, 1) := by decide +kernel
theorem dX4_answer_92 : decode cX4_answer 92 = .ok (.invokevirtual 67, 3) := by decide +kernel
theorem dX4_answer_95 : decode cX4_answer 95 = .ok (.aload_n 0, 1) := by decide +kernel
theorem dX4_answer_96 : decode cX4_answer 96 = .ok (.getfield 71, 3) := by decide +kernel
theorem dX4_answer_99 : decode cX4_answer 99 = .ok (.ifCond .eq 11, 3) := by decide +kernel
theorem dX4_answer_102 : decode cX4_answer 102 = .ok (.aload_n 0, 1) := by decide +kernel
theorem dX4_answer_103 : decode cX4_answer 103 = .ok (.iload_n 3, 1) := by decide +kernel
theorem dX4_answer_104 : decode cX4_answer 104 = .ok (.invokevirtual 75, 3) := by decide +kernel
theorem dX4_answer_107 : decode cX4_answer 107 = .ok (.goto 5, 3) := by decide +kernel
theorem dX4_answer_110 : decode cX4_answer 110 = .ok (.bipush (-6), 2) := by decide +kernel
theorem dX4_answer_112 : decode cX4_answer 112 = .ok (.ireturn, 1) := by decide +kernel
theorem dX4_begin_0 : decode cX4_begin 0 = .ok (.aload_n 0, 1) := by decide +kernel
theorem dX4_begin_1 : decode cX4_begin 1 = .ok (.iload_n 1, 1) := by decide +kernel
theorem dX4_begin_2 : decode cX4_begin 2 = .ok (.putfield 79, 3) := by decide +kernel
theorem dX4_begin_5 : decode cX4_begin 5 = .ok (.aload_n 0, 1) := by decide +kernel
theorem dX4_begin_6 : decode cX4_begin 6 = .ok (.iconst 0, 1) := by decide +kernel
theorem dX4_begin_7 : decode cX4_begin 7 = .ok (.putfield 71, 3) := by decide +kernel
theorem dX4_begin_10 : decode cX4_begin 10 = .ok (.aload_n 0, 1) := by decide +kernel
theorem dX4_begin_11 : decode cX4_begin 11 = .ok (.ldc 65, 2) := by decide +kernel
theorem dX4_begin_13 : decode cX4_begin 13 = .ok (.putfield 82, 3) := by decide +kernel
theorem dX4_begin_16 : decode cX4_begin 16 = .ok (.aload_n 0, 1) := by decide +kernel
theorem dX4_begin_17 : decode cX4_begin 17 = .ok (.ldc 65, 2) := by decide +kernel
theorem dX4_begin_19 : decode cX4_begin 19 = .ok (.putfield 85, 3) := by decide +kernel
theorem dX4_begin_22 : decode cX4_begin 22 = .ok (.aload_n 0, 1) := by decide +kernel
theorem dX4_begin_23 : decode cX4_begin 23 = .ok (.getfield 23, 3) := by decide +kernel
theorem dX4_begin_26 : decode cX4_begin 26 = .ok (.iconst 0, 1) := by decide +kernel
theorem dX4_begin_27 : decode cX4_begin 27 = .ok (.bipush 6, 2) := by decide +kernel
theorem dX4_begin_29 : decode cX4_begin 29 = .ok (.iastore, 1) := by decide +kernel
theorem dX4_begin_30 : decode cX4_begin 30 = .ok (.iconst 0, 1) := by decide +kernel
theorem dX4_begin_31 : decode cX4_begin 31 = .ok (.istore_n 2, 1) := by decide +kernel
theorem dX4_begin_32 : decode cX4_begin 32 = .ok (.iload_n 2, 1) := by decide +kernel
theorem dX4_begin_33 : decode cX4_begin 33 = .ok (.aload_n 0, 1) := by decide +kernel
theorem dX4_begin_34 : decode cX4_begin 34 = .ok (.getfield 44, 3) := by decide +kernel
theorem dX4_begin_37 : decode cX4_begin 37 = .ok (.getfield 88, 3) := by decide +kernel
theorem dX4_begin_40 : decode cX4_begin 40 = .ok (.if_icmp .ge 26, 3) := by decide +kernel
theorem dX4_begin_43 : decode cX4_begin 43 = .ok (.aload_n 0, 1) := by decide +kernel
theorem dX4_begin_44 : decode cX4_begin 44 = .ok (.getfield 23, 3) := by decide +kernel
theorem dX4_begin_47 : decode cX4_begin 47 = .ok (.iload_n 2, 1) := by decide +kernel
theorem dX4_begin_48 : decode cX4_begin 48 = .ok (.iconst 1, 1) := by decide +kernel
theorem dX4_begin_49 : decode cX4_begin 49 = .ok (.iadd, 1) := by decide +kernel
theorem dX4_begin_50 : decode cX4_begin 50 = .ok (.aload_n 0, 1) := by decide +kernel
theorem dX4_begin_51 : decode cX4_begin 51 = .ok (.getfield 44, 3) := by decide +kernel
theorem dX4_begin_54 : decode cX4_begin 54 = .ok (.getfield 91, 3) := by decide +kernel
theorem dX4_begin_57 : decode cX4_begin 57 = .ok (.iload_n 2, 1) := by decide +kernel
theorem dX4_begin_58 : decode cX4_begin 58 = .ok (.iaload, 1) := by decide +kernel
theorem dX4_begin_59 : decode cX4_begin 59 = .ok (.iastore, 1) := by decide +kernel
theorem dX4_begin_60 : decode cX4_begin 60 = .ok (.iinc 2 1, 3) := by decide +kernel
theorem dX4_begin_63 : decode cX4_begin 63 = .ok (.goto (-31), 3) := by decide +kernel
theorem dX4_begin_66 : decode cX4_begin 66 = .ok (.aload_n 0, 1) := by decide +kernel
theorem dX4_begin_67 : decode cX4_begin 67 = .ok (.getfield 32, 3) := by decide +kernel
theorem dX4_begin_70 : decode cX4_begin 70 = .ok (.aload_n 0, 1) := by decide +kernel
theorem dX4_begin_71 : decode cX4_begin 71 = .ok (.getfield 44, 3) := by decide +kernel
theorem dX4_begin_74 : decode cX4_begin 74 = .ok (.getfield 52, 3) := by decide +kernel
theorem dX4_begin_77 : decode cX4_begin 77 = .ok (.iconst 0, 1) := by decide +kernel
theorem dX4_begin_78 : decode cX4_begin 78 = .ok (.iastore, 1) := by decide +kernel
theorem dX4_begin_79 : decode cX4_begin 79 = .ok (.aload_n 0, 1) := by decide +kernel
theorem dX4_begin_80 : decode cX4_begin 80 = .ok (.getfield 35, 3) := by decide +kernel
theorem dX4_begin_83 : decode cX4_begin 83 = .ok (.aload_n 0, 1) := by decide +kernel
theorem dX4_begin_84 : decode cX4_begin 84 = .ok (.getfield 44, 3) := by decide +kernel
theorem dX4_begin_87 : decode cX4_begin 87 = .ok (.getfield 52, 3) := by decide +kernel
theorem dX4_begin_90 : decode cX4_begin 90 = .ok (.iconst 0, 1) := by decide +kernel
theorem dX4_begin_91 : decode cX4_begin 91 = .ok (.iastore, 1) := by decide +kernel
theorem dX4_begin_92 : decode cX4_begin 92 = .ok (.aload_n 0, 1) := by decide +kernel
theorem dX4_begin_93 : decode cX4_begin 93 = .ok (.getfield 38, 3) := by decide +kernel
theorem dX4_begin_96 : decode cX4_begin 96 = .ok (.aload_n 0, 1) := by decide +kernel
theorem dX4_begin_97 : decode cX4_begin 97 = .ok (.getfield 44, 3) := by decide +kernel
theorem dX4_begin_100 : decode cX4_begin 100 = .ok (.getfield 52, 3) := by decide +kernel
theorem dX4_begin_103 : decode cX4_begin 103 = .ok (.ldc 65, 2) := by decide +kernel
theorem dX4_begin_105 : decode cX4_begin 105 = .ok (.iastore, 1) := by decide +kernel
theorem dX4_begin_106 : decode cX4_begin 106 = .ok (.aload_n 0, 1) := by decide +kernel
theorem dX4_begin_107 : decode cX4_begin 107 = .ok (.getfield 41, 3) := by decide +kernel
theorem dX4_begin_110 : decode cX4_begin 110 = .ok (.aload_n 0, 1) := by decide +kernel
theorem dX4_begin_111 : decode cX4_begin 111 = .ok (.getfield 44, 3) := by decide +kernel
theorem dX4_begin_114 : decode cX4_begin 114 = .ok (.getfield 52, 3) := by decide +kernel
theorem dX4_begin_117 : decode cX4_begin 117 = .ok (.ldc 66, 2) := by decide +kernel
theorem dX4_begin_119 : decode cX4_begin 119 = .ok (.iastore, 1) := by decide +kernel
theorem dX4_begin_120 : decode cX4_begin 120 = .ok (.return_, 1) := by decide +kernel
theorem dX4_result_0 : decode cX4_result 0 = .ok (.iload_n 1, 1) := by decide +kernel
theorem dX4_result_1 : decode cX4_result 1 = .ok (.bipush 10, 2) := by decide +kernel
theorem dX4_result_3 : decode cX4_result 3 = .ok (.if_icmp .lt 18, 3) := by decide +kernel
theorem dX4_result_6 : decode cX4_result 6 = .ok (.aload_n 0, 1) := by decide +kernel
theorem dX4_result_7 : decode cX4_result 7 = .ok (.getfield 29, 3) := by decide +kernel
theorem dX4_result_10 : decode cX4_result 10 = .ok (.iload_n 1, 1) := by decide +kernel
theorem dX4_result_11 : decode cX4_result 11 = .ok (.bipush 10, 2) := by decide +kernel
theorem dX4_result_13 : decode cX4_result 13 = .ok (.isub, 1) := by decide +kernel
theorem dX4_result_14 : decode cX4_result 14 = .ok (.iaload, 1) := by decide +kernel
theorem dX4_result_15 : decode cX4_result 15 = .ok (.iconst 1, 1) := by decide +kernel
theorem dX4_result_16 : decode cX4_result 16 = .ok (.isub, 1) := by decide +kernel
theorem dX4_result_17 : decode cX4_result 17 = .ok (.invokestatic 94, 3) := by decide +kernel
theorem dX4_result_20 : decode cX4_result 20 = .ok (.ireturn, 1) := by decide +kernel
theorem dX4_result_21 : decode cX4_result 21 = .ok (.aload_n 0, 1) := by decide +kernel
theorem dX4_result_22 : decode cX4_result 22 = .ok (.getfield 79, 3) := by decide +kernel
theorem dX4_result_25 : decode cX4_result 25 = .ok (.lookupswitch 37 #[(0, 27), (1, 32)], 27) := by decide +kernel
theorem dX4_result_52 : decode cX4_result 52 = .ok (.aload_n 0, 1) := by decide +kernel
theorem dX4_result_53 : decode cX4_result 53 = .ok (.getfield 85, 3) := by decide +kernel
theorem dX4_result_56 : decode cX4_result 56 = .ok (.ireturn, 1) := by decide +kernel
theorem dX4_result_57 : decode cX4_result 57 = .ok (.aload_n 0, 1) := by decide +kernel
theorem dX4_result_58 : decode cX4_result 58 = .ok (.getfield 82, 3) := by decide +kernel
theorem dX4_result_61 : decode cX4_result 61 = .ok (.ireturn, 1) := by decide +kernel
theorem dX4_result_62 : decode cX4_result 62 = .ok (.aload_n 0, 1) := by decide +kernel
theorem dX4_result_63 : decode cX4_result 63 = .ok (.getfield 82, 3) := by decide +kernel
theorem dX4_result_66 : decode cX4_result 66 = .ok (.ineg, 1) := by decide +kernel
theorem dX4_result_67 : decode cX4_result 67 = .ok (.ireturn, 1) := by decide +kernel
theorem dX4_layChoices_0 : decode cX4_layChoices 0 = .ok (.aload_n 0, 1) := by decide +kernel
theorem dX4_layChoices_1 : decode cX4_layChoices 1 = .ok (.getfield 19, 3) := by decide +kernel
theorem dX4_layChoices_4 : decode cX4_layChoices 4 = .ok (.iload_n 1, 1) := by decide +kernel
theorem dX4_layChoices_5 : decode cX4_layChoices 5 = .ok (.iconst 0, 1) := by decide +kernel
theorem dX4_layChoices_6 : decode cX4_layChoices 6 = .ok (.iastore, 1) := by decide +kernel
theorem dX4_layChoices_7 : decode cX4_layChoices 7 = .ok (.iconst 0, 1) := by decide +kernel
theorem dX4_layChoices_8 : decode cX4_layChoices 8 = .ok (.istore_n 3, 1) := by decide +kernel
theorem dX4_layChoices_9 : decode cX4_layChoices 9 = .ok (.iload_n 3, 1) := by decide +kernel
theorem dX4_layChoices_10 : decode cX4_layChoices 10 = .ok (.aload_n 0, 1) := by decide +kernel
theorem dX4_layChoices_11 : decode cX4_layChoices 11 = .ok (.getfield 44, 3) := by decide +kernel
theorem dX4_layChoices_14 : decode cX4_layChoices 14 = .ok (.getfield 88, 3) := by decide +kernel
theorem dX4_layChoices_17 : decode cX4_layChoices 17 = .ok (.if_icmp .gt 152, 3) := by decide +kernel
theorem dX4_layChoices_20 : decode cX4_layChoices 20 = .ok (.aload_n 0, 1) := by decide +kernel
theorem dX4_layChoices_21 : decode cX4_layChoices 21 = .ok (.getfield 13, 3) := by decide +kernel
theorem dX4_layChoices_24 : decode cX4_layChoices 24 = .ok (.iload_n 1, 1) := by decide +kernel
theorem dX4_layChoices_25 : decode cX4_layChoices 25 = .ok (.aaload, 1) := by decide +kernel
theorem dX4_layChoices_26 : decode cX4_layChoices 26 = .ok (.iload_n 3, 1) := by decide +kernel
theorem dX4_layChoices_27 : decode cX4_layChoices 27 = .ok (.aload_n 0, 1) := by decide +kernel
theorem dX4_layChoices_28 : decode cX4_layChoices 28 = .ok (.getfield 44, 3) := by decide +kernel
theorem dX4_layChoices_31 : decode cX4_layChoices 31 = .ok (.iload_n 1, 1) := by decide +kernel
theorem dX4_layChoices_32 : decode cX4_layChoices 32 = .ok (.iload_n 3, 1) := by decide +kernel
theorem dX4_layChoices_33 : decode cX4_layChoices 33 = .ok (.iconst 1, 1) := by decide +kernel
theorem dX4_layChoices_34 : decode cX4_layChoices 34 = .ok (.isub, 1) := by decide +kernel
theorem dX4_layChoices_35 : decode cX4_layChoices 35 = .ok (.invokevirtual 97, 3) := by decide +kernel
theorem dX4_layChoices_38 : decode cX4_layChoices 38 = .ok (.iastore, 1) := by decide +kernel
theorem dX4_layChoices_39 : decode cX4_layChoices 39 = .ok (.aload_n 0, 1) := by decide +kernel
theorem dX4_layChoices_40 : decode cX4_layChoices 40 = .ok (.getfield 16, 3) := by decide +kernel
theorem dX4_layChoices_43 : decode cX4_layChoices 43 = .ok (.iload_n 1, 1) := by decide +kernel
theorem dX4_layChoices_44 : decode cX4_layChoices 44 = .ok (.aaload, 1) := by decide +kernel
theorem dX4_layChoices_45 : decode cX4_layChoices 45 = .ok (.iload_n 3, 1) := by decide +kernel
theorem dX4_layChoices_46 : decode cX4_layChoices 46 = .ok (.aload_n 0, 1) := by decide +kernel
theorem dX4_layChoices_47 : decode cX4_layChoices 47 = .ok (.getfield 79, 3) := by decide +kernel
theorem dX4_layChoices_50 : decode cX4_layChoices 50 = .ok (.iconst 2, 1) := by decide +kernel
theorem dX4_layChoices_51 : decode cX4_layChoices 51 = .ok (.if_icmp .ne 17, 3) := by decide +kernel
theorem dX4_layChoices_54 : decode cX4_layChoices 54 = .ok (.aload_n 0, 1) := by decide +kernel
theorem dX4_layChoices_55 : decode cX4_layChoices 55 = .ok (.getfield 44, 3) := by decide +kernel
theorem dX4_layChoices_58 : decode cX4_layChoices 58 = .ok (.iload_n 1, 1) := by decide +kernel
theorem dX4_layChoices_59 : decode cX4_layChoices 59 = .ok (.iload_n 3, 1) := by decide +kernel
theorem dX4_layChoices_60 : decode cX4_layChoices 60 = .ok (.iconst 1, 1) := by decide +kernel
theorem dX4_layChoices_61 : decode cX4_layChoices 61 = .ok (.isub, 1) := by decide +kernel
theorem dX4_layChoices_62 : decode cX4_layChoices 62 = .ok (.invokevirtual 101, 3) := by decide +kernel
theorem dX4_layChoices_65 : decode cX4_layChoices 65 = .ok (.goto 4, 3) := by decide +kernel
theorem dX4_layChoices_68 : decode cX4_layChoices 68 = .ok (.iconst 0, 1) := by decide +kernel
theorem dX4_layChoices_69 : decode cX4_layChoices 69 = .ok (.iastore, 1) := by decide +kernel
theorem dX4_layChoices_70 : decode cX4_layChoices 70 = .ok (.aload_n 0, 1) := by decide +kernel
theorem dX4_layChoices_71 : decode cX4_layChoices 71 = .ok (.getfield 44, 3) := by decide +kernel
theorem dX4_layChoices_74 : decode cX4_layChoices 74 = .ok (.iload_n 1, 1) := by decide +kernel
theorem dX4_layChoices_75 : decode cX4_layChoices 75 = .ok (.iload_n 3, 1) := by decide +kernel
theorem dX4_layChoices_76 : decode cX4_layChoices 76 = .ok (.iconst 1, 1) := by decide +kernel
theorem dX4_layChoices_77 : decode cX4_layChoices 77 = .ok (.isub, 1) := by decide +kernel
theorem dX4_layChoices_78 : decode cX4_layChoices 78 = .ok (.invokevirtual 104, 3) := by decide +kernel
theorem dX4_layChoices_81 : decode cX4_layChoices 81 = .ok (.ifCond .le 7, 3) := by decide +kernel
theorem dX4_layChoices_84 : decode cX4_layChoices 84 = .ok (.iconst 1, 1) := by decide +kernel
theorem dX4_layChoices_85 : decode cX4_layChoices 85 = .ok (.goto 4, 3) := by decide +kernel
theorem dX4_layChoices_88 : decode cX4_layChoices 88 = .ok (.iconst 0, 1) := by decide +kernel
theorem dX4_layChoices_89 : decode cX4_layChoices 89 = .ok (.istore 4, 2) := by decide +kernel
theorem dX4_layChoices_91 : decode cX4_layChoices 91 = .ok (.aload_n 0, 1) := by decide +kernel
theorem dX4_layChoices_92 : decode cX4_layChoices 92 = .ok (.getfield 79, 3) := by decide +kernel
theorem dX4_layChoices_95 : decode cX4_layChoices 95 = .ok (.iconst 2, 1) := by decide +kernel
theorem dX4_layChoices_96 : decode cX4_layChoices 96 = .ok (.if_icmp .eq 25, 3) := by decide +kernel
theorem dX4_layChoices_99 : decode cX4_layChoices 99 = .ok (.iload 4, 2) := by decide +kernel
theorem dX4_layChoices_101 : decode cX4_layChoices 101 = .ok (.aload_n 0, 1) := by decide +kernel
theorem dX4_layChoices_102 : decode cX4_layChoices 102 = .ok (.getfield 79, 3) := by decide +kernel
theorem dX4_layChoices_105 : decode cX4_layChoices 105 = .ok (.iconst 1, 1) := by decide +kernel
theorem dX4_layChoices_106 : decode cX4_layChoices 106 = .ok (.if_icmp .eq 7, 3) := by decide +kernel
theorem dX4_layChoices_109 : decode cX4_layChoices 109 = .ok (.iload_n 2, 1) := by decide +kernel
theorem dX4_layChoices_110 : decode cX4_layChoices 110 = .ok (.ifCond .eq 7, 3) := by decide +kernel
theorem dX4_layChoices_113 : decode cX4_layChoices 113 = .ok (.iconst 1, 1) := by decide +kernel
theorem dX4_layChoices_114 : decode cX4_layChoices 114 = .ok (.goto 4, 3) := by decide +kernel
theorem dX4_layChoices_117 : decode cX4_layChoices 117 = .ok (.iconst 0, 1) := by decide +kernel
theorem dX4_layChoices_118 : decode cX4_layChoices 118 = .ok (.if_icmp .ne 7, 3) := by decide +kernel
theorem dX4_layChoices_121 : decode cX4_layChoices 121 = .ok (.iconst 1, 1) := by decide +kernel
theorem dX4_layChoices_122 : decode cX4_layChoices 122 = .ok (.goto 4, 3) := by decide +kernel
theorem dX4_layChoices_125 : decode cX4_layChoices 125 = .ok (.iconst 0, 1) := by decide +kernel
theorem dX4_layChoices_126 : decode cX4_layChoices 126 = .ok (.istore 5, 2) := by decide +kernel
theorem dX4_layChoices_128 : decode cX4_layChoices 128 = .ok (.iload 5, 2) := by decide +kernel
theorem dX4_layChoices_130 : decode cX4_layChoices 130 = .ok (.ifCond .eq 33, 3) := by decide +kernel
theorem dX4_layChoices_133 : decode cX4_layChoices 133 = .ok (.aload_n 0, 1) := by decide +kernel
theorem dX4_layChoices_134 : decode cX4_layChoices 134 = .ok (.getfield 23, 3) := by decide +kernel
theorem dX4_layChoices_137 : decode cX4_layChoices 137 = .ok (.iload_n 3, 1) := by decide +kernel
theorem dX4_layChoices_138 : decode cX4_layChoices 138 = .ok (.iaload, 1) := by decide +kernel
theorem dX4_layChoices_139 : decode cX4_layChoices 139 = .ok (.ifCond .le 24, 3) := by decide +kernel
theorem dX4_layChoices_142 : decode cX4_layChoices 142 = .ok (.aload_n 0, 1) := by decide +kernel
theorem dX4_layChoices_143 : decode cX4_layChoices 143 = .ok (.iload_n 1, 1) := by decide +kernel
theorem dX4_layChoices_144 : decode cX4_layChoices 144 = .ok (.iload_n 3, 1) := by decide +kernel
theorem dX4_layChoices_145 : decode cX4_layChoices 145 = .ok (.invokevirtual 107, 3) := by decide +kernel
theorem dX4_layChoices_148 : decode cX4_layChoices 148 = .ok (.ifCond .ne 15, 3) := by decide +kernel
theorem dX4_layChoices_151 : decode cX4_layChoices 151 = .ok (.aload_n 0, 1) := by decide +kernel
theorem dX4_layChoices_152 : decode cX4_layChoices 152 = .ok (.getfield 19, 3) := by decide +kernel
theorem dX4_layChoices_155 : decode cX4_layChoices 155 = .ok (.iload_n 1, 1) := by decide +kernel
theorem dX4_layChoices_156 : decode cX4_layChoices 156 = .ok (.dup2, 1) := by decide +kernel
theorem dX4_layChoices_157 : decode cX4_layChoices 157 = .ok (.iaload, 1) := by decide +kernel
theorem dX4_layChoices_158 : decode cX4_layChoices 158 = .ok (.iconst 1, 1) := by decide +kernel
theorem dX4_layChoices_159 : decode cX4_layChoices 159 = .ok (.iload_n 3, 1) := by decide +kernel
theorem dX4_layChoices_160 : decode cX4_layChoices 160 = .ok (.ishl, 1) := by decide +kernel
theorem dX4_layChoices_161 : decode cX4_layChoices 161 = .ok (.ior, 1) := by decide +kernel
theorem dX4_layChoices_162 : decode cX4_layChoices 162 = .ok (.iastore, 1) := by decide +kernel
theorem dX4_layChoices_163 : decode cX4_layChoices 163 = .ok (.iinc 3 1, 3) := by decide +kernel
theorem dX4_layChoices_166 : decode cX4_layChoices 166 = .ok (.goto (-157), 3) := by decide +kernel
theorem dX4_layChoices_169 : decode cX4_layChoices 169 = .ok (.return_, 1) := by decide +kernel
theorem dX4_isWasted_0 : decode cX4_isWasted 0 = .ok (.iload_n 2, 1) := by decide +kernel
theorem dX4_isWasted_1 : decode cX4_isWasted 1 = .ok (.ifCond .eq 14, 3) := by decide +kernel
theorem dX4_isWasted_4 : decode cX4_isWasted 4 = .ok (.aload_n 0, 1) := by decide +kernel
theorem dX4_isWasted_5 : decode cX4_isWasted 5 = .ok (.getfield 19, 3) := by decide +kernel
theorem dX4_isWasted_8 : decode cX4_isWasted 8 = .ok (.iload_n 1, 1) := by decide +kernel
theorem dX4_isWasted_9 : decode cX4_isWasted 9 = .ok (.iaload, 1) := by decide +kernel
theorem dX4_isWasted_10 : decode cX4_isWasted 10 = .ok (.iconst 1, 1) := by decide +kernel
theorem dX4_isWasted_11 : decode cX4_isWasted 11 = .ok (.iand, 1) := by decide +kernel
theorem dX4_isWasted_12 : decode cX4_isWasted 12 = .ok (.ifCond .ne 5, 3) := by decide +kernel
theorem dX4_isWasted_15 : decode cX4_isWasted 15 = .ok (.iconst 0, 1) := by decide +kernel
theorem dX4_isWasted_16 : decode cX4_isWasted 16 = .ok (.ireturn, 1) := by decide +kernel
theorem dX4_isWasted_17 : decode cX4_isWasted 17 = .ok (.aload_n 0, 1) := by decide +kernel
theorem dX4_isWasted_18 : decode cX4_isWasted 18 = .ok (.getfield 79, 3) := by decide +kernel
theorem dX4_isWasted_21 : decode cX4_isWasted 21 = .ok (.lookupswitch 54 #[(0, 27), (1, 29)], 27) := by decide +kernel
theorem dX4_isWasted_48 : decode cX4_isWasted 48 = .ok (.iconst 1, 1) := by decide +kernel
theorem dX4_isWasted_49 : decode cX4_isWasted 49 = .ok (.ireturn, 1) := by decide +kernel
theorem dX4_isWasted_50 : decode cX4_isWasted 50 = .ok (.aload_n 0, 1) := by decide +kernel
theorem dX4_isWasted_51 : decode cX4_isWasted 51 = .ok (.getfield 13, 3) := by decide +kernel
theorem dX4_isWasted_54 : decode cX4_isWasted 54 = .ok (.iload_n 1, 1) := by decide +kernel
theorem dX4_isWasted_55 : decode cX4_isWasted 55 = .ok (.aaload, 1) := by decide +kernel
theorem dX4_isWasted_56 : decode cX4_isWasted 56 = .ok (.iload_n 2, 1) := by decide +kernel
theorem dX4_isWasted_57 : decode cX4_isWasted 57 = .ok (.iaload, 1) := by decide +kernel
theorem dX4_isWasted_58 : decode cX4_isWasted 58 = .ok (.aload_n 0, 1) := by decide +kernel
theorem dX4_isWasted_59 : decode cX4_isWasted 59 = .ok (.getfield 13, 3) := by decide +kernel
theorem dX4_isWasted_62 : decode cX4_isWasted 62 = .ok (.iload_n 1, 1) := by decide +kernel
theorem dX4_isWasted_63 : decode cX4_isWasted 63 = .ok (.aaload, 1) := by decide +kernel
theorem dX4_isWasted_64 : decode cX4_isWasted 64 = .ok (.iconst 0, 1) := by decide +kernel
theorem dX4_isWasted_65 : decode cX4_isWasted 65 = .ok (.iaload, 1) := by decide +kernel
theorem dX4_isWasted_66 : decode cX4_isWasted 66 = .ok (.if_icmp .ne 7, 3) := by decide +kernel
theorem dX4_isWasted_69 : decode cX4_isWasted 69 = .ok (.iconst 1, 1) := by decide +kernel
theorem dX4_isWasted_70 : decode cX4_isWasted 70 = .ok (.goto 4, 3) := by decide +kernel
theorem dX4_isWasted_73 : decode cX4_isWasted 73 = .ok (.iconst 0, 1) := by decide +kernel
theorem dX4_isWasted_74 : decode cX4_isWasted 74 = .ok (.ireturn, 1) := by decide +kernel
theorem dX4_isWasted_75 : decode cX4_isWasted 75 = .ok (.aload_n 0, 1) := by decide +kernel
theorem dX4_isWasted_76 : decode cX4_isWasted 76 = .ok (.getfield 16, 3) := by decide +kernel
theorem dX4_isWasted_79 : decode cX4_isWasted 79 = .ok (.iload_n 1, 1) := by decide +kernel
theorem dX4_isWasted_80 : decode cX4_isWasted 80 = .ok (.aaload, 1) := by decide +kernel
theorem dX4_isWasted_81 : decode cX4_isWasted 81 = .ok (.iload_n 2, 1) := by decide +kernel
theorem dX4_isWasted_82 : decode cX4_isWasted 82 = .ok (.iaload, 1) := by decide +kernel
theorem dX4_isWasted_83 : decode cX4_isWasted 83 = .ok (.aload_n 0, 1) := by decide +kernel
theorem dX4_isWasted_84 : decode cX4_isWasted 84 = .ok (.getfield 16, 3) := by decide +kernel
theorem dX4_isWasted_87 : decode cX4_isWasted 87 = .ok (.iload_n 1, 1) := by decide +kernel
theorem dX4_isWasted_88 : decode cX4_isWasted 88 = .ok (.aaload, 1) := by decide +kernel
theorem dX4_isWasted_89 : decode cX4_isWasted 89 = .ok (.iconst 0, 1) := by decide +kernel
theorem dX4_isWasted_90 : decode cX4_isWasted 90 = .ok (.iaload, 1) := by decide +kernel
theorem dX4_isWasted_91 : decode cX4_isWasted 91 = .ok (.if_icmp .gt 7, 3) := by decide +kernel
theorem dX4_isWasted_94 : decode cX4_isWasted 94 = .ok (.iconst 1, 1) := by decide +kernel
theorem dX4_isWasted_95 : decode cX4_isWasted 95 = .ok (.goto 4, 3) := by decide +kernel
theorem dX4_isWasted_98 : decode cX4_isWasted 98 = .ok (.iconst 0, 1) := by decide +kernel
theorem dX4_isWasted_99 : decode cX4_isWasted 99 = .ok (.ireturn, 1) := by decide +kernel
theorem dX4_lookAhead_0 : decode cX4_lookAhead 0 = .ok (.iconst 0, 1) := by decide +kernel
theorem dX4_lookAhead_1 : decode cX4_lookAhead 1 = .ok (.istore_n 2, 1) := by decide +kernel
theorem dX4_lookAhead_2 : decode cX4_lookAhead 2 = .ok (.ldc 65, 2) := by decide +kernel
theorem dX4_lookAhead_4 : decode cX4_lookAhead 4 = .ok (.istore_n 3, 1) := by decide +kernel
theorem dX4_lookAhead_5 : decode cX4_lookAhead 5 = .ok (.ldc 66, 2) := by decide +kernel
theorem dX4_lookAhead_7 : decode cX4_lookAhead 7 = .ok (.istore 4, 2) := by decide +kernel
theorem dX4_lookAhead_9 : decode cX4_lookAhead 9 = .ok (.iconst 0, 1) := by decide +kernel
theorem dX4_lookAhead_10 : decode cX4_lookAhead 10 = .ok (.istore 5, 2) := by decide +kernel
theorem dX4_lookAhead_12 : decode cX4_lookAhead 12 = .ok (.iload 5, 2) := by decide +kernel
theorem dX4_lookAhead_14 : decode cX4_lookAhead 14 = .ok (.aload_n 0, 1) := by decide +kernel
theorem dX4_lookAhead_15 : decode cX4_lookAhead 15 = .ok (.getfield 44, 3) := by decide +kernel
theorem dX4_lookAhead_18 : decode cX4_lookAhead 18 = .ok (.getfield 88, 3) := by decide +kernel
theorem dX4_lookAhead_21 : decode cX4_lookAhead 21 = .ok (.if_icmp .gt 68, 3) := by decide +kernel
theorem dX4_lookAhead_24 : decode cX4_lookAhead 24 = .ok (.aload_n 0, 1) := by decide +kernel
theorem dX4_lookAhead_25 : decode cX4_lookAhead 25 = .ok (.getfield 19, 3) := by decide +kernel
theorem dX4_lookAhead_28 : decode cX4_lookAhead 28 = .ok (.iload_n 1, 1) := by decide +kernel
theorem dX4_lookAhead_29 : decode cX4_lookAhead 29 = .ok (.iaload, 1) := by decide +kernel
theorem dX4_lookAhead_30 : decode cX4_lookAhead 30 = .ok (.iload 5, 2) := by decide +kernel
theorem dX4_lookAhead_32 : decode cX4_lookAhead 32 = .ok (.ishr, 1) := by decide +kernel
theorem dX4_lookAhead_33 : decode cX4_lookAhead 33 = .ok (.iconst 1, 1) := by decide +kernel
theorem dX4_lookAhead_34 : decode cX4_lookAhead 34 = .ok (.iand, 1) := by decide +kernel
theorem dX4_lookAhead_35 : decode cX4_lookAhead 35 = .ok (.iconst 1, 1) := by decide +kernel
theorem dX4_lookAhead_36 : decode cX4_lookAhead 36 = .ok (.if_icmp .ne 47, 3) := by decide +kernel
theorem dX4_lookAhead_39 : decode cX4_lookAhead 39 = .ok (.iload_n 2, 1) := by decide +kernel
theorem dX4_lookAhead_40 : decode cX4_lookAhead 40 = .ok (.aload_n 0, 1) := by decide +kernel
theorem dX4_lookAhead_41 : decode cX4_lookAhead 41 = .ok (.getfield 16, 3) := by decide +kernel
theorem dX4_lookAhead_44 : decode cX4_lookAhead 44 = .ok (.iload_n 1, 1) := by decide +kernel
theorem dX4_lookAhead_45 : decode cX4_lookAhead 45 = .ok (.aaload, 1) := by decide +kernel
theorem dX4_lookAhead_46 : decode cX4_lookAhead 46 = .ok (.iload 5, 2) := by decide +kernel
theorem dX4_lookAhead_48 : decode cX4_lookAhead 48 = .ok (.iaload, 1) := by decide +kernel
theorem dX4_lookAhead_49 : decode cX4_lookAhead 49 = .ok (.invokestatic 111, 3) := by decide +kernel
theorem dX4_lookAhead_52 : decode cX4_lookAhead 52 = .ok (.istore_n 2, 1) := by decide +kernel
theorem dX4_lookAhead_53 : decode cX4_lookAhead 53 = .ok (.iload_n 3, 1) := by decide +kernel
theorem dX4_lookAhead_54 : decode cX4_lookAhead 54 = .ok (.aload_n 0, 1) := by decide +kernel
theorem dX4_lookAhead_55 : decode cX4_lookAhead 55 = .ok (.getfield 13, 3) := by decide +kernel
theorem dX4_lookAhead_58 : decode cX4_lookAhead 58 = .ok (.iload_n 1, 1) := by decide +kernel
theorem dX4_lookAhead_59 : decode cX4_lookAhead 59 = .ok (.aaload, 1) := by decide +kernel
theorem dX4_lookAhead_60 : decode cX4_lookAhead 60 = .ok (.iload 5, 2) := by decide +kernel
theorem dX4_lookAhead_62 : decode cX4_lookAhead 62 = .ok (.iaload, 1) := by decide +kernel
theorem dX4_lookAhead_63 : decode cX4_lookAhead 63 = .ok (.invokestatic 116, 3) := by decide +kernel
theorem dX4_lookAhead_66 : decode cX4_lookAhead 66 = .ok (.istore_n 3, 1) := by decide +kernel
theorem dX4_lookAhead_67 : decode cX4_lookAhead 67 = .ok (.iload 4, 2) := by decide +kernel
theorem dX4_lookAhead_69 : decode cX4_lookAhead 69 = .ok (.aload_n 0, 1) := by decide +kernel
theorem dX4_lookAhead_70 : decode cX4_lookAhead 70 = .ok (.getfield 13, 3) := by decide +kernel
theorem dX4_lookAhead_73 : decode cX4_lookAhead 73 = .ok (.iload_n 1, 1) := by decide +kernel
theorem dX4_lookAhead_74 : decode cX4_lookAhead 74 = .ok (.aaload, 1) := by decide +kernel
theorem dX4_lookAhead_75 : decode cX4_lookAhead 75 = .ok (.iload 5, 2) := by decide +kernel
theorem dX4_lookAhead_77 : decode cX4_lookAhead 77 = .ok (.iaload, 1) := by decide +kernel
theorem dX4_lookAhead_78 : decode cX4_lookAhead 78 = .ok (.invokestatic 111, 3) := by decide +kernel
theorem dX4_lookAhead_81 : decode cX4_lookAhead 81 = .ok (.istore 4, 2) := by decide +kernel
theorem dX4_lookAhead_83 : decode cX4_lookAhead 83 = .ok (.iinc 5 1, 3) := by decide +kernel
theorem dX4_lookAhead_86 : decode cX4_lookAhead 86 = .ok (.goto (-74), 3) := by decide +kernel
theorem dX4_lookAhead_89 : decode cX4_lookAhead 89 = .ok (.aload_n 0, 1) := by decide +kernel
theorem dX4_lookAhead_90 : decode cX4_lookAhead 90 = .ok (.getfield 79, 3) := by decide +kernel
theorem dX4_lookAhead_93 : decode cX4_lookAhead 93 = .ok (.iconst 2, 1) := by decide +kernel
theorem dX4_lookAhead_94 : decode cX4_lookAhead 94 = .ok (.if_icmp .ne 21, 3) := by decide +kernel
theorem dX4_lookAhead_97 : decode cX4_lookAhead 97 = .ok (.aload_n 0, 1) := by decide +kernel
theorem dX4_lookAhead_98 : decode cX4_lookAhead 98 = .ok (.getfield 19, 3) := by decide +kernel
theorem dX4_lookAhead_101 : decode cX4_lookAhead 101 = .ok (.iload_n 1, 1) := by decide +kernel
theorem dX4_lookAhead_102 : decode cX4_lookAhead 102 = .ok (.iaload, 1) := by decide +kernel
theorem dX4_lookAhead_103 : decode cX4_lookAhead 103 = .ok (.iconst 1, 1) := by decide +kernel
theorem dX4_lookAhead_104 : decode cX4_lookAhead 104 = .ok (.if_icmp .eq 7, 3) := by decide +kernel
theorem dX4_lookAhead_107 : decode cX4_lookAhead 107 = .ok (.iconst 1, 1) := by decide +kernel
theorem dX4_lookAhead_108 : decode cX4_lookAhead 108 = .ok (.goto 23, 3) := by decide +kernel
theorem dX4_lookAhead_111 : decode cX4_lookAhead 111 = .ok (.iconst 0, 1) := by decide +kernel
theorem dX4_lookAhead_112 : decode cX4_lookAhead 112 = .ok (.goto 19, 3) := by decide +kernel
theorem dX4_lookAhead_115 : decode cX4_lookAhead 115 = .ok (.aload_n 0, 1) := by decide +kernel
theorem dX4_lookAhead_116 : decode cX4_lookAhead 116 = .ok (.getfield 19, 3) := by decide +kernel
theorem dX4_lookAhead_119 : decode cX4_lookAhead 119 = .ok (.iload_n 1, 1) := by decide +kernel
theorem dX4_lookAhead_120 : decode cX4_lookAhead 120 = .ok (.iaload, 1) := by decide +kernel
theorem dX4_lookAhead_121 : decode cX4_lookAhead 121 = .ok (.iconst 1, 1) := by decide +kernel
theorem dX4_lookAhead_122 : decode cX4_lookAhead 122 = .ok (.iand, 1) := by decide +kernel
theorem dX4_lookAhead_123 : decode cX4_lookAhead 123 = .ok (.ifCond .ne 7, 3) := by decide +kernel
theorem dX4_lookAhead_126 : decode cX4_lookAhead 126 = .ok (.iconst 1, 1) := by decide +kernel
theorem dX4_lookAhead_127 : decode cX4_lookAhead 127 = .ok (.goto 4, 3) := by decide +kernel
theorem dX4_lookAhead_130 : decode cX4_lookAhead 130 = .ok (.iconst 0, 1) := by decide +kernel
theorem dX4_lookAhead_131 : decode cX4_lookAhead 131 = .ok (.istore 5, 2) := by decide +kernel
theorem dX4_lookAhead_133 : decode cX4_lookAhead 133 = .ok (.aload_n 0, 1) := by decide +kernel
theorem dX4_lookAhead_134 : decode cX4_lookAhead 134 = .ok (.getfield 32, 3) := by decide +kernel
theorem dX4_lookAhead_137 : decode cX4_lookAhead 137 = .ok (.iload_n 1, 1) := by decide +kernel
theorem dX4_lookAhead_138 : decode cX4_lookAhead 138 = .ok (.aload_n 0, 1) := by decide +kernel
theorem dX4_lookAhead_139 : decode cX4_lookAhead 139 = .ok (.getfield 32, 3) := by decide +kernel
theorem dX4_lookAhead_142 : decode cX4_lookAhead 142 = .ok (.iload_n 1, 1) := by decide +kernel
theorem dX4_lookAhead_143 : decode cX4_lookAhead 143 = .ok (.iconst 1, 1) := by decide +kernel
theorem dX4_lookAhead_144 : decode cX4_lookAhead 144 = .ok (.iadd, 1) := by decide +kernel
theorem dX4_lookAhead_145 : decode cX4_lookAhead 145 = .ok (.iaload, 1) := by decide +kernel
theorem dX4_lookAhead_146 : decode cX4_lookAhead 146 = .ok (.iload 5, 2) := by decide +kernel
theorem dX4_lookAhead_148 : decode cX4_lookAhead 148 = .ok (.ifCond .eq 7, 3) := by decide +kernel
theorem dX4_lookAhead_151 : decode cX4_lookAhead 151 = .ok (.iconst 1, 1) := by decide +kernel
theorem dX4_lookAhead_152 : decode cX4_lookAhead 152 = .ok (.goto 4, 3) := by decide +kernel
theorem dX4_lookAhead_155 : decode cX4_lookAhead 155 = .ok (.iconst 0, 1) := by decide +kernel
theorem dX4_lookAhead_156 : decode cX4_lookAhead 156 = .ok (.iadd, 1) := by decide +kernel
theorem dX4_lookAhead_157 : decode cX4_lookAhead 157 = .ok (.iastore, 1) := by decide +kernel
theorem dX4_lookAhead_158 : decode cX4_lookAhead 158 = .ok (.aload_n 0, 1) := by decide +kernel
theorem dX4_lookAhead_159 : decode cX4_lookAhead 159 = .ok (.getfield 35, 3) := by decide +kernel
theorem dX4_lookAhead_162 : decode cX4_lookAhead 162 = .ok (.iload_n 1, 1) := by decide +kernel
theorem dX4_lookAhead_163 : decode cX4_lookAhead 163 = .ok (.aload_n 0, 1) := by decide +kernel
theorem dX4_lookAhead_164 : decode cX4_lookAhead 164 = .ok (.getfield 35, 3) := by decide +kernel
theorem dX4_lookAhead_167 : decode cX4_lookAhead 167 = .ok (.iload_n 1, 1) := by decide +kernel
theorem dX4_lookAhead_168 : decode cX4_lookAhead 168 = .ok (.iconst 1, 1) := by decide +kernel
theorem dX4_lookAhead_169 : decode cX4_lookAhead 169 = .ok (.iadd, 1) := by decide +kernel
theorem dX4_lookAhead_170 : decode cX4_lookAhead 170 = .ok (.iaload, 1) := by decide +kernel
theorem dX4_lookAhead_171 : decode cX4_lookAhead 171 = .ok (.iload_n 2, 1) := by decide +kernel
theorem dX4_lookAhead_172 : decode cX4_lookAhead 172 = .ok (.iadd, 1) := by decide +kernel
theorem dX4_lookAhead_173 : decode cX4_lookAhead 173 = .ok (.iastore, 1) := by decide +kernel
theorem dX4_lookAhead_174 : decode cX4_lookAhead 174 = .ok (.aload_n 0, 1) := by decide +kernel
theorem dX4_lookAhead_175 : decode cX4_lookAhead 175 = .ok (.getfield 38, 3) := by decide +kernel
theorem dX4_lookAhead_178 : decode cX4_lookAhead 178 = .ok (.iload_n 1, 1) := by decide +kernel
theorem dX4_lookAhead_179 : decode cX4_lookAhead 179 = .ok (.aload_n 0, 1) := by decide +kernel
theorem dX4_lookAhead_180 : decode cX4_lookAhead 180 = .ok (.getfield 38, 3) := by decide +kernel
theorem dX4_lookAhead_183 : decode cX4_lookAhead 183 = .ok (.iload_n 1, 1) := by decide +kernel
theorem dX4_lookAhead_184 : decode cX4_lookAhead 184 = .ok (.iconst 1, 1) := by decide +kernel
theorem dX4_lookAhead_185 : decode cX4_lookAhead 185 = .ok (.iadd, 1) := by decide +kernel
theorem dX4_lookAhead_186 : decode cX4_lookAhead 186 = .ok (.iaload, 1) := by decide +kernel
theorem dX4_lookAhead_187 : decode cX4_lookAhead 187 = .ok (.iload 4, 2) := by decide +kernel
theorem dX4_lookAhead_189 : decode cX4_lookAhead 189 = .ok (.invokestatic 116, 3) := by decide +kernel
theorem dX4_lookAhead_192 : decode cX4_lookAhead 192 = .ok (.iastore, 1) := by decide +kernel
theorem dX4_lookAhead_193 : decode cX4_lookAhead 193 = .ok (.aload_n 0, 1) := by decide +kernel
theorem dX4_lookAhead_194 : decode cX4_lookAhead 194 = .ok (.getfield 41, 3) := by decide +kernel
theorem dX4_lookAhead_197 : decode cX4_lookAhead 197 = .ok (.iload_n 1, 1) := by decide +kernel
theorem dX4_lookAhead_198 : decode cX4_lookAhead 198 = .ok (.aload_n 0, 1) := by decide +kernel
theorem dX4_lookAhead_199 : decode cX4_lookAhead 199 = .ok (.getfield 41, 3) := by decide +kernel
theorem dX4_lookAhead_202 : decode cX4_lookAhead 202 = .ok (.iload_n 1, 1) := by decide +kernel
theorem dX4_lookAhead_203 : decode cX4_lookAhead 203 = .ok (.iconst 1, 1) := by decide +kernel
theorem dX4_lookAhead_204 : decode cX4_lookAhead 204 = .ok (.iadd, 1) := by decide +kernel
theorem dX4_lookAhead_205 : decode cX4_lookAhead 205 = .ok (.iaload, 1) := by decide +kernel
theorem dX4_lookAhead_206 : decode cX4_lookAhead 206 = .ok (.iload_n 3, 1) := by decide +kernel
theorem dX4_lookAhead_207 : decode cX4_lookAhead 207 = .ok (.invokestatic 111, 3) := by decide +kernel
theorem dX4_lookAhead_210 : decode cX4_lookAhead 210 = .ok (.iastore, 1) := by decide +kernel
theorem dX4_lookAhead_211 : decode cX4_lookAhead 211 = .ok (.return_, 1) := by decide +kernel
theorem dX4_sit_0 : decode cX4_sit 0 = .ok (.aload_n 0, 1) := by decide +kernel
theorem dX4_sit_1 : decode cX4_sit 1 = .ok (.iload_n 1, 1) := by decide +kernel
theorem dX4_sit_2 : decode cX4_sit 2 = .ok (.iload_n 3, 1) := by decide +kernel
theorem dX4_sit_3 : decode cX4_sit 3 = .ok (.iload 4, 2) := by decide +kernel
theorem dX4_sit_5 : decode cX4_sit 5 = .ok (.iload 5, 2) := by decide +kernel
theorem dX4_sit_7 : decode cX4_sit 7 = .ok (.invokevirtual 119, 3) := by decide +kernel
theorem dX4_sit_10 : decode cX4_sit 10 = .ok (.istore 6, 2) := by decide +kernel
theorem dX4_sit_12 : decode cX4_sit 12 = .ok (.aload_n 0, 1) := by decide +kernel
theorem dX4_sit_13 : decode cX4_sit 13 = .ok (.iload 6, 2) := by decide +kernel
theorem dX4_sit_15 : decode cX4_sit 15 = .ok (.iload_n 2, 1) := by decide +kernel
theorem dX4_sit_16 : decode cX4_sit 16 = .ok (.aload_n 0, 1) := by decide +kernel
theorem dX4_sit_17 : decode cX4_sit 17 = .ok (.getfield 32, 3) := by decide +kernel
theorem dX4_sit_20 : decode cX4_sit 20 = .ok (.iload_n 1, 1) := by decide +kernel
theorem dX4_sit_21 : decode cX4_sit 21 = .ok (.iaload, 1) := by decide +kernel
theorem dX4_sit_22 : decode cX4_sit 22 = .ok (.iadd, 1) := by decide +kernel
theorem dX4_sit_23 : decode cX4_sit 23 = .ok (.invokevirtual 123, 3) := by decide +kernel
theorem dX4_sit_26 : decode cX4_sit 26 = .ok (.ifCond .ne 4, 3) := by decide +kernel
theorem dX4_sit_29 : decode cX4_sit 29 = .ok (.return_, 1) := by decide +kernel
theorem dX4_sit_30 : decode cX4_sit 30 = .ok (.iload_n 1, 1) := by decide +kernel
theorem dX4_sit_31 : decode cX4_sit 31 = .ok (.aload_n 0, 1) := by decide +kernel
theorem dX4_sit_32 : decode cX4_sit 32 = .ok (.getfield 44, 3) := by decide +kernel
theorem dX4_sit_35 : decode cX4_sit 35 = .ok (.getfield 52, 3) := by decide +kernel
theorem dX4_sit_38 : decode cX4_sit 38 = .ok (.if_icmp .lt 11, 3) := by decide +kernel
theorem dX4_sit_41 : decode cX4_sit 41 = .ok (.aload_n 0, 1) := by decide +kernel
theorem dX4_sit_42 : decode cX4_sit 42 = .ok (.iload 6, 2) := by decide +kernel
theorem dX4_sit_44 : decode cX4_sit 44 = .ok (.iload_n 2, 1) := by decide +kernel
theorem dX4_sit_45 : decode cX4_sit 45 = .ok (.invokevirtual 126, 3) := by decide +kernel
theorem dX4_sit_48 : decode cX4_sit 48 = .ok (.return_, 1) := by decide +kernel
theorem dX4_sit_49 : decode cX4_sit 49 = .ok (.iconst 0, 1) := by decide +kernel
theorem dX4_sit_50 : decode cX4_sit 50 = .ok (.istore 7, 2) := by decide +kernel
theorem dX4_sit_52 : decode cX4_sit 52 = .ok (.iload 7, 2) := by decide +kernel
theorem dX4_sit_54 : decode cX4_sit 54 = .ok (.aload_n 0, 1) := by decide +kernel
theorem dX4_sit_55 : decode cX4_sit 55 = .ok (.getfield 44, 3) := by decide +kernel
theorem dX4_sit_58 : decode cX4_sit 58 = .ok (.getfield 88, 3) := by decide +kernel
theorem dX4_sit_61 : decode cX4_sit 61 = .ok (.if_icmp .gt 119, 3) := by decide +kernel
theorem dX4_sit_64 : decode cX4_sit 64 = .ok (.aload_n 0, 1) := by decide +kernel
theorem dX4_sit_65 : decode cX4_sit 65 = .ok (.getfield 19, 3) := by decide +kernel
theorem dX4_sit_68 : decode cX4_sit 68 = .ok (.iload_n 1, 1) := by decide +kernel
theorem dX4_sit_69 : decode cX4_sit 69 = .ok (.iaload, 1) := by decide +kernel
theorem dX4_sit_70 : decode cX4_sit 70 = .ok (.iload 7, 2) := by decide +kernel
theorem dX4_sit_72 : decode cX4_sit 72 = .ok (.ishr, 1) := by decide +kernel
theorem dX4_sit_73 : decode cX4_sit 73 = .ok (.iconst 1, 1) := by decide +kernel
theorem dX4_sit_74 : decode cX4_sit 74 = .ok (.iand, 1) := by decide +kernel
theorem dX4_sit_75 : decode cX4_sit 75 = .ok (.iconst 1, 1) := by decide +kernel
theorem dX4_sit_76 : decode cX4_sit 76 = .ok (.if_icmp .ne 98, 3) := by decide +kernel
theorem dX4_sit_79 : decode cX4_sit 79 = .ok (.aload_n 0, 1) := by decide +kernel
theorem dX4_sit_80 : decode cX4_sit 80 = .ok (.getfield 23, 3) := by decide +kernel
theorem dX4_sit_83 : decode cX4_sit 83 = .ok (.iload 7, 2) := by decide +kernel
theorem dX4_sit_85 : decode cX4_sit 85 = .ok (.iaload, 1) := by decide +kernel
theorem dX4_sit_86 : decode cX4_sit 86 = .ok (.ifCond .le 88, 3) := by decide +kernel
theorem dX4_sit_89 : decode cX4_sit 89 = .ok (.aload_n 0, 1) := by decide +kernel
theorem dX4_sit_90 : decode cX4_sit 90 = .ok (.getfield 23, 3) := by decide +kernel
theorem dX4_sit_93 : decode cX4_sit 93 = .ok (.iload 7, 2) := by decide +kernel
theorem dX4_sit_95 : decode cX4_sit 95 = .ok (.dup2, 1) := by decide +kernel
theorem dX4_sit_96 : decode cX4_sit 96 = .ok (.iaload, 1) := by decide +kernel
theorem dX4_sit_97 : decode cX4_sit 97 = .ok (.iconst 1, 1) := by decide +kernel
theorem dX4_sit_98 : decode cX4_sit 98 = .ok (.isub, 1) := by decide +kernel
theorem dX4_sit_99 : decode cX4_sit 99 = .ok (.iastore, 1) := by decide +kernel
theorem dX4_sit_100 : decode cX4_sit 100 = .ok (.aload_n 0, 1) := by decide +kernel
theorem dX4_sit_101 : decode cX4_sit 101 = .ok (.getfield 26, 3) := by decide +kernel
theorem dX4_sit_104 : decode cX4_sit 104 = .ok (.iload_n 1, 1) := by decide +kernel
theorem dX4_sit_105 : decode cX4_sit 105 = .ok (.iload 7, 2) := by decide +kernel
theorem dX4_sit_107 : decode cX4_sit 107 = .ok (.iastore, 1) := by decide +kernel
theorem dX4_sit_108 : decode cX4_sit 108 = .ok (.aload_n 0, 1) := by decide +kernel
theorem dX4_sit_109 : decode cX4_sit 109 = .ok (.getfield 13, 3) := by decide +kernel
theorem dX4_sit_112 : decode cX4_sit 112 = .ok (.iload_n 1, 1) := by decide +kernel
theorem dX4_sit_113 : decode cX4_sit 113 = .ok (.aaload, 1) := by decide +kernel
theorem dX4_sit_114 : decode cX4_sit 114 = .ok (.iload 7, 2) := by decide +kernel
theorem dX4_sit_116 : decode cX4_sit 116 = .ok (.iaload, 1) := by decide +kernel
theorem dX4_sit_117 : decode cX4_sit 117 = .ok (.istore 8, 2) := by decide +kernel
theorem dX4_sit_119 : decode cX4_sit 119 = .ok (.aload_n 0, 1) := by decide +kernel
theorem dX4_sit_120 : decode cX4_sit 120 = .ok (.iload_n 1, 1) := by decide +kernel
theorem dX4_sit_121 : decode cX4_sit 121 = .ok (.iconst 1, 1) := by decide +kernel
theorem dX4_sit_122 : decode cX4_sit 122 = .ok (.iadd, 1) := by decide +kernel
theorem dX4_sit_123 : decode cX4_sit 123 = .ok (.iload 7, 2) := by decide +kernel
theorem dX4_sit_125 : decode cX4_sit 125 = .ok (.ifCond .ne 7, 3) := by decide +kernel
theorem dX4_sit_128 : decode cX4_sit 128 = .ok (.iload_n 2, 1) := by decide +kernel
theorem dX4_sit_129 : decode cX4_sit 129 = .ok (.goto 6, 3) := by decide +kernel
theorem dX4_sit_132 : decode cX4_sit 132 = .ok (.iload_n 2, 1) := by decide +kernel
theorem dX4_sit_133 : decode cX4_sit 133 = .ok (.iconst 1, 1) := by decide +kernel
theorem dX4_sit_134 : decode cX4_sit 134 = .ok (.iadd, 1) := by decide +kernel
theorem dX4_sit_135 : decode cX4_sit 135 = .ok (.iload_n 3, 1) := by decide +kernel
theorem dX4_sit_136 : decode cX4_sit 136 = .ok (.iload 8, 2) := by decide +kernel
theorem dX4_sit_138 : decode cX4_sit 138 = .ok (.invokestatic 116, 3) := by decide +kernel
theorem dX4_sit_141 : decode cX4_sit 141 = .ok (.iload 4, 2) := by decide +kernel
theorem dX4_sit_143 : decode cX4_sit 143 = .ok (.iload 8, 2) := by decide +kernel
theorem dX4_sit_145 : decode cX4_sit 145 = .ok (.invokestatic 111, 3) := by decide +kernel
theorem dX4_sit_148 : decode cX4_sit 148 = .ok (.iload 5, 2) := by decide +kernel
theorem dX4_sit_150 : decode cX4_sit 150 = .ok (.aload_n 0, 1) := by decide +kernel
theorem dX4_sit_151 : decode cX4_sit 151 = .ok (.getfield 16, 3) := by decide +kernel
theorem dX4_sit_154 : decode cX4_sit 154 = .ok (.iload_n 1, 1) := by decide +kernel
theorem dX4_sit_155 : decode cX4_sit 155 = .ok (.aaload, 1) := by decide +kernel
theorem dX4_sit_156 : decode cX4_sit 156 = .ok (.iload 7, 2) := by decide +kernel
theorem dX4_sit_158 : decode cX4_sit 158 = .ok (.iaload, 1) := by decide +kernel
theorem dX4_sit_159 : decode cX4_sit 159 = .ok (.iadd, 1) := by decide +kernel
theorem dX4_sit_160 : decode cX4_sit 160 = .ok (.invokevirtual 67, 3) := by decide +kernel
theorem dX4_sit_163 : decode cX4_sit 163 = .ok (.aload_n 0, 1) := by decide +kernel
theorem dX4_sit_164 : decode cX4_sit 164 = .ok (.getfield 23, 3) := by decide +kernel
theorem dX4_sit_167 : decode cX4_sit 167 = .ok (.iload 7, 2) := by decide +kernel
theorem dX4_sit_169 : decode cX4_sit 169 = .ok (.dup2, 1) := by decide +kernel
theorem dX4_sit_170 : decode cX4_sit 170 = .ok (.iaload, 1) := by decide +kernel
theorem dX4_sit_171 : decode cX4_sit 171 = .ok (.iconst 1, 1) := by decide +kernel
theorem dX4_sit_172 : decode cX4_sit 172 = .ok (.iadd, 1) := by decide +kernel
theorem dX4_sit_173 : decode cX4_sit 173 = .ok (.iastore, 1) := by decide +kernel
theorem dX4_sit_174 : decode cX4_sit 174 = .ok (.iinc 7 1, 3) := by decide +kernel
theorem dX4_sit_177 : decode cX4_sit 177 = .ok (.goto (-125), 3) := by decide +kernel
theorem dX4_sit_180 : decode cX4_sit 180 = .ok (.return_, 1) := by decide +kernel
theorem dX4_leastCost_0 : decode cX4_leastCost 0 = .ok (.aload_n 0, 1) := by decide +kernel
theorem dX4_leastCost_1 : decode cX4_leastCost 1 = .ok (.getfield 79, 3) := by decide +kernel
theorem dX4_leastCost_4 : decode cX4_leastCost 4 = .ok (.lookupswitch 56 #[(0, 28), (1, 30)], 28) := by decide +kernel
theorem dX4_leastCost_32 : decode cX4_leastCost 32 = .ok (.iconst 0, 1) := by decide +kernel
theorem dX4_leastCost_33 : decode cX4_leastCost 33 = .ok (.ireturn, 1) := by decide +kernel
theorem dX4_leastCost_34 : decode cX4_leastCost 34 = .ok (.iconst 0, 1) := by decide +kernel
theorem dX4_leastCost_35 : decode cX4_leastCost 35 = .ok (.iload_n 3, 1) := by decide +kernel
theorem dX4_leastCost_36 : decode cX4_leastCost 36 = .ok (.aload_n 0, 1) := by decide +kernel
theorem dX4_leastCost_37 : decode cX4_leastCost 37 = .ok (.getfield 41, 3) := by decide +kernel
theorem dX4_leastCost_40 : decode cX4_leastCost 40 = .ok (.iload_n 1, 1) := by decide +kernel
theorem dX4_leastCost_41 : decode cX4_leastCost 41 = .ok (.iaload, 1) := by decide +kernel
theorem dX4_leastCost_42 : decode cX4_leastCost 42 = .ok (.invokestatic 111, 3) := by decide +kernel
theorem dX4_leastCost_45 : decode cX4_leastCost 45 = .ok (.iload_n 2, 1) := by decide +kernel
theorem dX4_leastCost_46 : decode cX4_leastCost 46 = .ok (.aload_n 0, 1) := by decide +kernel
theorem dX4_leastCost_47 : decode cX4_leastCost 47 = .ok (.getfield 38, 3) := by decide +kernel
theorem dX4_leastCost_50 : decode cX4_leastCost 50 = .ok (.iload_n 1, 1) := by decide +kernel
theorem dX4_leastCost_51 : decode cX4_leastCost 51 = .ok (.iaload, 1) := by decide +kernel
theorem dX4_leastCost_52 : decode cX4_leastCost 52 = .ok (.invokestatic 116, 3) := by decide +kernel
theorem dX4_leastCost_55 : decode cX4_leastCost 55 = .ok (.isub, 1) := by decide +kernel
theorem dX4_leastCost_56 : decode cX4_leastCost 56 = .ok (.invokestatic 111, 3) := by decide +kernel
theorem dX4_leastCost_59 : decode cX4_leastCost 59 = .ok (.ireturn, 1) := by decide +kernel
theorem dX4_leastCost_60 : decode cX4_leastCost 60 = .ok (.iload 4, 2) := by decide +kernel
theorem dX4_leastCost_62 : decode cX4_leastCost 62 = .ok (.ineg, 1) := by decide +kernel
theorem dX4_leastCost_63 : decode cX4_leastCost 63 = .ok (.aload_n 0, 1) := by decide +kernel
theorem dX4_leastCost_64 : decode cX4_leastCost 64 = .ok (.getfield 35, 3) := by decide +kernel
theorem dX4_leastCost_67 : decode cX4_leastCost 67 = .ok (.iload_n 1, 1) := by decide +kernel
theorem dX4_leastCost_68 : decode cX4_leastCost 68 = .ok (.iaload, 1) := by decide +kernel
theorem dX4_leastCost_69 : decode cX4_leastCost 69 = .ok (.isub, 1) := by decide +kernel
theorem dX4_leastCost_70 : decode cX4_leastCost 70 = .ok (.ireturn, 1) := by decide +kernel
theorem dX4_isBetter_0 : decode cX4_isBetter 0 = .ok (.iload_n 1, 1) := by decide +kernel
theorem dX4_isBetter_1 : decode cX4_isBetter 1 = .ok (.aload_n 0, 1) := by decide +kernel
theorem dX4_isBetter_2 : decode cX4_isBetter 2 = .ok (.getfield 82, 3) := by decide +kernel
theorem dX4_isBetter_5 : decode cX4_isBetter 5 = .ok (.if_icmp .lt 19, 3) := by decide +kernel
theorem dX4_isBetter_8 : decode cX4_isBetter 8 = .ok (.iload_n 1, 1) := by decide +kernel
theorem dX4_isBetter_9 : decode cX4_isBetter 9 = .ok (.aload_n 0, 1) := by decide +kernel
theorem dX4_isBetter_10 : decode cX4_isBetter 10 = .ok (.getfield 82, 3) := by decide +kernel
theorem dX4_isBetter_13 : decode cX4_isBetter 13 = .ok (.if_icmp .ne 15, 3) := by decide +kernel
theorem dX4_isBetter_16 : decode cX4_isBetter 16 = .ok (.iload_n 2, 1) := by decide +kernel
theorem dX4_isBetter_17 : decode cX4_isBetter 17 = .ok (.aload_n 0, 1) := by decide +kernel
theorem dX4_isBetter_18 : decode cX4_isBetter 18 = .ok (.getfield 85, 3) := by decide +kernel
theorem dX4_isBetter_21 : decode cX4_isBetter 21 = .ok (.if_icmp .ge 7, 3) := by decide +kernel
theorem dX4_isBetter_24 : decode cX4_isBetter 24 = .ok (.iconst 1, 1) := by decide +kernel
theorem dX4_isBetter_25 : decode cX4_isBetter 25 = .ok (.goto 4, 3) := by decide +kernel
theorem dX4_isBetter_28 : decode cX4_isBetter 28 = .ok (.iconst 0, 1) := by decide +kernel
theorem dX4_isBetter_29 : decode cX4_isBetter 29 = .ok (.ireturn, 1) := by decide +kernel
theorem dX4_keep_0 : decode cX4_keep 0 = .ok (.aload_n 0, 1) := by decide +kernel
theorem dX4_keep_1 : decode cX4_keep 1 = .ok (.iconst 1, 1) := by decide +kernel
theorem dX4_keep_2 : decode cX4_keep 2 = .ok (.putfield 71, 3) := by decide +kernel
theorem dX4_keep_5 : decode cX4_keep 5 = .ok (.aload_n 0, 1) := by decide +kernel
theorem dX4_keep_6 : decode cX4_keep 6 = .ok (.iload_n 1, 1) := by decide +kernel
theorem dX4_keep_7 : decode cX4_keep 7 = .ok (.putfield 82, 3) := by decide +kernel
theorem dX4_keep_10 : decode cX4_keep 10 = .ok (.aload_n 0, 1) := by decide +kernel
theorem dX4_keep_11 : decode cX4_keep 11 = .ok (.iload_n 2, 1) := by decide +kernel
theorem dX4_keep_12 : decode cX4_keep 12 = .ok (.putfield 85, 3) := by decide +kernel
theorem dX4_keep_15 : decode cX4_keep 15 = .ok (.aload_n 0, 1) := by decide +kernel
theorem dX4_keep_16 : decode cX4_keep 16 = .ok (.getfield 26, 3) := by decide +kernel
theorem dX4_keep_19 : decode cX4_keep 19 = .ok (.iconst 0, 1) := by decide +kernel
theorem dX4_keep_20 : decode cX4_keep 20 = .ok (.aload_n 0, 1) := by decide +kernel
theorem dX4_keep_21 : decode cX4_keep 21 = .ok (.getfield 29, 3) := by decide +kernel
theorem dX4_keep_24 : decode cX4_keep 24 = .ok (.iconst 0, 1) := by decide +kernel
theorem dX4_keep_25 : decode cX4_keep 25 = .ok (.bipush 6, 2) := by decide +kernel
theorem dX4_keep_27 : decode cX4_keep 27 = .ok (.invokestatic 130, 3) := by decide +kernel
theorem dX4_keep_30 : decode cX4_keep 30 = .ok (.return_, 1) := by decide +kernel
theorem dX5_init_0 : decode cX5_init 0 = .ok (.aload_n 0, 1) := by decide +kernel
theorem dX5_init_1 : decode cX5_init 1 = .ok (.invokespecial 3, 3) := by decide +kernel
theorem dX5_init_4 : decode cX5_init 4 = .ok (.aload_n 0, 1) := by decide +kernel
theorem dX5_init_5 : decode cX5_init 5 = .ok (.bipush 100, 2) := by decide +kernel
theorem dX5_init_7 : decode cX5_init 7 = .ok (.newarray .int, 2) := by decide +kernel
theorem dX5_init_9 : decode cX5_init 9 = .ok (.putfield 9, 3) := by decide +kernel
theorem dX5_init_12 : decode cX5_init 12 = .ok (.aload_n 0, 1) := by decide +kernel
theorem dX5_init_13 : decode cX5_init 13 = .ok (.bipush 10, 2) := by decide +kernel
theorem dX5_init_15 : decode cX5_init 15 = .ok (.newarray .int, 2) := by decide +kernel
theorem dX5_init_17 : decode cX5_init 17 = .ok (.putfield 15, 3) := by decide +kernel
theorem dX5_init_20 : decode cX5_init 20 = .ok (.aload_n 0, 1) := by decide +kernel
theorem dX5_init_21 : decode cX5_init 21 = .ok (.bipush 10, 2) := by decide +kernel
theorem dX5_init_23 : decode cX5_init 23 = .ok (.newarray .int, 2) := by decide +kernel
theorem dX5_init_25 : decode cX5_init 25 = .ok (.putfield 18, 3) := by decide +kernel
theorem dX5_init_28 : decode cX5_init 28 = .ok (.aload_n 0, 1) := by decide +kernel
theorem dX5_init_29 : decode cX5_init 29 = .ok (.invokevirtual 21, 3) := by decide +kernel
theorem dX5_init_32 : decode cX5_init 32 = .ok (.return_, 1) := by decide +kernel
theorem dX5_forget_0 : decode cX5_forget 0 = .ok (.aload_n 0, 1) := by decide +kernel
theorem dX5_forget_1 : decode cX5_forget 1 = .ok (.bipush 18, 2) := by decide +kernel
theorem dX5_forget_3 : decode cX5_forget 3 = .ok (.putfield 24, 3) := by decide +kernel
theorem dX5_forget_6 : decode cX5_forget 6 = .ok (.aload_n 0, 1) := by decide +kernel
theorem dX5_forget_7 : decode cX5_forget 7 = .ok (.bipush 60, 2) := by decide +kernel
theorem dX5_forget_9 : decode cX5_forget 9 = .ok (.putfield 28, 3) := by decide +kernel
theorem dX5_forget_12 : decode cX5_forget 12 = .ok (.aload_n 0, 1) := by decide +kernel
theorem dX5_forget_13 : decode cX5_forget 13 = .ok (.iconst 0, 1) := by decide +kernel
theorem dX5_forget_14 : decode cX5_forget 14 = .ok (.putfield 31, 3) := by decide +kernel
theorem dX5_forget_17 : decode cX5_forget 17 = .ok (.aload_n 0, 1) := by decide +kernel
theorem dX5_forget_18 : decode cX5_forget 18 = .ok (.iconst 0, 1) := by decide +kernel
theorem dX5_forget_19 : decode cX5_forget 19 = .ok (.putfield 34, 3) := by decide +kernel
theorem dX5_forget_22 : decode cX5_forget 22 = .ok (.return_, 1) := by decide +kernel
theorem dX5_addStep_0 : decode cX5_addStep 0 = .ok (.aload_n 0, 1) := by decide +kernel
theorem dX5_addStep_1 : decode cX5_addStep 1 = .ok (.getfield 34, 3) := by decide +kernel
theorem dX5_addStep_4 : decode cX5_addStep 4 = .ok (.aload_n 0, 1) := by decide +kernel
theorem dX5_addStep_5 : decode cX5_addStep 5 = .ok (.getfield 9, 3) := by decide +kernel
theorem dX5_addStep_8 : decode cX5_addStep 8 = .ok (.arraylength, 1) := by decide +kernel
theorem dX5_addStep_9 : decode cX5_addStep 9 = .ok (.if_icmp .ge 20, 3) := by decide +kernel
theorem dX5_addStep_12 : decode cX5_addStep 12 = .ok (.aload_n 0, 1) := by decide +kernel
theorem dX5_addStep_13 : decode cX5_addStep 13 = .ok (.getfield 9, 3) := by decide +kernel
theorem dX5_addStep_16 : decode cX5_addStep 16 = .ok (.aload_n 0, 1) := by decide +kernel
theorem dX5_addStep_17 : decode cX5_addStep 17 = .ok (.dup, 1) := by decide +kernel
theorem dX5_addStep_18 : decode cX5_addStep 18 = .ok (.getfield 34, 3) := by decide +kernel
theorem dX5_addStep_21 : decode cX5_addStep 21 = .ok (.dup_x1, 1) := by decide +kernel
theorem dX5_addStep_22 : decode cX5_addStep 22 = .ok (.iconst 1, 1) := by decide +kernel
theorem dX5_addStep_23 : decode cX5_addStep 23 = .ok (.iadd, 1) := by decide +kernel
theorem dX5_addStep_24 : decode cX5_addStep 24 = .ok (.putfield 34, 3) := by decide +kernel
theorem dX5_addStep_27 : decode cX5_addStep 27 = .ok (.iload_n 1, 1) := by decide +kernel
theorem dX5_addStep_28 : decode cX5_addStep 28 = .ok (.iastore, 1) := by decide +kernel
theorem dX5_addStep_29 : decode cX5_addStep 29 = .ok (.return_, 1) := by decide +kernel
theorem dX5_testStep_0 : decode cX5_testStep 0 = .ok (.iload_n 0, 1) := by decide +kernel
theorem dX5_testStep_1 : decode cX5_testStep 1 = .ok (.iconst 3, 1) := by decide +kernel
theorem dX5_testStep_2 : decode cX5_testStep 2 = .ok (.imul, 1) := by decide +kernel
theorem dX5_testStep_3 : decode cX5_testStep 3 = .ok (.iload_n 1, 1) := by decide +kernel
theorem dX5_testStep_4 : decode cX5_testStep 4 = .ok (.iadd, 1) := by decide +kernel
theorem dX5_testStep_5 : decode cX5_testStep 5 = .ok (.bipush 100, 2) := by decide +kernel
theorem dX5_testStep_7 : decode cX5_testStep 7 = .ok (.imul, 1) := by decide +kernel
theorem dX5_testStep_8 : decode cX5_testStep 8 = .ok (.iload_n 2, 1) := by decide +kernel
theorem dX5_testStep_9 : decode cX5_testStep 9 = .ok (.iadd, 1) := by decide +kernel
theorem dX5_testStep_10 : decode cX5_testStep 10 = .ok (.ireturn, 1) := by decide +kernel
theorem dX5_endClause_0 : decode cX5_endClause 0 = .ok (.aload_n 0, 1) := by decide +kernel
theorem dX5_endClause_1 : decode cX5_endClause 1 = .ok (.getfield 31, 3) := by decide +kernel
theorem dX5_endClause_4 : decode cX5_endClause 4 = .ok (.bipush 10, 2) := by decide +kernel
theorem dX5_endClause_6 : decode cX5_endClause 6 = .ok (.if_icmp .ge 36, 3) := by decide +kernel
theorem dX5_endClause_9 : decode cX5_endClause 9 = .ok (.aload_n 0, 1) := by decide +kernel
theorem dX5_endClause_10 : decode cX5_endClause 10 = .ok (.getfield 15, 3) := by decide +kernel
theorem dX5_endClause_13 : decode cX5_endClause 13 = .ok (.aload_n 0, 1) := by decide +kernel
theorem dX5_endClause_14 : decode cX5_endClause 14 = .ok (.getfield 31, 3) := by decide +kernel
theorem dX5_endClause_17 : decode cX5_endClause 17 = .ok (.iload_n 1, 1) := by decide +kernel
theorem dX5_endClause_18 : decode cX5_endClause 18 = .ok (.iastore, 1) := by decide +kernel
theorem dX5_endClause_19 : decode cX5_endClause 19 = .ok (.aload_n 0, 1) := by decide +kernel
theorem dX5_endClause_20 : decode cX5_endClause 20 = .ok (.getfield 18, 3) := by decide +kernel
theorem dX5_endClause_23 : decode cX5_endClause 23 = .ok (.aload_n 0, 1) := by decide +kernel
theorem dX5_endClause_24 : decode cX5_endClause 24 = .ok (.getfield 31, 3) := by decide +kernel
theorem dX5_endClause_27 : decode cX5_endClause 27 = .ok (.aload_n 0, 1) := by decide +kernel
theorem dX5_endClause_28 : decode cX5_endClause 28 = .ok (.getfield 34, 3) := by decide +kernel
theorem dX5_endClause_31 : decode cX5_endClause 31 = .ok (.iastore, 1) := by decide +kernel
theorem dX5_endClause_32 : decode cX5_endClause 32 = .ok (.aload_n 0, 1) := by decide +kernel
theorem dX5_endClause_33 : decode cX5_endClause 33 = .ok (.dup, 1) := by decide +kernel
theorem dX5_endClause_34 : decode cX5_endClause 34 = .ok (.getfield 31, 3) := by decide +kernel
theorem dX5_endClause_37 : decode cX5_endClause 37 = .ok (.iconst 1, 1) := by decide +kernel
theorem dX5_endClause_38 : decode cX5_endClause 38 = .ok (.iadd, 1) := by decide +kernel
theorem dX5_endClause_39 : decode cX5_endClause 39 = .ok (.putfield 31, 3) := by decide +kernel
theorem dX5_endClause_42 : decode cX5_endClause 42 = .ok (.return_, 1) := by decide +kernel
theorem dX5_nerveFor_0 : decode cX5_nerveFor 0 = .ok (.bipush 10, 2) := by decide +kernel
theorem dX5_nerveFor_2 : decode cX5_nerveFor 2 = .ok (.istore_n 2, 1) := by decide +kernel
theorem dX5_nerveFor_3 : decode cX5_nerveFor 3 = .ok (.iconst 0, 1) := by decide +kernel
theorem dX5_nerveFor_4 : decode cX5_nerveFor 4 = .ok (.istore_n 3, 1) := by decide +kernel
theorem dX5_nerveFor_5 : decode cX5_nerveFor 5 = .ok (.iconst 0, 1) := by decide +kernel
theorem dX5_nerveFor_6 : decode cX5_nerveFor 6 = .ok (.istore 4, 2) := by decide +kernel
theorem dX5_nerveFor_8 : decode cX5_nerveFor 8 = .ok (.iload 4, 2) := by decide +kernel
theorem dX5_nerveFor_10 : decode cX5_nerveFor 10 = .ok (.aload_n 0, 1) := by decide +kernel
theorem dX5_nerveFor_11 : decode cX5_nerveFor 11 = .ok (.getfield 31, 3) := by decide +kernel
theorem dX5_nerveFor_14 : decode cX5_nerveFor 14 = .ok (.if_icmp .ge 43, 3) := by decide +kernel
theorem dX5_nerveFor_17 : decode cX5_nerveFor 17 = .ok (.aload_n 0, 1) := by decide +kernel
theorem dX5_nerveFor_18 : decode cX5_nerveFor 18 = .ok (.aload_n 1, 1) := by decide +kernel
theorem dX5_nerveFor_19 : decode cX5_nerveFor 19 = .ok (.iload_n 3, 1) := by decide +kernel
theorem dX5_nerveFor_20 : decode cX5_nerveFor 20 = .ok (.aload_n 0, 1) := by decide +kernel
theorem dX5_nerveFor_21 : decode cX5_nerveFor 21 = .ok (.getfield 18, 3) := by decide +kernel
theorem dX5_nerveFor_24 : decode cX5_nerveFor 24 = .ok (.iload 4, 2) := by decide +kernel
theorem dX5_nerveFor_26 : decode cX5_nerveFor 26 = .ok (.iaload, 1) := by decide +kernel
theorem dX5_nerveFor_27 : decode cX5_nerveFor 27 = .ok (.invokevirtual 37, 3) := by decide +kernel
theorem dX5_nerveFor_30 : decode cX5_nerveFor 30 = .ok (.ifCond .eq 13, 3) := by decide +kernel
theorem dX5_nerveFor_33 : decode cX5_nerveFor 33 = .ok (.iload_n 2, 1) := by decide +kernel
theorem dX5_nerveFor_34 : decode cX5_nerveFor 34 = .ok (.aload_n 0, 1) := by decide +kernel
theorem dX5_nerveFor_35 : decode cX5_nerveFor 35 = .ok (.getfield 15, 3) := by decide +kernel
theorem dX5_nerveFor_38 : decode cX5_nerveFor 38 = .ok (.iload 4, 2) := by decide +kernel
theorem dX5_nerveFor_40 : decode cX5_nerveFor 40 = .ok (.iaload, 1) := by decide +kernel
theorem dX5_nerveFor_41 : decode cX5_nerveFor 41 = .ok (.iadd, 1) := by decide +kernel
theorem dX5_nerveFor_42 : decode cX5_nerveFor 42 = .ok (.istore_n 2, 1) := by decide +kernel
theorem dX5_nerveFor_43 : decode cX5_nerveFor 43 = .ok (.aload_n 0, 1) := by decide +kernel
theorem dX5_nerveFor_44 : decode cX5_nerveFor 44 = .ok (.getfield 18, 3) := by decide +kernel
theorem dX5_nerveFor_47 : decode cX5_nerveFor 47 = .ok (.iload 4, 2) := by decide +kernel
theorem dX5_nerveFor_49 : decode cX5_nerveFor 49 = .ok (.iaload, 1) := by decide +kernel
theorem dX5_nerveFor_50 : decode cX5_nerveFor 50 = .ok (.istore_n 3, 1) := by decide +kernel
theorem dX5_nerveFor_51 : decode cX5_nerveFor 51 = .ok (.iinc 4 1, 3) := by decide +kernel
theorem dX5_nerveFor_54 : decode cX5_nerveFor 54 = .ok (.goto (-46), 3) := by decide +kernel
theorem dX5_nerveFor_57 : decode cX5_nerveFor 57 = .ok (.iconst 0, 1) := by decide +kernel
theorem dX5_nerveFor_58 : decode cX5_nerveFor 58 = .ok (.iload_n 2, 1) := by decide +kernel
theorem dX5_nerveFor_59 : decode cX5_nerveFor 59 = .ok (.invokestatic 41, 3) := by decide +kernel
theorem dX5_nerveFor_62 : decode cX5_nerveFor 62 = .ok (.ireturn, 1) := by decide +kernel
theorem dX5_holdsFor_0 : decode cX5_holdsFor 0 = .ok (.iconst 0, 1) := by decide +kernel
theorem dX5_holdsFor_1 : decode cX5_holdsFor 1 = .ok (.istore 4, 2) := by decide +kernel
theorem dX5_holdsFor_3 : decode cX5_holdsFor 3 = .ok (.iload_n 2, 1) := by decide +kernel
theorem dX5_holdsFor_4 : decode cX5_holdsFor 4 = .ok (.istore 5, 2) := by decide +kernel
theorem dX5_holdsFor_6 : decode cX5_holdsFor 6 = .ok (.iload 5, 2) := by decide +kernel
theorem dX5_holdsFor_8 : decode cX5_holdsFor 8 = .ok (.iload_n 3, 1) := by decide +kernel
theorem dX5_holdsFor_9 : decode cX5_holdsFor 9 = .ok (.if_icmp .ge 111, 3) := by decide +kernel
theorem dX5_holdsFor_12 : decode cX5_holdsFor 12 = .ok (.iload 4, 2) := by decide +kernel
theorem dX5_holdsFor_14 : decode cX5_holdsFor 14 = .ok (.iconst 1, 1) := by decide +kernel
theorem dX5_holdsFor_15 : decode cX5_holdsFor 15 = .ok (.iand, 1) := by decide +kernel
theorem dX5_holdsFor_16 : decode cX5_holdsFor 16 = .ok (.istore 6, 2) := by decide +kernel
theorem dX5_holdsFor_18 : decode cX5_holdsFor 18 = .ok (.aload_n 0, 1) := by decide +kernel
theorem dX5_holdsFor_19 : decode cX5_holdsFor 19 = .ok (.getfield 9, 3) := by decide +kernel
theorem dX5_holdsFor_22 : decode cX5_holdsFor 22 = .ok (.iload 5, 2) := by decide +kernel
theorem dX5_holdsFor_24 : decode cX5_holdsFor 24 = .ok (.iaload, 1) := by decide +kernel
theorem dX5_holdsFor_25 : decode cX5_holdsFor 25 = .ok (.tableswitch 63 (-3) (-1) #[51, 36, 27], 27) := by decide +kernel
theorem dX5_holdsFor_52 : decode cX5_holdsFor 52 = .ok (.iload 4, 2) := by decide +kernel
theorem dX5_holdsFor_54 : decode cX5_holdsFor 54 = .ok (.iconst 1, 1) := by decide +kernel
theorem dX5_holdsFor_55 : decode cX5_holdsFor 55 = .ok (.ixor, 1) := by decide +kernel
theorem dX5_holdsFor_56 : decode cX5_holdsFor 56 = .ok (.istore 4, 2) := by decide +kernel
theorem dX5_holdsFor_58 : decode cX5_holdsFor 58 = .ok (.goto 56, 3) := by decide +kernel
theorem dX5_holdsFor_61 : decode cX5_holdsFor 61 = .ok (.iload 4, 2) := by decide +kernel
theorem dX5_holdsFor_63 : decode cX5_holdsFor 63 = .ok (.iconst 1, 1) := by decide +kernel
theorem dX5_holdsFor_64 : decode cX5_holdsFor 64 = .ok (.ishr, 1) := by decide +kernel
theorem dX5_holdsFor_65 : decode cX5_holdsFor 65 = .ok (.bipush (-2), 2) := by decide +kernel
theorem dX5_holdsFor_67 : decode cX5_holdsFor 67 = .ok (.iload 6, 2) := by decide +kernel
theorem dX5_holdsFor_69 : decode cX5_holdsFor 69 = .ok (.ior, 1) := by decide +kernel
theorem dX5_holdsFor_70 : decode cX5_holdsFor 70 = .ok (.iand, 1) := by decide +kernel
theorem dX5_holdsFor_71 : decode cX5_holdsFor 71 = .ok (.istore 4, 2) := by decide +kernel
theorem dX5_holdsFor_73 : decode cX5_holdsFor 73 = .ok (.goto 41, 3) := by decide +kernel
theorem dX5_holdsFor_76 : decode cX5_holdsFor 76 = .ok (.iload 4, 2) := by decide +kernel
theorem dX5_holdsFor_78 : decode cX5_holdsFor 78 = .ok (.iconst 1, 1) := by decide +kernel
theorem dX5_holdsFor_79 : decode cX5_holdsFor 79 = .ok (.ishr, 1) := by decide +kernel
theorem dX5_holdsFor_80 : decode cX5_holdsFor 80 = .ok (.iload 6, 2) := by decide +kernel
theorem dX5_holdsFor_82 : decode cX5_holdsFor 82 = .ok (.ior, 1) := by decide +kernel
theorem dX5_holdsFor_83 : decode cX5_holdsFor 83 = .ok (.istore 4, 2) := by decide +kernel
theorem dX5_holdsFor_85 : decode cX5_holdsFor 85 = .ok (.goto 29, 3) := by decide +kernel
theorem dX5_holdsFor_88 : decode cX5_holdsFor 88 = .ok (.iload 4, 2) := by decide +kernel
theorem dX5_holdsFor_90 : decode cX5_holdsFor 90 = .ok (.iconst 1, 1) := by decide +kernel
theorem dX5_holdsFor_91 : decode cX5_holdsFor 91 = .ok (.ishl, 1) := by decide +kernel
theorem dX5_holdsFor_92 : decode cX5_holdsFor 92 = .ok (.aload_n 1, 1) := by decide +kernel
theorem dX5_holdsFor_93 : decode cX5_holdsFor 93 = .ok (.aload_n 0, 1) := by decide +kernel
theorem dX5_holdsFor_94 : decode cX5_holdsFor 94 = .ok (.getfield 9, 3) := by decide +kernel
theorem dX5_holdsFor_97 : decode cX5_holdsFor 97 = .ok (.iload 5, 2) := by decide +kernel
theorem dX5_holdsFor_99 : decode cX5_holdsFor 99 = .ok (.iaload, 1) := by decide +kernel
theorem dX5_holdsFor_100 : decode cX5_holdsFor 100 = .ok (.invokestatic 47, 3) := by decide +kernel
theorem dX5_holdsFor_103 : decode cX5_holdsFor 103 = .ok (.ifCond .eq 7, 3) := by decide +kernel
theorem dX5_holdsFor_106 : decode cX5_holdsFor 106 = .ok (.iconst 1, 1) := by decide +kernel
theorem dX5_holdsFor_107 : decode cX5_holdsFor 107 = .ok (.goto 4, 3) := by decide +kernel
theorem dX5_holdsFor_110 : decode cX5_holdsFor 110 = .ok (.iconst 0, 1) := by decide +kernel
theorem dX5_holdsFor_111 : decode cX5_holdsFor 111 = .ok (.ior, 1) := by decide +kernel
theorem dX5_holdsFor_112 : decode cX5_holdsFor 112 = .ok (.istore 4, 2) := by decide +kernel
theorem dX5_holdsFor_114 : decode cX5_holdsFor 114 = .ok (.iinc 5 1, 3) := by decide +kernel
theorem dX5_holdsFor_117 : decode cX5_holdsFor 117 = .ok (.goto (-111), 3) := by decide +kernel
theorem dX5_holdsFor_120 : decode cX5_holdsFor 120 = .ok (.iload 4, 2) := by decide +kernel
theorem dX5_holdsFor_122 : decode cX5_holdsFor 122 = .ok (.iconst 1, 1) := by decide +kernel
theorem dX5_holdsFor_123 : decode cX5_holdsFor 123 = .ok (.iand, 1) := by decide +kernel
theorem dX5_holdsFor_124 : decode cX5_holdsFor 124 = .ok (.iconst 1, 1) := by decide +kernel
theorem dX5_holdsFor_125 : decode cX5_holdsFor 125 = .ok (.if_icmp .ne 7, 3) := by decide +kernel
theorem dX5_holdsFor_128 : decode cX5_holdsFor 128 = .ok (.iconst 1, 1) := by decide +kernel
theorem dX5_holdsFor_129 : decode cX5_holdsFor 129 = .ok (.goto 4, 3) := by decide +kernel
theorem dX5_holdsFor_132 : decode cX5_holdsFor 132 = .ok (.iconst 0, 1) := by decide +kernel
theorem dX5_holdsFor_133 : decode cX5_holdsFor 133 = .ok (.ireturn, 1) := by decide +kernel
theorem dX5_passes_0 : decode cX5_passes 0 = .ok (.aload_n 0, 1) := by decide +kernel
theorem dX5_passes_1 : decode cX5_passes 1 = .ok (.iload_n 1, 1) := by decide +kernel
theorem dX5_passes_2 : decode cX5_passes 2 = .ok (.sipush 300, 3) := by decide +kernel
theorem dX5_passes_5 : decode cX5_passes 5 = .ok (.idiv, 1) := by decide +kernel
theorem dX5_passes_6 : decode cX5_passes 6 = .ok (.iaload, 1) := by decide +kernel
theorem dX5_passes_7 : decode cX5_passes 7 = .ok (.istore_n 2, 1) := by decide +kernel
theorem dX5_passes_8 : decode cX5_passes 8 = .ok (.iload_n 1, 1) := by decide +kernel
theorem dX5_passes_9 : decode cX5_passes 9 = .ok (.bipush 100, 2) := by decide +kernel
theorem dX5_passes_11 : decode cX5_passes 11 = .ok (.irem, 1) := by decide +kernel
theorem dX5_passes_12 : decode cX5_passes 12 = .ok (.istore_n 3, 1) := by decide +kernel
theorem dX5_passes_13 : decode cX5_passes 13 = .ok (.iload_n 1, 1) := by decide +kernel
theorem dX5_passes_14 : decode cX5_passes 14 = .ok (.bipush 100, 2) := by decide +kernel
theorem dX5_passes_16 : decode cX5_passes 16 = .ok (.idiv, 1) := by decide +kernel
theorem dX5_passes_17 : decode cX5_passes 17 = .ok (.iconst 3, 1) := by decide +kernel
theorem dX5_passes_18 : decode cX5_passes 18 = .ok (.irem, 1) := by decide +kernel
theorem dX5_passes_19 : decode cX5_passes 19 = .ok (.lookupswitch 47 #[(0, 25), (1, 36)], 25) := by decide +kernel
theorem dX5_passes_44 : decode cX5_passes 44 = .ok (.iload_n 2, 1) := by decide +kernel
theorem dX5_passes_45 : decode cX5_passes 45 = .ok (.iload_n 3, 1) := by decide +kernel
theorem dX5_passes_46 : decode cX5_passes 46 = .ok (.if_icmp .ge 7, 3) := by decide +kernel
theorem dX5_passes_49 : decode cX5_passes 49 = .ok (.iconst 1, 1) := by decide +kernel
theorem dX5_passes_50 : decode cX5_passes 50 = .ok (.goto 4, 3) := by decide +kernel
theorem dX5_passes_53 : decode cX5_passes 53 = .ok (.iconst 0, 1) := by decide +kernel
theorem dX5_passes_54 : decode cX5_passes 54 = .ok (.ireturn, 1) := by decide +kernel
theorem dX5_passes_55 : decode cX5_passes 55 = .ok (.iload_n 2, 1) := by decide +kernel
theorem dX5_passes_56 : decode cX5_passes 56 = .ok (.iload_n 3, 1) := by decide +kernel
theorem dX5_passes_57 : decode cX5_passes 57 = .ok (.if_icmp .ne 7, 3) := by decide +kernel
theorem dX5_passes_60 : decode cX5_passes 60 = .ok (.iconst 1, 1) := by decide +kernel
theorem dX5_passes_61 : decode cX5_passes 61 = .ok (.goto 4, 3) := by decide +kernel
theorem dX5_passes_64 : decode cX5_passes 64 = .ok (.iconst 0, 1) := by decide +kernel
theorem dX5_passes_65 : decode cX5_passes 65 = .ok (.ireturn, 1) := by decide +kernel
theorem dX5_passes_66 : decode cX5_passes 66 = .ok (.iload_n 2, 1) := by decide +kernel
theorem dX5_passes_67 : decode cX5_passes 67 = .ok (.iload_n 3, 1) := by decide +kernel
theorem dX5_passes_68 : decode cX5_passes 68 = .ok (.if_icmp .le 7, 3) := by decide +kernel
theorem dX5_passes_71 : decode cX5_passes 71 = .ok (.iconst 1, 1) := by decide +kernel
theorem dX5_passes_72 : decode cX5_passes 72 = .ok (.goto 4, 3) := by decide +kernel
theorem dX5_passes_75 : decode cX5_passes 75 = .ok (.iconst 0, 1) := by decide +kernel
theorem dX5_passes_76 : decode cX5_passes 76 = .ok (.ireturn, 1) := by decide +kernel
theorem dX6_init_0 : decode cX6_init 0 = .ok (.aload_n 0, 1) := by decide +kernel
theorem dX6_init_1 : decode cX6_init 1 = .ok (.invokespecial 3, 3) := by decide +kernel
theorem dX6_init_4 : decode cX6_init 4 = .ok (.aload_n 0, 1) := by decide +kernel
theorem dX6_init_5 : decode cX6_init 5 = .ok (.bipush 100, 2) := by decide +kernel
theorem dX6_init_7 : decode cX6_init 7 = .ok (.putfield 9, 3) := by decide +kernel
theorem dX6_init_10 : decode cX6_init 10 = .ok (.aload_n 0, 1) := by decide +kernel
theorem dX6_init_11 : decode cX6_init 11 = .ok (.bipush 6, 2) := by decide +kernel
theorem dX6_init_13 : decode cX6_init 13 = .ok (.anewarray 15, 3) := by decide +kernel
theorem dX6_init_16 : decode cX6_init 16 = .ok (.putfield 17, 3) := by decide +kernel
theorem dX6_init_19 : decode cX6_init 19 = .ok (.aload_n 0, 1) := by decide +kernel
theorem dX6_init_20 : decode cX6_init 20 = .ok (.iconst 5, 1) := by decide +kernel
theorem dX6_init_21 : decode cX6_init 21 = .ok (.newarray .int, 2) := by decide +kernel
theorem dX6_init_23 : decode cX6_init 23 = .ok (.putfield 21, 3) := by decide +kernel
theorem dX6_init_26 : decode cX6_init 26 = .ok (.aload_n 0, 1) := by decide +kernel
theorem dX6_init_27 : decode cX6_init 27 = .ok (.iconst 5, 1) := by decide +kernel
theorem dX6_init_28 : decode cX6_init 28 = .ok (.newarray .int, 2) := by decide +kernel
theorem dX6_init_30 : decode cX6_init 30 = .ok (.putfield 25, 3) := by decide +kernel
theorem dX6_init_33 : decode cX6_init 33 = .ok (.aload_n 0, 1) := by decide +kernel
theorem dX6_init_34 : decode cX6_init 34 = .ok (.bipush 100, 2) := by decide +kernel
theorem dX6_init_36 : decode cX6_init 36 = .ok (.newarray .char, 2) := by decide +kernel
theorem dX6_init_38 : decode cX6_init 38 = .ok (.putfield 28, 3) := by decide +kernel
theorem dX6_init_41 : decode cX6_init 41 = .ok (.aload_n 0, 1) := by decide +kernel
theorem dX6_init_42 : decode cX6_init 42 = .ok (.new 32, 3) := by decide +kernel
theorem dX6_init_45 : decode cX6_init 45 = .ok (.dup, 1) := by decide +kernel
theorem dX6_init_46 : decode cX6_init 46 = .ok (.iconst 5, 1) := by decide +kernel
theorem dX6_init_47 : decode cX6_init 47 = .ok (.invokespecial 34, 3) := by decide +kernel
theorem dX6_init_50 : decode cX6_init 50 = .ok (.putfield 37, 3) := by decide +kernel
theorem dX6_init_53 : decode cX6_init 53 = .ok (.aload_n 0, 1) := by decide +kernel
theorem dX6_init_54 : decode cX6_init 54 = .ok (.new 32, 3) := by decide +kernel
theorem dX6_init_57 : decode cX6_init 57 = .ok (.dup, 1) := by decide +kernel
theorem dX6_init_58 : decode cX6_init 58 = .ok (.bipush 8, 2) := by decide +kernel
theorem dX6_init_60 : decode cX6_init 60 = .ok (.invokespecial 34, 3) := by decide +kernel
theorem dX6_init_63 : decode cX6_init 63 = .ok (.putfield 41, 3) := by decide +kernel
theorem dX6_init_66 : decode cX6_init 66 = .ok (.aload_n 0, 1) := by decide +kernel
theorem dX6_init_67 : decode cX6_init 67 = .ok (.new 32, 3) := by decide +kernel
theorem dX6_init_70 : decode cX6_init 70 = .ok (.dup, 1) := by decide +kernel
theorem dX6_init_71 : decode cX6_init 71 = .ok (.bipush 8, 2) := by decide +kernel
theorem dX6_init_73 : decode cX6_init 73 = .ok (.invokespecial 34, 3) := by decide +kernel
theorem dX6_init_76 : decode cX6_init 76 = .ok (.putfield 44, 3) := by decide +kernel
theorem dX6_init_79 : decode cX6_init 79 = .ok (.aload_n 0, 1) := by decide +kernel
theorem dX6_init_80 : decode cX6_init 80 = .ok (.bipush 6, 2) := by decide +kernel
theorem dX6_init_82 : decode cX6_init 82 = .ok (.newarray .int, 2) := by decide +kernel
theorem dX6_init_84 : decode cX6_init 84 = .ok (.putfield 49, 3) := by decide +kernel
theorem dX6_init_87 : decode cX6_init 87 = .ok (.aload_n 0, 1) := by decide +kernel
theorem dX6_init_88 : decode cX6_init 88 = .ok (.aload_n 1, 1) := by decide +kernel
theorem dX6_init_89 : decode cX6_init 89 = .ok (.putfield 52, 3) := by decide +kernel
theorem dX6_init_92 : decode cX6_init 92 = .ok (.iconst 0, 1) := by decide +kernel
theorem dX6_init_93 : decode cX6_init 93 = .ok (.istore_n 2, 1) := by decide +kernel
theorem dX6_init_94 : decode cX6_init 94 = .ok (.iload_n 2, 1) := by decide +kernel
theorem dX6_init_95 : decode cX6_init 95 = .ok (.bipush 6, 2) := by decide +kernel
theorem dX6_init_97 : decode cX6_init 97 = .ok (.if_icmp .ge 23, 3) := by decide +kernel
theorem dX6_init_100 : decode cX6_init 100 = .ok (.aload_n 0, 1) := by decide +kernel
theorem dX6_init_101 : decode cX6_init 101 = .ok (.getfield 17, 3) := by decide +kernel
theorem dX6_init_104 : decode cX6_init 104 = .ok (.iload_n 2, 1) := by decide +kernel
theorem dX6_init_105 : decode cX6_init 105 = .ok (.new 15, 3) := by decide +kernel
theorem dX6_init_108 : decode cX6_init 108 = .ok (.dup, 1) := by decide +kernel
theorem dX6_init_109 : decode cX6_init 109 = .ok (.iload_n 2, 1) := by decide +kernel
theorem dX6_init_110 : decode cX6_init 110 = .ok (.invokespecial 56, 3) := by decide +kernel
theorem dX6_init_113 : decode cX6_init 113 = .ok (.aastore, 1) := by decide +kernel
theorem dX6_init_114 : decode cX6_init 114 = .ok (.iinc 2 1, 3) := by decide +kernel
theorem dX6_init_117 : decode cX6_init 117 = .ok (.goto (-23), 3) := by decide +kernel
theorem dX6_init_120 : decode cX6_init 120 = .ok (.return_, 1) := by decide +kernel
theorem dX6_become_0 : decode cX6_become 0 = .ok (.aload_n 0, 1) := by decide +kernel
theorem dX6_become_1 : decode cX6_become 1 = .ok (.aload_n 1, 1) := by decide +kernel
theorem dX6_become_2 : decode cX6_become 2 = .ok (.getfield 9, 3) := by decide +kernel
theorem dX6_become_5 : decode cX6_become 5 = .ok (.putfield 9, 3) := by decide +kernel
theorem dX6_become_8 : decode cX6_become 8 = .ok (.aload_n 0, 1) := by decide +kernel
theorem dX6_become_9 : decode cX6_become 9 = .ok (.aload_n 1, 1) := by decide +kernel
theorem dX6_become_10 : decode cX6_become 10 = .ok (.getfield 57, 3) := by decide +kernel
theorem dX6_become_13 : decode cX6_become 13 = .ok (.putfield 57, 3) := by decide +kernel
theorem dX6_become_16 : decode cX6_become 16 = .ok (.aload_n 0, 1) := by decide +kernel
theorem dX6_become_17 : decode cX6_become 17 = .ok (.aload_n 1, 1) := by decide +kernel
theorem dX6_become_18 : decode cX6_become 18 = .ok (.getfield 60, 3) := by decide +kernel
theorem dX6_become_21 : decode cX6_become 21 = .ok (.putfield 60, 3) := by decide +kernel
theorem dX6_become_24 : decode cX6_become 24 = .ok (.aload_n 0, 1) := by decide +kernel
theorem dX6_become_25 : decode cX6_become 25 = .ok (.aload_n 1, 1) := by decide +kernel
theorem dX6_become_26 : decode cX6_become 26 = .ok (.getfield 63, 3) := by decide +kernel
theorem dX6_become_29 : decode cX6_become 29 = .ok (.putfield 63, 3) := by decide +kernel
theorem dX6_become_32 : decode cX6_become 32 = .ok (.aload_n 0, 1) := by decide +kernel
theorem dX6_become_33 : decode cX6_become 33 = .ok (.aload_n 1, 1) := by decide +kernel
theorem dX6_become_34 : decode cX6_become 34 = .ok (.getfield 66, 3) := by decide +kernel
theorem dX6_become_37 : decode cX6_become 37 = .ok (.putfield 66, 3) := by decide +kernel
theorem dX6_become_40 : decode cX6_become 40 = .ok (.aload_n 0, 1) := by decide +kernel
theorem dX6_become_41 : decode cX6_become 41 = .ok (.aload_n 1, 1) := by decide +kernel
theorem dX6_become_42 : decode cX6_become 42 = .ok (.getfield 52, 3) := by decide +kernel
theorem dX6_become_45 : decode cX6_become 45 = .ok (.putfield 52, 3) := by decide +kernel
theorem dX6_become_48 : decode cX6_become 48 = .ok (.iconst 0, 1) := by decide +kernel
theorem dX6_become_49 : decode cX6_become 49 = .ok (.istore_n 2, 1) := by decide +kernel
theorem dX6_become_50 : decode cX6_become 50 = .ok (.iload_n 2, 1) := by decide +kernel
theorem dX6_become_51 : decode cX6_become 51 = .ok (.aload_n 0, 1) := by decide +kernel
theorem dX6_become_52 : decode cX6_become 52 = .ok (.getfield 57, 3) := by decide +kernel
theorem dX6_become_55 : decode cX6_become 55 = .ok (.if_icmp .ge 24, 3) := by decide +kernel
theorem dX6_become_58 : decode cX6_become 58 = .ok (.aload_n 0, 1) := by decide +kernel
theorem dX6_become_59 : decode cX6_become 59 = .ok (.getfield 17, 3) := by decide +kernel
theorem dX6_become_62 : decode cX6_become 62 = .ok (.iload_n 2, 1) := by decide +kernel
theorem dX6_become_63 : decode cX6_become 63 = .ok (.aaload, 1) := by decide +kernel
theorem dX6_become_64 : decode cX6_become 64 = .ok (.aload_n 1, 1) := by decide +kernel
theorem dX6_become_65 : decode cX6_become 65 = .ok (.getfield 17, 3) := by decide +kernel
theorem dX6_become_68 : decode cX6_become 68 = .ok (.iload_n 2, 1) := by decide +kernel
theorem dX6_become_69 : decode cX6_become 69 = .ok (.aaload, 1) := by decide +kernel
theorem dX6_become_70 : decode cX6_become 70 = .ok (.invokevirtual 69, 3) := by decide +kernel
theorem dX6_become_73 : decode cX6_become 73 = .ok (.iinc 2 1, 3) := by decide +kernel
theorem dX6_become_76 : decode cX6_become 76 = .ok (.goto (-26), 3) := by decide +kernel
theorem dX6_become_79 : decode cX6_become 79 = .ok (.aload_n 1, 1) := by decide +kernel
theorem dX6_become_80 : decode cX6_become 80 = .ok (.getfield 21, 3) := by decide +kernel
theorem dX6_become_83 : decode cX6_become 83 = .ok (.iconst 0, 1) := by decide +kernel
theorem dX6_become_84 : decode cX6_become 84 = .ok (.aload_n 0, 1) := by decide +kernel
theorem dX6_become_85 : decode cX6_become 85 = .ok (.getfield 21, 3) := by decide +kernel
theorem dX6_become_88 : decode cX6_become 88 = .ok (.iconst 0, 1) := by decide +kernel
theorem dX6_become_89 : decode cX6_become 89 = .ok (.iconst 5, 1) := by decide +kernel
theorem dX6_become_90 : decode cX6_become 90 = .ok (.invokestatic 73, 3) := by decide +kernel
theorem dX6_become_93 : decode cX6_become 93 = .ok (.aload_n 1, 1) := by decide +kernel
theorem dX6_become_94 : decode cX6_become 94 = .ok (.getfield 25, 3) := by decide +kernel
theorem dX6_become_97 : decode cX6_become 97 = .ok (.iconst 0, 1) := by decide +kernel
theorem dX6_become_98 : decode cX6_become 98 = .ok (.aload_n 0, 1) := by decide +kernel
theorem dX6_become_99 : decode cX6_become 99 = .ok (.getfield 25, 3) := by decide +kernel
theorem dX6_become_102 : decode cX6_become 102 = .ok (.iconst 0, 1) := by decide +kernel
theorem dX6_become_103 : decode cX6_become 103 = .ok (.iconst 5, 1) := by decide +kernel
theorem dX6_become_104 : decode cX6_become 104 = .ok (.invokestatic 73, 3) := by decide +kernel
theorem dX6_become_107 : decode cX6_become 107 = .ok (.aload_n 1, 1) := by decide +kernel
theorem dX6_become_108 : decode cX6_become 108 = .ok (.getfield 28, 3) := by decide +kernel
theorem dX6_become_111 : decode cX6_become 111 = .ok (.iconst 0, 1) := by decide +kernel
theorem dX6_become_112 : decode cX6_become 112 = .ok (.aload_n 0, 1) := by decide +kernel
theorem dX6_become_113 : decode cX6_become 113 = .ok (.getfield 28, 3) := by decide +kernel
theorem dX6_become_116 : decode cX6_become 116 = .ok (.iconst 0, 1) := by decide +kernel
theorem dX6_become_117 : decode cX6_become 117 = .ok (.bipush 100, 2) := by decide +kernel
theorem dX6_become_119 : decode cX6_become 119 = .ok (.invokestatic 73, 3) := by decide +kernel
theorem dX6_become_122 : decode cX6_become 122 = .ok (.aload_n 0, 1) := by decide +kernel
theorem dX6_become_123 : decode cX6_become 123 = .ok (.getfield 37, 3) := by decide +kernel
theorem dX6_become_126 : decode cX6_become 126 = .ok (.aload_n 1, 1) := by decide +kernel
theorem dX6_become_127 : decode cX6_become 127 = .ok (.getfield 37, 3) := by decide +kernel
theorem dX6_become_130 : decode cX6_become 130 = .ok (.invokevirtual 79, 3) := by decide +kernel
theorem dX6_become_133 : decode cX6_become 133 = .ok (.aload_n 0, 1) := by decide +kernel
theorem dX6_become_134 : decode cX6_become 134 = .ok (.getfield 41, 3) := by decide +kernel
theorem dX6_become_137 : decode cX6_become 137 = .ok (.aload_n 1, 1) := by decide +kernel
theorem dX6_become_138 : decode cX6_become 138 = .ok (.getfield 41, 3) := by decide +kernel
theorem dX6_become_141 : decode cX6_become 141 = .ok (.invokevirtual 79, 3) := by decide +kernel
theorem dX6_become_144 : decode cX6_become 144 = .ok (.aload_n 0, 1) := by decide +kernel
theorem dX6_become_145 : decode cX6_become 145 = .ok (.getfield 44, 3) := by decide +kernel
theorem dX6_become_148 : decode cX6_become 148 = .ok (.aload_n 1, 1) := by decide +kernel
theorem dX6_become_149 : decode cX6_become 149 = .ok (.getfield 44, 3) := by decide +kernel
theorem dX6_become_152 : decode cX6_become 152 = .ok (.invokevirtual 79, 3) := by decide +kernel
theorem dX6_become_155 : decode cX6_become 155 = .ok (.return_, 1) := by decide +kernel
theorem dX6_addVintage_0 : decode cX6_addVintage 0 = .ok (.aload_n 0, 1) := by decide +kernel
theorem dX6_addVintage_1 : decode cX6_addVintage 1 = .ok (.getfield 21, 3) := by decide +kernel
theorem dX6_addVintage_4 : decode cX6_addVintage 4 = .ok (.aload_n 0, 1) := by decide +kernel
theorem dX6_addVintage_5 : decode cX6_addVintage 5 = .ok (.getfield 60, 3) := by decide +kernel
theorem dX6_addVintage_8 : decode cX6_addVintage 8 = .ok (.iload_n 1, 1) := by decide +kernel
theorem dX6_addVintage_9 : decode cX6_addVintage 9 = .ok (.iastore, 1) := by decide +kernel
theorem dX6_addVintage_10 : decode cX6_addVintage 10 = .ok (.aload_n 0, 1) := by decide +kernel
theorem dX6_addVintage_11 : decode cX6_addVintage 11 = .ok (.getfield 25, 3) := by decide +kernel
theorem dX6_addVintage_14 : decode cX6_addVintage 14 = .ok (.aload_n 0, 1) := by decide +kernel
theorem dX6_addVintage_15 : decode cX6_addVintage 15 = .ok (.getfield 60, 3) := by decide +kernel
theorem dX6_addVintage_18 : decode cX6_addVintage 18 = .ok (.iload_n 2, 1) := by decide +kernel
theorem dX6_addVintage_19 : decode cX6_addVintage 19 = .ok (.iastore, 1) := by decide +kernel
theorem dX6_addVintage_20 : decode cX6_addVintage 20 = .ok (.aload_n 0, 1) := by decide +kernel
theorem dX6_addVintage_21 : decode cX6_addVintage 21 = .ok (.dup, 1) := by decide +kernel
theorem dX6_addVintage_22 : decode cX6_addVintage 22 = .ok (.getfield 60, 3) := by decide +kernel
theorem dX6_addVintage_25 : decode cX6_addVintage 25 = .ok (.dup_x1, 1) := by decide +kernel
theorem dX6_addVintage_26 : decode cX6_addVintage 26 = .ok (.iconst 1, 1) := by decide +kernel
theorem dX6_addVintage_27 : decode cX6_addVintage 27 = .ok (.iadd, 1) := by decide +kernel
theorem dX6_addVintage_28 : decode cX6_addVintage 28 = .ok (.putfield 60, 3) := by decide +kernel
theorem dX6_addVintage_31 : decode cX6_addVintage 31 = .ok (.ireturn, 1) := by decide +kernel
theorem dX6_ageBy_0 : decode cX6_ageBy 0 = .ok (.aload_n 0, 1) := by decide +kernel
theorem dX6_ageBy_1 : decode cX6_ageBy 1 = .ok (.getfield 17, 3) := by decide +kernel
theorem dX6_ageBy_4 : decode cX6_ageBy 4 = .ok (.iload_n 1, 1) := by decide +kernel
theorem dX6_ageBy_5 : decode cX6_ageBy 5 = .ok (.aaload, 1) := by decide +kernel
theorem dX6_ageBy_6 : decode cX6_ageBy 6 = .ok (.aload_n 0, 1) := by decide +kernel
theorem dX6_ageBy_7 : decode cX6_ageBy 7 = .ok (.getfield 9, 3) := by decide +kernel
theorem dX6_ageBy_10 : decode cX6_ageBy 10 = .ok (.iload_n 2, 1) := by decide +kernel
theorem dX6_ageBy_11 : decode cX6_ageBy 11 = .ok (.iconst (-1), 1) := by decide +kernel
theorem dX6_ageBy_12 : decode cX6_ageBy 12 = .ok (.if_icmp .ne 7, 3) := by decide +kernel
theorem dX6_ageBy_15 : decode cX6_ageBy 15 = .ok (.iconst (-1), 1) := by decide +kernel
theorem dX6_ageBy_16 : decode cX6_ageBy 16 = .ok (.goto 9, 3) := by decide +kernel
theorem dX6_ageBy_19 : decode cX6_ageBy 19 = .ok (.aload_n 0, 1) := by decide +kernel
theorem dX6_ageBy_20 : decode cX6_ageBy 20 = .ok (.getfield 21, 3) := by decide +kernel
theorem dX6_ageBy_23 : decode cX6_ageBy 23 = .ok (.iload_n 2, 1) := by decide +kernel
theorem dX6_ageBy_24 : decode cX6_ageBy 24 = .ok (.iaload, 1) := by decide +kernel
theorem dX6_ageBy_25 : decode cX6_ageBy 25 = .ok (.invokevirtual 82, 3) := by decide +kernel
theorem dX6_ageBy_28 : decode cX6_ageBy 28 = .ok (.ireturn, 1) := by decide +kernel
theorem dX6_stageBy_0 : decode cX6_stageBy 0 = .ok (.aload_n 0, 1) := by decide +kernel
theorem dX6_stageBy_1 : decode cX6_stageBy 1 = .ok (.iload_n 1, 1) := by decide +kernel
theorem dX6_stageBy_2 : decode cX6_stageBy 2 = .ok (.aload_n 0, 1) := by decide +kernel
theorem dX6_stageBy_3 : decode cX6_stageBy 3 = .ok (.iload_n 1, 1) := by decide +kernel
theorem dX6_stageBy_4 : decode cX6_stageBy 4 = .ok (.iload_n 2, 1) := by decide +kernel
theorem dX6_stageBy_5 : decode cX6_stageBy 5 = .ok (.invokevirtual 86, 3) := by decide +kernel
theorem dX6_stageBy_8 : decode cX6_stageBy 8 = .ok (.invokevirtual 89, 3) := by decide +kernel
theorem dX6_stageBy_11 : decode cX6_stageBy 11 = .ok (.ireturn, 1) := by decide +kernel
theorem dX6_stageAt_0 : decode cX6_stageAt 0 = .ok (.aload_n 0, 1) := by decide +kernel
theorem dX6_stageAt_1 : decode cX6_stageAt 1 = .ok (.getfield 17, 3) := by decide +kernel
theorem dX6_stageAt_4 : decode cX6_stageAt 4 = .ok (.iload_n 1, 1) := by decide +kernel
theorem dX6_stageAt_5 : decode cX6_stageAt 5 = .ok (.aaload, 1) := by decide +kernel
theorem dX6_stageAt_6 : decode cX6_stageAt 6 = .ok (.iload_n 2, 1) := by decide +kernel
theorem dX6_stageAt_7 : decode cX6_stageAt 7 = .ok (.invokevirtual 92, 3) := by decide +kernel
theorem dX6_stageAt_10 : decode cX6_stageAt 10 = .ok (.ifCond .ne 5, 3) := by decide +kernel
theorem dX6_stageAt_13 : decode cX6_stageAt 13 = .ok (.iconst 0, 1) := by decide +kernel
theorem dX6_stageAt_14 : decode cX6_stageAt 14 = .ok (.ireturn, 1) := by decide +kernel
theorem dX6_stageAt_15 : decode cX6_stageAt 15 = .ok (.iload_n 2, 1) := by decide +kernel
theorem dX6_stageAt_16 : decode cX6_stageAt 16 = .ok (.aload_n 0, 1) := by decide +kernel
theorem dX6_stageAt_17 : decode cX6_stageAt 17 = .ok (.getfield 52, 3) := by decide +kernel
theorem dX6_stageAt_20 : decode cX6_stageAt 20 = .ok (.getfield 96, 3) := by decide +kernel
theorem dX6_stageAt_23 : decode cX6_stageAt 23 = .ok (.if_icmp .ge 5, 3) := by decide +kernel
theorem dX6_stageAt_26 : decode cX6_stageAt 26 = .ok (.iconst 1, 1) := by decide +kernel
theorem dX6_stageAt_27 : decode cX6_stageAt 27 = .ok (.ireturn, 1) := by decide +kernel
theorem dX6_stageAt_28 : decode cX6_stageAt 28 = .ok (.iload_n 2, 1) := by decide +kernel
theorem dX6_stageAt_29 : decode cX6_stageAt 29 = .ok (.aload_n 0, 1) := by decide +kernel
theorem dX6_stageAt_30 : decode cX6_stageAt 30 = .ok (.getfield 52, 3) := by decide +kernel
theorem dX6_stageAt_33 : decode cX6_stageAt 33 = .ok (.getfield 99, 3) := by decide +kernel
theorem dX6_stageAt_36 : decode cX6_stageAt 36 = .ok (.if_icmp .lt 7, 3) := by decide +kernel
theorem dX6_stageAt_39 : decode cX6_stageAt 39 = .ok (.iconst 3, 1) := by decide +kernel
theorem dX6_stageAt_40 : decode cX6_stageAt 40 = .ok (.goto 4, 3) := by decide +kernel
theorem dX6_stageAt_43 : decode cX6_stageAt 43 = .ok (.iconst 2, 1) := by decide +kernel
theorem dX6_stageAt_44 : decode cX6_stageAt 44 = .ok (.ireturn, 1) := by decide +kernel
theorem dX6_nerveBy_0 : decode cX6_nerveBy 0 = .ok (.aload_n 0, 1) := by decide +kernel
theorem dX6_nerveBy_1 : decode cX6_nerveBy 1 = .ok (.iload_n 1, 1) := by decide +kernel
theorem dX6_nerveBy_2 : decode cX6_nerveBy 2 = .ok (.iload_n 2, 1) := by decide +kernel
theorem dX6_nerveBy_3 : decode cX6_nerveBy 3 = .ok (.invokevirtual 86, 3) := by decide +kernel
theorem dX6_nerveBy_6 : decode cX6_nerveBy 6 = .ok (.istore_n 3, 1) := by decide +kernel
theorem dX6_nerveBy_7 : decode cX6_nerveBy 7 = .ok (.aload_n 0, 1) := by decide +kernel
theorem dX6_nerveBy_8 : decode cX6_nerveBy 8 = .ok (.iload_n 1, 1) := by decide +kernel
theorem dX6_nerveBy_9 : decode cX6_nerveBy 9 = .ok (.iload_n 3, 1) := by decide +kernel
theorem dX6_nerveBy_10 : decode cX6_nerveBy 10 = .ok (.invokevirtual 89, 3) := by decide +kernel
theorem dX6_nerveBy_13 : decode cX6_nerveBy 13 = .ok (.istore 4, 2) := by decide +kernel
theorem dX6_nerveBy_15 : decode cX6_nerveBy 15 = .ok (.iload 4, 2) := by decide +kernel
theorem dX6_nerveBy_17 : decode cX6_nerveBy 17 = .ok (.ifCond .ne 5, 3) := by decide +kernel
theorem dX6_nerveBy_20 : decode cX6_nerveBy 20 = .ok (.iconst 0, 1) := by decide +kernel
theorem dX6_nerveBy_21 : decode cX6_nerveBy 21 = .ok (.ireturn, 1) := by decide +kernel
theorem dX6_nerveBy_22 : decode cX6_nerveBy 22 = .ok (.aload_n 0, 1) := by decide +kernel
theorem dX6_nerveBy_23 : decode cX6_nerveBy 23 = .ok (.getfield 49, 3) := by decide +kernel
theorem dX6_nerveBy_26 : decode cX6_nerveBy 26 = .ok (.iconst 0, 1) := by decide +kernel
theorem dX6_nerveBy_27 : decode cX6_nerveBy 27 = .ok (.iload_n 1, 1) := by decide +kernel
theorem dX6_nerveBy_28 : decode cX6_nerveBy 28 = .ok (.iastore, 1) := by decide +kernel
theorem dX6_nerveBy_29 : decode cX6_nerveBy 29 = .ok (.aload_n 0, 1) := by decide +kernel
theorem dX6_nerveBy_30 : decode cX6_nerveBy 30 = .ok (.getfield 49, 3) := by decide +kernel
theorem dX6_nerveBy_33 : decode cX6_nerveBy 33 = .ok (.iconst 1, 1) := by decide +kernel
theorem dX6_nerveBy_34 : decode cX6_nerveBy 34 = .ok (.aload_n 0, 1) := by decide +kernel
theorem dX6_nerveBy_35 : decode cX6_nerveBy 35 = .ok (.getfield 17, 3) := by decide +kernel
theorem dX6_nerveBy_38 : decode cX6_nerveBy 38 = .ok (.iload_n 1, 1) := by decide +kernel
theorem dX6_nerveBy_39 : decode cX6_nerveBy 39 = .ok (.aaload, 1) := by decide +kernel
theorem dX6_nerveBy_40 : decode cX6_nerveBy 40 = .ok (.getfield 102, 3) := by decide +kernel
theorem dX6_nerveBy_43 : decode cX6_nerveBy 43 = .ok (.iastore, 1) := by decide +kernel
theorem dX6_nerveBy_44 : decode cX6_nerveBy 44 = .ok (.aload_n 0, 1) := by decide +kernel
theorem dX6_nerveBy_45 : decode cX6_nerveBy 45 = .ok (.getfield 49, 3) := by decide +kernel
theorem dX6_nerveBy_48 : decode cX6_nerveBy 48 = .ok (.iconst 2, 1) := by decide +kernel
theorem dX6_nerveBy_49 : decode cX6_nerveBy 49 = .ok (.aload_n 0, 1) := by decide +kernel
theorem dX6_nerveBy_50 : decode cX6_nerveBy 50 = .ok (.getfield 17, 3) := by decide +kernel
theorem dX6_nerveBy_53 : decode cX6_nerveBy 53 = .ok (.iload_n 1, 1) := by decide +kernel
theorem dX6_nerveBy_54 : decode cX6_nerveBy 54 = .ok (.aaload, 1) := by decide +kernel
theorem dX6_nerveBy_55 : decode cX6_nerveBy 55 = .ok (.getfield 105, 3) := by decide +kernel
theorem dX6_nerveBy_58 : decode cX6_nerveBy 58 = .ok (.iastore, 1) := by decide +kernel
theorem dX6_nerveBy_59 : decode cX6_nerveBy 59 = .ok (.aload_n 0, 1) := by decide +kernel
theorem dX6_nerveBy_60 : decode cX6_nerveBy 60 = .ok (.getfield 49, 3) := by decide +kernel
theorem dX6_nerveBy_63 : decode cX6_nerveBy 63 = .ok (.iconst 3, 1) := by decide +kernel
theorem dX6_nerveBy_64 : decode cX6_nerveBy 64 = .ok (.iload_n 3, 1) := by decide +kernel
theorem dX6_nerveBy_65 : decode cX6_nerveBy 65 = .ok (.bipush 10, 2) := by decide +kernel
theorem dX6_nerveBy_67 : decode cX6_nerveBy 67 = .ok (.idiv, 1) := by decide +kernel
theorem dX6_nerveBy_68 : decode cX6_nerveBy 68 = .ok (.iastore, 1) := by decide +kernel
theorem dX6_nerveBy_69 : decode cX6_nerveBy 69 = .ok (.aload_n 0, 1) := by decide +kernel
theorem dX6_nerveBy_70 : decode cX6_nerveBy 70 = .ok (.getfield 49, 3) := by decide +kernel
theorem dX6_nerveBy_73 : decode cX6_nerveBy 73 = .ok (.iconst 4, 1) := by decide +kernel
theorem dX6_nerveBy_74 : decode cX6_nerveBy 74 = .ok (.iload 4, 2) := by decide +kernel
theorem dX6_nerveBy_76 : decode cX6_nerveBy 76 = .ok (.iastore, 1) := by decide +kernel
theorem dX6_nerveBy_77 : decode cX6_nerveBy 77 = .ok (.aload_n 0, 1) := by decide +kernel
theorem dX6_nerveBy_78 : decode cX6_nerveBy 78 = .ok (.getfield 49, 3) := by decide +kernel
theorem dX6_nerveBy_81 : decode cX6_nerveBy 81 = .ok (.iconst 5, 1) := by decide +kernel
theorem dX6_nerveBy_82 : decode cX6_nerveBy 82 = .ok (.iload_n 2, 1) := by decide +kernel
theorem dX6_nerveBy_83 : decode cX6_nerveBy 83 = .ok (.iconst (-1), 1) := by decide +kernel
theorem dX6_nerveBy_84 : decode cX6_nerveBy 84 = .ok (.if_icmp .ne 8, 3) := by decide +kernel
theorem dX6_nerveBy_87 : decode cX6_nerveBy 87 = .ok (.bipush 9, 2) := by decide +kernel
theorem dX6_nerveBy_89 : decode cX6_nerveBy 89 = .ok (.goto 4, 3) := by decide +kernel
theorem dX6_nerveBy_92 : decode cX6_nerveBy 92 = .ok (.iload_n 2, 1) := by decide +kernel
theorem dX6_nerveBy_93 : decode cX6_nerveBy 93 = .ok (.iastore, 1) := by decide +kernel
theorem dX6_nerveBy_94 : decode cX6_nerveBy 94 = .ok (.aload_n 0, 1) := by decide +kernel
theorem dX6_nerveBy_95 : decode cX6_nerveBy 95 = .ok (.getfield 52, 3) := by decide +kernel
theorem dX6_nerveBy_98 : decode cX6_nerveBy 98 = .ok (.aload_n 0, 1) := by decide +kernel
theorem dX6_nerveBy_99 : decode cX6_nerveBy 99 = .ok (.getfield 49, 3) := by decide +kernel
theorem dX6_nerveBy_102 : decode cX6_nerveBy 102 = .ok (.invokevirtual 108, 3) := by decide +kernel
theorem dX6_nerveBy_105 : decode cX6_nerveBy 105 = .ok (.ireturn, 1) := by decide +kernel
theorem dX6_whoIsHere_0 : decode cX6_whoIsHere 0 = .ok (.iconst 0, 1) := by decide +kernel
theorem dX6_whoIsHere_1 : decode cX6_whoIsHere 1 = .ok (.istore_n 1, 1) := by decide +kernel
theorem dX6_whoIsHere_2 : decode cX6_whoIsHere 2 = .ok (.iconst 0, 1) := by decide +kernel
theorem dX6_whoIsHere_3 : decode cX6_whoIsHere 3 = .ok (.istore_n 2, 1) := by decide +kernel
theorem dX6_whoIsHere_4 : decode cX6_whoIsHere 4 = .ok (.iload_n 2, 1) := by decide +kernel
theorem dX6_whoIsHere_5 : decode cX6_whoIsHere 5 = .ok (.aload_n 0, 1) := by decide +kernel
theorem dX6_whoIsHere_6 : decode cX6_whoIsHere 6 = .ok (.getfield 57, 3) := by decide +kernel
theorem dX6_whoIsHere_9 : decode cX6_whoIsHere 9 = .ok (.if_icmp .ge 32, 3) := by decide +kernel
theorem dX6_whoIsHere_12 : decode cX6_whoIsHere 12 = .ok (.aload_n 0, 1) := by decide +kernel
theorem dX6_whoIsHere_13 : decode cX6_whoIsHere 13 = .ok (.iload_n 2, 1) := by decide +kernel
theorem dX6_whoIsHere_14 : decode cX6_whoIsHere 14 = .ok (.aload_n 0, 1) := by decide +kernel
theorem dX6_whoIsHere_15 : decode cX6_whoIsHere 15 = .ok (.getfield 17, 3) := by decide +kernel
theorem dX6_whoIsHere_18 : decode cX6_whoIsHere 18 = .ok (.iload_n 2, 1) := by decide +kernel
theorem dX6_whoIsHere_19 : decode cX6_whoIsHere 19 = .ok (.aaload, 1) := by decide +kernel
theorem dX6_whoIsHere_20 : decode cX6_whoIsHere 20 = .ok (.getfield 112, 3) := by decide +kernel
theorem dX6_whoIsHere_23 : decode cX6_whoIsHere 23 = .ok (.invokevirtual 115, 3) := by decide +kernel
theorem dX6_whoIsHere_26 : decode cX6_whoIsHere 26 = .ok (.ifCond .le 9, 3) := by decide +kernel
theorem dX6_whoIsHere_29 : decode cX6_whoIsHere 29 = .ok (.iload_n 1, 1) := by decide +kernel
theorem dX6_whoIsHere_30 : decode cX6_whoIsHere 30 = .ok (.iconst 1, 1) := by decide +kernel
theorem dX6_whoIsHere_31 : decode cX6_whoIsHere 31 = .ok (.iload_n 2, 1) := by decide +kernel
theorem dX6_whoIsHere_32 : decode cX6_whoIsHere 32 = .ok (.ishl, 1) := by decide +kernel
theorem dX6_whoIsHere_33 : decode cX6_whoIsHere 33 = .ok (.ior, 1) := by decide +kernel
theorem dX6_whoIsHere_34 : decode cX6_whoIsHere 34 = .ok (.istore_n 1, 1) := by decide +kernel
theorem dX6_whoIsHere_35 : decode cX6_whoIsHere 35 = .ok (.iinc 2 1, 3) := by decide +kernel
theorem dX6_whoIsHere_38 : decode cX6_whoIsHere 38 = .ok (.goto (-34), 3) := by decide +kernel
theorem dX6_whoIsHere_41 : decode cX6_whoIsHere 41 = .ok (.iload_n 1, 1) := by decide +kernel
theorem dX6_whoIsHere_42 : decode cX6_whoIsHere 42 = .ok (.ireturn, 1) := by decide +kernel
theorem dX6_nerveOfAll_0 : decode cX6_nerveOfAll 0 = .ok (.iconst 0, 1) := by decide +kernel
theorem dX6_nerveOfAll_1 : decode cX6_nerveOfAll 1 = .ok (.istore_n 1, 1) := by decide +kernel
theorem dX6_nerveOfAll_2 : decode cX6_nerveOfAll 2 = .ok (.iconst 0, 1) := by decide +kernel
theorem dX6_nerveOfAll_3 : decode cX6_nerveOfAll 3 = .ok (.istore_n 2, 1) := by decide +kernel
theorem dX6_nerveOfAll_4 : decode cX6_nerveOfAll 4 = .ok (.iload_n 2, 1) := by decide +kernel
theorem dX6_nerveOfAll_5 : decode cX6_nerveOfAll 5 = .ok (.aload_n 0, 1) := by decide +kernel
theorem dX6_nerveOfAll_6 : decode cX6_nerveOfAll 6 = .ok (.getfield 57, 3) := by decide +kernel
theorem dX6_nerveOfAll_9 : decode cX6_nerveOfAll 9 = .ok (.if_icmp .ge 26, 3) := by decide +kernel
theorem dX6_nerveOfAll_12 : decode cX6_nerveOfAll 12 = .ok (.iload_n 1, 1) := by decide +kernel
theorem dX6_nerveOfAll_13 : decode cX6_nerveOfAll 13 = .ok (.aload_n 0, 1) := by decide +kernel
theorem dX6_nerveOfAll_14 : decode cX6_nerveOfAll 14 = .ok (.iload_n 2, 1) := by decide +kernel
theorem dX6_nerveOfAll_15 : decode cX6_nerveOfAll 15 = .ok (.aload_n 0, 1) := by decide +kernel
theorem dX6_nerveOfAll_16 : decode cX6_nerveOfAll 16 = .ok (.getfield 17, 3) := by decide +kernel
theorem dX6_nerveOfAll_19 : decode cX6_nerveOfAll 19 = .ok (.iload_n 2, 1) := by decide +kernel
theorem dX6_nerveOfAll_20 : decode cX6_nerveOfAll 20 = .ok (.aaload, 1) := by decide +kernel
theorem dX6_nerveOfAll_21 : decode cX6_nerveOfAll 21 = .ok (.getfield 112, 3) := by decide +kernel
theorem dX6_nerveOfAll_24 : decode cX6_nerveOfAll 24 = .ok (.invokevirtual 118, 3) := by decide +kernel
theorem dX6_nerveOfAll_27 : decode cX6_nerveOfAll 27 = .ok (.iadd, 1) := by decide +kernel
theorem dX6_nerveOfAll_28 : decode cX6_nerveOfAll 28 = .ok (.istore_n 1, 1) := by decide +kernel
theorem dX6_nerveOfAll_29 : decode cX6_nerveOfAll 29 = .ok (.iinc 2 1, 3) := by decide +kernel
theorem dX6_nerveOfAll_32 : decode cX6_nerveOfAll 32 = .ok (.goto (-28), 3) := by decide +kernel
theorem dX6_nerveOfAll_35 : decode cX6_nerveOfAll 35 = .ok (.iload_n 1, 1) := by decide +kernel
theorem dX6_nerveOfAll_36 : decode cX6_nerveOfAll 36 = .ok (.ireturn, 1) := by decide +kernel
theorem dX6_bottlesInAll_0 : decode cX6_bottlesInAll 0 = .ok (.iconst 0, 1) := by decide +kernel
theorem dX6_bottlesInAll_1 : decode cX6_bottlesInAll 1 = .ok (.istore_n 1, 1) := by decide +kernel
theorem dX6_bottlesInAll_2 : decode cX6_bottlesInAll 2 = .ok (.iconst 0, 1) := by decide +kernel
theorem dX6_bottlesInAll_3 : decode cX6_bottlesInAll 3 = .ok (.istore_n 2, 1) := by decide +kernel
theorem dX6_bottlesInAll_4 : decode cX6_bottlesInAll 4 = .ok (.iload_n 2, 1) := by decide +kernel
theorem dX6_bottlesInAll_5 : decode cX6_bottlesInAll 5 = .ok (.aload_n 0, 1) := by decide +kernel
theorem dX6_bottlesInAll_6 : decode cX6_bottlesInAll 6 = .ok (.getfield 60, 3) := by decide +kernel
theorem dX6_bottlesInAll_9 : decode cX6_bottlesInAll 9 = .ok (.if_icmp .ge 18, 3) := by decide +kernel
theorem dX6_bottlesInAll_12 : decode cX6_bottlesInAll 12 = .ok (.iload_n 1, 1) := by decide +kernel
theorem dX6_bottlesInAll_13 : decode cX6_bottlesInAll 13 = .ok (.aload_n 0, 1) := by decide +kernel
theorem dX6_bottlesInAll_14 : decode cX6_bottlesInAll 14 = .ok (.getfield 25, 3) := by decide +kernel
theorem dX6_bottlesInAll_17 : decode cX6_bottlesInAll 17 = .ok (.iload_n 2, 1) := by decide +kernel
theorem dX6_bottlesInAll_18 : decode cX6_bottlesInAll 18 = .ok (.iaload, 1) := by decide +kernel
theorem dX6_bottlesInAll_19 : decode cX6_bottlesInAll 19 = .ok (.iadd, 1) := by decide +kernel
theorem dX6_bottlesInAll_20 : decode cX6_bottlesInAll 20 = .ok (.istore_n 1, 1) := by decide +kernel
theorem dX6_bottlesInAll_21 : decode cX6_bottlesInAll 21 = .ok (.iinc 2 1, 3) := by decide +kernel
theorem dX6_bottlesInAll_24 : decode cX6_bottlesInAll 24 = .ok (.goto (-20), 3) := by decide +kernel
theorem dX6_bottlesInAll_27 : decode cX6_bottlesInAll 27 = .ok (.iload_n 1, 1) := by decide +kernel
theorem dX6_bottlesInAll_28 : decode cX6_bottlesInAll 28 = .ok (.ireturn, 1) := by decide +kernel
theorem dX6_pourOut_0 : decode cX6_pourOut 0 = .ok (.aload_n 0, 1) := by decide +kernel
theorem dX6_pourOut_1 : decode cX6_pourOut 1 = .ok (.getfield 25, 3) := by decide +kernel
theorem dX6_pourOut_4 : decode cX6_pourOut 4 = .ok (.iload_n 2, 1) := by decide +kernel
theorem dX6_pourOut_5 : decode cX6_pourOut 5 = .ok (.iaload, 1) := by decide +kernel
theorem dX6_pourOut_6 : decode cX6_pourOut 6 = .ok (.ifCond .ne 5, 3) := by decide +kernel
theorem dX6_pourOut_9 : decode cX6_pourOut 9 = .ok (.iconst 0, 1) := by decide +kernel
theorem dX6_pourOut_10 : decode cX6_pourOut 10 = .ok (.ireturn, 1) := by decide +kernel
theorem dX6_pourOut_11 : decode cX6_pourOut 11 = .ok (.aload_n 0, 1) := by decide +kernel
theorem dX6_pourOut_12 : decode cX6_pourOut 12 = .ok (.getfield 25, 3) := by decide +kernel
theorem dX6_pourOut_15 : decode cX6_pourOut 15 = .ok (.iload_n 2, 1) := by decide +kernel
theorem dX6_pourOut_16 : decode cX6_pourOut 16 = .ok (.dup2, 1) := by decide +kernel
theorem dX6_pourOut_17 : decode cX6_pourOut 17 = .ok (.iaload, 1) := by decide +kernel
theorem dX6_pourOut_18 : decode cX6_pourOut 18 = .ok (.iconst 1, 1) := by decide +kernel
theorem dX6_pourOut_19 : decode cX6_pourOut 19 = .ok (.isub, 1) := by decide +kernel
theorem dX6_pourOut_20 : decode cX6_pourOut 20 = .ok (.iastore, 1) := by decide +kernel
theorem dX6_pourOut_21 : decode cX6_pourOut 21 = .ok (.aload_n 0, 1) := by decide +kernel
theorem dX6_pourOut_22 : decode cX6_pourOut 22 = .ok (.getfield 17, 3) := by decide +kernel
theorem dX6_pourOut_25 : decode cX6_pourOut 25 = .ok (.iload_n 1, 1) := by decide +kernel
theorem dX6_pourOut_26 : decode cX6_pourOut 26 = .ok (.aaload, 1) := by decide +kernel
theorem dX6_pourOut_27 : decode cX6_pourOut 27 = .ok (.iload_n 2, 1) := by decide +kernel
theorem dX6_pourOut_28 : decode cX6_pourOut 28 = .ok (.putfield 112, 3) := by decide +kernel
theorem dX6_pourOut_31 : decode cX6_pourOut 31 = .ok (.iconst 1, 1) := by decide +kernel
theorem dX6_pourOut_32 : decode cX6_pourOut 32 = .ok (.ireturn, 1) := by decide +kernel
theorem dX6_growLight_0 : decode cX6_growLight 0 = .ok (.aload_n 0, 1) := by decide +kernel
theorem dX6_growLight_1 : decode cX6_growLight 1 = .ok (.dup, 1) := by decide +kernel
theorem dX6_growLight_2 : decode cX6_growLight 2 = .ok (.getfield 9, 3) := by decide +kernel
theorem dX6_growLight_5 : decode cX6_growLight 5 = .ok (.iload_n 1, 1) := by decide +kernel
theorem dX6_growLight_6 : decode cX6_growLight 6 = .ok (.iadd, 1) := by decide +kernel
theorem dX6_growLight_7 : decode cX6_growLight 7 = .ok (.putfield 9, 3) := by decide +kernel
theorem dX6_growLight_10 : decode cX6_growLight 10 = .ok (.iconst 0, 1) := by decide +kernel
theorem dX6_growLight_11 : decode cX6_growLight 11 = .ok (.istore_n 2, 1) := by decide +kernel
theorem dX6_growLight_12 : decode cX6_growLight 12 = .ok (.iload_n 2, 1) := by decide +kernel
theorem dX6_growLight_13 : decode cX6_growLight 13 = .ok (.aload_n 0, 1) := by decide +kernel
theorem dX6_growLight_14 : decode cX6_growLight 14 = .ok (.getfield 57, 3) := by decide +kernel
theorem dX6_growLight_17 : decode cX6_growLight 17 = .ok (.if_icmp .ge 19, 3) := by decide +kernel
theorem dX6_growLight_20 : decode cX6_growLight 20 = .ok (.aload_n 0, 1) := by decide +kernel
theorem dX6_growLight_21 : decode cX6_growLight 21 = .ok (.getfield 17, 3) := by decide +kernel
theorem dX6_growLight_24 : decode cX6_growLight 24 = .ok (.iload_n 2, 1) := by decide +kernel
theorem dX6_growLight_25 : decode cX6_growLight 25 = .ok (.aaload, 1) := by decide +kernel
theorem dX6_growLight_26 : decode cX6_growLight 26 = .ok (.iconst (-1), 1) := by decide +kernel
theorem dX6_growLight_27 : decode cX6_growLight 27 = .ok (.putfield 112, 3) := by decide +kernel
theorem dX6_growLight_30 : decode cX6_growLight 30 = .ok (.iinc 2 1, 3) := by decide +kernel
theorem dX6_growLight_33 : decode cX6_growLight 33 = .ok (.goto (-21), 3) := by decide +kernel
theorem dX6_growLight_36 : decode cX6_growLight 36 = .ok (.return_, 1) := by decide +kernel
theorem dX6_liveThroughNight_0 : decode cX6_liveThroughNight 0 = .ok (.iconst 0, 1) := by decide +kernel
theorem dX6_liveThroughNight_1 : decode cX6_liveThroughNight 1 = .ok (.istore_n 1, 1) := by decide +kernel
theorem dX6_liveThroughNight_2 : decode cX6_liveThroughNight 2 = .ok (.iload_n 1, 1) := by decide +kernel
theorem dX6_liveThroughNight_3 : decode cX6_liveThroughNight 3 = .ok (.aload_n 0, 1) := by decide +kernel
theorem dX6_liveThroughNight_4 : decode cX6_liveThroughNight 4 = .ok (.getfield 41, 3) := by decide +kernel
theorem dX6_liveThroughNight_7 : decode cX6_liveThroughNight 7 = .ok (.getfield 121, 3) := by decide +kernel
theorem dX6_liveThroughNight_10 : decode cX6_liveThroughNight 10 = .ok (.if_icmp .ge 86, 3) := by decide +kernel
theorem dX6_liveThroughNight_13 : decode cX6_liveThroughNight 13 = .ok (.aload_n 0, 1) := by decide +kernel
theorem dX6_liveThroughNight_14 : decode cX6_liveThroughNight 14 = .ok (.getfield 41, 3) := by decide +kernel
theorem dX6_liveThroughNight_17 : decode cX6_liveThroughNight 17 = .ok (.getfield 124, 3) := by decide +kernel
theorem dX6_liveThroughNight_20 : decode cX6_liveThroughNight 20 = .ok (.iload_n 1, 1) := by decide +kernel
theorem dX6_liveThroughNight_21 : decode cX6_liveThroughNight 21 = .ok (.iaload, 1) := by decide +kernel
theorem dX6_liveThroughNight_22 : decode cX6_liveThroughNight 22 = .ok (.ifCond .ne 11, 3) := by decide +kernel
theorem dX6_liveThroughNight_25 : decode cX6_liveThroughNight 25 = .ok (.aload_n 0, 1) := by decide +kernel
theorem dX6_liveThroughNight_26 : decode cX6_liveThroughNight 26 = .ok (.iconst 1, 1) := by decide +kernel
theorem dX6_liveThroughNight_27 : decode cX6_liveThroughNight 27 = .ok (.invokevirtual 127, 3) := by decide +kernel
theorem dX6_liveThroughNight_30 : decode cX6_liveThroughNight 30 = .ok (.goto 60, 3) := by decide +kernel
theorem dX6_liveThroughNight_33 : decode cX6_liveThroughNight 33 = .ok (.aload_n 0, 1) := by decide +kernel
theorem dX6_liveThroughNight_34 : decode cX6_liveThroughNight 34 = .ok (.getfield 41, 3) := by decide +kernel
theorem dX6_liveThroughNight_37 : decode cX6_liveThroughNight 37 = .ok (.getfield 124, 3) := by decide +kernel
theorem dX6_liveThroughNight_40 : decode cX6_liveThroughNight 40 = .ok (.iload_n 1, 1) := by decide +kernel
theorem dX6_liveThroughNight_41 : decode cX6_liveThroughNight 41 = .ok (.iaload, 1) := by decide +kernel
theorem dX6_liveThroughNight_42 : decode cX6_liveThroughNight 42 = .ok (.iconst 1, 1) := by decide +kernel
theorem dX6_liveThroughNight_43 : decode cX6_liveThroughNight 43 = .ok (.if_icmp .ne 29, 3) := by decide +kernel
theorem dX6_liveThroughNight_46 : decode cX6_liveThroughNight 46 = .ok (.aload_n 0, 1) := by decide +kernel
theorem dX6_liveThroughNight_47 : decode cX6_liveThroughNight 47 = .ok (.aload_n 0, 1) := by decide +kernel
theorem dX6_liveThroughNight_48 : decode cX6_liveThroughNight 48 = .ok (.getfield 41, 3) := by decide +kernel
theorem dX6_liveThroughNight_51 : decode cX6_liveThroughNight 51 = .ok (.getfield 130, 3) := by decide +kernel
theorem dX6_liveThroughNight_54 : decode cX6_liveThroughNight 54 = .ok (.iload_n 1, 1) := by decide +kernel
theorem dX6_liveThroughNight_55 : decode cX6_liveThroughNight 55 = .ok (.iaload, 1) := by decide +kernel
theorem dX6_liveThroughNight_56 : decode cX6_liveThroughNight 56 = .ok (.aload_n 0, 1) := by decide +kernel
theorem dX6_liveThroughNight_57 : decode cX6_liveThroughNight 57 = .ok (.getfield 41, 3) := by decide +kernel
theorem dX6_liveThroughNight_60 : decode cX6_liveThroughNight 60 = .ok (.getfield 133, 3) := by decide +kernel
theorem dX6_liveThroughNight_63 : decode cX6_liveThroughNight 63 = .ok (.iload_n 1, 1) := by decide +kernel
theorem dX6_liveThroughNight_64 : decode cX6_liveThroughNight 64 = .ok (.iaload, 1) := by decide +kernel
theorem dX6_liveThroughNight_65 : decode cX6_liveThroughNight 65 = .ok (.invokevirtual 136, 3) := by decide +kernel
theorem dX6_liveThroughNight_68 : decode cX6_liveThroughNight 68 = .ok (.pop, 1) := by decide +kernel
theorem dX6_liveThroughNight_69 : decode cX6_liveThroughNight 69 = .ok (.goto 21, 3) := by decide +kernel
theorem dX6_liveThroughNight_72 : decode cX6_liveThroughNight 72 = .ok (.aload_n 0, 1) := by decide +kernel
theorem dX6_liveThroughNight_73 : decode cX6_liveThroughNight 73 = .ok (.getfield 17, 3) := by decide +kernel
theorem dX6_liveThroughNight_76 : decode cX6_liveThroughNight 76 = .ok (.aload_n 0, 1) := by decide +kernel
theorem dX6_liveThroughNight_77 : decode cX6_liveThroughNight 77 = .ok (.getfield 41, 3) := by decide +kernel
theorem dX6_liveThroughNight_80 : decode cX6_liveThroughNight 80 = .ok (.getfield 130, 3) := by decide +kernel
theorem dX6_liveThroughNight_83 : decode cX6_liveThroughNight 83 = .ok (.iload_n 1, 1) := by decide +kernel
theorem dX6_liveThroughNight_84 : decode cX6_liveThroughNight 84 = .ok (.iaload, 1) := by decide +kernel
theorem dX6_liveThroughNight_85 : decode cX6_liveThroughNight 85 = .ok (.aaload, 1) := by decide +kernel
theorem dX6_liveThroughNight_86 : decode cX6_liveThroughNight 86 = .ok (.iconst (-1), 1) := by decide +kernel
theorem dX6_liveThroughNight_87 : decode cX6_liveThroughNight 87 = .ok (.putfield 112, 3) := by decide +kernel
theorem dX6_liveThroughNight_90 : decode cX6_liveThroughNight 90 = .ok (.iinc 1 1, 3) := by decide +kernel
theorem dX6_liveThroughNight_93 : decode cX6_liveThroughNight 93 = .ok (.goto (-91), 3) := by decide +kernel
theorem dX6_liveThroughNight_96 : decode cX6_liveThroughNight 96 = .ok (.return_, 1) := by decide +kernel
theorem dX6_isAsSeen_0 : decode cX6_isAsSeen 0 = .ok (.aload_n 0, 1) := by decide +kernel
theorem dX6_isAsSeen_1 : decode cX6_isAsSeen 1 = .ok (.getfield 17, 3) := by decide +kernel
theorem dX6_isAsSeen_4 : decode cX6_isAsSeen 4 = .ok (.iload_n 1, 1) := by decide +kernel
theorem dX6_isAsSeen_5 : decode cX6_isAsSeen 5 = .ok (.aaload, 1) := by decide +kernel
theorem dX6_isAsSeen_6 : decode cX6_isAsSeen 6 = .ok (.aload_n 0, 1) := by decide +kernel
theorem dX6_isAsSeen_7 : decode cX6_isAsSeen 7 = .ok (.getfield 9, 3) := by decide +kernel
theorem dX6_isAsSeen_10 : decode cX6_isAsSeen 10 = .ok (.iload_n 2, 1) := by decide +kernel
theorem dX6_isAsSeen_11 : decode cX6_isAsSeen 11 = .ok (.iconst (-1), 1) := by decide +kernel
theorem dX6_isAsSeen_12 : decode cX6_isAsSeen 12 = .ok (.if_icmp .ne 7, 3) := by decide +kernel
theorem dX6_isAsSeen_15 : decode cX6_isAsSeen 15 = .ok (.iconst (-1), 1) := by decide +kernel
theorem dX6_isAsSeen_16 : decode cX6_isAsSeen 16 = .ok (.goto 9, 3) := by decide +kernel
theorem dX6_isAsSeen_19 : decode cX6_isAsSeen 19 = .ok (.aload_n 0, 1) := by decide +kernel
theorem dX6_isAsSeen_20 : decode cX6_isAsSeen 20 = .ok (.getfield 21, 3) := by decide +kernel
theorem dX6_isAsSeen_23 : decode cX6_isAsSeen 23 = .ok (.iload_n 2, 1) := by decide +kernel
theorem dX6_isAsSeen_24 : decode cX6_isAsSeen 24 = .ok (.iaload, 1) := by decide +kernel
theorem dX6_isAsSeen_25 : decode cX6_isAsSeen 25 = .ok (.iload_n 3, 1) := by decide +kernel
theorem dX6_isAsSeen_26 : decode cX6_isAsSeen 26 = .ok (.iload 4, 2) := by decide +kernel
theorem dX6_isAsSeen_28 : decode cX6_isAsSeen 28 = .ok (.invokevirtual 140, 3) := by decide +kernel
theorem dX6_isAsSeen_31 : decode cX6_isAsSeen 31 = .ok (.istore 5, 2) := by decide +kernel
theorem dX6_isAsSeen_33 : decode cX6_isAsSeen 33 = .ok (.iconst 0, 1) := by decide +kernel
theorem dX6_isAsSeen_34 : decode cX6_isAsSeen 34 = .ok (.istore 6, 2) := by decide +kernel
theorem dX6_isAsSeen_36 : decode cX6_isAsSeen 36 = .ok (.iload 6, 2) := by decide +kernel
theorem dX6_isAsSeen_38 : decode cX6_isAsSeen 38 = .ok (.aload_n 0, 1) := by decide +kernel
theorem dX6_isAsSeen_39 : decode cX6_isAsSeen 39 = .ok (.getfield 37, 3) := by decide +kernel
theorem dX6_isAsSeen_42 : decode cX6_isAsSeen 42 = .ok (.getfield 121, 3) := by decide +kernel
theorem dX6_isAsSeen_45 : decode cX6_isAsSeen 45 = .ok (.if_icmp .ge 40, 3) := by decide +kernel
theorem dX6_isAsSeen_48 : decode cX6_isAsSeen 48 = .ok (.aload_n 0, 1) := by decide +kernel
theorem dX6_isAsSeen_49 : decode cX6_isAsSeen 49 = .ok (.getfield 37, 3) := by decide +kernel
theorem dX6_isAsSeen_52 : decode cX6_isAsSeen 52 = .ok (.getfield 130, 3) := by decide +kernel
theorem dX6_isAsSeen_55 : decode cX6_isAsSeen 55 = .ok (.iload 6, 2) := by decide +kernel
theorem dX6_isAsSeen_57 : decode cX6_isAsSeen 57 = .ok (.iaload, 1) := by decide +kernel
theorem dX6_isAsSeen_58 : decode cX6_isAsSeen 58 = .ok (.iload_n 1, 1) := by decide +kernel
theorem dX6_isAsSeen_59 : decode cX6_isAsSeen 59 = .ok (.if_icmp .ne 20, 3) := by decide +kernel
theorem dX6_isAsSeen_62 : decode cX6_isAsSeen 62 = .ok (.aload_n 0, 1) := by decide +kernel
theorem dX6_isAsSeen_63 : decode cX6_isAsSeen 63 = .ok (.getfield 37, 3) := by decide +kernel
theorem dX6_isAsSeen_66 : decode cX6_isAsSeen 66 = .ok (.getfield 133, 3) := by decide +kernel
theorem dX6_isAsSeen_69 : decode cX6_isAsSeen 69 = .ok (.iload 6, 2) := by decide +kernel
theorem dX6_isAsSeen_71 : decode cX6_isAsSeen 71 = .ok (.iaload, 1) := by decide +kernel
theorem dX6_isAsSeen_72 : decode cX6_isAsSeen 72 = .ok (.iload 5, 2) := by decide +kernel
theorem dX6_isAsSeen_74 : decode cX6_isAsSeen 74 = .ok (.if_icmp .eq 5, 3) := by decide +kernel
theorem dX6_isAsSeen_77 : decode cX6_isAsSeen 77 = .ok (.iconst 0, 1) := by decide +kernel
theorem dX6_isAsSeen_78 : decode cX6_isAsSeen 78 = .ok (.ireturn, 1) := by decide +kernel
theorem dX6_isAsSeen_79 : decode cX6_isAsSeen 79 = .ok (.iinc 6 1, 3) := by decide +kernel
theorem dX6_isAsSeen_82 : decode cX6_isAsSeen 82 = .ok (.goto (-46), 3) := by decide +kernel
theorem dX6_isAsSeen_85 : decode cX6_isAsSeen 85 = .ok (.iconst 1, 1) := by decide +kernel
theorem dX6_isAsSeen_86 : decode cX6_isAsSeen 86 = .ok (.ireturn, 1) := by decide +kernel
theorem dX7_init_0 : decode cX7_init 0 = .ok (.aload_n 0, 1) := by decide +kernel
theorem dX7_init_1 : decode cX7_init 1 = .ok (.invokespecial 3, 3) := by decide +kernel
theorem dX7_init_4 : decode cX7_init 4 = .ok (.aload_n 0, 1) := by decide +kernel
theorem dX7_init_5 : decode cX7_init 5 = .ok (.iconst 5, 1) := by decide +kernel
theorem dX7_init_6 : decode cX7_init 6 = .ok (.anewarray 11, 3) := by decide +kernel
theorem dX7_init_9 : decode cX7_init 9 = .ok (.putfield 13, 3) := by decide +kernel
theorem dX7_init_12 : decode cX7_init 12 = .ok (.aload_n 0, 1) := by decide +kernel
theorem dX7_init_13 : decode cX7_init 13 = .ok (.new 17, 3) := by decide +kernel
theorem dX7_init_16 : decode cX7_init 16 = .ok (.dup, 1) := by decide +kernel
theorem dX7_init_17 : decode cX7_init 17 = .ok (.invokespecial 19, 3) := by decide +kernel
theorem dX7_init_20 : decode cX7_init 20 = .ok (.putfield 20, 3) := by decide +kernel
theorem dX7_init_23 : decode cX7_init 23 = .ok (.new 11, 3) := by decide +kernel
theorem dX7_init_26 : decode cX7_init 26 = .ok (.dup, 1) := by decide +kernel
theorem dX7_init_27 : decode cX7_init 27 = .ok (.invokespecial 24, 3) := by decide +kernel
theorem dX7_init_30 : decode cX7_init 30 = .ok (.astore_n 1, 1) := by decide +kernel
theorem dX7_init_31 : decode cX7_init 31 = .ok (.aload_n 0, 1) := by decide +kernel
theorem dX7_init_32 : decode cX7_init 32 = .ok (.new 25, 3) := by decide +kernel
theorem dX7_init_35 : decode cX7_init 35 = .ok (.dup, 1) := by decide +kernel
theorem dX7_init_36 : decode cX7_init 36 = .ok (.aload_n 1, 1) := by decide +kernel
theorem dX7_init_37 : decode cX7_init 37 = .ok (.invokespecial 27, 3) := by decide +kernel
theorem dX7_init_40 : decode cX7_init 40 = .ok (.putfield 30, 3) := by decide +kernel
theorem dX7_init_43 : decode cX7_init 43 = .ok (.aload_n 0, 1) := by decide +kernel
theorem dX7_init_44 : decode cX7_init 44 = .ok (.new 25, 3) := by decide +kernel
theorem dX7_init_47 : decode cX7_init 47 = .ok (.dup, 1) := by decide +kernel
theorem dX7_init_48 : decode cX7_init 48 = .ok (.aload_n 1, 1) := by decide +kernel
theorem dX7_init_49 : decode cX7_init 49 = .ok (.invokespecial 27, 3) := by decide +kernel
theorem dX7_init_52 : decode cX7_init 52 = .ok (.putfield 34, 3) := by decide +kernel
theorem dX7_init_55 : decode cX7_init 55 = .ok (.aload_n 0, 1) := by decide +kernel
theorem dX7_init_56 : decode cX7_init 56 = .ok (.new 25, 3) := by decide +kernel
theorem dX7_init_59 : decode cX7_init 59 = .ok (.dup, 1) := by decide +kernel
theorem dX7_init_60 : decode cX7_init 60 = .ok (.aload_n 1, 1) := by decide +kernel
theorem dX7_init_61 : decode cX7_init 61 = .ok (.invokespecial 27, 3) := by decide +kernel
theorem dX7_init_64 : decode cX7_init 64 = .ok (.putfield 37, 3) := by decide +kernel
theorem dX7_init_67 : decode cX7_init 67 = .ok (.aload_n 0, 1) := by decide +kernel
theorem dX7_init_68 : decode cX7_init 68 = .ok (.new 40, 3) := by decide +kernel
theorem dX7_init_71 : decode cX7_init 71 = .ok (.dup, 1) := by decide +kernel
theorem dX7_init_72 : decode cX7_init 72 = .ok (.aload_n 0, 1) := by decide +kernel
theorem dX7_init_73 : decode cX7_init 73 = .ok (.getfield 30, 3) := by decide +kernel
theorem dX7_init_76 : decode cX7_init 76 = .ok (.invokespecial 42, 3) := by decide +kernel
theorem dX7_init_79 : decode cX7_init 79 = .ok (.putfield 45, 3) := by decide +kernel
theorem dX7_init_82 : decode cX7_init 82 = .ok (.iconst 0, 1) := by decide +kernel
theorem dX7_init_83 : decode cX7_init 83 = .ok (.istore_n 2, 1) := by decide +kernel
theorem dX7_init_84 : decode cX7_init 84 = .ok (.iload_n 2, 1) := by decide +kernel
theorem dX7_init_85 : decode cX7_init 85 = .ok (.aload_n 0, 1) := by decide +kernel
theorem dX7_init_86 : decode cX7_init 86 = .ok (.getfield 13, 3) := by decide +kernel
theorem dX7_init_89 : decode cX7_init 89 = .ok (.arraylength, 1) := by decide +kernel
theorem dX7_init_90 : decode cX7_init 90 = .ok (.if_icmp .ge 22, 3) := by decide +kernel
theorem dX7_init_93 : decode cX7_init 93 = .ok (.aload_n 0, 1) := by decide +kernel
theorem dX7_init_94 : decode cX7_init 94 = .ok (.getfield 13, 3) := by decide +kernel
theorem dX7_init_97 : decode cX7_init 97 = .ok (.iload_n 2, 1) := by decide +kernel
theorem dX7_init_98 : decode cX7_init 98 = .ok (.new 11, 3) := by decide +kernel
theorem dX7_init_101 : decode cX7_init 101 = .ok (.dup, 1) := by decide +kernel
theorem dX7_init_102 : decode cX7_init 102 = .ok (.invokespecial 24, 3) := by decide +kernel
theorem dX7_init_105 : decode cX7_init 105 = .ok (.aastore, 1) := by decide +kernel
theorem dX7_init_106 : decode cX7_init 106 = .ok (.iinc 2 1, 3) := by decide +kernel
theorem dX7_init_109 : decode cX7_init 109 = .ok (.goto (-25), 3) := by decide +kernel
theorem dX7_init_112 : decode cX7_init 112 = .ok (.return_, 1) := by decide +kernel
theorem dX7_feed_0 : decode cX7_feed 0 = .ok (.iload_n 1, 1) := by decide +kernel
theorem dX7_feed_1 : decode cX7_feed 1 = .ok (.ifCond .lt 9, 3) := by decide +kernel
theorem dX7_feed_4 : decode cX7_feed 4 = .ok (.iload_n 1, 1) := by decide +kernel
theorem dX7_feed_5 : decode cX7_feed 5 = .ok (.bipush 127, 2) := by decide +kernel
theorem dX7_feed_7 : decode cX7_feed 7 = .ok (.if_icmp .le 6, 3) := by decide +kernel
theorem dX7_feed_10 : decode cX7_feed 10 = .ok (.bipush (-2), 2) := by decide +kernel
theorem dX7_feed_12 : decode cX7_feed 12 = .ok (.ireturn, 1) := by decide +kernel
theorem dX7_feed_13 : decode cX7_feed 13 = .ok (.aload_n 0, 1) := by decide +kernel
theorem dX7_feed_14 : decode cX7_feed 14 = .ok (.getfield 30, 3) := by decide +kernel
theorem dX7_feed_17 : decode cX7_feed 17 = .ok (.getfield 49, 3) := by decide +kernel
theorem dX7_feed_20 : decode cX7_feed 20 = .ok (.bipush 100, 2) := by decide +kernel
theorem dX7_feed_22 : decode cX7_feed 22 = .ok (.if_icmp .lt 6, 3) := by decide +kernel
theorem dX7_feed_25 : decode cX7_feed 25 = .ok (.bipush (-4), 2) := by decide +kernel
theorem dX7_feed_27 : decode cX7_feed 27 = .ok (.ireturn, 1) := by decide +kernel
theorem dX7_feed_28 : decode cX7_feed 28 = .ok (.aload_n 0, 1) := by decide +kernel
theorem dX7_feed_29 : decode cX7_feed 29 = .ok (.getfield 30, 3) := by decide +kernel
theorem dX7_feed_32 : decode cX7_feed 32 = .ok (.getfield 53, 3) := by decide +kernel
theorem dX7_feed_35 : decode cX7_feed 35 = .ok (.aload_n 0, 1) := by decide +kernel
theorem dX7_feed_36 : decode cX7_feed 36 = .ok (.getfield 30, 3) := by decide +kernel
theorem dX7_feed_39 : decode cX7_feed 39 = .ok (.dup, 1) := by decide +kernel
theorem dX7_feed_40 : decode cX7_feed 40 = .ok (.getfield 49, 3) := by decide +kernel
theorem dX7_feed_43 : decode cX7_feed 43 = .ok (.dup_x1, 1) := by decide +kernel
theorem dX7_feed_44 : decode cX7_feed 44 = .ok (.iconst 1, 1) := by decide +kernel
theorem dX7_feed_45 : decode cX7_feed 45 = .ok (.iadd, 1) := by decide +kernel
theorem dX7_feed_46 : decode cX7_feed 46 = .ok (.putfield 49, 3) := by decide +kernel
theorem dX7_feed_49 : decode cX7_feed 49 = .ok (.iload_n 1, 1) := by decide +kernel
theorem dX7_feed_50 : decode cX7_feed 50 = .ok (.i2c, 1) := by decide +kernel
theorem dX7_feed_51 : decode cX7_feed 51 = .ok (.castore, 1) := by decide +kernel
theorem dX7_feed_52 : decode cX7_feed 52 = .ok (.aload_n 0, 1) := by decide +kernel
theorem dX7_feed_53 : decode cX7_feed 53 = .ok (.getfield 30, 3) := by decide +kernel
theorem dX7_feed_56 : decode cX7_feed 56 = .ok (.getfield 49, 3) := by decide +kernel
theorem dX7_feed_59 : decode cX7_feed 59 = .ok (.ireturn, 1) := by decide +kernel
theorem dX7_village_0 : decode cX7_village 0 = .ok (.aload_n 0, 1) := by decide +kernel
theorem dX7_village_1 : decode cX7_village 1 = .ok (.getfield 30, 3) := by decide +kernel
theorem dX7_village_4 : decode cX7_village 4 = .ok (.getfield 57, 3) := by decide +kernel
theorem dX7_village_7 : decode cX7_village 7 = .ok (.iconst 5, 1) := by decide +kernel
theorem dX7_village_8 : decode cX7_village 8 = .ok (.if_icmp .lt 6, 3) := by decide +kernel
theorem dX7_village_11 : decode cX7_village 11 = .ok (.bipush (-4), 2) := by decide +kernel
theorem dX7_village_13 : decode cX7_village 13 = .ok (.ireturn, 1) := by decide +kernel
theorem dX7_village_14 : decode cX7_village 14 = .ok (.aload_n 0, 1) := by decide +kernel
theorem dX7_village_15 : decode cX7_village 15 = .ok (.getfield 13, 3) := by decide +kernel
theorem dX7_village_18 : decode cX7_village 18 = .ok (.aload_n 0, 1) := by decide +kernel
theorem dX7_village_19 : decode cX7_village 19 = .ok (.getfield 30, 3) := by decide +kernel
theorem dX7_village_22 : decode cX7_village 22 = .ok (.getfield 57, 3) := by decide +kernel
theorem dX7_village_25 : decode cX7_village 25 = .ok (.aaload, 1) := by decide +kernel
theorem dX7_village_26 : decode cX7_village 26 = .ok (.astore_n 1, 1) := by decide +kernel
theorem dX7_village_27 : decode cX7_village 27 = .ok (.new 59, 3) := by decide +kernel
theorem dX7_village_30 : decode cX7_village 30 = .ok (.dup, 1) := by decide +kernel
theorem dX7_village_31 : decode cX7_village 31 = .ok (.aload_n 0, 1) := by decide +kernel
theorem dX7_village_32 : decode cX7_village 32 = .ok (.getfield 30, 3) := by decide +kernel
theorem dX7_village_35 : decode cX7_village 35 = .ok (.getfield 53, 3) := by decide +kernel
theorem dX7_village_38 : decode cX7_village 38 = .ok (.aload_n 0, 1) := by decide +kernel
theorem dX7_village_39 : decode cX7_village 39 = .ok (.getfield 30, 3) := by decide +kernel
theorem dX7_village_42 : decode cX7_village 42 = .ok (.getfield 49, 3) := by decide +kernel
theorem dX7_village_45 : decode cX7_village 45 = .ok (.aload_n 1, 1) := by decide +kernel
theorem dX7_village_46 : decode cX7_village 46 = .ok (.invokespecial 61, 3) := by decide +kernel
theorem dX7_village_49 : decode cX7_village 49 = .ok (.astore_n 2, 1) := by decide +kernel
theorem dX7_village_50 : decode cX7_village 50 = .ok (.aload_n 2, 1) := by decide +kernel
theorem dX7_village_51 : decode cX7_village 51 = .ok (.invokevirtual 64, 3) := by decide +kernel
theorem dX7_village_54 : decode cX7_village 54 = .ok (.istore_n 3, 1) := by decide +kernel
theorem dX7_village_55 : decode cX7_village 55 = .ok (.aload_n 0, 1) := by decide +kernel
theorem dX7_village_56 : decode cX7_village 56 = .ok (.getfield 30, 3) := by decide +kernel
theorem dX7_village_59 : decode cX7_village 59 = .ok (.iconst 0, 1) := by decide +kernel
theorem dX7_village_60 : decode cX7_village 60 = .ok (.putfield 49, 3) := by decide +kernel
theorem dX7_village_63 : decode cX7_village 63 = .ok (.iload_n 3, 1) := by decide +kernel
theorem dX7_village_64 : decode cX7_village 64 = .ok (.ifCond .ne 11, 3) := by decide +kernel
theorem dX7_village_67 : decode cX7_village 67 = .ok (.bipush (-10), 2) := by decide +kernel
theorem dX7_village_69 : decode cX7_village 69 = .ok (.aload_n 2, 1) := by decide +kernel
theorem dX7_village_70 : decode cX7_village 70 = .ok (.getfield 68, 3) := by decide +kernel
theorem dX7_village_73 : decode cX7_village 73 = .ok (.isub, 1) := by decide +kernel
theorem dX7_village_74 : decode cX7_village 74 = .ok (.ireturn, 1) := by decide +kernel
theorem dX7_village_75 : decode cX7_village 75 = .ok (.aload_n 0, 1) := by decide +kernel
theorem dX7_village_76 : decode cX7_village 76 = .ok (.getfield 30, 3) := by decide +kernel
theorem dX7_village_79 : decode cX7_village 79 = .ok (.aload_n 1, 1) := by decide +kernel
theorem dX7_village_80 : decode cX7_village 80 = .ok (.putfield 71, 3) := by decide +kernel
theorem dX7_village_83 : decode cX7_village 83 = .ok (.aload_n 0, 1) := by decide +kernel
theorem dX7_village_84 : decode cX7_village 84 = .ok (.getfield 30, 3) := by decide +kernel
theorem dX7_village_87 : decode cX7_village 87 = .ok (.dup, 1) := by decide +kernel
theorem dX7_village_88 : decode cX7_village 88 = .ok (.getfield 57, 3) := by decide +kernel
theorem dX7_village_91 : decode cX7_village 91 = .ok (.dup_x1, 1) := by decide +kernel
theorem dX7_village_92 : decode cX7_village 92 = .ok (.iconst 1, 1) := by decide +kernel
theorem dX7_village_93 : decode cX7_village 93 = .ok (.iadd, 1) := by decide +kernel
theorem dX7_village_94 : decode cX7_village 94 = .ok (.putfield 57, 3) := by decide +kernel
theorem dX7_village_97 : decode cX7_village 97 = .ok (.ireturn, 1) := by decide +kernel
theorem dX7_person_0 : decode cX7_person 0 = .ok (.iload_n 1, 1) := by decide +kernel
theorem dX7_person_1 : decode cX7_person 1 = .ok (.invokestatic 75, 3) := by decide +kernel
theorem dX7_person_4 : decode cX7_person 4 = .ok (.ifCond .ne 5, 3) := by decide +kernel
theorem dX7_person_7 : decode cX7_person 7 = .ok (.iconst (-1), 1) := by decide +kernel
theorem dX7_person_8 : decode cX7_person 8 = .ok (.ireturn, 1) := by decide +kernel
theorem dX7_person_9 : decode cX7_person 9 = .ok (.iload_n 2, 1) := by decide +kernel
theorem dX7_person_10 : decode cX7_person 10 = .ok (.invokestatic 79, 3) := by decide +kernel
theorem dX7_person_13 : decode cX7_person 13 = .ok (.ifCond .eq 26, 3) := by decide +kernel
theorem dX7_person_16 : decode cX7_person 16 = .ok (.iload_n 3, 1) := by decide +kernel
theorem dX7_person_17 : decode cX7_person 17 = .ok (.ifCond .lt 22, 3) := by decide +kernel
theorem dX7_person_20 : decode cX7_person 20 = .ok (.iload_n 3, 1) := by decide +kernel
theorem dX7_person_21 : decode cX7_person 21 = .ok (.sipush 200, 3) := by decide +kernel
theorem dX7_person_24 : decode cX7_person 24 = .ok (.if_icmp .ge 15, 3) := by decide +kernel
theorem dX7_person_27 : decode cX7_person 27 = .ok (.iload 4, 2) := by decide +kernel
theorem dX7_person_29 : decode cX7_person 29 = .ok (.ifCond .lt 10, 3) := by decide +kernel
theorem dX7_person_32 : decode cX7_person 32 = .ok (.iload 4, 2) := by decide +kernel
theorem dX7_person_34 : decode cX7_person 34 = .ok (.bipush 120, 2) := by decide +kernel
theorem dX7_person_36 : decode cX7_person 36 = .ok (.if_icmp .le 6, 3) := by decide +kernel
theorem dX7_person_39 : decode cX7_person 39 = .ok (.bipush (-2), 2) := by decide +kernel
theorem dX7_person_41 : decode cX7_person 41 = .ok (.ireturn, 1) := by decide +kernel
theorem dX7_person_42 : decode cX7_person 42 = .ok (.aload_n 0, 1) := by decide +kernel
theorem dX7_person_43 : decode cX7_person 43 = .ok (.getfield 30, 3) := by decide +kernel
theorem dX7_person_46 : decode cX7_person 46 = .ok (.getfield 82, 3) := by decide +kernel
theorem dX7_person_49 : decode cX7_person 49 = .ok (.bipush 6, 2) := by decide +kernel
theorem dX7_person_51 : decode cX7_person 51 = .ok (.if_icmp .lt 6, 3) := by decide +kernel
theorem dX7_person_54 : decode cX7_person 54 = .ok (.bipush (-4), 2) := by decide +kernel
theorem dX7_person_56 : decode cX7_person 56 = .ok (.ireturn, 1) := by decide +kernel
theorem dX7_person_57 : decode cX7_person 57 = .ok (.aload_n 0, 1) := by decide +kernel
theorem dX7_person_58 : decode cX7_person 58 = .ok (.getfield 30, 3) := by decide +kernel
theorem dX7_person_61 : decode cX7_person 61 = .ok (.getfield 85, 3) := by decide +kernel
theorem dX7_person_64 : decode cX7_person 64 = .ok (.aload_n 0, 1) := by decide +kernel
theorem dX7_person_65 : decode cX7_person 65 = .ok (.getfield 30, 3) := by decide +kernel
theorem dX7_person_68 : decode cX7_person 68 = .ok (.getfield 82, 3) := by decide +kernel
theorem dX7_person_71 : decode cX7_person 71 = .ok (.aaload, 1) := by decide +kernel
theorem dX7_person_72 : decode cX7_person 72 = .ok (.iload_n 1, 1) := by decide +kernel
theorem dX7_person_73 : decode cX7_person 73 = .ok (.iload_n 2, 1) := by decide +kernel
theorem dX7_person_74 : decode cX7_person 74 = .ok (.iload_n 3, 1) := by decide +kernel
theorem dX7_person_75 : decode cX7_person 75 = .ok (.iload 4, 2) := by decide +kernel
theorem dX7_person_77 : decode cX7_person 77 = .ok (.invokevirtual 89, 3) := by decide +kernel
theorem dX7_person_80 : decode cX7_person 80 = .ok (.aload_n 0, 1) := by decide +kernel
theorem dX7_person_81 : decode cX7_person 81 = .ok (.getfield 30, 3) := by decide +kernel
theorem dX7_person_84 : decode cX7_person 84 = .ok (.dup, 1) := by decide +kernel
theorem dX7_person_85 : decode cX7_person 85 = .ok (.getfield 82, 3) := by decide +kernel
theorem dX7_person_88 : decode cX7_person 88 = .ok (.dup_x1, 1) := by decide +kernel
theorem dX7_person_89 : decode cX7_person 89 = .ok (.iconst 1, 1) := by decide +kernel
theorem dX7_person_90 : decode cX7_person 90 = .ok (.iadd, 1) := by decide +kernel
theorem dX7_person_91 : decode cX7_person 91 = .ok (.putfield 82, 3) := by decide +kernel
theorem dX7_person_94 : decode cX7_person 94 = .ok (.ireturn, 1) := by decide +kernel
theorem dX7_vintage_0 : decode cX7_vintage 0 = .ok (.iload_n 1, 1) := by decide +kernel
theorem dX7_vintage_1 : decode cX7_vintage 1 = .ok (.ifCond .lt 17, 3) := by decide +kernel
theorem dX7_vintage_4 : decode cX7_vintage 4 = .ok (.iload_n 1, 1) := by decide +kernel
theorem dX7_vintage_5 : decode cX7_vintage 5 = .ok (.sipush 200, 3) := by decide +kernel
theorem dX7_vintage_8 : decode cX7_vintage 8 = .ok (.if_icmp .ge 10, 3) := by decide +kernel
theorem dX7_vintage_11 : decode cX7_vintage 11 = .ok (.iload_n 2, 1) := by decide +kernel
theorem dX7_vintage_12 : decode cX7_vintage 12 = .ok (.invokestatic 95, 3) := by decide +kernel
theorem dX7_vintage_15 : decode cX7_vintage 15 = .ok (.ifCond .ne 6, 3) := by decide +kernel
theorem dX7_vintage_18 : decode cX7_vintage 18 = .ok (.bipush (-2), 2) := by decide +kernel
theorem dX7_vintage_20 : decode cX7_vintage 20 = .ok (.ireturn, 1) := by decide +kernel
theorem dX7_vintage_21 : decode cX7_vintage 21 = .ok (.aload_n 0, 1) := by decide +kernel
theorem dX7_vintage_22 : decode cX7_vintage 22 = .ok (.getfield 30, 3) := by decide +kernel
theorem dX7_vintage_25 : decode cX7_vintage 25 = .ok (.getfield 98, 3) := by decide +kernel
theorem dX7_vintage_28 : decode cX7_vintage 28 = .ok (.iconst 5, 1) := by decide +kernel
theorem dX7_vintage_29 : decode cX7_vintage 29 = .ok (.if_icmp .lt 6, 3) := by decide +kernel
theorem dX7_vintage_32 : decode cX7_vintage 32 = .ok (.bipush (-4), 2) := by decide +kernel
theorem dX7_vintage_34 : decode cX7_vintage 34 = .ok (.ireturn, 1) := by decide +kernel
theorem dX7_vintage_35 : decode cX7_vintage 35 = .ok (.aload_n 0, 1) := by decide +kernel
theorem dX7_vintage_36 : decode cX7_vintage 36 = .ok (.getfield 30, 3) := by decide +kernel
theorem dX7_vintage_39 : decode cX7_vintage 39 = .ok (.iload_n 1, 1) := by decide +kernel
theorem dX7_vintage_40 : decode cX7_vintage 40 = .ok (.iload_n 2, 1) := by decide +kernel
theorem dX7_vintage_41 : decode cX7_vintage 41 = .ok (.invokevirtual 101, 3) := by decide +kernel
theorem dX7_vintage_44 : decode cX7_vintage 44 = .ok (.ireturn, 1) := by decide +kernel
theorem dX7_of_0 : decode cX7_of 0 = .ok (.aload_n 0, 1) := by decide +kernel
theorem dX7_of_1 : decode cX7_of 1 = .ok (.iload_n 1, 1) := by decide +kernel
theorem dX7_of_2 : decode cX7_of 2 = .ok (.invokevirtual 105, 3) := by decide +kernel
theorem dX7_of_5 : decode cX7_of 5 = .ok (.ifCond .ne 7, 3) := by decide +kernel
theorem dX7_of_8 : decode cX7_of 8 = .ok (.sipush (-10001), 3) := by decide +kernel
theorem dX7_of_11 : decode cX7_of 11 = .ok (.ireturn, 1) := by decide +kernel
theorem dX7_of_12 : decode cX7_of 12 = .ok (.aload_n 0, 1) := by decide +kernel
theorem dX7_of_13 : decode cX7_of 13 = .ok (.getfield 30, 3) := by decide +kernel
theorem dX7_of_16 : decode cX7_of 16 = .ok (.getfield 85, 3) := by decide +kernel
theorem dX7_of_19 : decode cX7_of 19 = .ok (.iload_n 1, 1) := by decide +kernel
theorem dX7_of_20 : decode cX7_of 20 = .ok (.aaload, 1) := by decide +kernel
theorem dX7_of_21 : decode cX7_of 21 = .ok (.astore_n 3, 1) := by decide +kernel
theorem dX7_of_22 : decode cX7_of 22 = .ok (.iload_n 2, 1) := by decide +kernel
theorem dX7_of_23 : decode cX7_of 23 = .ok (.tableswitch 137 0 8 #[49, 54, 59, 64, 69, 77, 90, 111, 124], 49) := by decide +kernel
theorem dX7_of_72 : decode cX7_of 72 = .ok (.aload_n 3, 1) := by decide +kernel
theorem dX7_of_73 : decode cX7_of 73 = .ok (.getfield 108, 3) := by decide +kernel
theorem dX7_of_76 : decode cX7_of 76 = .ok (.ireturn, 1) := by decide +kernel
theorem dX7_of_77 : decode cX7_of 77 = .ok (.aload_n 3, 1) := by decide +kernel
theorem dX7_of_78 : decode cX7_of 78 = .ok (.getfield 111, 3) := by decide +kernel
theorem dX7_of_81 : decode cX7_of 81 = .ok (.ireturn, 1) := by decide +kernel
theorem dX7_of_82 : decode cX7_of 82 = .ok (.aload_n 3, 1) := by decide +kernel
theorem dX7_of_83 : decode cX7_of 83 = .ok (.getfield 114, 3) := by decide +kernel
theorem dX7_of_86 : decode cX7_of 86 = .ok (.ireturn, 1) := by decide +kernel
theorem dX7_of_87 : decode cX7_of 87 = .ok (.aload_n 3, 1) := by decide +kernel
theorem dX7_of_88 : decode cX7_of 88 = .ok (.getfield 117, 3) := by decide +kernel
theorem dX7_of_91 : decode cX7_of 91 = .ok (.ireturn, 1) := by decide +kernel
theorem dX7_of_92 : decode cX7_of 92 = .ok (.aload_n 3, 1) := by decide +kernel
theorem dX7_of_93 : decode cX7_of 93 = .ok (.getfield 120, 3) := by decide +kernel
theorem dX7_of_96 : decode cX7_of 96 = .ok (.invokestatic 123, 3) := by decide +kernel
theorem dX7_of_99 : decode cX7_of 99 = .ok (.ireturn, 1) := by decide +kernel
theorem dX7_of_100 : decode cX7_of 100 = .ok (.aload_n 0, 1) := by decide +kernel
theorem dX7_of_101 : decode cX7_of 101 = .ok (.getfield 30, 3) := by decide +kernel
theorem dX7_of_104 : decode cX7_of 104 = .ok (.iload_n 1, 1) := by decide +kernel
theorem dX7_of_105 : decode cX7_of 105 = .ok (.aload_n 3, 1) := by decide +kernel
theorem dX7_of_106 : decode cX7_of 106 = .ok (.getfield 120, 3) := by decide +kernel
theorem dX7_of_109 : decode cX7_of 109 = .ok (.invokevirtual 127, 3) := by decide +kernel
theorem dX7_of_112 : decode cX7_of 112 = .ok (.ireturn, 1) := by decide +kernel
theorem dX7_of_113 : decode cX7_of 113 = .ok (.aload_n 0, 1) := by decide +kernel
theorem dX7_of_114 : decode cX7_of 114 = .ok (.getfield 30, 3) := by decide +kernel
theorem dX7_of_117 : decode cX7_of 117 = .ok (.iload_n 1, 1) := by decide +kernel
theorem dX7_of_118 : decode cX7_of 118 = .ok (.aload_n 3, 1) := by decide +kernel
theorem dX7_of_119 : decode cX7_of 119 = .ok (.getfield 120, 3) := by decide +kernel
theorem dX7_of_122 : decode cX7_of 122 = .ok (.invokevirtual 130, 3) := by decide +kernel
theorem dX7_of_125 : decode cX7_of 125 = .ok (.ifCond .le 7, 3) := by decide +kernel
theorem dX7_of_128 : decode cX7_of 128 = .ok (.iconst 1, 1) := by decide +kernel
theorem dX7_of_129 : decode cX7_of 129 = .ok (.goto 4, 3) := by decide +kernel
theorem dX7_of_132 : decode cX7_of 132 = .ok (.iconst 0, 1) := by decide +kernel
theorem dX7_of_133 : decode cX7_of 133 = .ok (.ireturn, 1) := by decide +kernel
theorem dX7_of_134 : decode cX7_of 134 = .ok (.aload_n 0, 1) := by decide +kernel
theorem dX7_of_135 : decode cX7_of 135 = .ok (.getfield 30, 3) := by decide +kernel
theorem dX7_of_138 : decode cX7_of 138 = .ok (.iload_n 1, 1) := by decide +kernel
theorem dX7_of_139 : decode cX7_of 139 = .ok (.aload_n 3, 1) := by decide +kernel
theorem dX7_of_140 : decode cX7_of 140 = .ok (.getfield 120, 3) := by decide +kernel
theorem dX7_of_143 : decode cX7_of 143 = .ok (.invokevirtual 130, 3) := by decide +kernel
theorem dX7_of_146 : decode cX7_of 146 = .ok (.ireturn, 1) := by decide +kernel
theorem dX7_of_147 : decode cX7_of 147 = .ok (.aload_n 0, 1) := by decide +kernel
theorem dX7_of_148 : decode cX7_of 148 = .ok (.getfield 30, 3) := by decide +kernel
theorem dX7_of_151 : decode cX7_of 151 = .ok (.iload_n 1, 1) := by decide +kernel
theorem dX7_of_152 : decode cX7_of 152 = .ok (.aload_n 3, 1) := by decide +kernel
theorem dX7_of_153 : decode cX7_of 153 = .ok (.getfield 120, 3) := by decide +kernel
theorem dX7_of_156 : decode cX7_of 156 = .ok (.invokevirtual 133, 3) := by decide +kernel
theorem dX7_of_159 : decode cX7_of 159 = .ok (.ireturn, 1) := by decide +kernel
theorem dX7_of_160 : decode cX7_of 160 = .ok (.sipush (-10001), 3) := by decide +kernel
theorem dX7_of_163 : decode cX7_of 163 = .ok (.ireturn, 1) := by decide +kernel
theorem dX7_row_0 : decode cX7_row 0 = .ok (.aload_n 0, 1) := by decide +kernel
theorem dX7_row_1 : decode cX7_row 1 = .ok (.iload_n 1, 1) := by decide +kernel
theorem dX7_row_2 : decode cX7_row 2 = .ok (.invokevirtual 105, 3) := by decide +kernel
theorem dX7_row_5 : decode cX7_row 5 = .ok (.ifCond .eq 12, 3) := by decide +kernel
theorem dX7_row_8 : decode cX7_row 8 = .ok (.iload_n 2, 1) := by decide +kernel
theorem dX7_row_9 : decode cX7_row 9 = .ok (.ifCond .lt 8, 3) := by decide +kernel
theorem dX7_row_12 : decode cX7_row 12 = .ok (.iload_n 2, 1) := by decide +kernel
theorem dX7_row_13 : decode cX7_row 13 = .ok (.iconst 3, 1) := by decide +kernel
theorem dX7_row_14 : decode cX7_row 14 = .ok (.if_icmp .le 5, 3) := by decide +kernel
theorem dX7_row_17 : decode cX7_row 17 = .ok (.iconst (-1), 1) := by decide +kernel
theorem dX7_row_18 : decode cX7_row 18 = .ok (.ireturn, 1) := by decide +kernel
theorem dX7_row_19 : decode cX7_row 19 = .ok (.iload_n 3, 1) := by decide +kernel
theorem dX7_row_20 : decode cX7_row 20 = .ok (.invokestatic 79, 3) := by decide +kernel
theorem dX7_row_23 : decode cX7_row 23 = .ok (.ifCond .ne 6, 3) := by decide +kernel
theorem dX7_row_26 : decode cX7_row 26 = .ok (.bipush (-2), 2) := by decide +kernel
theorem dX7_row_28 : decode cX7_row 28 = .ok (.ireturn, 1) := by decide +kernel
theorem dX7_row_29 : decode cX7_row 29 = .ok (.aload_n 0, 1) := by decide +kernel
theorem dX7_row_30 : decode cX7_row 30 = .ok (.getfield 30, 3) := by decide +kernel
theorem dX7_row_33 : decode cX7_row 33 = .ok (.getfield 85, 3) := by decide +kernel
theorem dX7_row_36 : decode cX7_row 36 = .ok (.iload_n 1, 1) := by decide +kernel
theorem dX7_row_37 : decode cX7_row 37 = .ok (.aaload, 1) := by decide +kernel
theorem dX7_row_38 : decode cX7_row 38 = .ok (.astore 4, 2) := by decide +kernel
theorem dX7_row_40 : decode cX7_row 40 = .ok (.aload 4, 2) := by decide +kernel
theorem dX7_row_42 : decode cX7_row 42 = .ok (.getfield 108, 3) := by decide +kernel
theorem dX7_row_45 : decode cX7_row 45 = .ok (.bipush 6, 2) := by decide +kernel
theorem dX7_row_47 : decode cX7_row 47 = .ok (.if_icmp .eq 6, 3) := by decide +kernel
theorem dX7_row_50 : decode cX7_row 50 = .ok (.bipush (-3), 2) := by decide +kernel
theorem dX7_row_52 : decode cX7_row 52 = .ok (.ireturn, 1) := by decide +kernel
theorem dX7_row_53 : decode cX7_row 53 = .ok (.aload 4, 2) := by decide +kernel
theorem dX7_row_55 : decode cX7_row 55 = .ok (.getfield 136, 3) := by decide +kernel
theorem dX7_row_58 : decode cX7_row 58 = .ok (.iload_n 2, 1) := by decide +kernel
theorem dX7_row_59 : decode cX7_row 59 = .ok (.iaload, 1) := by decide +kernel
theorem dX7_row_60 : decode cX7_row 60 = .ok (.istore 5, 2) := by decide +kernel
theorem dX7_row_62 : decode cX7_row 62 = .ok (.aload 4, 2) := by decide +kernel
theorem dX7_row_64 : decode cX7_row 64 = .ok (.getfield 136, 3) := by decide +kernel
theorem dX7_row_67 : decode cX7_row 67 = .ok (.iload_n 2, 1) := by decide +kernel
theorem dX7_row_68 : decode cX7_row 68 = .ok (.iload_n 3, 1) := by decide +kernel
theorem dX7_row_69 : decode cX7_row 69 = .ok (.iastore, 1) := by decide +kernel
theorem dX7_row_70 : decode cX7_row 70 = .ok (.iload 5, 2) := by decide +kernel
theorem dX7_row_72 : decode cX7_row 72 = .ok (.ireturn, 1) := by decide +kernel
theorem dX7_wine_0 : decode cX7_wine 0 = .ok (.aload_n 0, 1) := by decide +kernel
theorem dX7_wine_1 : decode cX7_wine 1 = .ok (.iload_n 1, 1) := by decide +kernel
theorem dX7_wine_2 : decode cX7_wine 2 = .ok (.invokevirtual 140, 3) := by decide +kernel
theorem dX7_wine_5 : decode cX7_wine 5 = .ok (.ifCond .eq 12, 3) := by decide +kernel
theorem dX7_wine_8 : decode cX7_wine 8 = .ok (.iload_n 2, 1) := by decide +kernel
theorem dX7_wine_9 : decode cX7_wine 9 = .ok (.ifCond .lt 8, 3) := by decide +kernel
theorem dX7_wine_12 : decode cX7_wine 12 = .ok (.iload_n 2, 1) := by decide +kernel
theorem dX7_wine_13 : decode cX7_wine 13 = .ok (.iconst 1, 1) := by decide +kernel
theorem dX7_wine_14 : decode cX7_wine 14 = .ok (.if_icmp .le 5, 3) := by decide +kernel
theorem dX7_wine_17 : decode cX7_wine 17 = .ok (.iconst (-1), 1) := by decide +kernel
theorem dX7_wine_18 : decode cX7_wine 18 = .ok (.ireturn, 1) := by decide +kernel
theorem dX7_wine_19 : decode cX7_wine 19 = .ok (.iload_n 2, 1) := by decide +kernel
theorem dX7_wine_20 : decode cX7_wine 20 = .ok (.ifCond .ne 15, 3) := by decide +kernel
theorem dX7_wine_23 : decode cX7_wine 23 = .ok (.aload_n 0, 1) := by decide +kernel
theorem dX7_wine_24 : decode cX7_wine 24 = .ok (.getfield 30, 3) := by decide +kernel
theorem dX7_wine_27 : decode cX7_wine 27 = .ok (.getfield 143, 3) := by decide +kernel
theorem dX7_wine_30 : decode cX7_wine 30 = .ok (.iload_n 1, 1) := by decide +kernel
theorem dX7_wine_31 : decode cX7_wine 31 = .ok (.iaload, 1) := by decide +kernel
theorem dX7_wine_32 : decode cX7_wine 32 = .ok (.goto 12, 3) := by decide +kernel
theorem dX7_wine_35 : decode cX7_wine 35 = .ok (.aload_n 0, 1) := by decide +kernel
theorem dX7_wine_36 : decode cX7_wine 36 = .ok (.getfield 30, 3) := by decide +kernel
theorem dX7_wine_39 : decode cX7_wine 39 = .ok (.getfield 146, 3) := by decide +kernel
theorem dX7_wine_42 : decode cX7_wine 42 = .ok (.iload_n 1, 1) := by decide +kernel
theorem dX7_wine_43 : decode cX7_wine 43 = .ok (.iaload, 1) := by decide +kernel
theorem dX7_wine_44 : decode cX7_wine 44 = .ok (.ireturn, 1) := by decide +kernel
theorem dX7_stock_0 : decode cX7_stock 0 = .ok (.aload_n 0, 1) := by decide +kernel
theorem dX7_stock_1 : decode cX7_stock 1 = .ok (.iload_n 1, 1) := by decide +kernel
theorem dX7_stock_2 : decode cX7_stock 2 = .ok (.invokevirtual 140, 3) := by decide +kernel
theorem dX7_stock_5 : decode cX7_stock 5 = .ok (.ifCond .ne 5, 3) := by decide +kernel
theorem dX7_stock_8 : decode cX7_stock 8 = .ok (.iconst (-1), 1) := by decide +kernel
theorem dX7_stock_9 : decode cX7_stock 9 = .ok (.ireturn, 1) := by decide +kernel
theorem dX7_stock_10 : decode cX7_stock 10 = .ok (.iload_n 2, 1) := by decide +kernel
theorem dX7_stock_11 : decode cX7_stock 11 = .ok (.invokestatic 95, 3) := by decide +kernel
theorem dX7_stock_14 : decode cX7_stock 14 = .ok (.ifCond .ne 6, 3) := by decide +kernel
theorem dX7_stock_17 : decode cX7_stock 17 = .ok (.bipush (-2), 2) := by decide +kernel
theorem dX7_stock_19 : decode cX7_stock 19 = .ok (.ireturn, 1) := by decide +kernel
theorem dX7_stock_20 : decode cX7_stock 20 = .ok (.aload_n 0, 1) := by decide +kernel
theorem dX7_stock_21 : decode cX7_stock 21 = .ok (.getfield 30, 3) := by decide +kernel
theorem dX7_stock_24 : decode cX7_stock 24 = .ok (.getfield 146, 3) := by decide +kernel
theorem dX7_stock_27 : decode cX7_stock 27 = .ok (.iload_n 1, 1) := by decide +kernel
theorem dX7_stock_28 : decode cX7_stock 28 = .ok (.iaload, 1) := by decide +kernel
theorem dX7_stock_29 : decode cX7_stock 29 = .ok (.istore_n 3, 1) := by decide +kernel
theorem dX7_stock_30 : decode cX7_stock 30 = .ok (.aload_n 0, 1) := by decide +kernel
theorem dX7_stock_31 : decode cX7_stock 31 = .ok (.getfield 30, 3) := by decide +kernel
theorem dX7_stock_34 : decode cX7_stock 34 = .ok (.getfield 146, 3) := by decide +kernel
theorem dX7_stock_37 : decode cX7_stock 37 = .ok (.iload_n 1, 1) := by decide +kernel
theorem dX7_stock_38 : decode cX7_stock 38 = .ok (.iload_n 2, 1) := by decide +kernel
theorem dX7_stock_39 : decode cX7_stock 39 = .ok (.iastore, 1) := by decide +kernel
theorem dX7_stock_40 : decode cX7_stock 40 = .ok (.iload_n 3, 1) := by decide +kernel
theorem dX7_stock_41 : decode cX7_stock 41 = .ok (.ireturn, 1) := by decide +kernel
theorem dX7_told_0 : decode cX7_told 0 = .ok (.iload_n 1, 1) := by decide +kernel
theorem dX7_told_1 : decode cX7_told 1 = .ok (.tableswitch 93 0 5 #[39, 47, 58, 69, 77, 85], 39) := by decide +kernel
theorem dX7_told_40 : decode cX7_told 40 = .ok (.aload_n 0, 1) := by decide +kernel
theorem dX7_told_41 : decode cX7_told 41 = .ok (.getfield 30, 3) := by decide +kernel
theorem dX7_told_44 : decode cX7_told 44 = .ok (.getfield 149, 3) := by decide +kernel
theorem dX7_told_47 : decode cX7_told 47 = .ok (.ireturn, 1) := by decide +kernel
theorem dX7_told_48 : decode cX7_told 48 = .ok (.aload_n 0, 1) := by decide +kernel
theorem dX7_told_49 : decode cX7_told 49 = .ok (.getfield 30, 3) := by decide +kernel
theorem dX7_told_52 : decode cX7_told 52 = .ok (.getfield 71, 3) := by decide +kernel
theorem dX7_told_55 : decode cX7_told 55 = .ok (.getfield 152, 3) := by decide +kernel
theorem dX7_told_58 : decode cX7_told 58 = .ok (.ireturn, 1) := by decide +kernel
theorem dX7_told_59 : decode cX7_told 59 = .ok (.aload_n 0, 1) := by decide +kernel
theorem dX7_told_60 : decode cX7_told 60 = .ok (.getfield 30, 3) := by decide +kernel
theorem dX7_told_63 : decode cX7_told 63 = .ok (.getfield 71, 3) := by decide +kernel
theorem dX7_told_66 : decode cX7_told 66 = .ok (.getfield 155, 3) := by decide +kernel
theorem dX7_told_69 : decode cX7_told 69 = .ok (.ireturn, 1) := by decide +kernel
theorem dX7_told_70 : decode cX7_told 70 = .ok (.aload_n 0, 1) := by decide +kernel
theorem dX7_told_71 : decode cX7_told 71 = .ok (.getfield 30, 3) := by decide +kernel
theorem dX7_told_74 : decode cX7_told 74 = .ok (.invokevirtual 158, 3) := by decide +kernel
theorem dX7_told_77 : decode cX7_told 77 = .ok (.ireturn, 1) := by decide +kernel
theorem dX7_told_78 : decode cX7_told 78 = .ok (.aload_n 0, 1) := by decide +kernel
theorem dX7_told_79 : decode cX7_told 79 = .ok (.getfield 30, 3) := by decide +kernel
theorem dX7_told_82 : decode cX7_told 82 = .ok (.invokevirtual 162, 3) := by decide +kernel
theorem dX7_told_85 : decode cX7_told 85 = .ok (.ireturn, 1) := by decide +kernel
theorem dX7_told_86 : decode cX7_told 86 = .ok (.aload_n 0, 1) := by decide +kernel
theorem dX7_told_87 : decode cX7_told 87 = .ok (.getfield 30, 3) := by decide +kernel
theorem dX7_told_90 : decode cX7_told 90 = .ok (.invokevirtual 165, 3) := by decide +kernel
theorem dX7_told_93 : decode cX7_told 93 = .ok (.ireturn, 1) := by decide +kernel
theorem dX7_told_94 : decode cX7_told 94 = .ok (.iconst (-1), 1) := by decide +kernel
theorem dX7_told_95 : decode cX7_told 95 = .ok (.ireturn, 1) := by decide +kernel
theorem dX7_pour_0 : decode cX7_pour 0 = .ok (.aload_n 0, 1) := by decide +kernel
theorem dX7_pour_1 : decode cX7_pour 1 = .ok (.iload_n 1, 1) := by decide +kernel
theorem dX7_pour_2 : decode cX7_pour 2 = .ok (.invokevirtual 105, 3) := by decide +kernel
theorem dX7_pour_5 : decode cX7_pour 5 = .ok (.ifCond .eq 11, 3) := by decide +kernel
theorem dX7_pour_8 : decode cX7_pour 8 = .ok (.aload_n 0, 1) := by decide +kernel
theorem dX7_pour_9 : decode cX7_pour 9 = .ok (.iload_n 2, 1) := by decide +kernel
theorem dX7_pour_10 : decode cX7_pour 10 = .ok (.invokevirtual 140, 3) := by decide +kernel
theorem dX7_pour_13 : decode cX7_pour 13 = .ok (.ifCond .ne 5, 3) := by decide +kernel
theorem dX7_pour_16 : decode cX7_pour 16 = .ok (.iconst (-1), 1) := by decide +kernel
theorem dX7_pour_17 : decode cX7_pour 17 = .ok (.ireturn, 1) := by decide +kernel
theorem dX7_pour_18 : decode cX7_pour 18 = .ok (.aload_n 0, 1) := by decide +kernel
theorem dX7_pour_19 : decode cX7_pour 19 = .ok (.getfield 30, 3) := by decide +kernel
theorem dX7_pour_22 : decode cX7_pour 22 = .ok (.iload_n 1, 1) := by decide +kernel
theorem dX7_pour_23 : decode cX7_pour 23 = .ok (.iload_n 2, 1) := by decide +kernel
theorem dX7_pour_24 : decode cX7_pour 24 = .ok (.invokevirtual 168, 3) := by decide +kernel
theorem dX7_pour_27 : decode cX7_pour 27 = .ok (.ifCond .ne 6, 3) := by decide +kernel
theorem dX7_pour_30 : decode cX7_pour 30 = .ok (.bipush (-3), 2) := by decide +kernel
theorem dX7_pour_32 : decode cX7_pour 32 = .ok (.ireturn, 1) := by decide +kernel
theorem dX7_pour_33 : decode cX7_pour 33 = .ok (.aload_n 0, 1) := by decide +kernel
theorem dX7_pour_34 : decode cX7_pour 34 = .ok (.getfield 30, 3) := by decide +kernel
theorem dX7_pour_37 : decode cX7_pour 37 = .ok (.iload_n 1, 1) := by decide +kernel
theorem dX7_pour_38 : decode cX7_pour 38 = .ok (.iload_n 2, 1) := by decide +kernel
theorem dX7_pour_39 : decode cX7_pour 39 = .ok (.invokevirtual 130, 3) := by decide +kernel
theorem dX7_pour_42 : decode cX7_pour 42 = .ok (.ireturn, 1) := by decide +kernel
theorem dX7_dry_0 : decode cX7_dry 0 = .ok (.aload_n 0, 1) := by decide +kernel
theorem dX7_dry_1 : decode cX7_dry 1 = .ok (.iload_n 1, 1) := by decide +kernel
theorem dX7_dry_2 : decode cX7_dry 2 = .ok (.invokevirtual 105, 3) := by decide +kernel
theorem dX7_dry_5 : decode cX7_dry 5 = .ok (.ifCond .ne 5, 3) := by decide +kernel
theorem dX7_dry_8 : decode cX7_dry 8 = .ok (.iconst (-1), 1) := by decide +kernel
theorem dX7_dry_9 : decode cX7_dry 9 = .ok (.ireturn, 1) := by decide +kernel
theorem dX7_dry_10 : decode cX7_dry 10 = .ok (.aload_n 0, 1) := by decide +kernel
theorem dX7_dry_11 : decode cX7_dry 11 = .ok (.getfield 30, 3) := by decide +kernel
theorem dX7_dry_14 : decode cX7_dry 14 = .ok (.getfield 85, 3) := by decide +kernel
theorem dX7_dry_17 : decode cX7_dry 17 = .ok (.iload_n 1, 1) := by decide +kernel
theorem dX7_dry_18 : decode cX7_dry 18 = .ok (.aaload, 1) := by decide +kernel
theorem dX7_dry_19 : decode cX7_dry 19 = .ok (.getfield 120, 3) := by decide +kernel
theorem dX7_dry_22 : decode cX7_dry 22 = .ok (.istore_n 2, 1) := by decide +kernel
theorem dX7_dry_23 : decode cX7_dry 23 = .ok (.aload_n 0, 1) := by decide +kernel
theorem dX7_dry_24 : decode cX7_dry 24 = .ok (.getfield 30, 3) := by decide +kernel
theorem dX7_dry_27 : decode cX7_dry 27 = .ok (.getfield 85, 3) := by decide +kernel
theorem dX7_dry_30 : decode cX7_dry 30 = .ok (.iload_n 1, 1) := by decide +kernel
theorem dX7_dry_31 : decode cX7_dry 31 = .ok (.aaload, 1) := by decide +kernel
theorem dX7_dry_32 : decode cX7_dry 32 = .ok (.iconst (-1), 1) := by decide +kernel
theorem dX7_dry_33 : decode cX7_dry 33 = .ok (.putfield 120, 3) := by decide +kernel
theorem dX7_dry_36 : decode cX7_dry 36 = .ok (.iload_n 2, 1) := by decide +kernel
theorem dX7_dry_37 : decode cX7_dry 37 = .ok (.invokestatic 123, 3) := by decide +kernel
theorem dX7_dry_40 : decode cX7_dry 40 = .ok (.ireturn, 1) := by decide +kernel
theorem dX7_dawn_0 : decode cX7_dawn 0 = .ok (.iload_n 1, 1) := by decide +kernel
theorem dX7_dawn_1 : decode cX7_dawn 1 = .ok (.iconst 1, 1) := by decide +kernel
theorem dX7_dawn_2 : decode cX7_dawn 2 = .ok (.if_icmp .lt 9, 3) := by decide +kernel
theorem dX7_dawn_5 : decode cX7_dawn 5 = .ok (.iload_n 1, 1) := by decide +kernel
theorem dX7_dawn_6 : decode cX7_dawn 6 = .ok (.bipush 99, 2) := by decide +kernel
theorem dX7_dawn_8 : decode cX7_dawn 8 = .ok (.if_icmp .le 6, 3) := by decide +kernel
theorem dX7_dawn_11 : decode cX7_dawn 11 = .ok (.bipush (-2), 2) := by decide +kernel
theorem dX7_dawn_13 : decode cX7_dawn 13 = .ok (.ireturn, 1) := by decide +kernel
theorem dX7_dawn_14 : decode cX7_dawn 14 = .ok (.aload_n 0, 1) := by decide +kernel
theorem dX7_dawn_15 : decode cX7_dawn 15 = .ok (.getfield 30, 3) := by decide +kernel
theorem dX7_dawn_18 : decode cX7_dawn 18 = .ok (.getfield 149, 3) := by decide +kernel
theorem dX7_dawn_21 : decode cX7_dawn 21 = .ok (.iload_n 1, 1) := by decide +kernel
theorem dX7_dawn_22 : decode cX7_dawn 22 = .ok (.iadd, 1) := by decide +kernel
theorem dX7_dawn_23 : decode cX7_dawn 23 = .ok (.sipush 999, 3) := by decide +kernel
theorem dX7_dawn_26 : decode cX7_dawn 26 = .ok (.if_icmp .le 6, 3) := by decide +kernel
theorem dX7_dawn_29 : decode cX7_dawn 29 = .ok (.bipush (-3), 2) := by decide +kernel
theorem dX7_dawn_31 : decode cX7_dawn 31 = .ok (.ireturn, 1) := by decide +kernel
theorem dX7_dawn_32 : decode cX7_dawn 32 = .ok (.aload_n 0, 1) := by decide +kernel
theorem dX7_dawn_33 : decode cX7_dawn 33 = .ok (.getfield 30, 3) := by decide +kernel
theorem dX7_dawn_36 : decode cX7_dawn 36 = .ok (.iload_n 1, 1) := by decide +kernel
theorem dX7_dawn_37 : decode cX7_dawn 37 = .ok (.invokevirtual 172, 3) := by decide +kernel
theorem dX7_dawn_40 : decode cX7_dawn 40 = .ok (.aload_n 0, 1) := by decide +kernel
theorem dX7_dawn_41 : decode cX7_dawn 41 = .ok (.getfield 30, 3) := by decide +kernel
theorem dX7_dawn_44 : decode cX7_dawn 44 = .ok (.getfield 149, 3) := by decide +kernel
theorem dX7_dawn_47 : decode cX7_dawn 47 = .ok (.ireturn, 1) := by decide +kernel
theorem dX7_blend_0 : decode cX7_blend 0 = .ok (.aload_n 0, 1) := by decide +kernel
theorem dX7_blend_1 : decode cX7_blend 1 = .ok (.iload_n 1, 1) := by decide +kernel
theorem dX7_blend_2 : decode cX7_blend 2 = .ok (.invokevirtual 140, 3) := by decide +kernel
theorem dX7_blend_5 : decode cX7_blend 5 = .ok (.ifCond .eq 11, 3) := by decide +kernel
theorem dX7_blend_8 : decode cX7_blend 8 = .ok (.aload_n 0, 1) := by decide +kernel
theorem dX7_blend_9 : decode cX7_blend 9 = .ok (.iload_n 2, 1) := by decide +kernel
theorem dX7_blend_10 : decode cX7_blend 10 = .ok (.invokevirtual 140, 3) := by decide +kernel
theorem dX7_blend_13 : decode cX7_blend 13 = .ok (.ifCond .ne 5, 3) := by decide +kernel
theorem dX7_blend_16 : decode cX7_blend 16 = .ok (.iconst (-1), 1) := by decide +kernel
theorem dX7_blend_17 : decode cX7_blend 17 = .ok (.ireturn, 1) := by decide +kernel
theorem dX7_blend_18 : decode cX7_blend 18 = .ok (.iload_n 1, 1) := by decide +kernel
theorem dX7_blend_19 : decode cX7_blend 19 = .ok (.iload_n 2, 1) := by decide +kernel
theorem dX7_blend_20 : decode cX7_blend 20 = .ok (.if_icmp .ne 6, 3) := by decide +kernel
theorem dX7_blend_23 : decode cX7_blend 23 = .ok (.bipush (-2), 2) := by decide +kernel
theorem dX7_blend_25 : decode cX7_blend 25 = .ok (.ireturn, 1) := by decide +kernel
theorem dX7_blend_26 : decode cX7_blend 26 = .ok (.aload_n 0, 1) := by decide +kernel
theorem dX7_blend_27 : decode cX7_blend 27 = .ok (.getfield 30, 3) := by decide +kernel
theorem dX7_blend_30 : decode cX7_blend 30 = .ok (.getfield 146, 3) := by decide +kernel
theorem dX7_blend_33 : decode cX7_blend 33 = .ok (.iload_n 1, 1) := by decide +kernel
theorem dX7_blend_34 : decode cX7_blend 34 = .ok (.iaload, 1) := by decide +kernel
theorem dX7_blend_35 : decode cX7_blend 35 = .ok (.ifCond .eq 15, 3) := by decide +kernel
theorem dX7_blend_38 : decode cX7_blend 38 = .ok (.aload_n 0, 1) := by decide +kernel
theorem dX7_blend_39 : decode cX7_blend 39 = .ok (.getfield 30, 3) := by decide +kernel
theorem dX7_blend_42 : decode cX7_blend 42 = .ok (.getfield 146, 3) := by decide +kernel
theorem dX7_blend_45 : decode cX7_blend 45 = .ok (.iload_n 2, 1) := by decide +kernel
theorem dX7_blend_46 : decode cX7_blend 46 = .ok (.iaload, 1) := by decide +kernel
theorem dX7_blend_47 : decode cX7_blend 47 = .ok (.ifCond .ne 6, 3) := by decide +kernel
theorem dX7_blend_50 : decode cX7_blend 50 = .ok (.bipush (-3), 2) := by decide +kernel
theorem dX7_blend_52 : decode cX7_blend 52 = .ok (.ireturn, 1) := by decide +kernel
theorem dX7_blend_53 : decode cX7_blend 53 = .ok (.aload_n 0, 1) := by decide +kernel
theorem dX7_blend_54 : decode cX7_blend 54 = .ok (.getfield 30, 3) := by decide +kernel
theorem dX7_blend_57 : decode cX7_blend 57 = .ok (.getfield 98, 3) := by decide +kernel
theorem dX7_blend_60 : decode cX7_blend 60 = .ok (.iconst 5, 1) := by decide +kernel
theorem dX7_blend_61 : decode cX7_blend 61 = .ok (.if_icmp .lt 6, 3) := by decide +kernel
theorem dX7_blend_64 : decode cX7_blend 64 = .ok (.bipush (-4), 2) := by decide +kernel
theorem dX7_blend_66 : decode cX7_blend 66 = .ok (.ireturn, 1) := by decide +kernel
theorem dX7_blend_67 : decode cX7_blend 67 = .ok (.aload_n 0, 1) := by decide +kernel
theorem dX7_blend_68 : decode cX7_blend 68 = .ok (.getfield 30, 3) := by decide +kernel
theorem dX7_blend_71 : decode cX7_blend 71 = .ok (.getfield 146, 3) := by decide +kernel
theorem dX7_blend_74 : decode cX7_blend 74 = .ok (.iload_n 1, 1) := by decide +kernel
theorem dX7_blend_75 : decode cX7_blend 75 = .ok (.dup2, 1) := by decide +kernel
theorem dX7_blend_76 : decode cX7_blend 76 = .ok (.iaload, 1) := by decide +kernel
theorem dX7_blend_77 : decode cX7_blend 77 = .ok (.iconst 1, 1) := by decide +kernel
theorem dX7_blend_78 : decode cX7_blend 78 = .ok (.isub, 1) := by decide +kernel
theorem dX7_blend_79 : decode cX7_blend 79 = .ok (.iastore, 1) := by decide +kernel
theorem dX7_blend_80 : decode cX7_blend 80 = .ok (.aload_n 0, 1) := by decide +kernel
theorem dX7_blend_81 : decode cX7_blend 81 = .ok (.getfield 30, 3) := by decide +kernel
theorem dX7_blend_84 : decode cX7_blend 84 = .ok (.getfield 146, 3) := by decide +kernel
theorem dX7_blend_87 : decode cX7_blend 87 = .ok (.iload_n 2, 1) := by decide +kernel
theorem dX7_blend_88 : decode cX7_blend 88 = .ok (.dup2, 1) := by decide +kernel
theorem dX7_blend_89 : decode cX7_blend 89 = .ok (.iaload, 1) := by decide +kernel
theorem dX7_blend_90 : decode cX7_blend 90 = .ok (.iconst 1, 1) := by decide +kernel
theorem dX7_blend_91 : decode cX7_blend 91 = .ok (.isub, 1) := by decide +kernel
theorem dX7_blend_92 : decode cX7_blend 92 = .ok (.iastore, 1) := by decide +kernel
theorem dX7_blend_93 : decode cX7_blend 93 = .ok (.aload_n 0, 1) := by decide +kernel
theorem dX7_blend_94 : decode cX7_blend 94 = .ok (.getfield 30, 3) := by decide +kernel
theorem dX7_blend_97 : decode cX7_blend 97 = .ok (.aload_n 0, 1) := by decide +kernel
theorem dX7_blend_98 : decode cX7_blend 98 = .ok (.getfield 30, 3) := by decide +kernel
theorem dX7_blend_101 : decode cX7_blend 101 = .ok (.getfield 143, 3) := by decide +kernel
theorem dX7_blend_104 : decode cX7_blend 104 = .ok (.iload_n 1, 1) := by decide +kernel
theorem dX7_blend_105 : decode cX7_blend 105 = .ok (.iaload, 1) := by decide +kernel
theorem dX7_blend_106 : decode cX7_blend 106 = .ok (.aload_n 0, 1) := by decide +kernel
theorem dX7_blend_107 : decode cX7_blend 107 = .ok (.getfield 30, 3) := by decide +kernel
theorem dX7_blend_110 : decode cX7_blend 110 = .ok (.getfield 143, 3) := by decide +kernel
theorem dX7_blend_113 : decode cX7_blend 113 = .ok (.iload_n 2, 1) := by decide +kernel
theorem dX7_blend_114 : decode cX7_blend 114 = .ok (.iaload, 1) := by decide +kernel
theorem dX7_blend_115 : decode cX7_blend 115 = .ok (.iadd, 1) := by decide +kernel
theorem dX7_blend_116 : decode cX7_blend 116 = .ok (.iconst 2, 1) := by decide +kernel
theorem dX7_blend_117 : decode cX7_blend 117 = .ok (.idiv, 1) := by decide +kernel
theorem dX7_blend_118 : decode cX7_blend 118 = .ok (.iconst 2, 1) := by decide +kernel
theorem dX7_blend_119 : decode cX7_blend 119 = .ok (.invokevirtual 101, 3) := by decide +kernel
theorem dX7_blend_122 : decode cX7_blend 122 = .ok (.ireturn, 1) := by decide +kernel
theorem dX7_alive_0 : decode cX7_alive 0 = .ok (.iload_n 1, 1) := by decide +kernel
theorem dX7_alive_1 : decode cX7_alive 1 = .ok (.ifCond .lt 9, 3) := by decide +kernel
theorem dX7_alive_4 : decode cX7_alive 4 = .ok (.iload_n 1, 1) := by decide +kernel
theorem dX7_alive_5 : decode cX7_alive 5 = .ok (.bipush 99, 2) := by decide +kernel
theorem dX7_alive_7 : decode cX7_alive 7 = .ok (.if_icmp .le 6, 3) := by decide +kernel
theorem dX7_alive_10 : decode cX7_alive 10 = .ok (.bipush (-2), 2) := by decide +kernel
theorem dX7_alive_12 : decode cX7_alive 12 = .ok (.ireturn, 1) := by decide +kernel
theorem dX7_alive_13 : decode cX7_alive 13 = .ok (.iload_n 1, 1) := by decide +kernel
theorem dX7_alive_14 : decode cX7_alive 14 = .ok (.ifCond .ne 11, 3) := by decide +kernel
theorem dX7_alive_17 : decode cX7_alive 17 = .ok (.aload_n 0, 1) := by decide +kernel
theorem dX7_alive_18 : decode cX7_alive 18 = .ok (.getfield 30, 3) := by decide +kernel
theorem dX7_alive_21 : decode cX7_alive 21 = .ok (.invokevirtual 158, 3) := by decide +kernel
theorem dX7_alive_24 : decode cX7_alive 24 = .ok (.ireturn, 1) := by decide +kernel
theorem dX7_alive_25 : decode cX7_alive 25 = .ok (.iconst 0, 1) := by decide +kernel
theorem dX7_alive_26 : decode cX7_alive 26 = .ok (.istore_n 2, 1) := by decide +kernel
theorem dX7_alive_27 : decode cX7_alive 27 = .ok (.iconst 0, 1) := by decide +kernel
theorem dX7_alive_28 : decode cX7_alive 28 = .ok (.istore_n 3, 1) := by decide +kernel
theorem dX7_alive_29 : decode cX7_alive 29 = .ok (.iload_n 3, 1) := by decide +kernel
theorem dX7_alive_30 : decode cX7_alive 30 = .ok (.aload_n 0, 1) := by decide +kernel
theorem dX7_alive_31 : decode cX7_alive 31 = .ok (.getfield 30, 3) := by decide +kernel
theorem dX7_alive_34 : decode cX7_alive 34 = .ok (.getfield 82, 3) := by decide +kernel
theorem dX7_alive_37 : decode cX7_alive 37 = .ok (.if_icmp .ge 49, 3) := by decide +kernel
theorem dX7_alive_40 : decode cX7_alive 40 = .ok (.aload_n 0, 1) := by decide +kernel
theorem dX7_alive_41 : decode cX7_alive 41 = .ok (.getfield 30, 3) := by decide +kernel
theorem dX7_alive_44 : decode cX7_alive 44 = .ok (.getfield 85, 3) := by decide +kernel
theorem dX7_alive_47 : decode cX7_alive 47 = .ok (.iload_n 3, 1) := by decide +kernel
theorem dX7_alive_48 : decode cX7_alive 48 = .ok (.aaload, 1) := by decide +kernel
theorem dX7_alive_49 : decode cX7_alive 49 = .ok (.astore 4, 2) := by decide +kernel
theorem dX7_alive_51 : decode cX7_alive 51 = .ok (.aload 4, 2) := by decide +kernel
theorem dX7_alive_53 : decode cX7_alive 53 = .ok (.aload 4, 2) := by decide +kernel
theorem dX7_alive_55 : decode cX7_alive 55 = .ok (.aload_n 0, 1) := by decide +kernel
theorem dX7_alive_56 : decode cX7_alive 56 = .ok (.getfield 30, 3) := by decide +kernel
theorem dX7_alive_59 : decode cX7_alive 59 = .ok (.getfield 149, 3) := by decide +kernel
theorem dX7_alive_62 : decode cX7_alive 62 = .ok (.iload_n 1, 1) := by decide +kernel
theorem dX7_alive_63 : decode cX7_alive 63 = .ok (.iadd, 1) := by decide +kernel
theorem dX7_alive_64 : decode cX7_alive 64 = .ok (.iconst (-1), 1) := by decide +kernel
theorem dX7_alive_65 : decode cX7_alive 65 = .ok (.invokevirtual 176, 3) := by decide +kernel
theorem dX7_alive_68 : decode cX7_alive 68 = .ok (.invokevirtual 179, 3) := by decide +kernel
theorem dX7_alive_71 : decode cX7_alive 71 = .ok (.ifCond .eq 9, 3) := by decide +kernel
theorem dX7_alive_74 : decode cX7_alive 74 = .ok (.iload_n 2, 1) := by decide +kernel
theorem dX7_alive_75 : decode cX7_alive 75 = .ok (.iconst 1, 1) := by decide +kernel
theorem dX7_alive_76 : decode cX7_alive 76 = .ok (.iload_n 3, 1) := by decide +kernel
theorem dX7_alive_77 : decode cX7_alive 77 = .ok (.ishl, 1) := by decide +kernel
theorem dX7_alive_78 : decode cX7_alive 78 = .ok (.ior, 1) := by decide +kernel
theorem dX7_alive_79 : decode cX7_alive 79 = .ok (.istore_n 2, 1) := by decide +kernel
theorem dX7_alive_80 : decode cX7_alive 80 = .ok (.iinc 3 1, 3) := by decide +kernel
theorem dX7_alive_83 : decode cX7_alive 83 = .ok (.goto (-54), 3) := by decide +kernel
theorem dX7_alive_86 : decode cX7_alive 86 = .ok (.iload_n 2, 1) := by decide +kernel
theorem dX7_alive_87 : decode cX7_alive 87 = .ok (.ireturn, 1) := by decide +kernel
theorem dX7_brings_0 : decode cX7_brings 0 = .ok (.aload_n 0, 1) := by decide +kernel
theorem dX7_brings_1 : decode cX7_brings 1 = .ok (.iload_n 1, 1) := by decide +kernel
theorem dX7_brings_2 : decode cX7_brings 2 = .ok (.invokevirtual 105, 3) := by decide +kernel
theorem dX7_brings_5 : decode cX7_brings 5 = .ok (.ifCond .ne 5, 3) := by decide +kernel
theorem dX7_brings_8 : decode cX7_brings 8 = .ok (.iconst (-1), 1) := by decide +kernel
theorem dX7_brings_9 : decode cX7_brings 9 = .ok (.ireturn, 1) := by decide +kernel
theorem dX7_brings_10 : decode cX7_brings 10 = .ok (.iconst 0, 1) := by decide +kernel
theorem dX7_brings_11 : decode cX7_brings 11 = .ok (.istore_n 2, 1) := by decide +kernel
theorem dX7_brings_12 : decode cX7_brings 12 = .ok (.iconst 0, 1) := by decide +kernel
theorem dX7_brings_13 : decode cX7_brings 13 = .ok (.istore_n 3, 1) := by decide +kernel
theorem dX7_brings_14 : decode cX7_brings 14 = .ok (.iload_n 3, 1) := by decide +kernel
theorem dX7_brings_15 : decode cX7_brings 15 = .ok (.aload_n 0, 1) := by decide +kernel
theorem dX7_brings_16 : decode cX7_brings 16 = .ok (.getfield 30, 3) := by decide +kernel
theorem dX7_brings_19 : decode cX7_brings 19 = .ok (.getfield 98, 3) := by decide +kernel
theorem dX7_brings_22 : decode cX7_brings 22 = .ok (.if_icmp .ge 39, 3) := by decide +kernel
theorem dX7_brings_25 : decode cX7_brings 25 = .ok (.aload_n 0, 1) := by decide +kernel
theorem dX7_brings_26 : decode cX7_brings 26 = .ok (.getfield 30, 3) := by decide +kernel
theorem dX7_brings_29 : decode cX7_brings 29 = .ok (.getfield 146, 3) := by decide +kernel
theorem dX7_brings_32 : decode cX7_brings 32 = .ok (.iload_n 3, 1) := by decide +kernel
theorem dX7_brings_33 : decode cX7_brings 33 = .ok (.iaload, 1) := by decide +kernel
theorem dX7_brings_34 : decode cX7_brings 34 = .ok (.ifCond .le 21, 3) := by decide +kernel
theorem dX7_brings_37 : decode cX7_brings 37 = .ok (.aload_n 0, 1) := by decide +kernel
theorem dX7_brings_38 : decode cX7_brings 38 = .ok (.getfield 30, 3) := by decide +kernel
theorem dX7_brings_41 : decode cX7_brings 41 = .ok (.iload_n 1, 1) := by decide +kernel
theorem dX7_brings_42 : decode cX7_brings 42 = .ok (.iload_n 3, 1) := by decide +kernel
theorem dX7_brings_43 : decode cX7_brings 43 = .ok (.invokevirtual 130, 3) := by decide +kernel
theorem dX7_brings_46 : decode cX7_brings 46 = .ok (.ifCond .le 9, 3) := by decide +kernel
theorem dX7_brings_49 : decode cX7_brings 49 = .ok (.iload_n 2, 1) := by decide +kernel
theorem dX7_brings_50 : decode cX7_brings 50 = .ok (.iconst 1, 1) := by decide +kernel
theorem dX7_brings_51 : decode cX7_brings 51 = .ok (.iload_n 3, 1) := by decide +kernel
theorem dX7_brings_52 : decode cX7_brings 52 = .ok (.ishl, 1) := by decide +kernel
theorem dX7_brings_53 : decode cX7_brings 53 = .ok (.ior, 1) := by decide +kernel
theorem dX7_brings_54 : decode cX7_brings 54 = .ok (.istore_n 2, 1) := by decide +kernel
theorem dX7_brings_55 : decode cX7_brings 55 = .ok (.iinc 3 1, 3) := by decide +kernel
theorem dX7_brings_58 : decode cX7_brings 58 = .ok (.goto (-44), 3) := by decide +kernel
theorem dX7_brings_61 : decode cX7_brings 61 = .ok (.iload_n 2, 1) := by decide +kernel
theorem dX7_brings_62 : decode cX7_brings 62 = .ok (.ireturn, 1) := by decide +kernel
theorem dX7_nearest_0 : decode cX7_nearest 0 = .ok (.aload_n 0, 1) := by decide +kernel
theorem dX7_nearest_1 : decode cX7_nearest 1 = .ok (.iload_n 1, 1) := by decide +kernel
theorem dX7_nearest_2 : decode cX7_nearest 2 = .ok (.invokevirtual 105, 3) := by decide +kernel
theorem dX7_nearest_5 : decode cX7_nearest 5 = .ok (.ifCond .ne 5, 3) := by decide +kernel
theorem dX7_nearest_8 : decode cX7_nearest 8 = .ok (.iconst (-1), 1) := by decide +kernel
theorem dX7_nearest_9 : decode cX7_nearest 9 = .ok (.ireturn, 1) := by decide +kernel
theorem dX7_nearest_10 : decode cX7_nearest 10 = .ok (.iload_n 2, 1) := by decide +kernel
theorem dX7_nearest_11 : decode cX7_nearest 11 = .ok (.ifCond .lt 9, 3) := by decide +kernel
theorem dX7_nearest_14 : decode cX7_nearest 14 = .ok (.iload_n 2, 1) := by decide +kernel
theorem dX7_nearest_15 : decode cX7_nearest 15 = .ok (.bipush 120, 2) := by decide +kernel
theorem dX7_nearest_17 : decode cX7_nearest 17 = .ok (.if_icmp .le 6, 3) := by decide +kernel
theorem dX7_nearest_20 : decode cX7_nearest 20 = .ok (.bipush (-2), 2) := by decide +kernel
theorem dX7_nearest_22 : decode cX7_nearest 22 = .ok (.ireturn, 1) := by decide +kernel
theorem dX7_nearest_23 : decode cX7_nearest 23 = .ok (.bipush (-5), 2) := by decide +kernel
theorem dX7_nearest_25 : decode cX7_nearest 25 = .ok (.istore_n 3, 1) := by decide +kernel
theorem dX7_nearest_26 : decode cX7_nearest 26 = .ok (.ldc 182, 2) := by decide +kernel
theorem dX7_nearest_28 : decode cX7_nearest 28 = .ok (.istore 4, 2) := by decide +kernel
theorem dX7_nearest_30 : decode cX7_nearest 30 = .ok (.iconst 0, 1) := by decide +kernel
theorem dX7_nearest_31 : decode cX7_nearest 31 = .ok (.istore 5, 2) := by decide +kernel
theorem dX7_nearest_33 : decode cX7_nearest 33 = .ok (.iload 5, 2) := by decide +kernel
theorem dX7_nearest_35 : decode cX7_nearest 35 = .ok (.aload_n 0, 1) := by decide +kernel
theorem dX7_nearest_36 : decode cX7_nearest 36 = .ok (.getfield 30, 3) := by decide +kernel
theorem dX7_nearest_39 : decode cX7_nearest 39 = .ok (.getfield 98, 3) := by decide +kernel
theorem dX7_nearest_42 : decode cX7_nearest 42 = .ok (.if_icmp .ge 53, 3) := by decide +kernel
theorem dX7_nearest_45 : decode cX7_nearest 45 = .ok (.aload_n 0, 1) := by decide +kernel
theorem dX7_nearest_46 : decode cX7_nearest 46 = .ok (.getfield 30, 3) := by decide +kernel
theorem dX7_nearest_49 : decode cX7_nearest 49 = .ok (.iload_n 1, 1) := by decide +kernel
theorem dX7_nearest_50 : decode cX7_nearest 50 = .ok (.iload 5, 2) := by decide +kernel
theorem dX7_nearest_52 : decode cX7_nearest 52 = .ok (.invokevirtual 127, 3) := by decide +kernel
theorem dX7_nearest_55 : decode cX7_nearest 55 = .ok (.iload_n 2, 1) := by decide +kernel
theorem dX7_nearest_56 : decode cX7_nearest 56 = .ok (.isub, 1) := by decide +kernel
theorem dX7_nearest_57 : decode cX7_nearest 57 = .ok (.invokestatic 183, 3) := by decide +kernel
theorem dX7_nearest_60 : decode cX7_nearest 60 = .ok (.istore 6, 2) := by decide +kernel
theorem dX7_nearest_62 : decode cX7_nearest 62 = .ok (.aload_n 0, 1) := by decide +kernel
theorem dX7_nearest_63 : decode cX7_nearest 63 = .ok (.getfield 30, 3) := by decide +kernel
theorem dX7_nearest_66 : decode cX7_nearest 66 = .ok (.getfield 146, 3) := by decide +kernel
theorem dX7_nearest_69 : decode cX7_nearest 69 = .ok (.iload 5, 2) := by decide +kernel
theorem dX7_nearest_71 : decode cX7_nearest 71 = .ok (.iaload, 1) := by decide +kernel
theorem dX7_nearest_72 : decode cX7_nearest 72 = .ok (.ifCond .le 17, 3) := by decide +kernel
theorem dX7_nearest_75 : decode cX7_nearest 75 = .ok (.iload 6, 2) := by decide +kernel
theorem dX7_nearest_77 : decode cX7_nearest 77 = .ok (.iload 4, 2) := by decide +kernel
theorem dX7_nearest_79 : decode cX7_nearest 79 = .ok (.if_icmp .ge 10, 3) := by decide +kernel
theorem dX7_nearest_82 : decode cX7_nearest 82 = .ok (.iload 5, 2) := by decide +kernel
theorem dX7_nearest_84 : decode cX7_nearest 84 = .ok (.istore_n 3, 1) := by decide +kernel
theorem dX7_nearest_85 : decode cX7_nearest 85 = .ok (.iload 6, 2) := by decide +kernel
theorem dX7_nearest_87 : decode cX7_nearest 87 = .ok (.istore 4, 2) := by decide +kernel
theorem dX7_nearest_89 : decode cX7_nearest 89 = .ok (.iinc 5 1, 3) := by decide +kernel
theorem dX7_nearest_92 : decode cX7_nearest 92 = .ok (.goto (-59), 3) := by decide +kernel
theorem dX7_nearest_95 : decode cX7_nearest 95 = .ok (.iload_n 3, 1) := by decide +kernel
theorem dX7_nearest_96 : decode cX7_nearest 96 = .ok (.ireturn, 1) := by decide +kernel
theorem dX7_two_0 : decode cX7_two 0 = .ok (.aload_n 0, 1) := by decide +kernel
theorem dX7_two_1 : decode cX7_two 1 = .ok (.getfield 30, 3) := by decide +kernel
theorem dX7_two_4 : decode cX7_two 4 = .ok (.invokevirtual 158, 3) := by decide +kernel
theorem dX7_two_7 : decode cX7_two 7 = .ok (.istore_n 1, 1) := by decide +kernel
theorem dX7_two_8 : decode cX7_two 8 = .ok (.bipush (-5), 2) := by decide +kernel
theorem dX7_two_10 : decode cX7_two 10 = .ok (.istore_n 2, 1) := by decide +kernel
theorem dX7_two_11 : decode cX7_two 11 = .ok (.ldc 182, 2) := by decide +kernel
theorem dX7_two_13 : decode cX7_two 13 = .ok (.istore_n 3, 1) := by decide +kernel
theorem dX7_two_14 : decode cX7_two 14 = .ok (.iconst 0, 1) := by decide +kernel
theorem dX7_two_15 : decode cX7_two 15 = .ok (.istore 4, 2) := by decide +kernel
theorem dX7_two_17 : decode cX7_two 17 = .ok (.iload 4, 2) := by decide +kernel
theorem dX7_two_19 : decode cX7_two 19 = .ok (.aload_n 0, 1) := by decide +kernel
theorem dX7_two_20 : decode cX7_two 20 = .ok (.getfield 30, 3) := by decide +kernel
theorem dX7_two_23 : decode cX7_two 23 = .ok (.getfield 82, 3) := by decide +kernel
theorem dX7_two_26 : decode cX7_two 26 = .ok (.if_icmp .ge 116, 3) := by decide +kernel
theorem dX7_two_29 : decode cX7_two 29 = .ok (.iload 4, 2) := by decide +kernel
theorem dX7_two_31 : decode cX7_two 31 = .ok (.iconst 1, 1) := by decide +kernel
theorem dX7_two_32 : decode cX7_two 32 = .ok (.iadd, 1) := by decide +kernel
theorem dX7_two_33 : decode cX7_two 33 = .ok (.istore 5, 2) := by decide +kernel
theorem dX7_two_35 : decode cX7_two 35 = .ok (.iload 5, 2) := by decide +kernel
theorem dX7_two_37 : decode cX7_two 37 = .ok (.aload_n 0, 1) := by decide +kernel
theorem dX7_two_38 : decode cX7_two 38 = .ok (.getfield 30, 3) := by decide +kernel
theorem dX7_two_41 : decode cX7_two 41 = .ok (.getfield 82, 3) := by decide +kernel
theorem dX7_two_44 : decode cX7_two 44 = .ok (.if_icmp .ge 92, 3) := by decide +kernel
theorem dX7_two_47 : decode cX7_two 47 = .ok (.aload_n 0, 1) := by decide +kernel
theorem dX7_two_48 : decode cX7_two 48 = .ok (.getfield 30, 3) := by decide +kernel
theorem dX7_two_51 : decode cX7_two 51 = .ok (.iload 4, 2) := by decide +kernel
theorem dX7_two_53 : decode cX7_two 53 = .ok (.aload_n 0, 1) := by decide +kernel
theorem dX7_two_54 : decode cX7_two 54 = .ok (.getfield 30, 3) := by decide +kernel
theorem dX7_two_57 : decode cX7_two 57 = .ok (.getfield 85, 3) := by decide +kernel
theorem dX7_two_60 : decode cX7_two 60 = .ok (.iload 4, 2) := by decide +kernel
theorem dX7_two_62 : decode cX7_two 62 = .ok (.aaload, 1) := by decide +kernel
theorem dX7_two_63 : decode cX7_two 63 = .ok (.getfield 120, 3) := by decide +kernel
theorem dX7_two_66 : decode cX7_two 66 = .ok (.invokevirtual 127, 3) := by decide +kernel
theorem dX7_two_69 : decode cX7_two 69 = .ok (.aload_n 0, 1) := by decide +kernel
theorem dX7_two_70 : decode cX7_two 70 = .ok (.getfield 30, 3) := by decide +kernel
theorem dX7_two_73 : decode cX7_two 73 = .ok (.iload 5, 2) := by decide +kernel
theorem dX7_two_75 : decode cX7_two 75 = .ok (.aload_n 0, 1) := by decide +kernel
theorem dX7_two_76 : decode cX7_two 76 = .ok (.getfield 30, 3) := by decide +kernel
theorem dX7_two_79 : decode cX7_two 79 = .ok (.getfield 85, 3) := by decide +kernel
theorem dX7_two_82 : decode cX7_two 82 = .ok (.iload 5, 2) := by decide +kernel
theorem dX7_two_84 : decode cX7_two 84 = .ok (.aaload, 1) := by decide +kernel
theorem dX7_two_85 : decode cX7_two 85 = .ok (.getfield 120, 3) := by decide +kernel
theorem dX7_two_88 : decode cX7_two 88 = .ok (.invokevirtual 127, 3) := by decide +kernel
theorem dX7_two_91 : decode cX7_two 91 = .ok (.isub, 1) := by decide +kernel
theorem dX7_two_92 : decode cX7_two 92 = .ok (.invokestatic 183, 3) := by decide +kernel
theorem dX7_two_95 : decode cX7_two 95 = .ok (.istore 6, 2) := by decide +kernel
theorem dX7_two_97 : decode cX7_two 97 = .ok (.iload_n 1, 1) := by decide +kernel
theorem dX7_two_98 : decode cX7_two 98 = .ok (.iload 4, 2) := by decide +kernel
theorem dX7_two_100 : decode cX7_two 100 = .ok (.ishr, 1) := by decide +kernel
theorem dX7_two_101 : decode cX7_two 101 = .ok (.iload_n 1, 1) := by decide +kernel
theorem dX7_two_102 : decode cX7_two 102 = .ok (.iload 5, 2) := by decide +kernel
theorem dX7_two_104 : decode cX7_two 104 = .ok (.ishr, 1) := by decide +kernel
theorem dX7_two_105 : decode cX7_two 105 = .ok (.iand, 1) := by decide +kernel
theorem dX7_two_106 : decode cX7_two 106 = .ok (.iconst 1, 1) := by decide +kernel
theorem dX7_two_107 : decode cX7_two 107 = .ok (.iand, 1) := by decide +kernel
theorem dX7_two_108 : decode cX7_two 108 = .ok (.iconst 1, 1) := by decide +kernel
theorem dX7_two_109 : decode cX7_two 109 = .ok (.if_icmp .ne 21, 3) := by decide +kernel
theorem dX7_two_112 : decode cX7_two 112 = .ok (.iload 6, 2) := by decide +kernel
theorem dX7_two_114 : decode cX7_two 114 = .ok (.iload_n 3, 1) := by decide +kernel
theorem dX7_two_115 : decode cX7_two 115 = .ok (.if_icmp .ge 15, 3) := by decide +kernel
theorem dX7_two_118 : decode cX7_two 118 = .ok (.bipush 10, 2) := by decide +kernel
theorem dX7_two_120 : decode cX7_two 120 = .ok (.iload 4, 2) := by decide +kernel
theorem dX7_two_122 : decode cX7_two 122 = .ok (.imul, 1) := by decide +kernel
theorem dX7_two_123 : decode cX7_two 123 = .ok (.iload 5, 2) := by decide +kernel
theorem dX7_two_125 : decode cX7_two 125 = .ok (.iadd, 1) := by decide +kernel
theorem dX7_two_126 : decode cX7_two 126 = .ok (.istore_n 2, 1) := by decide +kernel
theorem dX7_two_127 : decode cX7_two 127 = .ok (.iload 6, 2) := by decide +kernel
theorem dX7_two_129 : decode cX7_two 129 = .ok (.istore_n 3, 1) := by decide +kernel
theorem dX7_two_130 : decode cX7_two 130 = .ok (.iinc 5 1, 3) := by decide +kernel
theorem dX7_two_133 : decode cX7_two 133 = .ok (.goto (-98), 3) := by decide +kernel
theorem dX7_two_136 : decode cX7_two 136 = .ok (.iinc 4 1, 3) := by decide +kernel
theorem dX7_two_139 : decode cX7_two 139 = .ok (.goto (-122), 3) := by decide +kernel
theorem dX7_two_142 : decode cX7_two 142 = .ok (.iload_n 2, 1) := by decide +kernel
theorem dX7_two_143 : decode cX7_two 143 = .ok (.ireturn, 1) := by decide +kernel
theorem dX7_meet_0 : decode cX7_meet 0 = .ok (.aload_n 0, 1) := by decide +kernel
theorem dX7_meet_1 : decode cX7_meet 1 = .ok (.iload_n 1, 1) := by decide +kernel
theorem dX7_meet_2 : decode cX7_meet 2 = .ok (.invokevirtual 105, 3) := by decide +kernel
theorem dX7_meet_5 : decode cX7_meet 5 = .ok (.ifCond .eq 18, 3) := by decide +kernel
theorem dX7_meet_8 : decode cX7_meet 8 = .ok (.aload_n 0, 1) := by decide +kernel
theorem dX7_meet_9 : decode cX7_meet 9 = .ok (.iload_n 2, 1) := by decide +kernel
theorem dX7_meet_10 : decode cX7_meet 10 = .ok (.invokevirtual 105, 3) := by decide +kernel
theorem dX7_meet_13 : decode cX7_meet 13 = .ok (.ifCond .eq 10, 3) := by decide +kernel
theorem dX7_meet_16 : decode cX7_meet 16 = .ok (.iload_n 3, 1) := by decide +kernel
theorem dX7_meet_17 : decode cX7_meet 17 = .ok (.invokestatic 188, 3) := by decide +kernel
theorem dX7_meet_20 : decode cX7_meet 20 = .ok (.ifCond .ne 5, 3) := by decide +kernel
theorem dX7_meet_23 : decode cX7_meet 23 = .ok (.iconst (-1), 1) := by decide +kernel
theorem dX7_meet_24 : decode cX7_meet 24 = .ok (.ireturn, 1) := by decide +kernel
theorem dX7_meet_25 : decode cX7_meet 25 = .ok (.iload_n 1, 1) := by decide +kernel
theorem dX7_meet_26 : decode cX7_meet 26 = .ok (.iload_n 2, 1) := by decide +kernel
theorem dX7_meet_27 : decode cX7_meet 27 = .ok (.if_icmp .ne 6, 3) := by decide +kernel
theorem dX7_meet_30 : decode cX7_meet 30 = .ok (.bipush (-2), 2) := by decide +kernel
theorem dX7_meet_32 : decode cX7_meet 32 = .ok (.ireturn, 1) := by decide +kernel
theorem dX7_meet_33 : decode cX7_meet 33 = .ok (.aload_n 0, 1) := by decide +kernel
theorem dX7_meet_34 : decode cX7_meet 34 = .ok (.getfield 30, 3) := by decide +kernel
theorem dX7_meet_37 : decode cX7_meet 37 = .ok (.getfield 85, 3) := by decide +kernel
theorem dX7_meet_40 : decode cX7_meet 40 = .ok (.iload_n 1, 1) := by decide +kernel
theorem dX7_meet_41 : decode cX7_meet 41 = .ok (.aaload, 1) := by decide +kernel
theorem dX7_meet_42 : decode cX7_meet 42 = .ok (.astore 4, 2) := by decide +kernel
theorem dX7_meet_44 : decode cX7_meet 44 = .ok (.aload_n 0, 1) := by decide +kernel
theorem dX7_meet_45 : decode cX7_meet 45 = .ok (.getfield 30, 3) := by decide +kernel
theorem dX7_meet_48 : decode cX7_meet 48 = .ok (.getfield 85, 3) := by decide +kernel
theorem dX7_meet_51 : decode cX7_meet 51 = .ok (.iload_n 2, 1) := by decide +kernel
theorem dX7_meet_52 : decode cX7_meet 52 = .ok (.aaload, 1) := by decide +kernel
theorem dX7_meet_53 : decode cX7_meet 53 = .ok (.astore 5, 2) := by decide +kernel
theorem dX7_meet_55 : decode cX7_meet 55 = .ok (.iconst 0, 1) := by decide +kernel
theorem dX7_meet_56 : decode cX7_meet 56 = .ok (.istore 6, 2) := by decide +kernel
theorem dX7_meet_58 : decode cX7_meet 58 = .ok (.bipush (-5), 2) := by decide +kernel
theorem dX7_meet_60 : decode cX7_meet 60 = .ok (.istore 7, 2) := by decide +kernel
theorem dX7_meet_62 : decode cX7_meet 62 = .ok (.sipush 199, 3) := by decide +kernel
theorem dX7_meet_65 : decode cX7_meet 65 = .ok (.istore 8, 2) := by decide +kernel
theorem dX7_meet_67 : decode cX7_meet 67 = .ok (.iload 8, 2) := by decide +kernel
theorem dX7_meet_69 : decode cX7_meet 69 = .ok (.ifCond .lt 60, 3) := by decide +kernel
theorem dX7_meet_72 : decode cX7_meet 72 = .ok (.aload 4, 2) := by decide +kernel
theorem dX7_meet_74 : decode cX7_meet 74 = .ok (.aload 4, 2) := by decide +kernel
theorem dX7_meet_76 : decode cX7_meet 76 = .ok (.aload_n 0, 1) := by decide +kernel
theorem dX7_meet_77 : decode cX7_meet 77 = .ok (.getfield 30, 3) := by decide +kernel
theorem dX7_meet_80 : decode cX7_meet 80 = .ok (.getfield 149, 3) := by decide +kernel
theorem dX7_meet_83 : decode cX7_meet 83 = .ok (.iload 8, 2) := by decide +kernel
theorem dX7_meet_85 : decode cX7_meet 85 = .ok (.invokevirtual 176, 3) := by decide +kernel
theorem dX7_meet_88 : decode cX7_meet 88 = .ok (.invokevirtual 179, 3) := by decide +kernel
theorem dX7_meet_91 : decode cX7_meet 91 = .ok (.ifCond .eq 32, 3) := by decide +kernel
theorem dX7_meet_94 : decode cX7_meet 94 = .ok (.aload 5, 2) := by decide +kernel
theorem dX7_meet_96 : decode cX7_meet 96 = .ok (.aload 5, 2) := by decide +kernel
theorem dX7_meet_98 : decode cX7_meet 98 = .ok (.aload_n 0, 1) := by decide +kernel
theorem dX7_meet_99 : decode cX7_meet 99 = .ok (.getfield 30, 3) := by decide +kernel
theorem dX7_meet_102 : decode cX7_meet 102 = .ok (.getfield 149, 3) := by decide +kernel
theorem dX7_meet_105 : decode cX7_meet 105 = .ok (.iload 8, 2) := by decide +kernel
theorem dX7_meet_107 : decode cX7_meet 107 = .ok (.invokevirtual 176, 3) := by decide +kernel
theorem dX7_meet_110 : decode cX7_meet 110 = .ok (.invokevirtual 179, 3) := by decide +kernel
theorem dX7_meet_113 : decode cX7_meet 113 = .ok (.ifCond .eq 10, 3) := by decide +kernel
theorem dX7_meet_116 : decode cX7_meet 116 = .ok (.iinc 6 1, 3) := by decide +kernel
theorem dX7_meet_119 : decode cX7_meet 119 = .ok (.iload 8, 2) := by decide +kernel
theorem dX7_meet_121 : decode cX7_meet 121 = .ok (.istore 7, 2) := by decide +kernel
theorem dX7_meet_123 : decode cX7_meet 123 = .ok (.iinc 8 (-1), 3) := by decide +kernel
theorem dX7_meet_126 : decode cX7_meet 126 = .ok (.goto (-59), 3) := by decide +kernel
theorem dX7_meet_129 : decode cX7_meet 129 = .ok (.iload_n 3, 1) := by decide +kernel
theorem dX7_meet_130 : decode cX7_meet 130 = .ok (.ifCond .ne 8, 3) := by decide +kernel
theorem dX7_meet_133 : decode cX7_meet 133 = .ok (.iload 6, 2) := by decide +kernel
theorem dX7_meet_135 : decode cX7_meet 135 = .ok (.goto 5, 3) := by decide +kernel
theorem dX7_meet_138 : decode cX7_meet 138 = .ok (.iload 7, 2) := by decide +kernel
theorem dX7_meet_140 : decode cX7_meet 140 = .ok (.ireturn, 1) := by decide +kernel
theorem dX7_fewest_0 : decode cX7_fewest 0 = .ok (.aload_n 0, 1) := by decide +kernel
theorem dX7_fewest_1 : decode cX7_fewest 1 = .ok (.iload_n 2, 1) := by decide +kernel
theorem dX7_fewest_2 : decode cX7_fewest 2 = .ok (.invokevirtual 191, 3) := by decide +kernel
theorem dX7_fewest_5 : decode cX7_fewest 5 = .ok (.ifCond .ne 5, 3) := by decide +kernel
theorem dX7_fewest_8 : decode cX7_fewest 8 = .ok (.iconst (-1), 1) := by decide +kernel
theorem dX7_fewest_9 : decode cX7_fewest 9 = .ok (.ireturn, 1) := by decide +kernel
theorem dX7_fewest_10 : decode cX7_fewest 10 = .ok (.iload_n 1, 1) := by decide +kernel
theorem dX7_fewest_11 : decode cX7_fewest 11 = .ok (.ifCond .lt 16, 3) := by decide +kernel
theorem dX7_fewest_14 : decode cX7_fewest 14 = .ok (.iload_n 1, 1) := by decide +kernel
theorem dX7_fewest_15 : decode cX7_fewest 15 = .ok (.iconst 1, 1) := by decide +kernel
theorem dX7_fewest_16 : decode cX7_fewest 16 = .ok (.aload_n 0, 1) := by decide +kernel
theorem dX7_fewest_17 : decode cX7_fewest 17 = .ok (.getfield 30, 3) := by decide +kernel
theorem dX7_fewest_20 : decode cX7_fewest 20 = .ok (.getfield 82, 3) := by decide +kernel
theorem dX7_fewest_23 : decode cX7_fewest 23 = .ok (.ishl, 1) := by decide +kernel
theorem dX7_fewest_24 : decode cX7_fewest 24 = .ok (.if_icmp .lt 6, 3) := by decide +kernel
theorem dX7_fewest_27 : decode cX7_fewest 27 = .ok (.bipush (-2), 2) := by decide +kernel
theorem dX7_fewest_29 : decode cX7_fewest 29 = .ok (.ireturn, 1) := by decide +kernel
theorem dX7_fewest_30 : decode cX7_fewest 30 = .ok (.aload_n 0, 1) := by decide +kernel
theorem dX7_fewest_31 : decode cX7_fewest 31 = .ok (.getfield 45, 3) := by decide +kernel
theorem dX7_fewest_34 : decode cX7_fewest 34 = .ok (.iconst 0, 1) := by decide +kernel
theorem dX7_fewest_35 : decode cX7_fewest 35 = .ok (.iload_n 1, 1) := by decide +kernel
theorem dX7_fewest_36 : decode cX7_fewest 36 = .ok (.iload_n 2, 1) := by decide +kernel
theorem dX7_fewest_37 : decode cX7_fewest 37 = .ok (.invokevirtual 194, 3) := by decide +kernel
theorem dX7_fewest_40 : decode cX7_fewest 40 = .ok (.ireturn, 1) := by decide +kernel
theorem dX7_close_0 : decode cX7_close 0 = .ok (.aload_n 0, 1) := by decide +kernel
theorem dX7_close_1 : decode cX7_close 1 = .ok (.iload_n 1, 1) := by decide +kernel
theorem dX7_close_2 : decode cX7_close 2 = .ok (.invokevirtual 191, 3) := by decide +kernel
theorem dX7_close_5 : decode cX7_close 5 = .ok (.ifCond .eq 16, 3) := by decide +kernel
theorem dX7_close_8 : decode cX7_close 8 = .ok (.aload_n 0, 1) := by decide +kernel
theorem dX7_close_9 : decode cX7_close 9 = .ok (.getfield 45, 3) := by decide +kernel
theorem dX7_close_12 : decode cX7_close 12 = .ok (.iconst 1, 1) := by decide +kernel
theorem dX7_close_13 : decode cX7_close 13 = .ok (.iconst 0, 1) := by decide +kernel
theorem dX7_close_14 : decode cX7_close 14 = .ok (.iload_n 1, 1) := by decide +kernel
theorem dX7_close_15 : decode cX7_close 15 = .ok (.invokevirtual 194, 3) := by decide +kernel
theorem dX7_close_18 : decode cX7_close 18 = .ok (.goto 4, 3) := by decide +kernel
theorem dX7_close_21 : decode cX7_close 21 = .ok (.iconst (-1), 1) := by decide +kernel
theorem dX7_close_22 : decode cX7_close 22 = .ok (.ireturn, 1) := by decide +kernel
theorem dX7_boldest_0 : decode cX7_boldest 0 = .ok (.aload_n 0, 1) := by decide +kernel
theorem dX7_boldest_1 : decode cX7_boldest 1 = .ok (.iload_n 1, 1) := by decide +kernel
theorem dX7_boldest_2 : decode cX7_boldest 2 = .ok (.invokevirtual 191, 3) := by decide +kernel
theorem dX7_boldest_5 : decode cX7_boldest 5 = .ok (.ifCond .eq 16, 3) := by decide +kernel
theorem dX7_boldest_8 : decode cX7_boldest 8 = .ok (.aload_n 0, 1) := by decide +kernel
theorem dX7_boldest_9 : decode cX7_boldest 9 = .ok (.getfield 45, 3) := by decide +kernel
theorem dX7_boldest_12 : decode cX7_boldest 12 = .ok (.iconst 2, 1) := by decide +kernel
theorem dX7_boldest_13 : decode cX7_boldest 13 = .ok (.iconst 0, 1) := by decide +kernel
theorem dX7_boldest_14 : decode cX7_boldest 14 = .ok (.iload_n 1, 1) := by decide +kernel
theorem dX7_boldest_15 : decode cX7_boldest 15 = .ok (.invokevirtual 194, 3) := by decide +kernel
theorem dX7_boldest_18 : decode cX7_boldest 18 = .ok (.goto 4, 3) := by decide +kernel
theorem dX7_boldest_21 : decode cX7_boldest 21 = .ok (.iconst (-1), 1) := by decide +kernel
theorem dX7_boldest_22 : decode cX7_boldest 22 = .ok (.ireturn, 1) := by decide +kernel
theorem dX7_see_0 : decode cX7_see 0 = .ok (.aload_n 0, 1) := by decide +kernel
theorem dX7_see_1 : decode cX7_see 1 = .ok (.aload_n 0, 1) := by decide +kernel
theorem dX7_see_2 : decode cX7_see 2 = .ok (.getfield 30, 3) := by decide +kernel
theorem dX7_see_5 : decode cX7_see 5 = .ok (.getfield 198, 3) := by decide +kernel
theorem dX7_see_8 : decode cX7_see 8 = .ok (.iload_n 1, 1) := by decide +kernel
theorem dX7_see_9 : decode cX7_see 9 = .ok (.iload_n 2, 1) := by decide +kernel
theorem dX7_see_10 : decode cX7_see 10 = .ok (.invokevirtual 202, 3) := by decide +kernel
theorem dX7_see_13 : decode cX7_see 13 = .ok (.ireturn, 1) := by decide +kernel
theorem dX7_drank_0 : decode cX7_drank 0 = .ok (.aload_n 0, 1) := by decide +kernel
theorem dX7_drank_1 : decode cX7_drank 1 = .ok (.iload_n 1, 1) := by decide +kernel
theorem dX7_drank_2 : decode cX7_drank 2 = .ok (.invokevirtual 105, 3) := by decide +kernel
theorem dX7_drank_5 : decode cX7_drank 5 = .ok (.ifCond .ne 5, 3) := by decide +kernel
theorem dX7_drank_8 : decode cX7_drank 8 = .ok (.iconst (-1), 1) := by decide +kernel
theorem dX7_drank_9 : decode cX7_drank 9 = .ok (.ireturn, 1) := by decide +kernel
theorem dX7_drank_10 : decode cX7_drank 10 = .ok (.aload_n 0, 1) := by decide +kernel
theorem dX7_drank_11 : decode cX7_drank 11 = .ok (.getfield 30, 3) := by decide +kernel
theorem dX7_drank_14 : decode cX7_drank 14 = .ok (.getfield 85, 3) := by decide +kernel
theorem dX7_drank_17 : decode cX7_drank 17 = .ok (.iload_n 1, 1) := by decide +kernel
theorem dX7_drank_18 : decode cX7_drank 18 = .ok (.aaload, 1) := by decide +kernel
theorem dX7_drank_19 : decode cX7_drank 19 = .ok (.astore_n 2, 1) := by decide +kernel
theorem dX7_drank_20 : decode cX7_drank 20 = .ok (.aload_n 0, 1) := by decide +kernel
theorem dX7_drank_21 : decode cX7_drank 21 = .ok (.getfield 30, 3) := by decide +kernel
theorem dX7_drank_24 : decode cX7_drank 24 = .ok (.iload_n 1, 1) := by decide +kernel
theorem dX7_drank_25 : decode cX7_drank 25 = .ok (.iconst (-1), 1) := by decide +kernel
theorem dX7_drank_26 : decode cX7_drank 26 = .ok (.aload_n 2, 1) := by decide +kernel
theorem dX7_drank_27 : decode cX7_drank 27 = .ok (.getfield 114, 3) := by decide +kernel
theorem dX7_drank_30 : decode cX7_drank 30 = .ok (.aload_n 2, 1) := by decide +kernel
theorem dX7_drank_31 : decode cX7_drank 31 = .ok (.getfield 111, 3) := by decide +kernel
theorem dX7_drank_34 : decode cX7_drank 34 = .ok (.invokevirtual 206, 3) := by decide +kernel
theorem dX7_drank_37 : decode cX7_drank 37 = .ok (.ifCond .eq 8, 3) := by decide +kernel
theorem dX7_drank_40 : decode cX7_drank 40 = .ok (.bipush 32, 2) := by decide +kernel
theorem dX7_drank_42 : decode cX7_drank 42 = .ok (.goto 4, 3) := by decide +kernel
theorem dX7_drank_45 : decode cX7_drank 45 = .ok (.iconst 0, 1) := by decide +kernel
theorem dX7_drank_46 : decode cX7_drank 46 = .ok (.istore_n 3, 1) := by decide +kernel
theorem dX7_drank_47 : decode cX7_drank 47 = .ok (.iconst 0, 1) := by decide +kernel
theorem dX7_drank_48 : decode cX7_drank 48 = .ok (.istore 4, 2) := by decide +kernel
theorem dX7_drank_50 : decode cX7_drank 50 = .ok (.iload 4, 2) := by decide +kernel
theorem dX7_drank_52 : decode cX7_drank 52 = .ok (.aload_n 0, 1) := by decide +kernel
theorem dX7_drank_53 : decode cX7_drank 53 = .ok (.getfield 30, 3) := by decide +kernel
theorem dX7_drank_56 : decode cX7_drank 56 = .ok (.getfield 98, 3) := by decide +kernel
theorem dX7_drank_59 : decode cX7_drank 59 = .ok (.if_icmp .ge 37, 3) := by decide +kernel
theorem dX7_drank_62 : decode cX7_drank 62 = .ok (.aload_n 0, 1) := by decide +kernel
theorem dX7_drank_63 : decode cX7_drank 63 = .ok (.getfield 30, 3) := by decide +kernel
theorem dX7_drank_66 : decode cX7_drank 66 = .ok (.iload_n 1, 1) := by decide +kernel
theorem dX7_drank_67 : decode cX7_drank 67 = .ok (.iload 4, 2) := by decide +kernel
theorem dX7_drank_69 : decode cX7_drank 69 = .ok (.aload_n 2, 1) := by decide +kernel
theorem dX7_drank_70 : decode cX7_drank 70 = .ok (.getfield 114, 3) := by decide +kernel
theorem dX7_drank_73 : decode cX7_drank 73 = .ok (.aload_n 2, 1) := by decide +kernel
theorem dX7_drank_74 : decode cX7_drank 74 = .ok (.getfield 111, 3) := by decide +kernel
theorem dX7_drank_77 : decode cX7_drank 77 = .ok (.invokevirtual 206, 3) := by decide +kernel
theorem dX7_drank_80 : decode cX7_drank 80 = .ok (.ifCond .eq 10, 3) := by decide +kernel
theorem dX7_drank_83 : decode cX7_drank 83 = .ok (.iload_n 3, 1) := by decide +kernel
theorem dX7_drank_84 : decode cX7_drank 84 = .ok (.iconst 1, 1) := by decide +kernel
theorem dX7_drank_85 : decode cX7_drank 85 = .ok (.iload 4, 2) := by decide +kernel
theorem dX7_drank_87 : decode cX7_drank 87 = .ok (.ishl, 1) := by decide +kernel
theorem dX7_drank_88 : decode cX7_drank 88 = .ok (.ior, 1) := by decide +kernel
theorem dX7_drank_89 : decode cX7_drank 89 = .ok (.istore_n 3, 1) := by decide +kernel
theorem dX7_drank_90 : decode cX7_drank 90 = .ok (.iinc 4 1, 3) := by decide +kernel
theorem dX7_drank_93 : decode cX7_drank 93 = .ok (.goto (-43), 3) := by decide +kernel
theorem dX7_drank_96 : decode cX7_drank 96 = .ok (.iload_n 3, 1) := by decide +kernel
theorem dX7_drank_97 : decode cX7_drank 97 = .ok (.ireturn, 1) := by decide +kernel
theorem dX7_birth_0 : decode cX7_birth 0 = .ok (.aload_n 0, 1) := by decide +kernel
theorem dX7_birth_1 : decode cX7_birth 1 = .ok (.iload_n 1, 1) := by decide +kernel
theorem dX7_birth_2 : decode cX7_birth 2 = .ok (.invokevirtual 105, 3) := by decide +kernel
theorem dX7_birth_5 : decode cX7_birth 5 = .ok (.ifCond .eq 10, 3) := by decide +kernel
theorem dX7_birth_8 : decode cX7_birth 8 = .ok (.iload_n 2, 1) := by decide +kernel
theorem dX7_birth_9 : decode cX7_birth 9 = .ok (.invokestatic 188, 3) := by decide +kernel
theorem dX7_birth_12 : decode cX7_birth 12 = .ok (.ifCond .ne 5, 3) := by decide +kernel
theorem dX7_birth_15 : decode cX7_birth 15 = .ok (.iconst (-1), 1) := by decide +kernel
theorem dX7_birth_16 : decode cX7_birth 16 = .ok (.ireturn, 1) := by decide +kernel
theorem dX7_birth_17 : decode cX7_birth 17 = .ok (.aload_n 0, 1) := by decide +kernel
theorem dX7_birth_18 : decode cX7_birth 18 = .ok (.getfield 30, 3) := by decide +kernel
theorem dX7_birth_21 : decode cX7_birth 21 = .ok (.getfield 85, 3) := by decide +kernel
theorem dX7_birth_24 : decode cX7_birth 24 = .ok (.iload_n 1, 1) := by decide +kernel
theorem dX7_birth_25 : decode cX7_birth 25 = .ok (.aaload, 1) := by decide +kernel
theorem dX7_birth_26 : decode cX7_birth 26 = .ok (.astore_n 3, 1) := by decide +kernel
theorem dX7_birth_27 : decode cX7_birth 27 = .ok (.iconst 0, 1) := by decide +kernel
theorem dX7_birth_28 : decode cX7_birth 28 = .ok (.istore 4, 2) := by decide +kernel
theorem dX7_birth_30 : decode cX7_birth 30 = .ok (.bipush (-5), 2) := by decide +kernel
theorem dX7_birth_32 : decode cX7_birth 32 = .ok (.istore 5, 2) := by decide +kernel
theorem dX7_birth_34 : decode cX7_birth 34 = .ok (.sipush 199, 3) := by decide +kernel
theorem dX7_birth_37 : decode cX7_birth 37 = .ok (.istore 6, 2) := by decide +kernel
theorem dX7_birth_39 : decode cX7_birth 39 = .ok (.iload 6, 2) := by decide +kernel
theorem dX7_birth_41 : decode cX7_birth 41 = .ok (.ifCond .lt 37, 3) := by decide +kernel
theorem dX7_birth_44 : decode cX7_birth 44 = .ok (.aload_n 0, 1) := by decide +kernel
theorem dX7_birth_45 : decode cX7_birth 45 = .ok (.getfield 30, 3) := by decide +kernel
theorem dX7_birth_48 : decode cX7_birth 48 = .ok (.iload_n 1, 1) := by decide +kernel
theorem dX7_birth_49 : decode cX7_birth 49 = .ok (.aload_n 3, 1) := by decide +kernel
theorem dX7_birth_50 : decode cX7_birth 50 = .ok (.getfield 120, 3) := by decide +kernel
theorem dX7_birth_53 : decode cX7_birth 53 = .ok (.iload 6, 2) := by decide +kernel
theorem dX7_birth_55 : decode cX7_birth 55 = .ok (.aload_n 3, 1) := by decide +kernel
theorem dX7_birth_56 : decode cX7_birth 56 = .ok (.getfield 111, 3) := by decide +kernel
theorem dX7_birth_59 : decode cX7_birth 59 = .ok (.invokevirtual 206, 3) := by decide +kernel
theorem dX7_birth_62 : decode cX7_birth 62 = .ok (.ifCond .eq 10, 3) := by decide +kernel
theorem dX7_birth_65 : decode cX7_birth 65 = .ok (.iinc 4 1, 3) := by decide +kernel
theorem dX7_birth_68 : decode cX7_birth 68 = .ok (.iload 6, 2) := by decide +kernel
theorem dX7_birth_70 : decode cX7_birth 70 = .ok (.istore 5, 2) := by decide +kernel
theorem dX7_birth_72 : decode cX7_birth 72 = .ok (.iinc 6 (-1), 3) := by decide +kernel
theorem dX7_birth_75 : decode cX7_birth 75 = .ok (.goto (-36), 3) := by decide +kernel
theorem dX7_birth_78 : decode cX7_birth 78 = .ok (.iload_n 2, 1) := by decide +kernel
theorem dX7_birth_79 : decode cX7_birth 79 = .ok (.ifCond .ne 8, 3) := by decide +kernel
theorem dX7_birth_82 : decode cX7_birth 82 = .ok (.iload 4, 2) := by decide +kernel
theorem dX7_birth_84 : decode cX7_birth 84 = .ok (.goto 5, 3) := by decide +kernel
theorem dX7_birth_87 : decode cX7_birth 87 = .ok (.iload 5, 2) := by decide +kernel
theorem dX7_birth_89 : decode cX7_birth 89 = .ok (.ireturn, 1) := by decide +kernel
theorem dX7_firm_0 : decode cX7_firm 0 = .ok (.aload_n 0, 1) := by decide +kernel
theorem dX7_firm_1 : decode cX7_firm 1 = .ok (.iload_n 1, 1) := by decide +kernel
theorem dX7_firm_2 : decode cX7_firm 2 = .ok (.invokevirtual 105, 3) := by decide +kernel
theorem dX7_firm_5 : decode cX7_firm 5 = .ok (.ifCond .eq 10, 3) := by decide +kernel
theorem dX7_firm_8 : decode cX7_firm 8 = .ok (.iload_n 2, 1) := by decide +kernel
theorem dX7_firm_9 : decode cX7_firm 9 = .ok (.invokestatic 188, 3) := by decide +kernel
theorem dX7_firm_12 : decode cX7_firm 12 = .ok (.ifCond .ne 5, 3) := by decide +kernel
theorem dX7_firm_15 : decode cX7_firm 15 = .ok (.iconst (-1), 1) := by decide +kernel
theorem dX7_firm_16 : decode cX7_firm 16 = .ok (.ireturn, 1) := by decide +kernel
theorem dX7_firm_17 : decode cX7_firm 17 = .ok (.aload_n 0, 1) := by decide +kernel
theorem dX7_firm_18 : decode cX7_firm 18 = .ok (.getfield 30, 3) := by decide +kernel
theorem dX7_firm_21 : decode cX7_firm 21 = .ok (.getfield 85, 3) := by decide +kernel
theorem dX7_firm_24 : decode cX7_firm 24 = .ok (.iload_n 1, 1) := by decide +kernel
theorem dX7_firm_25 : decode cX7_firm 25 = .ok (.aaload, 1) := by decide +kernel
theorem dX7_firm_26 : decode cX7_firm 26 = .ok (.astore_n 3, 1) := by decide +kernel
theorem dX7_firm_27 : decode cX7_firm 27 = .ok (.iconst 0, 1) := by decide +kernel
theorem dX7_firm_28 : decode cX7_firm 28 = .ok (.istore 4, 2) := by decide +kernel
theorem dX7_firm_30 : decode cX7_firm 30 = .ok (.bipush (-5), 2) := by decide +kernel
theorem dX7_firm_32 : decode cX7_firm 32 = .ok (.istore 5, 2) := by decide +kernel
theorem dX7_firm_34 : decode cX7_firm 34 = .ok (.bipush 9, 2) := by decide +kernel
theorem dX7_firm_36 : decode cX7_firm 36 = .ok (.istore 6, 2) := by decide +kernel
theorem dX7_firm_38 : decode cX7_firm 38 = .ok (.iload 6, 2) := by decide +kernel
theorem dX7_firm_40 : decode cX7_firm 40 = .ok (.ifCond .lt 37, 3) := by decide +kernel
theorem dX7_firm_43 : decode cX7_firm 43 = .ok (.aload_n 0, 1) := by decide +kernel
theorem dX7_firm_44 : decode cX7_firm 44 = .ok (.getfield 30, 3) := by decide +kernel
theorem dX7_firm_47 : decode cX7_firm 47 = .ok (.iload_n 1, 1) := by decide +kernel
theorem dX7_firm_48 : decode cX7_firm 48 = .ok (.aload_n 3, 1) := by decide +kernel
theorem dX7_firm_49 : decode cX7_firm 49 = .ok (.getfield 120, 3) := by decide +kernel
theorem dX7_firm_52 : decode cX7_firm 52 = .ok (.aload_n 3, 1) := by decide +kernel
theorem dX7_firm_53 : decode cX7_firm 53 = .ok (.getfield 114, 3) := by decide +kernel
theorem dX7_firm_56 : decode cX7_firm 56 = .ok (.iload 6, 2) := by decide +kernel
theorem dX7_firm_58 : decode cX7_firm 58 = .ok (.invokevirtual 206, 3) := by decide +kernel
theorem dX7_firm_61 : decode cX7_firm 61 = .ok (.ifCond .eq 10, 3) := by decide +kernel
theorem dX7_firm_64 : decode cX7_firm 64 = .ok (.iinc 4 1, 3) := by decide +kernel
theorem dX7_firm_67 : decode cX7_firm 67 = .ok (.iload 6, 2) := by decide +kernel
theorem dX7_firm_69 : decode cX7_firm 69 = .ok (.istore 5, 2) := by decide +kernel
theorem dX7_firm_71 : decode cX7_firm 71 = .ok (.iinc 6 (-1), 3) := by decide +kernel
theorem dX7_firm_74 : decode cX7_firm 74 = .ok (.goto (-36), 3) := by decide +kernel
theorem dX7_firm_77 : decode cX7_firm 77 = .ok (.iload_n 2, 1) := by decide +kernel
theorem dX7_firm_78 : decode cX7_firm 78 = .ok (.ifCond .ne 8, 3) := by decide +kernel
theorem dX7_firm_81 : decode cX7_firm 81 = .ok (.iload 4, 2) := by decide +kernel
theorem dX7_firm_83 : decode cX7_firm 83 = .ok (.goto 5, 3) := by decide +kernel
theorem dX7_firm_86 : decode cX7_firm 86 = .ok (.iload 5, 2) := by decide +kernel
theorem dX7_firm_88 : decode cX7_firm 88 = .ok (.ireturn, 1) := by decide +kernel
theorem dX7_odds_0 : decode cX7_odds 0 = .ok (.aload_n 0, 1) := by decide +kernel
theorem dX7_odds_1 : decode cX7_odds 1 = .ok (.iload_n 1, 1) := by decide +kernel
theorem dX7_odds_2 : decode cX7_odds 2 = .ok (.invokevirtual 105, 3) := by decide +kernel
theorem dX7_odds_5 : decode cX7_odds 5 = .ok (.ifCond .eq 12, 3) := by decide +kernel
theorem dX7_odds_8 : decode cX7_odds 8 = .ok (.iload_n 2, 1) := by decide +kernel
theorem dX7_odds_9 : decode cX7_odds 9 = .ok (.ifCond .lt 8, 3) := by decide +kernel
theorem dX7_odds_12 : decode cX7_odds 12 = .ok (.iload_n 2, 1) := by decide +kernel
theorem dX7_odds_13 : decode cX7_odds 13 = .ok (.iconst 3, 1) := by decide +kernel
theorem dX7_odds_14 : decode cX7_odds 14 = .ok (.if_icmp .le 7, 3) := by decide +kernel
theorem dX7_odds_17 : decode cX7_odds 17 = .ok (.ldc2_w 210, 3) := by decide +kernel
theorem dX7_odds_20 : decode cX7_odds 20 = .ok (.lreturn, 1) := by decide +kernel
theorem dX7_odds_21 : decode cX7_odds 21 = .ok (.iconst 0, 1) := by decide +kernel
theorem dX7_odds_22 : decode cX7_odds 22 = .ok (.istore 4, 2) := by decide +kernel
theorem dX7_odds_24 : decode cX7_odds 24 = .ok (.iconst 0, 1) := by decide +kernel
theorem dX7_odds_25 : decode cX7_odds 25 = .ok (.istore 5, 2) := by decide +kernel
theorem dX7_odds_27 : decode cX7_odds 27 = .ok (.iload 5, 2) := by decide +kernel
theorem dX7_odds_29 : decode cX7_odds 29 = .ok (.aload_n 0, 1) := by decide +kernel
theorem dX7_odds_30 : decode cX7_odds 30 = .ok (.getfield 30, 3) := by decide +kernel
theorem dX7_odds_33 : decode cX7_odds 33 = .ok (.getfield 98, 3) := by decide +kernel
theorem dX7_odds_36 : decode cX7_odds 36 = .ok (.if_icmp .ge 38, 3) := by decide +kernel
theorem dX7_odds_39 : decode cX7_odds 39 = .ok (.aload_n 0, 1) := by decide +kernel
theorem dX7_odds_40 : decode cX7_odds 40 = .ok (.getfield 30, 3) := by decide +kernel
theorem dX7_odds_43 : decode cX7_odds 43 = .ok (.iload_n 1, 1) := by decide +kernel
theorem dX7_odds_44 : decode cX7_odds 44 = .ok (.iload 5, 2) := by decide +kernel
theorem dX7_odds_46 : decode cX7_odds 46 = .ok (.invokevirtual 130, 3) := by decide +kernel
theorem dX7_odds_49 : decode cX7_odds 49 = .ok (.iload_n 2, 1) := by decide +kernel
theorem dX7_odds_50 : decode cX7_odds 50 = .ok (.if_icmp .ne 18, 3) := by decide +kernel
theorem dX7_odds_53 : decode cX7_odds 53 = .ok (.iload 4, 2) := by decide +kernel
theorem dX7_odds_55 : decode cX7_odds 55 = .ok (.aload_n 0, 1) := by decide +kernel
theorem dX7_odds_56 : decode cX7_odds 56 = .ok (.getfield 30, 3) := by decide +kernel
theorem dX7_odds_59 : decode cX7_odds 59 = .ok (.getfield 146, 3) := by decide +kernel
theorem dX7_odds_62 : decode cX7_odds 62 = .ok (.iload 5, 2) := by decide +kernel
theorem dX7_odds_64 : decode cX7_odds 64 = .ok (.iaload, 1) := by decide +kernel
theorem dX7_odds_65 : decode cX7_odds 65 = .ok (.iadd, 1) := by decide +kernel
theorem dX7_odds_66 : decode cX7_odds 66 = .ok (.istore 4, 2) := by decide +kernel
theorem dX7_odds_68 : decode cX7_odds 68 = .ok (.iinc 5 1, 3) := by decide +kernel
theorem dX7_odds_71 : decode cX7_odds 71 = .ok (.goto (-44), 3) := by decide +kernel
theorem dX7_odds_74 : decode cX7_odds 74 = .ok (.iload 4, 2) := by decide +kernel
theorem dX7_odds_76 : decode cX7_odds 76 = .ok (.aload_n 0, 1) := by decide +kernel
theorem dX7_odds_77 : decode cX7_odds 77 = .ok (.getfield 30, 3) := by decide +kernel
theorem dX7_odds_80 : decode cX7_odds 80 = .ok (.invokevirtual 165, 3) := by decide +kernel
theorem dX7_odds_83 : decode cX7_odds 83 = .ok (.iload_n 3, 1) := by decide +kernel
theorem dX7_odds_84 : decode cX7_odds 84 = .ok (.invokestatic 212, 3) := by decide +kernel
theorem dX7_odds_87 : decode cX7_odds 87 = .ok (.lreturn, 1) := by decide +kernel
theorem dX7_mean_0 : decode cX7_mean 0 = .ok (.iconst 0, 1) := by decide +kernel
theorem dX7_mean_1 : decode cX7_mean 1 = .ok (.istore_n 2, 1) := by decide +kernel
theorem dX7_mean_2 : decode cX7_mean 2 = .ok (.iconst 0, 1) := by decide +kernel
theorem dX7_mean_3 : decode cX7_mean 3 = .ok (.istore_n 3, 1) := by decide +kernel
theorem dX7_mean_4 : decode cX7_mean 4 = .ok (.iconst 0, 1) := by decide +kernel
theorem dX7_mean_5 : decode cX7_mean 5 = .ok (.istore 4, 2) := by decide +kernel
theorem dX7_mean_7 : decode cX7_mean 7 = .ok (.iload 4, 2) := by decide +kernel
theorem dX7_mean_9 : decode cX7_mean 9 = .ok (.aload_n 0, 1) := by decide +kernel
theorem dX7_mean_10 : decode cX7_mean 10 = .ok (.getfield 30, 3) := by decide +kernel
theorem dX7_mean_13 : decode cX7_mean 13 = .ok (.getfield 82, 3) := by decide +kernel
theorem dX7_mean_16 : decode cX7_mean 16 = .ok (.if_icmp .ge 55, 3) := by decide +kernel
theorem dX7_mean_19 : decode cX7_mean 19 = .ok (.aload_n 0, 1) := by decide +kernel
theorem dX7_mean_20 : decode cX7_mean 20 = .ok (.getfield 30, 3) := by decide +kernel
theorem dX7_mean_23 : decode cX7_mean 23 = .ok (.getfield 85, 3) := by decide +kernel
theorem dX7_mean_26 : decode cX7_mean 26 = .ok (.iload 4, 2) := by decide +kernel
theorem dX7_mean_28 : decode cX7_mean 28 = .ok (.aaload, 1) := by decide +kernel
theorem dX7_mean_29 : decode cX7_mean 29 = .ok (.getfield 120, 3) := by decide +kernel
theorem dX7_mean_32 : decode cX7_mean 32 = .ok (.istore 5, 2) := by decide +kernel
theorem dX7_mean_34 : decode cX7_mean 34 = .ok (.aload_n 0, 1) := by decide +kernel
theorem dX7_mean_35 : decode cX7_mean 35 = .ok (.getfield 30, 3) := by decide +kernel
theorem dX7_mean_38 : decode cX7_mean 38 = .ok (.iload 4, 2) := by decide +kernel
theorem dX7_mean_40 : decode cX7_mean 40 = .ok (.iload 5, 2) := by decide +kernel
theorem dX7_mean_42 : decode cX7_mean 42 = .ok (.invokevirtual 130, 3) := by decide +kernel
theorem dX7_mean_45 : decode cX7_mean 45 = .ok (.ifCond .le 20, 3) := by decide +kernel
theorem dX7_mean_48 : decode cX7_mean 48 = .ok (.iload_n 2, 1) := by decide +kernel
theorem dX7_mean_49 : decode cX7_mean 49 = .ok (.aload_n 0, 1) := by decide +kernel
theorem dX7_mean_50 : decode cX7_mean 50 = .ok (.getfield 30, 3) := by decide +kernel
theorem dX7_mean_53 : decode cX7_mean 53 = .ok (.iload 4, 2) := by decide +kernel
theorem dX7_mean_55 : decode cX7_mean 55 = .ok (.iload 5, 2) := by decide +kernel
theorem dX7_mean_57 : decode cX7_mean 57 = .ok (.invokevirtual 127, 3) := by decide +kernel
theorem dX7_mean_60 : decode cX7_mean 60 = .ok (.iadd, 1) := by decide +kernel
theorem dX7_mean_61 : decode cX7_mean 61 = .ok (.istore_n 2, 1) := by decide +kernel
theorem dX7_mean_62 : decode cX7_mean 62 = .ok (.iinc 3 1, 3) := by decide +kernel
theorem dX7_mean_65 : decode cX7_mean 65 = .ok (.iinc 4 1, 3) := by decide +kernel
theorem dX7_mean_68 : decode cX7_mean 68 = .ok (.goto (-61), 3) := by decide +kernel
theorem dX7_mean_71 : decode cX7_mean 71 = .ok (.iload_n 2, 1) := by decide +kernel
theorem dX7_mean_72 : decode cX7_mean 72 = .ok (.iload_n 3, 1) := by decide +kernel
theorem dX7_mean_73 : decode cX7_mean 73 = .ok (.iload_n 1, 1) := by decide +kernel
theorem dX7_mean_74 : decode cX7_mean 74 = .ok (.invokestatic 212, 3) := by decide +kernel
theorem dX7_mean_77 : decode cX7_mean 77 = .ok (.lreturn, 1) := by decide +kernel
theorem dX7_night_0 : decode cX7_night 0 = .ok (.iload_n 1, 1) := by decide +kernel
theorem dX7_night_1 : decode cX7_night 1 = .ok (.iconst (-1), 1) := by decide +kernel
theorem dX7_night_2 : decode cX7_night 2 = .ok (.if_icmp .ne 14, 3) := by decide +kernel
theorem dX7_night_5 : decode cX7_night 5 = .ok (.aload_n 0, 1) := by decide +kernel
theorem dX7_night_6 : decode cX7_night 6 = .ok (.getfield 30, 3) := by decide +kernel
theorem dX7_night_9 : decode cX7_night 9 = .ok (.getfield 216, 3) := by decide +kernel
theorem dX7_night_12 : decode cX7_night 12 = .ok (.invokevirtual 219, 3) := by decide +kernel
theorem dX7_night_15 : decode cX7_night 15 = .ok (.ireturn, 1) := by decide +kernel
theorem dX7_night_16 : decode cX7_night 16 = .ok (.iload_n 1, 1) := by decide +kernel
theorem dX7_night_17 : decode cX7_night 17 = .ok (.ifCond .lt 33, 3) := by decide +kernel
theorem dX7_night_20 : decode cX7_night 20 = .ok (.iload_n 1, 1) := by decide +kernel
theorem dX7_night_21 : decode cX7_night 21 = .ok (.iconst 2, 1) := by decide +kernel
theorem dX7_night_22 : decode cX7_night 22 = .ok (.if_icmp .gt 28, 3) := by decide +kernel
theorem dX7_night_25 : decode cX7_night 25 = .ok (.iload_n 1, 1) := by decide +kernel
theorem dX7_night_26 : decode cX7_night 26 = .ok (.ifCond .eq 11, 3) := by decide +kernel
theorem dX7_night_29 : decode cX7_night 29 = .ok (.aload_n 0, 1) := by decide +kernel
theorem dX7_night_30 : decode cX7_night 30 = .ok (.iload_n 2, 1) := by decide +kernel
theorem dX7_night_31 : decode cX7_night 31 = .ok (.invokevirtual 105, 3) := by decide +kernel
theorem dX7_night_34 : decode cX7_night 34 = .ok (.ifCond .eq 16, 3) := by decide +kernel
theorem dX7_night_37 : decode cX7_night 37 = .ok (.iload_n 1, 1) := by decide +kernel
theorem dX7_night_38 : decode cX7_night 38 = .ok (.iconst 1, 1) := by decide +kernel
theorem dX7_night_39 : decode cX7_night 39 = .ok (.if_icmp .ne 13, 3) := by decide +kernel
theorem dX7_night_42 : decode cX7_night 42 = .ok (.aload_n 0, 1) := by decide +kernel
theorem dX7_night_43 : decode cX7_night 43 = .ok (.iload_n 3, 1) := by decide +kernel
theorem dX7_night_44 : decode cX7_night 44 = .ok (.invokevirtual 140, 3) := by decide +kernel
theorem dX7_night_47 : decode cX7_night 47 = .ok (.ifCond .ne 5, 3) := by decide +kernel
theorem dX7_night_50 : decode cX7_night 50 = .ok (.iconst (-1), 1) := by decide +kernel
theorem dX7_night_51 : decode cX7_night 51 = .ok (.ireturn, 1) := by decide +kernel
theorem dX7_night_52 : decode cX7_night 52 = .ok (.aload_n 0, 1) := by decide +kernel
theorem dX7_night_53 : decode cX7_night 53 = .ok (.getfield 30, 3) := by decide +kernel
theorem dX7_night_56 : decode cX7_night 56 = .ok (.getfield 216, 3) := by decide +kernel
theorem dX7_night_59 : decode cX7_night 59 = .ok (.iload_n 1, 1) := by decide +kernel
theorem dX7_night_60 : decode cX7_night 60 = .ok (.iload_n 2, 1) := by decide +kernel
theorem dX7_night_61 : decode cX7_night 61 = .ok (.iload_n 3, 1) := by decide +kernel
theorem dX7_night_62 : decode cX7_night 62 = .ok (.invokevirtual 224, 3) := by decide +kernel
theorem dX7_night_65 : decode cX7_night 65 = .ok (.ireturn, 1) := by decide +kernel
theorem dX7_done_0 : decode cX7_done 0 = .ok (.iload_n 1, 1) := by decide +kernel
theorem dX7_done_1 : decode cX7_done 1 = .ok (.ifCond .lt 8, 3) := by decide +kernel
theorem dX7_done_4 : decode cX7_done 4 = .ok (.iload_n 1, 1) := by decide +kernel
theorem dX7_done_5 : decode cX7_done 5 = .ok (.iconst 1, 1) := by decide +kernel
theorem dX7_done_6 : decode cX7_done 6 = .ok (.if_icmp .le 5, 3) := by decide +kernel
theorem dX7_done_9 : decode cX7_done 9 = .ok (.iconst (-1), 1) := by decide +kernel
theorem dX7_done_10 : decode cX7_done 10 = .ok (.ireturn, 1) := by decide +kernel
theorem dX7_done_11 : decode cX7_done 11 = .ok (.aload_n 0, 1) := by decide +kernel
theorem dX7_done_12 : decode cX7_done 12 = .ok (.getfield 37, 3) := by decide +kernel
theorem dX7_done_15 : decode cX7_done 15 = .ok (.aload_n 0, 1) := by decide +kernel
theorem dX7_done_16 : decode cX7_done 16 = .ok (.getfield 30, 3) := by decide +kernel
theorem dX7_done_19 : decode cX7_done 19 = .ok (.invokevirtual 227, 3) := by decide +kernel
theorem dX7_done_22 : decode cX7_done 22 = .ok (.aload_n 0, 1) := by decide +kernel
theorem dX7_done_23 : decode cX7_done 23 = .ok (.getfield 37, 3) := by decide +kernel
theorem dX7_done_26 : decode cX7_done 26 = .ok (.invokevirtual 230, 3) := by decide +kernel
theorem dX7_done_29 : decode cX7_done 29 = .ok (.iload_n 1, 1) := by decide +kernel
theorem dX7_done_30 : decode cX7_done 30 = .ok (.ifCond .ne 16, 3) := by decide +kernel
theorem dX7_done_33 : decode cX7_done 33 = .ok (.aload_n 0, 1) := by decide +kernel
theorem dX7_done_34 : decode cX7_done 34 = .ok (.getfield 37, 3) := by decide +kernel
theorem dX7_done_37 : decode cX7_done 37 = .ok (.invokevirtual 158, 3) := by decide +kernel
theorem dX7_done_40 : decode cX7_done 40 = .ok (.invokestatic 233, 3) := by decide +kernel
theorem dX7_done_43 : decode cX7_done 43 = .ok (.goto 10, 3) := by decide +kernel
theorem dX7_done_46 : decode cX7_done 46 = .ok (.aload_n 0, 1) := by decide +kernel
theorem dX7_done_47 : decode cX7_done 47 = .ok (.getfield 37, 3) := by decide +kernel
theorem dX7_done_50 : decode cX7_done 50 = .ok (.invokevirtual 162, 3) := by decide +kernel
theorem dX7_done_53 : decode cX7_done 53 = .ok (.ireturn, 1) := by decide +kernel
theorem dX7_book_0 : decode cX7_book 0 = .ok (.aload_n 0, 1) := by decide +kernel
theorem dX7_book_1 : decode cX7_book 1 = .ok (.aload_n 0, 1) := by decide +kernel
theorem dX7_book_2 : decode cX7_book 2 = .ok (.getfield 30, 3) := by decide +kernel
theorem dX7_book_5 : decode cX7_book 5 = .ok (.getfield 238, 3) := by decide +kernel
theorem dX7_book_8 : decode cX7_book 8 = .ok (.iload_n 1, 1) := by decide +kernel
theorem dX7_book_9 : decode cX7_book 9 = .ok (.iload_n 2, 1) := by decide +kernel
theorem dX7_book_10 : decode cX7_book 10 = .ok (.invokevirtual 202, 3) := by decide +kernel
theorem dX7_book_13 : decode cX7_book 13 = .ok (.ireturn, 1) := by decide +kernel
theorem dX7_looked_0 : decode cX7_looked 0 = .ok (.iconst 0, 1) := by decide +kernel
theorem dX7_looked_1 : decode cX7_looked 1 = .ok (.istore_n 1, 1) := by decide +kernel
theorem dX7_looked_2 : decode cX7_looked 2 = .ok (.iload_n 1, 1) := by decide +kernel
theorem dX7_looked_3 : decode cX7_looked 3 = .ok (.aload_n 0, 1) := by decide +kernel
theorem dX7_looked_4 : decode cX7_looked 4 = .ok (.getfield 30, 3) := by decide +kernel
theorem dX7_looked_7 : decode cX7_looked 7 = .ok (.getfield 238, 3) := by decide +kernel
theorem dX7_looked_10 : decode cX7_looked 10 = .ok (.getfield 241, 3) := by decide +kernel
theorem dX7_looked_13 : decode cX7_looked 13 = .ok (.if_icmp .ge 59, 3) := by decide +kernel
theorem dX7_looked_16 : decode cX7_looked 16 = .ok (.aload_n 0, 1) := by decide +kernel
theorem dX7_looked_17 : decode cX7_looked 17 = .ok (.getfield 30, 3) := by decide +kernel
theorem dX7_looked_20 : decode cX7_looked 20 = .ok (.getfield 238, 3) := by decide +kernel
theorem dX7_looked_23 : decode cX7_looked 23 = .ok (.getfield 244, 3) := by decide +kernel
theorem dX7_looked_26 : decode cX7_looked 26 = .ok (.iload_n 1, 1) := by decide +kernel
theorem dX7_looked_27 : decode cX7_looked 27 = .ok (.iaload, 1) := by decide +kernel
theorem dX7_looked_28 : decode cX7_looked 28 = .ok (.istore_n 2, 1) := by decide +kernel
theorem dX7_looked_29 : decode cX7_looked 29 = .ok (.aload_n 0, 1) := by decide +kernel
theorem dX7_looked_30 : decode cX7_looked 30 = .ok (.getfield 30, 3) := by decide +kernel
theorem dX7_looked_33 : decode cX7_looked 33 = .ok (.iload_n 2, 1) := by decide +kernel
theorem dX7_looked_34 : decode cX7_looked 34 = .ok (.aload_n 0, 1) := by decide +kernel
theorem dX7_looked_35 : decode cX7_looked 35 = .ok (.getfield 30, 3) := by decide +kernel
theorem dX7_looked_38 : decode cX7_looked 38 = .ok (.getfield 85, 3) := by decide +kernel
theorem dX7_looked_41 : decode cX7_looked 41 = .ok (.iload_n 2, 1) := by decide +kernel
theorem dX7_looked_42 : decode cX7_looked 42 = .ok (.aaload, 1) := by decide +kernel
theorem dX7_looked_43 : decode cX7_looked 43 = .ok (.getfield 120, 3) := by decide +kernel
theorem dX7_looked_46 : decode cX7_looked 46 = .ok (.invokevirtual 127, 3) := by decide +kernel
theorem dX7_looked_49 : decode cX7_looked 49 = .ok (.aload_n 0, 1) := by decide +kernel
theorem dX7_looked_50 : decode cX7_looked 50 = .ok (.getfield 30, 3) := by decide +kernel
theorem dX7_looked_53 : decode cX7_looked 53 = .ok (.getfield 238, 3) := by decide +kernel
theorem dX7_looked_56 : decode cX7_looked 56 = .ok (.getfield 247, 3) := by decide +kernel
theorem dX7_looked_59 : decode cX7_looked 59 = .ok (.iload_n 1, 1) := by decide +kernel
theorem dX7_looked_60 : decode cX7_looked 60 = .ok (.iaload, 1) := by decide +kernel
theorem dX7_looked_61 : decode cX7_looked 61 = .ok (.if_icmp .eq 5, 3) := by decide +kernel
theorem dX7_looked_64 : decode cX7_looked 64 = .ok (.iload_n 1, 1) := by decide +kernel
theorem dX7_looked_65 : decode cX7_looked 65 = .ok (.ireturn, 1) := by decide +kernel
theorem dX7_looked_66 : decode cX7_looked 66 = .ok (.iinc 1 1, 3) := by decide +kernel
theorem dX7_looked_69 : decode cX7_looked 69 = .ok (.goto (-67), 3) := by decide +kernel
theorem dX7_looked_72 : decode cX7_looked 72 = .ok (.bipush (-5), 2) := by decide +kernel
theorem dX7_looked_74 : decode cX7_looked 74 = .ok (.ireturn, 1) := by decide +kernel
theorem dX7_act_0 : decode cX7_act 0 = .ok (.aload_n 0, 1) := by decide +kernel
theorem dX7_act_1 : decode cX7_act 1 = .ok (.getfield 20, 3) := by decide +kernel
theorem dX7_act_4 : decode cX7_act 4 = .ok (.iconst 0, 1) := by decide +kernel
theorem dX7_act_5 : decode cX7_act 5 = .ok (.putfield 250, 3) := by decide +kernel
theorem dX7_act_8 : decode cX7_act 8 = .ok (.aload_n 0, 1) := by decide +kernel
theorem dX7_act_9 : decode cX7_act 9 = .ok (.iload_n 1, 1) := by decide +kernel
theorem dX7_act_10 : decode cX7_act 10 = .ok (.invokevirtual 105, 3) := by decide +kernel
theorem dX7_act_13 : decode cX7_act 13 = .ok (.ifCond .eq 12, 3) := by decide +kernel
theorem dX7_act_16 : decode cX7_act 16 = .ok (.iload_n 2, 1) := by decide +kernel
theorem dX7_act_17 : decode cX7_act 17 = .ok (.ifCond .lt 8, 3) := by decide +kernel
theorem dX7_act_20 : decode cX7_act 20 = .ok (.iload_n 2, 1) := by decide +kernel
theorem dX7_act_21 : decode cX7_act 21 = .ok (.iconst 2, 1) := by decide +kernel
theorem dX7_act_22 : decode cX7_act 22 = .ok (.if_icmp .le 5, 3) := by decide +kernel
theorem dX7_act_25 : decode cX7_act 25 = .ok (.iconst 0, 1) := by decide +kernel
theorem dX7_act_26 : decode cX7_act 26 = .ok (.ireturn, 1) := by decide +kernel
theorem dX7_act_27 : decode cX7_act 27 = .ok (.aload_n 0, 1) := by decide +kernel
theorem dX7_act_28 : decode cX7_act 28 = .ok (.getfield 30, 3) := by decide +kernel
theorem dX7_act_31 : decode cX7_act 31 = .ok (.getfield 85, 3) := by decide +kernel
theorem dX7_act_34 : decode cX7_act 34 = .ok (.iload_n 1, 1) := by decide +kernel
theorem dX7_act_35 : decode cX7_act 35 = .ok (.aaload, 1) := by decide +kernel
theorem dX7_act_36 : decode cX7_act 36 = .ok (.astore 4, 2) := by decide +kernel
theorem dX7_act_38 : decode cX7_act 38 = .ok (.aload_n 0, 1) := by decide +kernel
theorem dX7_act_39 : decode cX7_act 39 = .ok (.getfield 20, 3) := by decide +kernel
theorem dX7_act_42 : decode cX7_act 42 = .ok (.aload 4, 2) := by decide +kernel
theorem dX7_act_44 : decode cX7_act 44 = .ok (.iload_n 2, 1) := by decide +kernel
theorem dX7_act_45 : decode cX7_act 45 = .ok (.aload 4, 2) := by decide +kernel
theorem dX7_act_47 : decode cX7_act 47 = .ok (.getfield 108, 3) := by decide +kernel
theorem dX7_act_50 : decode cX7_act 50 = .ok (.iload_n 3, 1) := by decide +kernel
theorem dX7_act_51 : decode cX7_act 51 = .ok (.iconst 0, 1) := by decide +kernel
theorem dX7_act_52 : decode cX7_act 52 = .ok (.invokevirtual 253, 3) := by decide +kernel
theorem dX7_act_55 : decode cX7_act 55 = .ok (.ireturn, 1) := by decide +kernel
theorem dX7_trace_0 : decode cX7_trace 0 = .ok (.iload_n 1, 1) := by decide +kernel
theorem dX7_trace_1 : decode cX7_trace 1 = .ok (.ifCond .lt 32, 3) := by decide +kernel
theorem dX7_trace_4 : decode cX7_trace 4 = .ok (.iload_n 1, 1) := by decide +kernel
theorem dX7_trace_5 : decode cX7_trace 5 = .ok (.aload_n 0, 1) := by decide +kernel
theorem dX7_trace_6 : decode cX7_trace 6 = .ok (.getfield 20, 3) := by decide +kernel
theorem dX7_trace_9 : decode cX7_trace 9 = .ok (.getfield 250, 3) := by decide +kernel
theorem dX7_trace_12 : decode cX7_trace 12 = .ok (.if_icmp .ge 21, 3) := by decide +kernel
theorem dX7_trace_15 : decode cX7_trace 15 = .ok (.iload_n 1, 1) := by decide +kernel
theorem dX7_trace_16 : decode cX7_trace 16 = .ok (.bipush 20, 2) := by decide +kernel
theorem dX7_trace_18 : decode cX7_trace 18 = .ok (.if_icmp .ge 15, 3) := by decide +kernel
theorem dX7_trace_21 : decode cX7_trace 21 = .ok (.aload_n 0, 1) := by decide +kernel
theorem dX7_trace_22 : decode cX7_trace 22 = .ok (.getfield 20, 3) := by decide +kernel
theorem dX7_trace_25 : decode cX7_trace 25 = .ok (.getfield 257, 3) := by decide +kernel
theorem dX7_trace_28 : decode cX7_trace 28 = .ok (.iload_n 1, 1) := by decide +kernel
theorem dX7_trace_29 : decode cX7_trace 29 = .ok (.iaload, 1) := by decide +kernel
theorem dX7_trace_30 : decode cX7_trace 30 = .ok (.goto 4, 3) := by decide +kernel
theorem dX7_trace_33 : decode cX7_trace 33 = .ok (.iconst (-1), 1) := by decide +kernel
theorem dX7_trace_34 : decode cX7_trace 34 = .ok (.ireturn, 1) := by decide +kernel
theorem dX7_as_0 : decode cX7_as 0 = .ok (.aload_n 0, 1) := by decide +kernel
theorem dX7_as_1 : decode cX7_as 1 = .ok (.iload_n 1, 1) := by decide +kernel
theorem dX7_as_2 : decode cX7_as 2 = .ok (.invokevirtual 105, 3) := by decide +kernel
theorem dX7_as_5 : decode cX7_as 5 = .ok (.ifCond .eq 10, 3) := by decide +kernel
theorem dX7_as_8 : decode cX7_as 8 = .ok (.iload_n 2, 1) := by decide +kernel
theorem dX7_as_9 : decode cX7_as 9 = .ok (.invokestatic 75, 3) := by decide +kernel
theorem dX7_as_12 : decode cX7_as 12 = .ok (.ifCond .ne 5, 3) := by decide +kernel
theorem dX7_as_15 : decode cX7_as 15 = .ok (.iconst (-1), 1) := by decide +kernel
theorem dX7_as_16 : decode cX7_as 16 = .ok (.ireturn, 1) := by decide +kernel
theorem dX7_as_17 : decode cX7_as 17 = .ok (.aload_n 0, 1) := by decide +kernel
theorem dX7_as_18 : decode cX7_as 18 = .ok (.getfield 30, 3) := by decide +kernel
theorem dX7_as_21 : decode cX7_as 21 = .ok (.getfield 85, 3) := by decide +kernel
theorem dX7_as_24 : decode cX7_as 24 = .ok (.iload_n 1, 1) := by decide +kernel
theorem dX7_as_25 : decode cX7_as 25 = .ok (.aaload, 1) := by decide +kernel
theorem dX7_as_26 : decode cX7_as 26 = .ok (.getfield 108, 3) := by decide +kernel
theorem dX7_as_29 : decode cX7_as 29 = .ok (.istore_n 3, 1) := by decide +kernel
theorem dX7_as_30 : decode cX7_as 30 = .ok (.iconst 0, 1) := by decide +kernel
theorem dX7_as_31 : decode cX7_as 31 = .ok (.istore 4, 2) := by decide +kernel
theorem dX7_as_33 : decode cX7_as 33 = .ok (.iload 4, 2) := by decide +kernel
theorem dX7_as_35 : decode cX7_as 35 = .ok (.getstatic 260, 3) := by decide +kernel
theorem dX7_as_38 : decode cX7_as 38 = .ok (.arraylength, 1) := by decide +kernel
theorem dX7_as_39 : decode cX7_as 39 = .ok (.if_icmp .ge 20, 3) := by decide +kernel
theorem dX7_as_42 : decode cX7_as 42 = .ok (.iload_n 3, 1) := by decide +kernel
theorem dX7_as_43 : decode cX7_as 43 = .ok (.iload_n 2, 1) := by decide +kernel
theorem dX7_as_44 : decode cX7_as 44 = .ok (.if_icmp .le 15, 3) := by decide +kernel
theorem dX7_as_47 : decode cX7_as 47 = .ok (.getstatic 260, 3) := by decide +kernel
theorem dX7_as_50 : decode cX7_as 50 = .ok (.iload_n 3, 1) := by decide +kernel
theorem dX7_as_51 : decode cX7_as 51 = .ok (.iaload, 1) := by decide +kernel
theorem dX7_as_52 : decode cX7_as 52 = .ok (.istore_n 3, 1) := by decide +kernel
theorem dX7_as_53 : decode cX7_as 53 = .ok (.iinc 4 1, 3) := by decide +kernel
theorem dX7_as_56 : decode cX7_as 56 = .ok (.goto (-23), 3) := by decide +kernel
theorem dX7_as_59 : decode cX7_as 59 = .ok (.iload_n 3, 1) := by decide +kernel
theorem dX7_as_60 : decode cX7_as 60 = .ok (.iload_n 2, 1) := by decide +kernel
theorem dX7_as_61 : decode cX7_as 61 = .ok (.if_icmp .ne 18, 3) := by decide +kernel
theorem dX7_as_64 : decode cX7_as 64 = .ok (.aload_n 0, 1) := by decide +kernel
theorem dX7_as_65 : decode cX7_as 65 = .ok (.getfield 30, 3) := by decide +kernel
theorem dX7_as_68 : decode cX7_as 68 = .ok (.getfield 85, 3) := by decide +kernel
theorem dX7_as_71 : decode cX7_as 71 = .ok (.iload_n 1, 1) := by decide +kernel
theorem dX7_as_72 : decode cX7_as 72 = .ok (.aaload, 1) := by decide +kernel
theorem dX7_as_73 : decode cX7_as 73 = .ok (.getfield 111, 3) := by decide +kernel
theorem dX7_as_76 : decode cX7_as 76 = .ok (.goto 5, 3) := by decide +kernel
theorem dX7_as_79 : decode cX7_as 79 = .ok (.bipush (-6), 2) := by decide +kernel
theorem dX7_as_81 : decode cX7_as 81 = .ok (.ireturn, 1) := by decide +kernel
theorem dX7_image_0 : decode cX7_image 0 = .ok (.aload_n 0, 1) := by decide +kernel
theorem dX7_image_1 : decode cX7_image 1 = .ok (.getfield 34, 3) := by decide +kernel
theorem dX7_image_4 : decode cX7_image 4 = .ok (.aload_n 0, 1) := by decide +kernel
theorem dX7_image_5 : decode cX7_image 5 = .ok (.getfield 30, 3) := by decide +kernel
theorem dX7_image_8 : decode cX7_image 8 = .ok (.invokevirtual 227, 3) := by decide +kernel
theorem dX7_image_11 : decode cX7_image 11 = .ok (.aload_n 0, 1) := by decide +kernel
theorem dX7_image_12 : decode cX7_image 12 = .ok (.iconst 1, 1) := by decide +kernel
theorem dX7_image_13 : decode cX7_image 13 = .ok (.putfield 263, 3) := by decide +kernel
theorem dX7_image_16 : decode cX7_image 16 = .ok (.aload_n 0, 1) := by decide +kernel
theorem dX7_image_17 : decode cX7_image 17 = .ok (.getfield 30, 3) := by decide +kernel
theorem dX7_image_20 : decode cX7_image 20 = .ok (.getfield 82, 3) := by decide +kernel
theorem dX7_image_23 : decode cX7_image 23 = .ok (.ireturn, 1) := by decide +kernel
theorem dX7_undo_0 : decode cX7_undo 0 = .ok (.aload_n 0, 1) := by decide +kernel
theorem dX7_undo_1 : decode cX7_undo 1 = .ok (.getfield 263, 3) := by decide +kernel
theorem dX7_undo_4 : decode cX7_undo 4 = .ok (.ifCond .ne 6, 3) := by decide +kernel
theorem dX7_undo_7 : decode cX7_undo 7 = .ok (.bipush (-3), 2) := by decide +kernel
theorem dX7_undo_9 : decode cX7_undo 9 = .ok (.ireturn, 1) := by decide +kernel
theorem dX7_undo_10 : decode cX7_undo 10 = .ok (.aload_n 0, 1) := by decide +kernel
theorem dX7_undo_11 : decode cX7_undo 11 = .ok (.getfield 30, 3) := by decide +kernel
theorem dX7_undo_14 : decode cX7_undo 14 = .ok (.aload_n 0, 1) := by decide +kernel
theorem dX7_undo_15 : decode cX7_undo 15 = .ok (.getfield 34, 3) := by decide +kernel
theorem dX7_undo_18 : decode cX7_undo 18 = .ok (.invokevirtual 227, 3) := by decide +kernel
theorem dX7_undo_21 : decode cX7_undo 21 = .ok (.aload_n 0, 1) := by decide +kernel
theorem dX7_undo_22 : decode cX7_undo 22 = .ok (.getfield 30, 3) := by decide +kernel
theorem dX7_undo_25 : decode cX7_undo 25 = .ok (.getfield 82, 3) := by decide +kernel
theorem dX7_undo_28 : decode cX7_undo 28 = .ok (.ireturn, 1) := by decide +kernel
theorem dX7_count_0 : decode cX7_count 0 = .ok (.iload_n 1, 1) := by decide +kernel
theorem dX7_count_1 : decode cX7_count 1 = .ok (.tableswitch 120 0 7 #[47, 55, 63, 74, 85, 96, 104, 112], 47) := by decide +kernel
theorem dX7_count_48 : decode cX7_count 48 = .ok (.aload_n 0, 1) := by decide +kernel
theorem dX7_count_49 : decode cX7_count 49 = .ok (.getfield 30, 3) := by decide +kernel
theorem dX7_count_52 : decode cX7_count 52 = .ok (.getfield 82, 3) := by decide +kernel
theorem dX7_count_55 : decode cX7_count 55 = .ok (.ireturn, 1) := by decide +kernel
theorem dX7_count_56 : decode cX7_count 56 = .ok (.aload_n 0, 1) := by decide +kernel
theorem dX7_count_57 : decode cX7_count 57 = .ok (.getfield 30, 3) := by decide +kernel
theorem dX7_count_60 : decode cX7_count 60 = .ok (.getfield 57, 3) := by decide +kernel
theorem dX7_count_63 : decode cX7_count 63 = .ok (.ireturn, 1) := by decide +kernel
theorem dX7_count_64 : decode cX7_count 64 = .ok (.aload_n 0, 1) := by decide +kernel
theorem dX7_count_65 : decode cX7_count 65 = .ok (.getfield 30, 3) := by decide +kernel
theorem dX7_count_68 : decode cX7_count 68 = .ok (.getfield 198, 3) := by decide +kernel
theorem dX7_count_71 : decode cX7_count 71 = .ok (.getfield 241, 3) := by decide +kernel
theorem dX7_count_74 : decode cX7_count 74 = .ok (.ireturn, 1) := by decide +kernel
theorem dX7_count_75 : decode cX7_count 75 = .ok (.aload_n 0, 1) := by decide +kernel
theorem dX7_count_76 : decode cX7_count 76 = .ok (.getfield 30, 3) := by decide +kernel
theorem dX7_count_79 : decode cX7_count 79 = .ok (.getfield 216, 3) := by decide +kernel
theorem dX7_count_82 : decode cX7_count 82 = .ok (.getfield 241, 3) := by decide +kernel
theorem dX7_count_85 : decode cX7_count 85 = .ok (.ireturn, 1) := by decide +kernel
theorem dX7_count_86 : decode cX7_count 86 = .ok (.aload_n 0, 1) := by decide +kernel
theorem dX7_count_87 : decode cX7_count 87 = .ok (.getfield 30, 3) := by decide +kernel
theorem dX7_count_90 : decode cX7_count 90 = .ok (.getfield 238, 3) := by decide +kernel
theorem dX7_count_93 : decode cX7_count 93 = .ok (.getfield 241, 3) := by decide +kernel
theorem dX7_count_96 : decode cX7_count 96 = .ok (.ireturn, 1) := by decide +kernel
theorem dX7_count_97 : decode cX7_count 97 = .ok (.aload_n 0, 1) := by decide +kernel
theorem dX7_count_98 : decode cX7_count 98 = .ok (.getfield 30, 3) := by decide +kernel
theorem dX7_count_101 : decode cX7_count 101 = .ok (.getfield 49, 3) := by decide +kernel
theorem dX7_count_104 : decode cX7_count 104 = .ok (.ireturn, 1) := by decide +kernel
theorem dX7_count_105 : decode cX7_count 105 = .ok (.aload_n 0, 1) := by decide +kernel
theorem dX7_count_106 : decode cX7_count 106 = .ok (.getfield 20, 3) := by decide +kernel
theorem dX7_count_109 : decode cX7_count 109 = .ok (.getfield 250, 3) := by decide +kernel
theorem dX7_count_112 : decode cX7_count 112 = .ok (.ireturn, 1) := by decide +kernel
theorem dX7_count_113 : decode cX7_count 113 = .ok (.aload_n 0, 1) := by decide +kernel
theorem dX7_count_114 : decode cX7_count 114 = .ok (.getfield 30, 3) := by decide +kernel
theorem dX7_count_117 : decode cX7_count 117 = .ok (.getfield 98, 3) := by decide +kernel
theorem dX7_count_120 : decode cX7_count 120 = .ok (.ireturn, 1) := by decide +kernel
theorem dX7_count_121 : decode cX7_count 121 = .ok (.iconst (-1), 1) := by decide +kernel
theorem dX7_count_122 : decode cX7_count 122 = .ok (.ireturn, 1) := by decide +kernel
theorem dX7_isOne_0 : decode cX7_isOne 0 = .ok (.iload_n 1, 1) := by decide +kernel
theorem dX7_isOne_1 : decode cX7_isOne 1 = .ok (.ifCond .lt 18, 3) := by decide +kernel
theorem dX7_isOne_4 : decode cX7_isOne 4 = .ok (.iload_n 1, 1) := by decide +kernel
theorem dX7_isOne_5 : decode cX7_isOne 5 = .ok (.aload_n 0, 1) := by decide +kernel
theorem dX7_isOne_6 : decode cX7_isOne 6 = .ok (.getfield 30, 3) := by decide +kernel
theorem dX7_isOne_9 : decode cX7_isOne 9 = .ok (.getfield 82, 3) := by decide +kernel
theorem dX7_isOne_12 : decode cX7_isOne 12 = .ok (.if_icmp .ge 7, 3) := by decide +kernel
theorem dX7_isOne_15 : decode cX7_isOne 15 = .ok (.iconst 1, 1) := by decide +kernel
theorem dX7_isOne_16 : decode cX7_isOne 16 = .ok (.goto 4, 3) := by decide +kernel
theorem dX7_isOne_19 : decode cX7_isOne 19 = .ok (.iconst 0, 1) := by decide +kernel
theorem dX7_isOne_20 : decode cX7_isOne 20 = .ok (.ireturn, 1) := by decide +kernel
theorem dX7_isVintage_0 : decode cX7_isVintage 0 = .ok (.iload_n 1, 1) := by decide +kernel
theorem dX7_isVintage_1 : decode cX7_isVintage 1 = .ok (.ifCond .lt 18, 3) := by decide +kernel
theorem dX7_isVintage_4 : decode cX7_isVintage 4 = .ok (.iload_n 1, 1) := by decide +kernel
theorem dX7_isVintage_5 : decode cX7_isVintage 5 = .ok (.aload_n 0, 1) := by decide +kernel
theorem dX7_isVintage_6 : decode cX7_isVintage 6 = .ok (.getfield 30, 3) := by decide +kernel
theorem dX7_isVintage_9 : decode cX7_isVintage 9 = .ok (.getfield 98, 3) := by decide +kernel
theorem dX7_isVintage_12 : decode cX7_isVintage 12 = .ok (.if_icmp .ge 7, 3) := by decide +kernel
theorem dX7_isVintage_15 : decode cX7_isVintage 15 = .ok (.iconst 1, 1) := by decide +kernel
theorem dX7_isVintage_16 : decode cX7_isVintage 16 = .ok (.goto 4, 3) := by decide +kernel
theorem dX7_isVintage_19 : decode cX7_isVintage 19 = .ok (.iconst 0, 1) := by decide +kernel
theorem dX7_isVintage_20 : decode cX7_isVintage 20 = .ok (.ireturn, 1) := by decide +kernel
theorem dX7_isOfSeating_0 : decode cX7_isOfSeating 0 = .ok (.iload_n 1, 1) := by decide +kernel
theorem dX7_isOfSeating_1 : decode cX7_isOfSeating 1 = .ok (.ifCond .eq 20, 3) := by decide +kernel
theorem dX7_isOfSeating_4 : decode cX7_isOfSeating 4 = .ok (.iload_n 1, 1) := by decide +kernel
theorem dX7_isOfSeating_5 : decode cX7_isOfSeating 5 = .ok (.bipush 10, 2) := by decide +kernel
theorem dX7_isOfSeating_7 : decode cX7_isOfSeating 7 = .ok (.if_icmp .lt 18, 3) := by decide +kernel
theorem dX7_isOfSeating_10 : decode cX7_isOfSeating 10 = .ok (.aload_n 0, 1) := by decide +kernel
theorem dX7_isOfSeating_11 : decode cX7_isOfSeating 11 = .ok (.iload_n 1, 1) := by decide +kernel
theorem dX7_isOfSeating_12 : decode cX7_isOfSeating 12 = .ok (.bipush 10, 2) := by decide +kernel
theorem dX7_isOfSeating_14 : decode cX7_isOfSeating 14 = .ok (.isub, 1) := by decide +kernel
theorem dX7_isOfSeating_15 : decode cX7_isOfSeating 15 = .ok (.invokevirtual 105, 3) := by decide +kernel
theorem dX7_isOfSeating_18 : decode cX7_isOfSeating 18 = .ok (.ifCond .eq 7, 3) := by decide +kernel
theorem dX7_isOfSeating_21 : decode cX7_isOfSeating 21 = .ok (.iconst 1, 1) := by decide +kernel
theorem dX7_isOfSeating_22 : decode cX7_isOfSeating 22 = .ok (.goto 4, 3) := by decide +kernel
theorem dX7_isOfSeating_25 : decode cX7_isOfSeating 25 = .ok (.iconst 0, 1) := by decide +kernel
theorem dX7_isOfSeating_26 : decode cX7_isOfSeating 26 = .ok (.ireturn, 1) := by decide +kernel
theorem dX7_isKind_0 : decode cX7_isKind 0 = .ok (.iload_n 0, 1) := by decide +kernel
theorem dX7_isKind_1 : decode cX7_isKind 1 = .ok (.ifCond .lt 15, 3) := by decide +kernel
theorem dX7_isKind_4 : decode cX7_isKind 4 = .ok (.iload_n 0, 1) := by decide +kernel
theorem dX7_isKind_5 : decode cX7_isKind 5 = .ok (.getstatic 260, 3) := by decide +kernel
theorem dX7_isKind_8 : decode cX7_isKind 8 = .ok (.arraylength, 1) := by decide +kernel
theorem dX7_isKind_9 : decode cX7_isKind 9 = .ok (.if_icmp .ge 7, 3) := by decide +kernel
theorem dX7_isKind_12 : decode cX7_isKind 12 = .ok (.iconst 1, 1) := by decide +kernel
theorem dX7_isKind_13 : decode cX7_isKind 13 = .ok (.goto 4, 3) := by decide +kernel
theorem dX7_isKind_16 : decode cX7_isKind 16 = .ok (.iconst 0, 1) := by decide +kernel
theorem dX7_isKind_17 : decode cX7_isKind 17 = .ok (.ireturn, 1) := by decide +kernel
theorem dX7_isDigit_0 : decode cX7_isDigit 0 = .ok (.iload_n 0, 1) := by decide +kernel
theorem dX7_isDigit_1 : decode cX7_isDigit 1 = .ok (.ifCond .lt 13, 3) := by decide +kernel
theorem dX7_isDigit_4 : decode cX7_isDigit 4 = .ok (.iload_n 0, 1) := by decide +kernel
theorem dX7_isDigit_5 : decode cX7_isDigit 5 = .ok (.bipush 9, 2) := by decide +kernel
theorem dX7_isDigit_7 : decode cX7_isDigit 7 = .ok (.if_icmp .gt 7, 3) := by decide +kernel
theorem dX7_isDigit_10 : decode cX7_isDigit 10 = .ok (.iconst 1, 1) := by decide +kernel
theorem dX7_isDigit_11 : decode cX7_isDigit 11 = .ok (.goto 4, 3) := by decide +kernel
theorem dX7_isDigit_14 : decode cX7_isDigit 14 = .ok (.iconst 0, 1) := by decide +kernel
theorem dX7_isDigit_15 : decode cX7_isDigit 15 = .ok (.ireturn, 1) := by decide +kernel
theorem dX7_isBottles_0 : decode cX7_isBottles 0 = .ok (.iload_n 0, 1) := by decide +kernel
theorem dX7_isBottles_1 : decode cX7_isBottles 1 = .ok (.ifCond .lt 13, 3) := by decide +kernel
theorem dX7_isBottles_4 : decode cX7_isBottles 4 = .ok (.iload_n 0, 1) := by decide +kernel
theorem dX7_isBottles_5 : decode cX7_isBottles 5 = .ok (.bipush 99, 2) := by decide +kernel
theorem dX7_isBottles_7 : decode cX7_isBottles 7 = .ok (.if_icmp .gt 7, 3) := by decide +kernel
theorem dX7_isBottles_10 : decode cX7_isBottles 10 = .ok (.iconst 1, 1) := by decide +kernel
theorem dX7_isBottles_11 : decode cX7_isBottles 11 = .ok (.goto 4, 3) := by decide +kernel
theorem dX7_isBottles_14 : decode cX7_isBottles 14 = .ok (.iconst 0, 1) := by decide +kernel
theorem dX7_isBottles_15 : decode cX7_isBottles 15 = .ok (.ireturn, 1) := by decide +kernel
theorem dX7_isCountOrFirst_0 : decode cX7_isCountOrFirst 0 = .ok (.iload_n 0, 1) := by decide +kernel
theorem dX7_isCountOrFirst_1 : decode cX7_isCountOrFirst 1 = .ok (.ifCond .eq 8, 3) := by decide +kernel
theorem dX7_isCountOrFirst_4 : decode cX7_isCountOrFirst 4 = .ok (.iload_n 0, 1) := by decide +kernel
theorem dX7_isCountOrFirst_5 : decode cX7_isCountOrFirst 5 = .ok (.iconst 1, 1) := by decide +kernel
theorem dX7_isCountOrFirst_6 : decode cX7_isCountOrFirst 6 = .ok (.if_icmp .ne 7, 3) := by decide +kernel
theorem dX7_isCountOrFirst_9 : decode cX7_isCountOrFirst 9 = .ok (.iconst 1, 1) := by decide +kernel
theorem dX7_isCountOrFirst_10 : decode cX7_isCountOrFirst 10 = .ok (.goto 4, 3) := by decide +kernel
theorem dX7_isCountOrFirst_13 : decode cX7_isCountOrFirst 13 = .ok (.iconst 0, 1) := by decide +kernel
theorem dX7_isCountOrFirst_14 : decode cX7_isCountOrFirst 14 = .ok (.ireturn, 1) := by decide +kernel
theorem dX7_shown_0 : decode cX7_shown 0 = .ok (.iload_n 0, 1) := by decide +kernel
theorem dX7_shown_1 : decode cX7_shown 1 = .ok (.iconst (-1), 1) := by decide +kernel
theorem dX7_shown_2 : decode cX7_shown 2 = .ok (.if_icmp .ne 8, 3) := by decide +kernel
theorem dX7_shown_5 : decode cX7_shown 5 = .ok (.bipush (-5), 2) := by decide +kernel
theorem dX7_shown_7 : decode cX7_shown 7 = .ok (.goto 4, 3) := by decide +kernel
theorem dX7_shown_10 : decode cX7_shown 10 = .ok (.iload_n 0, 1) := by decide +kernel
theorem dX7_shown_11 : decode cX7_shown 11 = .ok (.ireturn, 1) := by decide +kernel
theorem dX7_tellAge_0 : decode cX7_tellAge 0 = .ok (.iload_n 2, 1) := by decide +kernel
theorem dX7_tellAge_1 : decode cX7_tellAge 1 = .ok (.iconst (-1), 1) := by decide +kernel
theorem dX7_tellAge_2 : decode cX7_tellAge 2 = .ok (.if_icmp .ne 8, 3) := by decide +kernel
theorem dX7_tellAge_5 : decode cX7_tellAge 5 = .ok (.aload_n 1, 1) := by decide +kernel
theorem dX7_tellAge_6 : decode cX7_tellAge 6 = .ok (.invokevirtual 219, 3) := by decide +kernel
theorem dX7_tellAge_9 : decode cX7_tellAge 9 = .ok (.ireturn, 1) := by decide +kernel
theorem dX7_tellAge_10 : decode cX7_tellAge 10 = .ok (.aload_n 0, 1) := by decide +kernel
theorem dX7_tellAge_11 : decode cX7_tellAge 11 = .ok (.iload_n 2, 1) := by decide +kernel
theorem dX7_tellAge_12 : decode cX7_tellAge 12 = .ok (.invokevirtual 105, 3) := by decide +kernel
theorem dX7_tellAge_15 : decode cX7_tellAge 15 = .ok (.ifCond .ne 5, 3) := by decide +kernel
theorem dX7_tellAge_18 : decode cX7_tellAge 18 = .ok (.iconst (-1), 1) := by decide +kernel
theorem dX7_tellAge_19 : decode cX7_tellAge 19 = .ok (.ireturn, 1) := by decide +kernel
theorem dX7_tellAge_20 : decode cX7_tellAge 20 = .ok (.iload_n 3, 1) := by decide +kernel
theorem dX7_tellAge_21 : decode cX7_tellAge 21 = .ok (.sipush (-200), 3) := by decide +kernel
theorem dX7_tellAge_24 : decode cX7_tellAge 24 = .ok (.if_icmp .lt 10, 3) := by decide +kernel
theorem dX7_tellAge_27 : decode cX7_tellAge 27 = .ok (.iload_n 3, 1) := by decide +kernel
theorem dX7_tellAge_28 : decode cX7_tellAge 28 = .ok (.sipush 400, 3) := by decide +kernel
theorem dX7_tellAge_31 : decode cX7_tellAge 31 = .ok (.if_icmp .le 6, 3) := by decide +kernel
theorem dX7_tellAge_34 : decode cX7_tellAge 34 = .ok (.bipush (-2), 2) := by decide +kernel
theorem dX7_tellAge_36 : decode cX7_tellAge 36 = .ok (.ireturn, 1) := by decide +kernel
theorem dX7_tellAge_37 : decode cX7_tellAge 37 = .ok (.aload_n 1, 1) := by decide +kernel
theorem dX7_tellAge_38 : decode cX7_tellAge 38 = .ok (.iconst 0, 1) := by decide +kernel
theorem dX7_tellAge_39 : decode cX7_tellAge 39 = .ok (.iload_n 2, 1) := by decide +kernel
theorem dX7_tellAge_40 : decode cX7_tellAge 40 = .ok (.iload_n 3, 1) := by decide +kernel
theorem dX7_tellAge_41 : decode cX7_tellAge 41 = .ok (.invokevirtual 224, 3) := by decide +kernel
theorem dX7_tellAge_44 : decode cX7_tellAge 44 = .ok (.ireturn, 1) := by decide +kernel
theorem dX7_partOfFraction_0 : decode cX7_partOfFraction 0 = .ok (.iload_n 1, 1) := by decide +kernel
theorem dX7_partOfFraction_1 : decode cX7_partOfFraction 1 = .ok (.ifCond .le 12, 3) := by decide +kernel
theorem dX7_partOfFraction_4 : decode cX7_partOfFraction 4 = .ok (.iload_n 2, 1) := by decide +kernel
theorem dX7_partOfFraction_5 : decode cX7_partOfFraction 5 = .ok (.ifCond .lt 8, 3) := by decide +kernel
theorem dX7_partOfFraction_8 : decode cX7_partOfFraction 8 = .ok (.iload_n 2, 1) := by decide +kernel
theorem dX7_partOfFraction_9 : decode cX7_partOfFraction 9 = .ok (.iconst 1, 1) := by decide +kernel
theorem dX7_partOfFraction_10 : decode cX7_partOfFraction 10 = .ok (.if_icmp .le 7, 3) := by decide +kernel
theorem dX7_partOfFraction_13 : decode cX7_partOfFraction 13 = .ok (.ldc2_w 210, 3) := by decide +kernel
theorem dX7_partOfFraction_16 : decode cX7_partOfFraction 16 = .ok (.lreturn, 1) := by decide +kernel
theorem dX7_partOfFraction_17 : decode cX7_partOfFraction 17 = .ok (.iload_n 1, 1) := by decide +kernel
theorem dX7_partOfFraction_18 : decode cX7_partOfFraction 18 = .ok (.istore_n 3, 1) := by decide +kernel
theorem dX7_partOfFraction_19 : decode cX7_partOfFraction 19 = .ok (.iload_n 0, 1) := by decide +kernel
theorem dX7_partOfFraction_20 : decode cX7_partOfFraction 20 = .ok (.istore 4, 2) := by decide +kernel
theorem dX7_partOfFraction_22 : decode cX7_partOfFraction 22 = .ok (.iconst 0, 1) := by decide +kernel
theorem dX7_partOfFraction_23 : decode cX7_partOfFraction 23 = .ok (.istore 5, 2) := by decide +kernel
theorem dX7_partOfFraction_25 : decode cX7_partOfFraction 25 = .ok (.iload 5, 2) := by decide +kernel
theorem dX7_partOfFraction_27 : decode cX7_partOfFraction 27 = .ok (.bipush 64, 2) := by decide +kernel
theorem dX7_partOfFraction_29 : decode cX7_partOfFraction 29 = .ok (.if_icmp .ge 27, 3) := by decide +kernel
theorem dX7_partOfFraction_32 : decode cX7_partOfFraction 32 = .ok (.iload 4, 2) := by decide +kernel
theorem dX7_partOfFraction_34 : decode cX7_partOfFraction 34 = .ok (.ifCond .le 22, 3) := by decide +kernel
theorem dX7_partOfFraction_37 : decode cX7_partOfFraction 37 = .ok (.iload_n 3, 1) := by decide +kernel
theorem dX7_partOfFraction_38 : decode cX7_partOfFraction 38 = .ok (.iload 4, 2) := by decide +kernel
theorem dX7_partOfFraction_40 : decode cX7_partOfFraction 40 = .ok (.irem, 1) := by decide +kernel
theorem dX7_partOfFraction_41 : decode cX7_partOfFraction 41 = .ok (.istore 6, 2) := by decide +kernel
theorem dX7_partOfFraction_43 : decode cX7_partOfFraction 43 = .ok (.iload 4, 2) := by decide +kernel
theorem dX7_partOfFraction_45 : decode cX7_partOfFraction 45 = .ok (.istore_n 3, 1) := by decide +kernel
theorem dX7_partOfFraction_46 : decode cX7_partOfFraction 46 = .ok (.iload 6, 2) := by decide +kernel
theorem dX7_partOfFraction_48 : decode cX7_partOfFraction 48 = .ok (.istore 4, 2) := by decide +kernel
theorem dX7_partOfFraction_50 : decode cX7_partOfFraction 50 = .ok (.iinc 5 1, 3) := by decide +kernel
theorem dX7_partOfFraction_53 : decode cX7_partOfFraction 53 = .ok (.goto (-28), 3) := by decide +kernel
theorem dX7_partOfFraction_56 : decode cX7_partOfFraction 56 = .ok (.iload_n 2, 1) := by decide +kernel
theorem dX7_partOfFraction_57 : decode cX7_partOfFraction 57 = .ok (.ifCond .ne 7, 3) := by decide +kernel
theorem dX7_partOfFraction_60 : decode cX7_partOfFraction 60 = .ok (.iload_n 0, 1) := by decide +kernel
theorem dX7_partOfFraction_61 : decode cX7_partOfFraction 61 = .ok (.goto 4, 3) := by decide +kernel
theorem dX7_partOfFraction_64 : decode cX7_partOfFraction 64 = .ok (.iload_n 1, 1) := by decide +kernel
theorem dX7_partOfFraction_65 : decode cX7_partOfFraction 65 = .ok (.iload_n 3, 1) := by decide +kernel
theorem dX7_partOfFraction_66 : decode cX7_partOfFraction 66 = .ok (.ifCond .le 7, 3) := by decide +kernel
theorem dX7_partOfFraction_69 : decode cX7_partOfFraction 69 = .ok (.iload_n 3, 1) := by decide +kernel
theorem dX7_partOfFraction_70 : decode cX7_partOfFraction 70 = .ok (.goto 4, 3) := by decide +kernel
theorem dX7_partOfFraction_73 : decode cX7_partOfFraction 73 = .ok (.iconst 1, 1) := by decide +kernel
theorem dX7_partOfFraction_74 : decode cX7_partOfFraction 74 = .ok (.idiv, 1) := by decide +kernel
theorem dX7_partOfFraction_75 : decode cX7_partOfFraction 75 = .ok (.i2l, 1) := by decide +kernel
theorem dX7_partOfFraction_76 : decode cX7_partOfFraction 76 = .ok (.lreturn, 1) := by decide +kernel
theorem dJ6_bitCount_0f7a4_0 : decode cJ6_bitCount_0f7a4 0 = .ok (.iload_n 0, 1) := by decide +kernel
theorem dJ6_bitCount_0f7a4_1 : decode cJ6_bitCount_0f7a4 1 = .ok (.iload_n 0, 1) := by decide +kernel
theorem dJ6_bitCount_0f7a4_2 : decode cJ6_bitCount_0f7a4 2 = .ok (.iconst 1, 1) := by decide +kernel
theorem dJ6_bitCount_0f7a4_3 : decode cJ6_bitCount_0f7a4 3 = .ok (.iushr, 1) := by decide +kernel
theorem dJ6_bitCount_0f7a4_4 : decode cJ6_bitCount_0f7a4 4 = .ok (.ldc_w 265, 3) := by decide +kernel
theorem dJ6_bitCount_0f7a4_7 : decode cJ6_bitCount_0f7a4 7 = .ok (.iand, 1) := by decide +kernel
theorem dJ6_bitCount_0f7a4_8 : decode cJ6_bitCount_0f7a4 8 = .ok (.isub, 1) := by decide +kernel
theorem dJ6_bitCount_0f7a4_9 : decode cJ6_bitCount_0f7a4 9 = .ok (.istore_n 0, 1) := by decide +kernel
theorem dJ6_bitCount_0f7a4_10 : decode cJ6_bitCount_0f7a4 10 = .ok (.iload_n 0, 1) := by decide +kernel
theorem dJ6_bitCount_0f7a4_11 : decode cJ6_bitCount_0f7a4 11 = .ok (.ldc_w 266, 3) := by decide +kernel
theorem dJ6_bitCount_0f7a4_14 : decode cJ6_bitCount_0f7a4 14 = .ok (.iand, 1) := by decide +kernel
theorem dJ6_bitCount_0f7a4_15 : decode cJ6_bitCount_0f7a4 15 = .ok (.iload_n 0, 1) := by decide +kernel
theorem dJ6_bitCount_0f7a4_16 : decode cJ6_bitCount_0f7a4 16 = .ok (.iconst 2, 1) := by decide +kernel
theorem dJ6_bitCount_0f7a4_17 : decode cJ6_bitCount_0f7a4 17 = .ok (.iushr, 1) := by decide +kernel
theorem dJ6_bitCount_0f7a4_18 : decode cJ6_bitCount_0f7a4 18 = .ok (.ldc_w 266, 3) := by decide +kernel
theorem dJ6_bitCount_0f7a4_21 : decode cJ6_bitCount_0f7a4 21 = .ok (.iand, 1) := by decide +kernel
theorem dJ6_bitCount_0f7a4_22 : decode cJ6_bitCount_0f7a4 22 = .ok (.iadd, 1) := by decide +kernel
theorem dJ6_bitCount_0f7a4_23 : decode cJ6_bitCount_0f7a4 23 = .ok (.istore_n 0, 1) := by decide +kernel
theorem dJ6_bitCount_0f7a4_24 : decode cJ6_bitCount_0f7a4 24 = .ok (.iload_n 0, 1) := by decide +kernel
theorem dJ6_bitCount_0f7a4_25 : decode cJ6_bitCount_0f7a4 25 = .ok (.iload_n 0, 1) := by decide +kernel
theorem dJ6_bitCount_0f7a4_26 : decode cJ6_bitCount_0f7a4 26 = .ok (.iconst 4, 1) := by decide +kernel
theorem dJ6_bitCount_0f7a4_27 : decode cJ6_bitCount_0f7a4 27 = .ok (.iushr, 1) := by decide +kernel
theorem dJ6_bitCount_0f7a4_28 : decode cJ6_bitCount_0f7a4 28 = .ok (.iadd, 1) := by decide +kernel
theorem dJ6_bitCount_0f7a4_29 : decode cJ6_bitCount_0f7a4 29 = .ok (.ldc_w 267, 3) := by decide +kernel
theorem dJ6_bitCount_0f7a4_32 : decode cJ6_bitCount_0f7a4 32 = .ok (.iand, 1) := by decide +kernel
theorem dJ6_bitCount_0f7a4_33 : decode cJ6_bitCount_0f7a4 33 = .ok (.istore_n 0, 1) := by decide +kernel
theorem dJ6_bitCount_0f7a4_34 : decode cJ6_bitCount_0f7a4 34 = .ok (.iload_n 0, 1) := by decide +kernel
theorem dJ6_bitCount_0f7a4_35 : decode cJ6_bitCount_0f7a4 35 = .ok (.iload_n 0, 1) := by decide +kernel
theorem dJ6_bitCount_0f7a4_36 : decode cJ6_bitCount_0f7a4 36 = .ok (.bipush 8, 2) := by decide +kernel
theorem dJ6_bitCount_0f7a4_38 : decode cJ6_bitCount_0f7a4 38 = .ok (.iushr, 1) := by decide +kernel
theorem dJ6_bitCount_0f7a4_39 : decode cJ6_bitCount_0f7a4 39 = .ok (.iadd, 1) := by decide +kernel
theorem dJ6_bitCount_0f7a4_40 : decode cJ6_bitCount_0f7a4 40 = .ok (.istore_n 0, 1) := by decide +kernel
theorem dJ6_bitCount_0f7a4_41 : decode cJ6_bitCount_0f7a4 41 = .ok (.iload_n 0, 1) := by decide +kernel
theorem dJ6_bitCount_0f7a4_42 : decode cJ6_bitCount_0f7a4 42 = .ok (.iload_n 0, 1) := by decide +kernel
theorem dJ6_bitCount_0f7a4_43 : decode cJ6_bitCount_0f7a4 43 = .ok (.bipush 16, 2) := by decide +kernel
theorem dJ6_bitCount_0f7a4_45 : decode cJ6_bitCount_0f7a4 45 = .ok (.iushr, 1) := by decide +kernel
theorem dJ6_bitCount_0f7a4_46 : decode cJ6_bitCount_0f7a4 46 = .ok (.iadd, 1) := by decide +kernel
theorem dJ6_bitCount_0f7a4_47 : decode cJ6_bitCount_0f7a4 47 = .ok (.istore_n 0, 1) := by decide +kernel
theorem dJ6_bitCount_0f7a4_48 : decode cJ6_bitCount_0f7a4 48 = .ok (.iload_n 0, 1) := by decide +kernel
theorem dJ6_bitCount_0f7a4_49 : decode cJ6_bitCount_0f7a4 49 = .ok (.bipush 63, 2) := by decide +kernel
theorem dJ6_bitCount_0f7a4_51 : decode cJ6_bitCount_0f7a4 51 = .ok (.iand, 1) := by decide +kernel
theorem dJ6_bitCount_0f7a4_52 : decode cJ6_bitCount_0f7a4 52 = .ok (.ireturn, 1) := by decide +kernel
theorem dJ0_length_8abf5_0 : decode cJ0_length_8abf5 0 = .ok (.aload_n 0, 1) := by decide +kernel
theorem dJ0_length_8abf5_1 : decode cJ0_length_8abf5 1 = .ok (.getfield 9, 3) := by decide +kernel
theorem dJ0_length_8abf5_4 : decode cJ0_length_8abf5 4 = .ok (.arraylength, 1) := by decide +kernel
theorem dJ0_length_8abf5_5 : decode cJ0_length_8abf5 5 = .ok (.aload_n 0, 1) := by decide +kernel
theorem dJ0_length_8abf5_6 : decode cJ0_length_8abf5 6 = .ok (.invokevirtual 335, 3) := by decide +kernel
theorem dJ0_length_8abf5_9 : decode cJ0_length_8abf5 9 = .ok (.ishr, 1) := by decide +kernel
theorem dJ0_length_8abf5_10 : decode cJ0_length_8abf5 10 = .ok (.ireturn, 1) := by decide +kernel
theorem dJ0_charAt_5068e_0 : decode cJ0_charAt_5068e 0 = .ok (.aload_n 0, 1) := by decide +kernel
theorem dJ0_charAt_5068e_1 : decode cJ0_charAt_5068e 1 = .ok (.invokevirtual 492, 3) := by decide +kernel
theorem dJ0_charAt_5068e_4 : decode cJ0_charAt_5068e 4 = .ok (.ifCond .eq 12, 3) := by decide +kernel
theorem dJ0_charAt_5068e_7 : decode cJ0_charAt_5068e 7 = .ok (.aload_n 0, 1) := by decide +kernel
theorem dJ0_charAt_5068e_8 : decode cJ0_charAt_5068e 8 = .ok (.getfield 9, 3) := by decide +kernel
theorem dJ0_charAt_5068e_11 : decode cJ0_charAt_5068e 11 = .ok (.iload_n 1, 1) := by decide +kernel
theorem dJ0_charAt_5068e_12 : decode cJ0_charAt_5068e 12 = .ok (.invokestatic 495, 3) := by decide +kernel
theorem dJ0_charAt_5068e_15 : decode cJ0_charAt_5068e 15 = .ok (.ireturn, 1) := by decide +kernel
theorem dJ0_charAt_5068e_16 : decode cJ0_charAt_5068e 16 = .ok (.aload_n 0, 1) := by decide +kernel
theorem dJ0_charAt_5068e_17 : decode cJ0_charAt_5068e 17 = .ok (.getfield 9, 3) := by decide +kernel
theorem dJ0_charAt_5068e_20 : decode cJ0_charAt_5068e 20 = .ok (.iload_n 1, 1) := by decide +kernel
theorem dJ0_charAt_5068e_21 : decode cJ0_charAt_5068e 21 = .ok (.invokestatic 498, 3) := by decide +kernel
theorem dJ0_charAt_5068e_24 : decode cJ0_charAt_5068e 24 = .ok (.ireturn, 1) := by decide +kernel
theorem dJ0_indexOf_0f7a4_0 : decode cJ0_indexOf_0f7a4 0 = .ok (.aload_n 0, 1) := by decide +kernel
theorem dJ0_indexOf_0f7a4_1 : decode cJ0_indexOf_0f7a4 1 = .ok (.iload_n 1, 1) := by decide +kernel
theorem dJ0_indexOf_0f7a4_2 : decode cJ0_indexOf_0f7a4 2 = .ok (.iconst 0, 1) := by decide +kernel
theorem dJ0_indexOf_0f7a4_3 : decode cJ0_indexOf_0f7a4 3 = .ok (.invokevirtual 633, 3) := by decide +kernel
theorem dJ0_indexOf_0f7a4_6 : decode cJ0_indexOf_0f7a4 6 = .ok (.ireturn, 1) := by decide +kernel
theorem dJ0_indexOf_7cf53_0 : decode cJ0_indexOf_7cf53 0 = .ok (.aload_n 0, 1) := by decide +kernel
theorem dJ0_indexOf_7cf53_1 : decode cJ0_indexOf_7cf53 1 = .ok (.invokevirtual 492, 3) := by decide +kernel
theorem dJ0_indexOf_7cf53_4 : decode cJ0_indexOf_7cf53 4 = .ok (.ifCond .eq 19, 3) := by decide +kernel
theorem dJ0_indexOf_7cf53_7 : decode cJ0_indexOf_7cf53 7 = .ok (.aload_n 0, 1) := by decide +kernel
theorem dJ0_indexOf_7cf53_8 : decode cJ0_indexOf_7cf53 8 = .ok (.getfield 9, 3) := by decide +kernel
theorem dJ0_indexOf_7cf53_11 : decode cJ0_indexOf_7cf53 11 = .ok (.iload_n 1, 1) := by decide +kernel
theorem dJ0_indexOf_7cf53_12 : decode cJ0_indexOf_7cf53 12 = .ok (.iload_n 2, 1) := by decide +kernel
theorem dJ0_indexOf_7cf53_13 : decode cJ0_indexOf_7cf53 13 = .ok (.aload_n 0, 1) := by decide +kernel
theorem dJ0_indexOf_7cf53_14 : decode cJ0_indexOf_7cf53 14 = .ok (.invokevirtual 505, 3) := by decide +kernel
theorem dJ0_indexOf_7cf53_17 : decode cJ0_indexOf_7cf53 17 = .ok (.invokestatic 637, 3) := by decide +kernel
theorem dJ0_indexOf_7cf53_20 : decode cJ0_indexOf_7cf53 20 = .ok (.goto 16, 3) := by decide +kernel
theorem dJ0_indexOf_7cf53_23 : decode cJ0_indexOf_7cf53 23 = .ok (.aload_n 0, 1) := by decide +kernel
theorem dJ0_indexOf_7cf53_24 : decode cJ0_indexOf_7cf53 24 = .ok (.getfield 9, 3) := by decide +kernel
theorem dJ0_indexOf_7cf53_27 : decode cJ0_indexOf_7cf53 27 = .ok (.iload_n 1, 1) := by decide +kernel
theorem dJ0_indexOf_7cf53_28 : decode cJ0_indexOf_7cf53 28 = .ok (.iload_n 2, 1) := by decide +kernel
theorem dJ0_indexOf_7cf53_29 : decode cJ0_indexOf_7cf53 29 = .ok (.aload_n 0, 1) := by decide +kernel
theorem dJ0_indexOf_7cf53_30 : decode cJ0_indexOf_7cf53 30 = .ok (.invokevirtual 505, 3) := by decide +kernel
theorem dJ0_indexOf_7cf53_33 : decode cJ0_indexOf_7cf53 33 = .ok (.invokestatic 640, 3) := by decide +kernel
theorem dJ0_indexOf_7cf53_36 : decode cJ0_indexOf_7cf53 36 = .ok (.ireturn, 1) := by decide +kernel
theorem dJ0_coder_7d493_0 : decode cJ0_coder_7d493 0 = .ok (.getstatic 38, 3) := by decide +kernel
theorem dJ0_coder_7d493_3 : decode cJ0_coder_7d493 3 = .ok (.ifCond .eq 10, 3) := by decide +kernel
theorem dJ0_coder_7d493_6 : decode cJ0_coder_7d493 6 = .ok (.aload_n 0, 1) := by decide +kernel
theorem dJ0_coder_7d493_7 : decode cJ0_coder_7d493 7 = .ok (.getfield 15, 3) := by decide +kernel
theorem dJ0_coder_7d493_10 : decode cJ0_coder_7d493 10 = .ok (.goto 4, 3) := by decide +kernel
theorem dJ0_coder_7d493_13 : decode cJ0_coder_7d493 13 = .ok (.iconst 1, 1) := by decide +kernel
theorem dJ0_coder_7d493_14 : decode cJ0_coder_7d493 14 = .ok (.ireturn, 1) := by decide +kernel
theorem dJ0_isLatin1_aae02_0 : decode cJ0_isLatin1_aae02 0 = .ok (.getstatic 38, 3) := by decide +kernel
theorem dJ0_isLatin1_aae02_3 : decode cJ0_isLatin1_aae02 3 = .ok (.ifCond .eq 14, 3) := by decide +kernel
theorem dJ0_isLatin1_aae02_6 : decode cJ0_isLatin1_aae02 6 = .ok (.aload_n 0, 1) := by decide +kernel
theorem dJ0_isLatin1_aae02_7 : decode cJ0_isLatin1_aae02 7 = .ok (.getfield 15, 3) := by decide +kernel
theorem dJ0_isLatin1_aae02_10 : decode cJ0_isLatin1_aae02 10 = .ok (.ifCond .ne 7, 3) := by decide +kernel
theorem dJ0_isLatin1_aae02_13 : decode cJ0_isLatin1_aae02 13 = .ok (.iconst 1, 1) := by decide +kernel
theorem dJ0_isLatin1_aae02_14 : decode cJ0_isLatin1_aae02 14 = .ok (.goto 4, 3) := by decide +kernel
theorem dJ0_isLatin1_aae02_17 : decode cJ0_isLatin1_aae02 17 = .ok (.iconst 0, 1) := by decide +kernel
theorem dJ0_isLatin1_aae02_18 : decode cJ0_isLatin1_aae02 18 = .ok (.ireturn, 1) := by decide +kernel
theorem dJ0_checkIndex_df160_0 : decode cJ0_checkIndex_df160 0 = .ok (.iload_n 0, 1) := by decide +kernel
theorem dJ0_checkIndex_df160_1 : decode cJ0_checkIndex_df160 1 = .ok (.iload_n 1, 1) := by decide +kernel
theorem dJ0_checkIndex_df160_2 : decode cJ0_checkIndex_df160 2 = .ok (.getstatic 1053, 3) := by decide +kernel
theorem dJ0_checkIndex_df160_5 : decode cJ0_checkIndex_df160 5 = .ok (.invokestatic 1059, 3) := by decide +kernel
theorem dJ0_checkIndex_df160_8 : decode cJ0_checkIndex_df160 8 = .ok (.pop, 1) := by decide +kernel
theorem dJ0_checkIndex_df160_9 : decode cJ0_checkIndex_df160 9 = .ok (.return_, 1) := by decide +kernel
theorem dJ0_checkBoundsBeginEnd_23922_0 : decode cJ0_checkBoundsBeginEnd_23922 0 = .ok (.iload_n 0, 1) := by decide +kernel
theorem dJ0_checkBoundsBeginEnd_23922_1 : decode cJ0_checkBoundsBeginEnd_23922 1 = .ok (.iload_n 1, 1) := by decide +kernel
theorem dJ0_checkBoundsBeginEnd_23922_2 : decode cJ0_checkBoundsBeginEnd_23922 2 = .ok (.iload_n 2, 1) := by decide +kernel
theorem dJ0_checkBoundsBeginEnd_23922_3 : decode cJ0_checkBoundsBeginEnd_23922 3 = .ok (.getstatic 1053, 3) := by decide +kernel
theorem dJ0_checkBoundsBeginEnd_23922_6 : decode cJ0_checkBoundsBeginEnd_23922 6 = .ok (.invokestatic 1062, 3) := by decide +kernel
theorem dJ0_checkBoundsBeginEnd_23922_9 : decode cJ0_checkBoundsBeginEnd_23922 9 = .ok (.pop, 1) := by decide +kernel
theorem dJ0_checkBoundsBeginEnd_23922_10 : decode cJ0_checkBoundsBeginEnd_23922 10 = .ok (.return_, 1) := by decide +kernel
theorem dJ1_charAt_3b067_0 : decode cJ1_charAt_3b067 0 = .ok (.iload_n 1, 1) := by decide +kernel
theorem dJ1_charAt_3b067_1 : decode cJ1_charAt_3b067 1 = .ok (.aload_n 0, 1) := by decide +kernel
theorem dJ1_charAt_3b067_2 : decode cJ1_charAt_3b067 2 = .ok (.arraylength, 1) := by decide +kernel
theorem dJ1_charAt_3b067_3 : decode cJ1_charAt_3b067 3 = .ok (.invokestatic 9, 3) := by decide +kernel
theorem dJ1_charAt_3b067_6 : decode cJ1_charAt_3b067 6 = .ok (.aload_n 0, 1) := by decide +kernel
theorem dJ1_charAt_3b067_7 : decode cJ1_charAt_3b067 7 = .ok (.iload_n 1, 1) := by decide +kernel
theorem dJ1_charAt_3b067_8 : decode cJ1_charAt_3b067 8 = .ok (.baload, 1) := by decide +kernel
theorem dJ1_charAt_3b067_9 : decode cJ1_charAt_3b067 9 = .ok (.sipush 255, 3) := by decide +kernel
theorem dJ1_charAt_3b067_12 : decode cJ1_charAt_3b067 12 = .ok (.iand, 1) := by decide +kernel
theorem dJ1_charAt_3b067_13 : decode cJ1_charAt_3b067 13 = .ok (.i2c, 1) := by decide +kernel
theorem dJ1_charAt_3b067_14 : decode cJ1_charAt_3b067 14 = .ok (.ireturn, 1) := by decide +kernel
theorem dJ1_canEncode_9a6ad_0 : decode cJ1_canEncode_9a6ad 0 = .ok (.iload_n 0, 1) := by decide +kernel
theorem dJ1_canEncode_9a6ad_1 : decode cJ1_canEncode_9a6ad 1 = .ok (.ifCond .lt 14, 3) := by decide +kernel
theorem dJ1_canEncode_9a6ad_4 : decode cJ1_canEncode_9a6ad 4 = .ok (.iload_n 0, 1) := by decide +kernel
theorem dJ1_canEncode_9a6ad_5 : decode cJ1_canEncode_9a6ad 5 = .ok (.sipush 255, 3) := by decide +kernel
theorem dJ1_canEncode_9a6ad_8 : decode cJ1_canEncode_9a6ad 8 = .ok (.if_icmp .gt 7, 3) := by decide +kernel
theorem dJ1_canEncode_9a6ad_11 : decode cJ1_canEncode_9a6ad 11 = .ok (.iconst 1, 1) := by decide +kernel
theorem dJ1_canEncode_9a6ad_12 : decode cJ1_canEncode_9a6ad 12 = .ok (.goto 4, 3) := by decide +kernel
theorem dJ1_canEncode_9a6ad_15 : decode cJ1_canEncode_9a6ad 15 = .ok (.iconst 0, 1) := by decide +kernel
theorem dJ1_canEncode_9a6ad_16 : decode cJ1_canEncode_9a6ad 16 = .ok (.ireturn, 1) := by decide +kernel
theorem dJ1_indexOf_4cfef_0 : decode cJ1_indexOf_4cfef 0 = .ok (.iload_n 1, 1) := by decide +kernel
theorem dJ1_indexOf_4cfef_1 : decode cJ1_indexOf_4cfef 1 = .ok (.invokestatic 88, 3) := by decide +kernel
theorem dJ1_indexOf_4cfef_4 : decode cJ1_indexOf_4cfef 4 = .ok (.ifCond .ne 5, 3) := by decide +kernel
theorem dJ1_indexOf_4cfef_7 : decode cJ1_indexOf_4cfef 7 = .ok (.iconst (-1), 1) := by decide +kernel
theorem dJ1_indexOf_4cfef_8 : decode cJ1_indexOf_4cfef 8 = .ok (.ireturn, 1) := by decide +kernel
theorem dJ1_indexOf_4cfef_9 : decode cJ1_indexOf_4cfef 9 = .ok (.iload_n 2, 1) := by decide +kernel
theorem dJ1_indexOf_4cfef_10 : decode cJ1_indexOf_4cfef 10 = .ok (.iconst 0, 1) := by decide +kernel
theorem dJ1_indexOf_4cfef_11 : decode cJ1_indexOf_4cfef 11 = .ok (.invokestatic 92, 3) := by decide +kernel
theorem dJ1_indexOf_4cfef_14 : decode cJ1_indexOf_4cfef 14 = .ok (.istore_n 2, 1) := by decide +kernel
theorem dJ1_indexOf_4cfef_15 : decode cJ1_indexOf_4cfef 15 = .ok (.iload_n 3, 1) := by decide +kernel
theorem dJ1_indexOf_4cfef_16 : decode cJ1_indexOf_4cfef 16 = .ok (.aload_n 0, 1) := by decide +kernel
theorem dJ1_indexOf_4cfef_17 : decode cJ1_indexOf_4cfef 17 = .ok (.arraylength, 1) := by decide +kernel
theorem dJ1_indexOf_4cfef_18 : decode cJ1_indexOf_4cfef 18 = .ok (.invokestatic 38, 3) := by decide +kernel
theorem dJ1_indexOf_4cfef_21 : decode cJ1_indexOf_4cfef 21 = .ok (.istore_n 3, 1) := by decide +kernel
theorem dJ1_indexOf_4cfef_22 : decode cJ1_indexOf_4cfef 22 = .ok (.iload_n 2, 1) := by decide +kernel
theorem dJ1_indexOf_4cfef_23 : decode cJ1_indexOf_4cfef 23 = .ok (.iload_n 3, 1) := by decide +kernel
theorem dJ1_indexOf_4cfef_24 : decode cJ1_indexOf_4cfef 24 = .ok (.if_icmp .lt 5, 3) := by decide +kernel
theorem dJ1_indexOf_4cfef_27 : decode cJ1_indexOf_4cfef 27 = .ok (.iconst (-1), 1) := by decide +kernel
theorem dJ1_indexOf_4cfef_28 : decode cJ1_indexOf_4cfef 28 = .ok (.ireturn, 1) := by decide +kernel
theorem dJ1_indexOf_4cfef_29 : decode cJ1_indexOf_4cfef 29 = .ok (.aload_n 0, 1) := by decide +kernel
theorem dJ1_indexOf_4cfef_30 : decode cJ1_indexOf_4cfef 30 = .ok (.iload_n 1, 1) := by decide +kernel
theorem dJ1_indexOf_4cfef_31 : decode cJ1_indexOf_4cfef 31 = .ok (.iload_n 2, 1) := by decide +kernel
theorem dJ1_indexOf_4cfef_32 : decode cJ1_indexOf_4cfef 32 = .ok (.iload_n 3, 1) := by decide +kernel
theorem dJ1_indexOf_4cfef_33 : decode cJ1_indexOf_4cfef 33 = .ok (.invokestatic 95, 3) := by decide +kernel
theorem dJ1_indexOf_4cfef_36 : decode cJ1_indexOf_4cfef 36 = .ok (.ireturn, 1) := by decide +kernel
theorem dJ1_indexOfChar_4cfef_0 : decode cJ1_indexOfChar_4cfef 0 = .ok (.iload_n 1, 1) := by decide +kernel
theorem dJ1_indexOfChar_4cfef_1 : decode cJ1_indexOfChar_4cfef 1 = .ok (.i2b, 1) := by decide +kernel
theorem dJ1_indexOfChar_4cfef_2 : decode cJ1_indexOfChar_4cfef 2 = .ok (.istore 4, 2) := by decide +kernel
theorem dJ1_indexOfChar_4cfef_4 : decode cJ1_indexOfChar_4cfef 4 = .ok (.iload_n 2, 1) := by decide +kernel
theorem dJ1_indexOfChar_4cfef_5 : decode cJ1_indexOfChar_4cfef 5 = .ok (.istore 5, 2) := by decide +kernel
theorem dJ1_indexOfChar_4cfef_7 : decode cJ1_indexOfChar_4cfef 7 = .ok (.iload 5, 2) := by decide +kernel
theorem dJ1_indexOfChar_4cfef_9 : decode cJ1_indexOfChar_4cfef 9 = .ok (.iload_n 3, 1) := by decide +kernel
theorem dJ1_indexOfChar_4cfef_10 : decode cJ1_indexOfChar_4cfef 10 = .ok (.if_icmp .ge 21, 3) := by decide +kernel
theorem dJ1_indexOfChar_4cfef_13 : decode cJ1_indexOfChar_4cfef 13 = .ok (.aload_n 0, 1) := by decide +kernel
theorem dJ1_indexOfChar_4cfef_14 : decode cJ1_indexOfChar_4cfef 14 = .ok (.iload 5, 2) := by decide +kernel
theorem dJ1_indexOfChar_4cfef_16 : decode cJ1_indexOfChar_4cfef 16 = .ok (.baload, 1) := by decide +kernel
theorem dJ1_indexOfChar_4cfef_17 : decode cJ1_indexOfChar_4cfef 17 = .ok (.iload 4, 2) := by decide +kernel
theorem dJ1_indexOfChar_4cfef_19 : decode cJ1_indexOfChar_4cfef 19 = .ok (.if_icmp .ne 6, 3) := by decide +kernel
theorem dJ1_indexOfChar_4cfef_22 : decode cJ1_indexOfChar_4cfef 22 = .ok (.iload 5, 2) := by decide +kernel
theorem dJ1_indexOfChar_4cfef_24 : decode cJ1_indexOfChar_4cfef 24 = .ok (.ireturn, 1) := by decide +kernel
theorem dJ1_indexOfChar_4cfef_25 : decode cJ1_indexOfChar_4cfef 25 = .ok (.iinc 5 1, 3) := by decide +kernel
theorem dJ1_indexOfChar_4cfef_28 : decode cJ1_indexOfChar_4cfef 28 = .ok (.goto (-21), 3) := by decide +kernel
theorem dJ1_indexOfChar_4cfef_31 : decode cJ1_indexOfChar_4cfef 31 = .ok (.iconst (-1), 1) := by decide +kernel
theorem dJ1_indexOfChar_4cfef_32 : decode cJ1_indexOfChar_4cfef 32 = .ok (.ireturn, 1) := by decide +kernel
theorem dJ3_checkIndex_8e157_0 : decode cJ3_checkIndex_8e157 0 = .ok (.iload_n 0, 1) := by decide +kernel
theorem dJ3_checkIndex_8e157_1 : decode cJ3_checkIndex_8e157 1 = .ok (.ifCond .lt 8, 3) := by decide +kernel
theorem dJ3_checkIndex_8e157_4 : decode cJ3_checkIndex_8e157 4 = .ok (.iload_n 0, 1) := by decide +kernel
theorem dJ3_checkIndex_8e157_5 : decode cJ3_checkIndex_8e157 5 = .ok (.iload_n 1, 1) := by decide +kernel
theorem dJ3_checkIndex_8e157_6 : decode cJ3_checkIndex_8e157 6 = .ok (.if_icmp .lt 10, 3) := by decide +kernel
theorem dJ3_checkIndex_8e157_9 : decode cJ3_checkIndex_8e157 9 = .ok (.aload_n 2, 1) := by decide +kernel
theorem dJ3_checkIndex_8e157_10 : decode cJ3_checkIndex_8e157 10 = .ok (.iload_n 0, 1) := by decide +kernel
theorem dJ3_checkIndex_8e157_11 : decode cJ3_checkIndex_8e157 11 = .ok (.iload_n 1, 1) := by decide +kernel
theorem dJ3_checkIndex_8e157_12 : decode cJ3_checkIndex_8e157 12 = .ok (.invokestatic 95, 3) := by decide +kernel
theorem dJ3_checkIndex_8e157_15 : decode cJ3_checkIndex_8e157 15 = .ok (.athrow, 1) := by decide +kernel
theorem dJ3_checkIndex_8e157_16 : decode cJ3_checkIndex_8e157 16 = .ok (.iload_n 0, 1) := by decide +kernel
theorem dJ3_checkIndex_8e157_17 : decode cJ3_checkIndex_8e157 17 = .ok (.ireturn, 1) := by decide +kernel
end
section
theorem dX8_init_0 : decode cX8_init 0 = .ok (.aload_n 0, 1) := by decide +kernel
theorem dX8_init_1 : decode cX8_init 1 = .ok (.invokespecial 3, 3) := by decide +kernel
theorem dX8_init_4 : decode cX8_init 4 = .ok (.aload_n 0, 1) := by decide +kernel
theorem dX8_init_5 : decode cX8_init 5 = .ok (.sipush 938, 3) := by decide +kernel
theorem dX8_init_8 : decode cX8_init 8 = .ok (.newarray .int, 2) := by decide +kernel
theorem dX8_init_10 : decode cX8_init 10 = .ok (.putfield 9, 3) := by decide +kernel
theorem dX8_init_13 : decode cX8_init 13 = .ok (.aload_n 0, 1) := by decide +kernel
theorem dX8_init_14 : decode cX8_init 14 = .ok (.sipush 938, 3) := by decide +kernel
theorem dX8_init_17 : decode cX8_init 17 = .ok (.newarray .int, 2) := by decide +kernel
theorem dX8_init_19 : decode cX8_init 19 = .ok (.putfield 15, 3) := by decide +kernel
theorem dX8_init_22 : decode cX8_init 22 = .ok (.aload_n 0, 1) := by decide +kernel
theorem dX8_init_23 : decode cX8_init 23 = .ok (.bipush 12, 2) := by decide +kernel
theorem dX8_init_25 : decode cX8_init 25 = .ok (.newarray .int, 2) := by decide +kernel
theorem dX8_init_27 : decode cX8_init 27 = .ok (.putfield 18, 3) := by decide +kernel
theorem dX8_init_30 : decode cX8_init 30 = .ok (.aload_n 0, 1) := by decide +kernel
theorem dX8_init_31 : decode cX8_init 31 = .ok (.bipush 6, 2) := by decide +kernel
theorem dX8_init_33 : decode cX8_init 33 = .ok (.newarray .int, 2) := by decide +kernel
theorem dX8_init_35 : decode cX8_init 35 = .ok (.putfield 21, 3) := by decide +kernel
theorem dX8_init_38 : decode cX8_init 38 = .ok (.aload_n 0, 1) := by decide +kernel
theorem dX8_init_39 : decode cX8_init 39 = .ok (.bipush 64, 2) := by decide +kernel
theorem dX8_init_41 : decode cX8_init 41 = .ok (.newarray .boolean, 2) := by decide +kernel
theorem dX8_init_43 : decode cX8_init 43 = .ok (.putfield 24, 3) := by decide +kernel
theorem dX8_init_46 : decode cX8_init 46 = .ok (.aload_n 0, 1) := by decide +kernel
theorem dX8_init_47 : decode cX8_init 47 = .ok (.bipush 36, 2) := by decide +kernel
theorem dX8_init_49 : decode cX8_init 49 = .ok (.newarray .int, 2) := by decide +kernel
theorem dX8_init_51 : decode cX8_init 51 = .ok (.putfield 28, 3) := by decide +kernel
theorem dX8_init_54 : decode cX8_init 54 = .ok (.aload_n 0, 1) := by decide +kernel
theorem dX8_init_55 : decode cX8_init 55 = .ok (.bipush 36, 2) := by decide +kernel
theorem dX8_init_57 : decode cX8_init 57 = .ok (.newarray .int, 2) := by decide +kernel
theorem dX8_init_59 : decode cX8_init 59 = .ok (.putfield 31, 3) := by decide +kernel
theorem dX8_init_62 : decode cX8_init 62 = .ok (.aload_n 0, 1) := by decide +kernel
theorem dX8_init_63 : decode cX8_init 63 = .ok (.bipush 6, 2) := by decide +kernel
theorem dX8_init_65 : decode cX8_init 65 = .ok (.newarray .int, 2) := by decide +kernel
theorem dX8_init_67 : decode cX8_init 67 = .ok (.putfield 34, 3) := by decide +kernel
theorem dX8_init_70 : decode cX8_init 70 = .ok (.aload_n 0, 1) := by decide +kernel
theorem dX8_init_71 : decode cX8_init 71 = .ok (.bipush 6, 2) := by decide +kernel
theorem dX8_init_73 : decode cX8_init 73 = .ok (.newarray .int, 2) := by decide +kernel
theorem dX8_init_75 : decode cX8_init 75 = .ok (.putfield 37, 3) := by decide +kernel
theorem dX8_init_78 : decode cX8_init 78 = .ok (.aload_n 0, 1) := by decide +kernel
theorem dX8_init_79 : decode cX8_init 79 = .ok (.iconst 5, 1) := by decide +kernel
theorem dX8_init_80 : decode cX8_init 80 = .ok (.newarray .int, 2) := by decide +kernel
theorem dX8_init_82 : decode cX8_init 82 = .ok (.putfield 40, 3) := by decide +kernel
theorem dX8_init_85 : decode cX8_init 85 = .ok (.aload_n 0, 1) := by decide +kernel
theorem dX8_init_86 : decode cX8_init 86 = .ok (.bipush 36, 2) := by decide +kernel
theorem dX8_init_88 : decode cX8_init 88 = .ok (.newarray .boolean, 2) := by decide +kernel
theorem dX8_init_90 : decode cX8_init 90 = .ok (.putfield 43, 3) := by decide +kernel
theorem dX8_init_93 : decode cX8_init 93 = .ok (.aload_n 0, 1) := by decide +kernel
theorem dX8_init_94 : decode cX8_init 94 = .ok (.bipush 20, 2) := by decide +kernel
theorem dX8_init_96 : decode cX8_init 96 = .ok (.newarray .int, 2) := by decide +kernel
theorem dX8_init_98 : decode cX8_init 98 = .ok (.putfield 46, 3) := by decide +kernel
theorem dX8_init_101 : decode cX8_init 101 = .ok (.aload_n 0, 1) := by decide +kernel
theorem dX8_init_102 : decode cX8_init 102 = .ok (.getfield 9, 3) := by decide +kernel
theorem dX8_init_105 : decode cX8_init 105 = .ok (.bipush 18, 2) := by decide +kernel
theorem dX8_init_107 : decode cX8_init 107 = .ok (.iconst (-1), 1) := by decide +kernel
theorem dX8_init_108 : decode cX8_init 108 = .ok (.iastore, 1) := by decide +kernel
theorem dX8_init_109 : decode cX8_init 109 = .ok (.aload_n 0, 1) := by decide +kernel
theorem dX8_init_110 : decode cX8_init 110 = .ok (.getfield 9, 3) := by decide +kernel
theorem dX8_init_113 : decode cX8_init 113 = .ok (.iconst 0, 1) := by decide +kernel
theorem dX8_init_114 : decode cX8_init 114 = .ok (.bipush 100, 2) := by decide +kernel
theorem dX8_init_116 : decode cX8_init 116 = .ok (.iastore, 1) := by decide +kernel
theorem dX8_init_117 : decode cX8_init 117 = .ok (.return_, 1) := by decide +kernel
theorem dX8_in_0 : decode cX8_in 0 = .ok (.iload_n 0, 1) := by decide +kernel
theorem dX8_in_1 : decode cX8_in 1 = .ok (.iload_n 1, 1) := by decide +kernel
theorem dX8_in_2 : decode cX8_in 2 = .ok (.if_icmp .lt 12, 3) := by decide +kernel
theorem dX8_in_5 : decode cX8_in 5 = .ok (.iload_n 0, 1) := by decide +kernel
theorem dX8_in_6 : decode cX8_in 6 = .ok (.iload_n 2, 1) := by decide +kernel
theorem dX8_in_7 : decode cX8_in 7 = .ok (.if_icmp .gt 7, 3) := by decide +kernel
theorem dX8_in_10 : decode cX8_in 10 = .ok (.iconst 1, 1) := by decide +kernel
theorem dX8_in_11 : decode cX8_in 11 = .ok (.goto 4, 3) := by decide +kernel
theorem dX8_in_14 : decode cX8_in 14 = .ok (.iconst 0, 1) := by decide +kernel
theorem dX8_in_15 : decode cX8_in 15 = .ok (.ireturn, 1) := by decide +kernel
theorem dX8_apart_0 : decode cX8_apart 0 = .ok (.iload_n 0, 1) := by decide +kernel
theorem dX8_apart_1 : decode cX8_apart 1 = .ok (.iload_n 1, 1) := by decide +kernel
theorem dX8_apart_2 : decode cX8_apart 2 = .ok (.if_icmp .ge 9, 3) := by decide +kernel
theorem dX8_apart_5 : decode cX8_apart 5 = .ok (.iload_n 1, 1) := by decide +kernel
theorem dX8_apart_6 : decode cX8_apart 6 = .ok (.iload_n 0, 1) := by decide +kernel
theorem dX8_apart_7 : decode cX8_apart 7 = .ok (.isub, 1) := by decide +kernel
theorem dX8_apart_8 : decode cX8_apart 8 = .ok (.goto 6, 3) := by decide +kernel
theorem dX8_apart_11 : decode cX8_apart 11 = .ok (.iload_n 0, 1) := by decide +kernel
theorem dX8_apart_12 : decode cX8_apart 12 = .ok (.iload_n 1, 1) := by decide +kernel
theorem dX8_apart_13 : decode cX8_apart 13 = .ok (.isub, 1) := by decide +kernel
theorem dX8_apart_14 : decode cX8_apart 14 = .ok (.ireturn, 1) := by decide +kernel
theorem dX8_isPerson_0 : decode cX8_isPerson 0 = .ok (.iload_n 1, 1) := by decide +kernel
theorem dX8_isPerson_1 : decode cX8_isPerson 1 = .ok (.iconst 0, 1) := by decide +kernel
theorem dX8_isPerson_2 : decode cX8_isPerson 2 = .ok (.aload_n 0, 1) := by decide +kernel
theorem dX8_isPerson_3 : decode cX8_isPerson 3 = .ok (.getfield 9, 3) := by decide +kernel
theorem dX8_isPerson_6 : decode cX8_isPerson 6 = .ok (.bipush 12, 2) := by decide +kernel
theorem dX8_isPerson_8 : decode cX8_isPerson 8 = .ok (.iaload, 1) := by decide +kernel
theorem dX8_isPerson_9 : decode cX8_isPerson 9 = .ok (.iconst 1, 1) := by decide +kernel
theorem dX8_isPerson_10 : decode cX8_isPerson 10 = .ok (.isub, 1) := by decide +kernel
theorem dX8_isPerson_11 : decode cX8_isPerson 11 = .ok (.invokestatic 53, 3) := by decide +kernel
theorem dX8_isPerson_14 : decode cX8_isPerson 14 = .ok (.ireturn, 1) := by decide +kernel
theorem dX8_isVintage_0 : decode cX8_isVintage 0 = .ok (.iload_n 1, 1) := by decide +kernel
theorem dX8_isVintage_1 : decode cX8_isVintage 1 = .ok (.iconst 0, 1) := by decide +kernel
theorem dX8_isVintage_2 : decode cX8_isVintage 2 = .ok (.aload_n 0, 1) := by decide +kernel
theorem dX8_isVintage_3 : decode cX8_isVintage 3 = .ok (.getfield 9, 3) := by decide +kernel
theorem dX8_isVintage_6 : decode cX8_isVintage 6 = .ok (.bipush 19, 2) := by decide +kernel
theorem dX8_isVintage_8 : decode cX8_isVintage 8 = .ok (.iaload, 1) := by decide +kernel
theorem dX8_isVintage_9 : decode cX8_isVintage 9 = .ok (.iconst 1, 1) := by decide +kernel
theorem dX8_isVintage_10 : decode cX8_isVintage 10 = .ok (.isub, 1) := by decide +kernel
theorem dX8_isVintage_11 : decode cX8_isVintage 11 = .ok (.invokestatic 53, 3) := by decide +kernel
theorem dX8_isVintage_14 : decode cX8_isVintage 14 = .ok (.ireturn, 1) := by decide +kernel
theorem dX8_isAge_0 : decode cX8_isAge 0 = .ok (.iload_n 0, 1) := by decide +kernel
theorem dX8_isAge_1 : decode cX8_isAge 1 = .ok (.sipush (-200), 3) := by decide +kernel
theorem dX8_isAge_4 : decode cX8_isAge 4 = .ok (.sipush 400, 3) := by decide +kernel
theorem dX8_isAge_7 : decode cX8_isAge 7 = .ok (.invokestatic 53, 3) := by decide +kernel
theorem dX8_isAge_10 : decode cX8_isAge 10 = .ok (.ireturn, 1) := by decide +kernel
theorem dX8_orNone_0 : decode cX8_orNone 0 = .ok (.iload_n 0, 1) := by decide +kernel
theorem dX8_orNone_1 : decode cX8_orNone 1 = .ok (.iconst (-1), 1) := by decide +kernel
theorem dX8_orNone_2 : decode cX8_orNone 2 = .ok (.if_icmp .ne 8, 3) := by decide +kernel
theorem dX8_orNone_5 : decode cX8_orNone 5 = .ok (.bipush (-5), 2) := by decide +kernel
theorem dX8_orNone_7 : decode cX8_orNone 7 = .ok (.goto 4, 3) := by decide +kernel
theorem dX8_orNone_10 : decode cX8_orNone 10 = .ok (.iload_n 0, 1) := by decide +kernel
theorem dX8_orNone_11 : decode cX8_orNone 11 = .ok (.ireturn, 1) := by decide +kernel
theorem dX8_keeps_0 : decode cX8_keeps 0 = .ok (.iconst 0, 1) := by decide +kernel
theorem dX8_keeps_1 : decode cX8_keeps 1 = .ok (.istore_n 1, 1) := by decide +kernel
theorem dX8_keeps_2 : decode cX8_keeps 2 = .ok (.iload_n 1, 1) := by decide +kernel
theorem dX8_keeps_3 : decode cX8_keeps 3 = .ok (.bipush 12, 2) := by decide +kernel
theorem dX8_keeps_5 : decode cX8_keeps 5 = .ok (.if_icmp .ge 21, 3) := by decide +kernel
theorem dX8_keeps_8 : decode cX8_keeps 8 = .ok (.aload_n 0, 1) := by decide +kernel
theorem dX8_keeps_9 : decode cX8_keeps 9 = .ok (.getfield 18, 3) := by decide +kernel
theorem dX8_keeps_12 : decode cX8_keeps 12 = .ok (.iload_n 1, 1) := by decide +kernel
theorem dX8_keeps_13 : decode cX8_keeps 13 = .ok (.aload_n 0, 1) := by decide +kernel
theorem dX8_keeps_14 : decode cX8_keeps 14 = .ok (.getfield 9, 3) := by decide +kernel
theorem dX8_keeps_17 : decode cX8_keeps 17 = .ok (.iload_n 1, 1) := by decide +kernel
theorem dX8_keeps_18 : decode cX8_keeps 18 = .ok (.iaload, 1) := by decide +kernel
theorem dX8_keeps_19 : decode cX8_keeps 19 = .ok (.iastore, 1) := by decide +kernel
theorem dX8_keeps_20 : decode cX8_keeps 20 = .ok (.iinc 1 1, 3) := by decide +kernel
theorem dX8_keeps_23 : decode cX8_keeps 23 = .ok (.goto (-21), 3) := by decide +kernel
theorem dX8_keeps_26 : decode cX8_keeps 26 = .ok (.return_, 1) := by decide +kernel
theorem dX8_goesBack_0 : decode cX8_goesBack 0 = .ok (.iconst 0, 1) := by decide +kernel
theorem dX8_goesBack_1 : decode cX8_goesBack 1 = .ok (.istore_n 1, 1) := by decide +kernel
theorem dX8_goesBack_2 : decode cX8_goesBack 2 = .ok (.iload_n 1, 1) := by decide +kernel
theorem dX8_goesBack_3 : decode cX8_goesBack 3 = .ok (.bipush 12, 2) := by decide +kernel
theorem dX8_goesBack_5 : decode cX8_goesBack 5 = .ok (.if_icmp .ge 21, 3) := by decide +kernel
theorem dX8_goesBack_8 : decode cX8_goesBack 8 = .ok (.aload_n 0, 1) := by decide +kernel
theorem dX8_goesBack_9 : decode cX8_goesBack 9 = .ok (.getfield 9, 3) := by decide +kernel
theorem dX8_goesBack_12 : decode cX8_goesBack 12 = .ok (.iload_n 1, 1) := by decide +kernel
theorem dX8_goesBack_13 : decode cX8_goesBack 13 = .ok (.aload_n 0, 1) := by decide +kernel
theorem dX8_goesBack_14 : decode cX8_goesBack 14 = .ok (.getfield 18, 3) := by decide +kernel
theorem dX8_goesBack_17 : decode cX8_goesBack 17 = .ok (.iload_n 1, 1) := by decide +kernel
theorem dX8_goesBack_18 : decode cX8_goesBack 18 = .ok (.iaload, 1) := by decide +kernel
theorem dX8_goesBack_19 : decode cX8_goesBack 19 = .ok (.iastore, 1) := by decide +kernel
theorem dX8_goesBack_20 : decode cX8_goesBack 20 = .ok (.iinc 1 1, 3) := by decide +kernel
theorem dX8_goesBack_23 : decode cX8_goesBack 23 = .ok (.goto (-21), 3) := by decide +kernel
theorem dX8_goesBack_26 : decode cX8_goesBack 26 = .ok (.return_, 1) := by decide +kernel
theorem dX8_feed_0 : decode cX8_feed 0 = .ok (.iload_n 1, 1) := by decide +kernel
theorem dX8_feed_1 : decode cX8_feed 1 = .ok (.iconst 0, 1) := by decide +kernel
theorem dX8_feed_2 : decode cX8_feed 2 = .ok (.bipush 127, 2) := by decide +kernel
theorem dX8_feed_4 : decode cX8_feed 4 = .ok (.invokestatic 53, 3) := by decide +kernel
theorem dX8_feed_7 : decode cX8_feed 7 = .ok (.ifCond .ne 6, 3) := by decide +kernel
theorem dX8_feed_10 : decode cX8_feed 10 = .ok (.bipush (-2), 2) := by decide +kernel
theorem dX8_feed_12 : decode cX8_feed 12 = .ok (.ireturn, 1) := by decide +kernel
theorem dX8_feed_13 : decode cX8_feed 13 = .ok (.aload_n 0, 1) := by decide +kernel
theorem dX8_feed_14 : decode cX8_feed 14 = .ok (.getfield 9, 3) := by decide +kernel
theorem dX8_feed_17 : decode cX8_feed 17 = .ok (.bipush 17, 2) := by decide +kernel
theorem dX8_feed_19 : decode cX8_feed 19 = .ok (.iaload, 1) := by decide +kernel
theorem dX8_feed_20 : decode cX8_feed 20 = .ok (.bipush 100, 2) := by decide +kernel
theorem dX8_feed_22 : decode cX8_feed 22 = .ok (.if_icmp .ne 6, 3) := by decide +kernel
theorem dX8_feed_25 : decode cX8_feed 25 = .ok (.bipush (-4), 2) := by decide +kernel
theorem dX8_feed_27 : decode cX8_feed 27 = .ok (.ireturn, 1) := by decide +kernel
theorem dX8_feed_28 : decode cX8_feed 28 = .ok (.aload_n 0, 1) := by decide +kernel
theorem dX8_feed_29 : decode cX8_feed 29 = .ok (.getfield 9, 3) := by decide +kernel
theorem dX8_feed_32 : decode cX8_feed 32 = .ok (.bipush 123, 2) := by decide +kernel
theorem dX8_feed_34 : decode cX8_feed 34 = .ok (.aload_n 0, 1) := by decide +kernel
theorem dX8_feed_35 : decode cX8_feed 35 = .ok (.getfield 9, 3) := by decide +kernel
theorem dX8_feed_38 : decode cX8_feed 38 = .ok (.bipush 17, 2) := by decide +kernel
theorem dX8_feed_40 : decode cX8_feed 40 = .ok (.iaload, 1) := by decide +kernel
theorem dX8_feed_41 : decode cX8_feed 41 = .ok (.iadd, 1) := by decide +kernel
theorem dX8_feed_42 : decode cX8_feed 42 = .ok (.iload_n 1, 1) := by decide +kernel
theorem dX8_feed_43 : decode cX8_feed 43 = .ok (.iastore, 1) := by decide +kernel
theorem dX8_feed_44 : decode cX8_feed 44 = .ok (.aload_n 0, 1) := by decide +kernel
theorem dX8_feed_45 : decode cX8_feed 45 = .ok (.getfield 9, 3) := by decide +kernel
theorem dX8_feed_48 : decode cX8_feed 48 = .ok (.bipush 17, 2) := by decide +kernel
theorem dX8_feed_50 : decode cX8_feed 50 = .ok (.dup2, 1) := by decide +kernel
theorem dX8_feed_51 : decode cX8_feed 51 = .ok (.iaload, 1) := by decide +kernel
theorem dX8_feed_52 : decode cX8_feed 52 = .ok (.iconst 1, 1) := by decide +kernel
theorem dX8_feed_53 : decode cX8_feed 53 = .ok (.iadd, 1) := by decide +kernel
theorem dX8_feed_54 : decode cX8_feed 54 = .ok (.iastore, 1) := by decide +kernel
theorem dX8_feed_55 : decode cX8_feed 55 = .ok (.aload_n 0, 1) := by decide +kernel
theorem dX8_feed_56 : decode cX8_feed 56 = .ok (.getfield 9, 3) := by decide +kernel
theorem dX8_feed_59 : decode cX8_feed 59 = .ok (.bipush 17, 2) := by decide +kernel
theorem dX8_feed_61 : decode cX8_feed 61 = .ok (.iaload, 1) := by decide +kernel
theorem dX8_feed_62 : decode cX8_feed 62 = .ok (.ireturn, 1) := by decide +kernel
theorem dX8_here_0 : decode cX8_here 0 = .ok (.aload_n 0, 1) := by decide +kernel
theorem dX8_here_1 : decode cX8_here 1 = .ok (.getfield 57, 3) := by decide +kernel
theorem dX8_here_4 : decode cX8_here 4 = .ok (.aload_n 0, 1) := by decide +kernel
theorem dX8_here_5 : decode cX8_here 5 = .ok (.getfield 60, 3) := by decide +kernel
theorem dX8_here_8 : decode cX8_here 8 = .ok (.if_icmp .ge 18, 3) := by decide +kernel
theorem dX8_here_11 : decode cX8_here 11 = .ok (.aload_n 0, 1) := by decide +kernel
theorem dX8_here_12 : decode cX8_here 12 = .ok (.getfield 9, 3) := by decide +kernel
theorem dX8_here_15 : decode cX8_here 15 = .ok (.bipush 123, 2) := by decide +kernel
theorem dX8_here_17 : decode cX8_here 17 = .ok (.aload_n 0, 1) := by decide +kernel
theorem dX8_here_18 : decode cX8_here 18 = .ok (.getfield 57, 3) := by decide +kernel
theorem dX8_here_21 : decode cX8_here 21 = .ok (.iadd, 1) := by decide +kernel
theorem dX8_here_22 : decode cX8_here 22 = .ok (.iaload, 1) := by decide +kernel
theorem dX8_here_23 : decode cX8_here 23 = .ok (.goto 4, 3) := by decide +kernel
theorem dX8_here_26 : decode cX8_here 26 = .ok (.iconst (-1), 1) := by decide +kernel
theorem dX8_here_27 : decode cX8_here 27 = .ok (.ireturn, 1) := by decide +kernel
theorem dX8_must_0 : decode cX8_must 0 = .ok (.aload_n 0, 1) := by decide +kernel
theorem dX8_must_1 : decode cX8_must 1 = .ok (.aload_n 0, 1) := by decide +kernel
theorem dX8_must_2 : decode cX8_must 2 = .ok (.getfield 63, 3) := by decide +kernel
theorem dX8_must_5 : decode cX8_must 5 = .ok (.ifCond .ne 11, 3) := by decide +kernel
theorem dX8_must_8 : decode cX8_must 8 = .ok (.aload_n 0, 1) := by decide +kernel
theorem dX8_must_9 : decode cX8_must 9 = .ok (.invokevirtual 67, 3) := by decide +kernel
theorem dX8_must_12 : decode cX8_must 12 = .ok (.iload_n 1, 1) := by decide +kernel
theorem dX8_must_13 : decode cX8_must 13 = .ok (.if_icmp .eq 7, 3) := by decide +kernel
theorem dX8_must_16 : decode cX8_must 16 = .ok (.iconst 1, 1) := by decide +kernel
theorem dX8_must_17 : decode cX8_must 17 = .ok (.goto 4, 3) := by decide +kernel
theorem dX8_must_20 : decode cX8_must 20 = .ok (.iconst 0, 1) := by decide +kernel
theorem dX8_must_21 : decode cX8_must 21 = .ok (.putfield 63, 3) := by decide +kernel
theorem dX8_must_24 : decode cX8_must 24 = .ok (.aload_n 0, 1) := by decide +kernel
theorem dX8_must_25 : decode cX8_must 25 = .ok (.dup, 1) := by decide +kernel
theorem dX8_must_26 : decode cX8_must 26 = .ok (.getfield 57, 3) := by decide +kernel
theorem dX8_must_29 : decode cX8_must 29 = .ok (.aload_n 0, 1) := by decide +kernel
theorem dX8_must_30 : decode cX8_must 30 = .ok (.getfield 63, 3) := by decide +kernel
theorem dX8_must_33 : decode cX8_must 33 = .ok (.ifCond .eq 7, 3) := by decide +kernel
theorem dX8_must_36 : decode cX8_must 36 = .ok (.iconst 0, 1) := by decide +kernel
theorem dX8_must_37 : decode cX8_must 37 = .ok (.goto 4, 3) := by decide +kernel
theorem dX8_must_40 : decode cX8_must 40 = .ok (.iconst 1, 1) := by decide +kernel
theorem dX8_must_41 : decode cX8_must 41 = .ok (.iadd, 1) := by decide +kernel
theorem dX8_must_42 : decode cX8_must 42 = .ok (.putfield 57, 3) := by decide +kernel
theorem dX8_must_45 : decode cX8_must 45 = .ok (.return_, 1) := by decide +kernel
theorem dX8_spells_0 : decode cX8_spells 0 = .ok (.iconst 0, 1) := by decide +kernel
theorem dX8_spells_1 : decode cX8_spells 1 = .ok (.istore_n 2, 1) := by decide +kernel
theorem dX8_spells_2 : decode cX8_spells 2 = .ok (.iload_n 2, 1) := by decide +kernel
theorem dX8_spells_3 : decode cX8_spells 3 = .ok (.aload_n 1, 1) := by decide +kernel
theorem dX8_spells_4 : decode cX8_spells 4 = .ok (.invokevirtual 71, 3) := by decide +kernel
theorem dX8_spells_7 : decode cX8_spells 7 = .ok (.if_icmp .ge 18, 3) := by decide +kernel
theorem dX8_spells_10 : decode cX8_spells 10 = .ok (.aload_n 0, 1) := by decide +kernel
theorem dX8_spells_11 : decode cX8_spells 11 = .ok (.aload_n 1, 1) := by decide +kernel
theorem dX8_spells_12 : decode cX8_spells 12 = .ok (.iload_n 2, 1) := by decide +kernel
theorem dX8_spells_13 : decode cX8_spells 13 = .ok (.invokevirtual 76, 3) := by decide +kernel
theorem dX8_spells_16 : decode cX8_spells 16 = .ok (.invokevirtual 80, 3) := by decide +kernel
theorem dX8_spells_19 : decode cX8_spells 19 = .ok (.iinc 2 1, 3) := by decide +kernel
theorem dX8_spells_22 : decode cX8_spells 22 = .ok (.goto (-20), 3) := by decide +kernel
theorem dX8_spells_25 : decode cX8_spells 25 = .ok (.return_, 1) := by decide +kernel
theorem dX8_figures_0 : decode cX8_figures 0 = .ok (.aload_n 0, 1) := by decide +kernel
theorem dX8_figures_1 : decode cX8_figures 1 = .ok (.aload_n 0, 1) := by decide +kernel
theorem dX8_figures_2 : decode cX8_figures 2 = .ok (.getfield 63, 3) := by decide +kernel
theorem dX8_figures_5 : decode cX8_figures 5 = .ok (.ifCond .ne 17, 3) := by decide +kernel
theorem dX8_figures_8 : decode cX8_figures 8 = .ok (.aload_n 0, 1) := by decide +kernel
theorem dX8_figures_9 : decode cX8_figures 9 = .ok (.invokevirtual 67, 3) := by decide +kernel
theorem dX8_figures_12 : decode cX8_figures 12 = .ok (.bipush 48, 2) := by decide +kernel
theorem dX8_figures_14 : decode cX8_figures 14 = .ok (.bipush 57, 2) := by decide +kernel
theorem dX8_figures_16 : decode cX8_figures 16 = .ok (.invokestatic 53, 3) := by decide +kernel
theorem dX8_figures_19 : decode cX8_figures 19 = .ok (.ifCond .ne 7, 3) := by decide +kernel
theorem dX8_figures_22 : decode cX8_figures 22 = .ok (.iconst 1, 1) := by decide +kernel
theorem dX8_figures_23 : decode cX8_figures 23 = .ok (.goto 4, 3) := by decide +kernel
theorem dX8_figures_26 : decode cX8_figures 26 = .ok (.iconst 0, 1) := by decide +kernel
theorem dX8_figures_27 : decode cX8_figures 27 = .ok (.putfield 63, 3) := by decide +kernel
theorem dX8_figures_30 : decode cX8_figures 30 = .ok (.iconst 0, 1) := by decide +kernel
theorem dX8_figures_31 : decode cX8_figures 31 = .ok (.istore_n 1, 1) := by decide +kernel
theorem dX8_figures_32 : decode cX8_figures 32 = .ok (.iconst 0, 1) := by decide +kernel
theorem dX8_figures_33 : decode cX8_figures 33 = .ok (.istore_n 2, 1) := by decide +kernel
theorem dX8_figures_34 : decode cX8_figures 34 = .ok (.iload_n 2, 1) := by decide +kernel
theorem dX8_figures_35 : decode cX8_figures 35 = .ok (.iconst 2, 1) := by decide +kernel
theorem dX8_figures_36 : decode cX8_figures 36 = .ok (.if_icmp .ge 61, 3) := by decide +kernel
theorem dX8_figures_39 : decode cX8_figures 39 = .ok (.aload_n 0, 1) := by decide +kernel
theorem dX8_figures_40 : decode cX8_figures 40 = .ok (.getfield 63, 3) := by decide +kernel
theorem dX8_figures_43 : decode cX8_figures 43 = .ok (.ifCond .ne 54, 3) := by decide +kernel
theorem dX8_figures_46 : decode cX8_figures 46 = .ok (.aload_n 0, 1) := by decide +kernel
theorem dX8_figures_47 : decode cX8_figures 47 = .ok (.invokevirtual 67, 3) := by decide +kernel
theorem dX8_figures_50 : decode cX8_figures 50 = .ok (.bipush 48, 2) := by decide +kernel
theorem dX8_figures_52 : decode cX8_figures 52 = .ok (.bipush 57, 2) := by decide +kernel
theorem dX8_figures_54 : decode cX8_figures 54 = .ok (.invokestatic 53, 3) := by decide +kernel
theorem dX8_figures_57 : decode cX8_figures 57 = .ok (.ifCond .eq 40, 3) := by decide +kernel
theorem dX8_figures_60 : decode cX8_figures 60 = .ok (.iload_n 2, 1) := by decide +kernel
theorem dX8_figures_61 : decode cX8_figures 61 = .ok (.ifCond .eq 7, 3) := by decide +kernel
theorem dX8_figures_64 : decode cX8_figures 64 = .ok (.iload_n 1, 1) := by decide +kernel
theorem dX8_figures_65 : decode cX8_figures 65 = .ok (.ifCond .le 32, 3) := by decide +kernel
theorem dX8_figures_68 : decode cX8_figures 68 = .ok (.bipush 10, 2) := by decide +kernel
theorem dX8_figures_70 : decode cX8_figures 70 = .ok (.iload_n 1, 1) := by decide +kernel
theorem dX8_figures_71 : decode cX8_figures 71 = .ok (.imul, 1) := by decide +kernel
theorem dX8_figures_72 : decode cX8_figures 72 = .ok (.aload_n 0, 1) := by decide +kernel
theorem dX8_figures_73 : decode cX8_figures 73 = .ok (.invokevirtual 67, 3) := by decide +kernel
theorem dX8_figures_76 : decode cX8_figures 76 = .ok (.iadd, 1) := by decide +kernel
theorem dX8_figures_77 : decode cX8_figures 77 = .ok (.bipush 48, 2) := by decide +kernel
theorem dX8_figures_79 : decode cX8_figures 79 = .ok (.isub, 1) := by decide +kernel
theorem dX8_figures_80 : decode cX8_figures 80 = .ok (.istore_n 1, 1) := by decide +kernel
theorem dX8_figures_81 : decode cX8_figures 81 = .ok (.aload_n 0, 1) := by decide +kernel
theorem dX8_figures_82 : decode cX8_figures 82 = .ok (.dup, 1) := by decide +kernel
theorem dX8_figures_83 : decode cX8_figures 83 = .ok (.getfield 57, 3) := by decide +kernel
theorem dX8_figures_86 : decode cX8_figures 86 = .ok (.iconst 1, 1) := by decide +kernel
theorem dX8_figures_87 : decode cX8_figures 87 = .ok (.iadd, 1) := by decide +kernel
theorem dX8_figures_88 : decode cX8_figures 88 = .ok (.putfield 57, 3) := by decide +kernel
theorem dX8_figures_91 : decode cX8_figures 91 = .ok (.iinc 2 1, 3) := by decide +kernel
theorem dX8_figures_94 : decode cX8_figures 94 = .ok (.goto (-60), 3) := by decide +kernel
theorem dX8_figures_97 : decode cX8_figures 97 = .ok (.iload_n 1, 1) := by decide +kernel
theorem dX8_figures_98 : decode cX8_figures 98 = .ok (.ireturn, 1) := by decide +kernel
theorem dX8_among_0 : decode cX8_among 0 = .ok (.iconst 0, 1) := by decide +kernel
theorem dX8_among_1 : decode cX8_among 1 = .ok (.istore_n 2, 1) := by decide +kernel
theorem dX8_among_2 : decode cX8_among 2 = .ok (.iload_n 2, 1) := by decide +kernel
theorem dX8_among_3 : decode cX8_among 3 = .ok (.aload_n 1, 1) := by decide +kernel
theorem dX8_among_4 : decode cX8_among 4 = .ok (.invokevirtual 71, 3) := by decide +kernel
theorem dX8_among_7 : decode cX8_among 7 = .ok (.if_icmp .ge 33, 3) := by decide +kernel
theorem dX8_among_10 : decode cX8_among 10 = .ok (.aload_n 0, 1) := by decide +kernel
theorem dX8_among_11 : decode cX8_among 11 = .ok (.invokevirtual 67, 3) := by decide +kernel
theorem dX8_among_14 : decode cX8_among 14 = .ok (.aload_n 1, 1) := by decide +kernel
theorem dX8_among_15 : decode cX8_among 15 = .ok (.iload_n 2, 1) := by decide +kernel
theorem dX8_among_16 : decode cX8_among 16 = .ok (.invokevirtual 76, 3) := by decide +kernel
theorem dX8_among_19 : decode cX8_among 19 = .ok (.if_icmp .ne 15, 3) := by decide +kernel
theorem dX8_among_22 : decode cX8_among 22 = .ok (.aload_n 0, 1) := by decide +kernel
theorem dX8_among_23 : decode cX8_among 23 = .ok (.dup, 1) := by decide +kernel
theorem dX8_among_24 : decode cX8_among 24 = .ok (.getfield 57, 3) := by decide +kernel
theorem dX8_among_27 : decode cX8_among 27 = .ok (.iconst 1, 1) := by decide +kernel
theorem dX8_among_28 : decode cX8_among 28 = .ok (.iadd, 1) := by decide +kernel
theorem dX8_among_29 : decode cX8_among 29 = .ok (.putfield 57, 3) := by decide +kernel
theorem dX8_among_32 : decode cX8_among 32 = .ok (.iload_n 2, 1) := by decide +kernel
theorem dX8_among_33 : decode cX8_among 33 = .ok (.ireturn, 1) := by decide +kernel
theorem dX8_among_34 : decode cX8_among 34 = .ok (.iinc 2 1, 3) := by decide +kernel
theorem dX8_among_37 : decode cX8_among 37 = .ok (.goto (-35), 3) := by decide +kernel
theorem dX8_among_40 : decode cX8_among 40 = .ok (.iconst (-1), 1) := by decide +kernel
theorem dX8_among_41 : decode cX8_among 41 = .ok (.ireturn, 1) := by decide +kernel
theorem dX8_emits_0 : decode cX8_emits 0 = .ok (.aload_n 0, 1) := by decide +kernel
theorem dX8_emits_1 : decode cX8_emits 1 = .ok (.getfield 63, 3) := by decide +kernel
theorem dX8_emits_4 : decode cX8_emits 4 = .ok (.ifCond .ne 52, 3) := by decide +kernel
theorem dX8_emits_7 : decode cX8_emits 7 = .ok (.aload_n 0, 1) := by decide +kernel
theorem dX8_emits_8 : decode cX8_emits 8 = .ok (.getfield 9, 3) := by decide +kernel
theorem dX8_emits_11 : decode cX8_emits 11 = .ok (.sipush 238, 3) := by decide +kernel
theorem dX8_emits_14 : decode cX8_emits 14 = .ok (.sipush 140, 3) := by decide +kernel
theorem dX8_emits_17 : decode cX8_emits 17 = .ok (.aload_n 0, 1) := by decide +kernel
theorem dX8_emits_18 : decode cX8_emits 18 = .ok (.getfield 84, 3) := by decide +kernel
theorem dX8_emits_21 : decode cX8_emits 21 = .ok (.imul, 1) := by decide +kernel
theorem dX8_emits_22 : decode cX8_emits 22 = .ok (.iadd, 1) := by decide +kernel
theorem dX8_emits_23 : decode cX8_emits 23 = .ok (.aload_n 0, 1) := by decide +kernel
theorem dX8_emits_24 : decode cX8_emits 24 = .ok (.getfield 9, 3) := by decide +kernel
theorem dX8_emits_27 : decode cX8_emits 27 = .ok (.sipush 233, 3) := by decide +kernel
theorem dX8_emits_30 : decode cX8_emits 30 = .ok (.aload_n 0, 1) := by decide +kernel
theorem dX8_emits_31 : decode cX8_emits 31 = .ok (.getfield 84, 3) := by decide +kernel
theorem dX8_emits_34 : decode cX8_emits 34 = .ok (.iadd, 1) := by decide +kernel
theorem dX8_emits_35 : decode cX8_emits 35 = .ok (.iaload, 1) := by decide +kernel
theorem dX8_emits_36 : decode cX8_emits 36 = .ok (.iadd, 1) := by decide +kernel
theorem dX8_emits_37 : decode cX8_emits 37 = .ok (.iload_n 1, 1) := by decide +kernel
theorem dX8_emits_38 : decode cX8_emits 38 = .ok (.iastore, 1) := by decide +kernel
theorem dX8_emits_39 : decode cX8_emits 39 = .ok (.aload_n 0, 1) := by decide +kernel
theorem dX8_emits_40 : decode cX8_emits 40 = .ok (.getfield 9, 3) := by decide +kernel
theorem dX8_emits_43 : decode cX8_emits 43 = .ok (.sipush 233, 3) := by decide +kernel
theorem dX8_emits_46 : decode cX8_emits 46 = .ok (.aload_n 0, 1) := by decide +kernel
theorem dX8_emits_47 : decode cX8_emits 47 = .ok (.getfield 84, 3) := by decide +kernel
theorem dX8_emits_50 : decode cX8_emits 50 = .ok (.iadd, 1) := by decide +kernel
theorem dX8_emits_51 : decode cX8_emits 51 = .ok (.dup2, 1) := by decide +kernel
theorem dX8_emits_52 : decode cX8_emits 52 = .ok (.iaload, 1) := by decide +kernel
theorem dX8_emits_53 : decode cX8_emits 53 = .ok (.iconst 1, 1) := by decide +kernel
theorem dX8_emits_54 : decode cX8_emits 54 = .ok (.iadd, 1) := by decide +kernel
theorem dX8_emits_55 : decode cX8_emits 55 = .ok (.iastore, 1) := by decide +kernel
theorem dX8_emits_56 : decode cX8_emits 56 = .ok (.return_, 1) := by decide +kernel
theorem dX8_factor_0 : decode cX8_factor 0 = .ok (.aload_n 0, 1) := by decide +kernel
theorem dX8_factor_1 : decode cX8_factor 1 = .ok (.getfield 63, 3) := by decide +kernel
theorem dX8_factor_4 : decode cX8_factor 4 = .ok (.ifCond .eq 4, 3) := by decide +kernel
theorem dX8_factor_7 : decode cX8_factor 7 = .ok (.return_, 1) := by decide +kernel
theorem dX8_factor_8 : decode cX8_factor 8 = .ok (.aload_n 0, 1) := by decide +kernel
theorem dX8_factor_9 : decode cX8_factor 9 = .ok (.invokevirtual 67, 3) := by decide +kernel
theorem dX8_factor_12 : decode cX8_factor 12 = .ok (.istore_n 1, 1) := by decide +kernel
theorem dX8_factor_13 : decode cX8_factor 13 = .ok (.iload_n 1, 1) := by decide +kernel
theorem dX8_factor_14 : decode cX8_factor 14 = .ok (.bipush 33, 2) := by decide +kernel
theorem dX8_factor_16 : decode cX8_factor 16 = .ok (.if_icmp .eq 9, 3) := by decide +kernel
theorem dX8_factor_19 : decode cX8_factor 19 = .ok (.iload_n 1, 1) := by decide +kernel
theorem dX8_factor_20 : decode cX8_factor 20 = .ok (.bipush 40, 2) := by decide +kernel
theorem dX8_factor_22 : decode cX8_factor 22 = .ok (.if_icmp .ne 90, 3) := by decide +kernel
theorem dX8_factor_25 : decode cX8_factor 25 = .ok (.aload_n 0, 1) := by decide +kernel
theorem dX8_factor_26 : decode cX8_factor 26 = .ok (.aload_n 0, 1) := by decide +kernel
theorem dX8_factor_27 : decode cX8_factor 27 = .ok (.getfield 87, 3) := by decide +kernel
theorem dX8_factor_30 : decode cX8_factor 30 = .ok (.iconst 5, 1) := by decide +kernel
theorem dX8_factor_31 : decode cX8_factor 31 = .ok (.if_icmp .ne 7, 3) := by decide +kernel
theorem dX8_factor_34 : decode cX8_factor 34 = .ok (.iconst 1, 1) := by decide +kernel
theorem dX8_factor_35 : decode cX8_factor 35 = .ok (.goto 4, 3) := by decide +kernel
theorem dX8_factor_38 : decode cX8_factor 38 = .ok (.iconst 0, 1) := by decide +kernel
theorem dX8_factor_39 : decode cX8_factor 39 = .ok (.putfield 63, 3) := by decide +kernel
theorem dX8_factor_42 : decode cX8_factor 42 = .ok (.aload_n 0, 1) := by decide +kernel
theorem dX8_factor_43 : decode cX8_factor 43 = .ok (.dup, 1) := by decide +kernel
theorem dX8_factor_44 : decode cX8_factor 44 = .ok (.getfield 87, 3) := by decide +kernel
theorem dX8_factor_47 : decode cX8_factor 47 = .ok (.iconst 1, 1) := by decide +kernel
theorem dX8_factor_48 : decode cX8_factor 48 = .ok (.iadd, 1) := by decide +kernel
theorem dX8_factor_49 : decode cX8_factor 49 = .ok (.putfield 87, 3) := by decide +kernel
theorem dX8_factor_52 : decode cX8_factor 52 = .ok (.aload_n 0, 1) := by decide +kernel
theorem dX8_factor_53 : decode cX8_factor 53 = .ok (.dup, 1) := by decide +kernel
theorem dX8_factor_54 : decode cX8_factor 54 = .ok (.getfield 57, 3) := by decide +kernel
theorem dX8_factor_57 : decode cX8_factor 57 = .ok (.aload_n 0, 1) := by decide +kernel
theorem dX8_factor_58 : decode cX8_factor 58 = .ok (.getfield 63, 3) := by decide +kernel
theorem dX8_factor_61 : decode cX8_factor 61 = .ok (.ifCond .eq 7, 3) := by decide +kernel
theorem dX8_factor_64 : decode cX8_factor 64 = .ok (.iconst 0, 1) := by decide +kernel
theorem dX8_factor_65 : decode cX8_factor 65 = .ok (.goto 4, 3) := by decide +kernel
theorem dX8_factor_68 : decode cX8_factor 68 = .ok (.iconst 1, 1) := by decide +kernel
theorem dX8_factor_69 : decode cX8_factor 69 = .ok (.iadd, 1) := by decide +kernel
theorem dX8_factor_70 : decode cX8_factor 70 = .ok (.putfield 57, 3) := by decide +kernel
theorem dX8_factor_73 : decode cX8_factor 73 = .ok (.iload_n 1, 1) := by decide +kernel
theorem dX8_factor_74 : decode cX8_factor 74 = .ok (.bipush 33, 2) := by decide +kernel
theorem dX8_factor_76 : decode cX8_factor 76 = .ok (.if_icmp .ne 15, 3) := by decide +kernel
theorem dX8_factor_79 : decode cX8_factor 79 = .ok (.aload_n 0, 1) := by decide +kernel
theorem dX8_factor_80 : decode cX8_factor 80 = .ok (.invokevirtual 90, 3) := by decide +kernel
theorem dX8_factor_83 : decode cX8_factor 83 = .ok (.aload_n 0, 1) := by decide +kernel
theorem dX8_factor_84 : decode cX8_factor 84 = .ok (.iconst (-1), 1) := by decide +kernel
theorem dX8_factor_85 : decode cX8_factor 85 = .ok (.invokevirtual 93, 3) := by decide +kernel
theorem dX8_factor_88 : decode cX8_factor 88 = .ok (.goto 13, 3) := by decide +kernel
theorem dX8_factor_91 : decode cX8_factor 91 = .ok (.aload_n 0, 1) := by decide +kernel
theorem dX8_factor_92 : decode cX8_factor 92 = .ok (.invokevirtual 96, 3) := by decide +kernel
theorem dX8_factor_95 : decode cX8_factor 95 = .ok (.aload_n 0, 1) := by decide +kernel
theorem dX8_factor_96 : decode cX8_factor 96 = .ok (.bipush 41, 2) := by decide +kernel
theorem dX8_factor_98 : decode cX8_factor 98 = .ok (.invokevirtual 80, 3) := by decide +kernel
theorem dX8_factor_101 : decode cX8_factor 101 = .ok (.aload_n 0, 1) := by decide +kernel
theorem dX8_factor_102 : decode cX8_factor 102 = .ok (.dup, 1) := by decide +kernel
theorem dX8_factor_103 : decode cX8_factor 103 = .ok (.getfield 87, 3) := by decide +kernel
theorem dX8_factor_106 : decode cX8_factor 106 = .ok (.iconst 1, 1) := by decide +kernel
theorem dX8_factor_107 : decode cX8_factor 107 = .ok (.isub, 1) := by decide +kernel
theorem dX8_factor_108 : decode cX8_factor 108 = .ok (.putfield 87, 3) := by decide +kernel
theorem dX8_factor_111 : decode cX8_factor 111 = .ok (.return_, 1) := by decide +kernel
theorem dX8_factor_112 : decode cX8_factor 112 = .ok (.aload_n 0, 1) := by decide +kernel
theorem dX8_factor_113 : decode cX8_factor 113 = .ok (.ldc 99, 2) := by decide +kernel
theorem dX8_factor_115 : decode cX8_factor 115 = .ok (.invokevirtual 101, 3) := by decide +kernel
theorem dX8_factor_118 : decode cX8_factor 118 = .ok (.istore_n 2, 1) := by decide +kernel
theorem dX8_factor_119 : decode cX8_factor 119 = .ok (.aload_n 0, 1) := by decide +kernel
theorem dX8_factor_120 : decode cX8_factor 120 = .ok (.iload_n 2, 1) := by decide +kernel
theorem dX8_factor_121 : decode cX8_factor 121 = .ok (.iconst (-1), 1) := by decide +kernel
theorem dX8_factor_122 : decode cX8_factor 122 = .ok (.if_icmp .ne 7, 3) := by decide +kernel
theorem dX8_factor_125 : decode cX8_factor 125 = .ok (.iconst 1, 1) := by decide +kernel
theorem dX8_factor_126 : decode cX8_factor 126 = .ok (.goto 4, 3) := by decide +kernel
theorem dX8_factor_129 : decode cX8_factor 129 = .ok (.iconst 0, 1) := by decide +kernel
theorem dX8_factor_130 : decode cX8_factor 130 = .ok (.putfield 63, 3) := by decide +kernel
theorem dX8_factor_133 : decode cX8_factor 133 = .ok (.aload_n 0, 1) := by decide +kernel
theorem dX8_factor_134 : decode cX8_factor 134 = .ok (.getfield 63, 3) := by decide +kernel
theorem dX8_factor_137 : decode cX8_factor 137 = .ok (.ifCond .eq 7, 3) := by decide +kernel
theorem dX8_factor_140 : decode cX8_factor 140 = .ok (.iconst 0, 1) := by decide +kernel
theorem dX8_factor_141 : decode cX8_factor 141 = .ok (.goto 9, 3) := by decide +kernel
theorem dX8_factor_144 : decode cX8_factor 144 = .ok (.aload_n 0, 1) := by decide +kernel
theorem dX8_factor_145 : decode cX8_factor 145 = .ok (.ldc 105, 2) := by decide +kernel
theorem dX8_factor_147 : decode cX8_factor 147 = .ok (.invokevirtual 101, 3) := by decide +kernel
theorem dX8_factor_150 : decode cX8_factor 150 = .ok (.istore_n 3, 1) := by decide +kernel
theorem dX8_factor_151 : decode cX8_factor 151 = .ok (.aload_n 0, 1) := by decide +kernel
theorem dX8_factor_152 : decode cX8_factor 152 = .ok (.aload_n 0, 1) := by decide +kernel
theorem dX8_factor_153 : decode cX8_factor 153 = .ok (.getfield 63, 3) := by decide +kernel
theorem dX8_factor_156 : decode cX8_factor 156 = .ok (.ifCond .ne 8, 3) := by decide +kernel
theorem dX8_factor_159 : decode cX8_factor 159 = .ok (.iload_n 3, 1) := by decide +kernel
theorem dX8_factor_160 : decode cX8_factor 160 = .ok (.iconst (-1), 1) := by decide +kernel
theorem dX8_factor_161 : decode cX8_factor 161 = .ok (.if_icmp .ne 7, 3) := by decide +kernel
theorem dX8_factor_164 : decode cX8_factor 164 = .ok (.iconst 1, 1) := by decide +kernel
theorem dX8_factor_165 : decode cX8_factor 165 = .ok (.goto 4, 3) := by decide +kernel
theorem dX8_factor_168 : decode cX8_factor 168 = .ok (.iconst 0, 1) := by decide +kernel
theorem dX8_factor_169 : decode cX8_factor 169 = .ok (.putfield 63, 3) := by decide +kernel
theorem dX8_factor_172 : decode cX8_factor 172 = .ok (.aload_n 0, 1) := by decide +kernel
theorem dX8_factor_173 : decode cX8_factor 173 = .ok (.invokevirtual 107, 3) := by decide +kernel
theorem dX8_factor_176 : decode cX8_factor 176 = .ok (.istore 4, 2) := by decide +kernel
theorem dX8_factor_178 : decode cX8_factor 178 = .ok (.aload_n 0, 1) := by decide +kernel
theorem dX8_factor_179 : decode cX8_factor 179 = .ok (.iload_n 2, 1) := by decide +kernel
theorem dX8_factor_180 : decode cX8_factor 180 = .ok (.bipush 8, 2) := by decide +kernel
theorem dX8_factor_182 : decode cX8_factor 182 = .ok (.iload_n 3, 1) := by decide +kernel
theorem dX8_factor_183 : decode cX8_factor 183 = .ok (.imul, 1) := by decide +kernel
theorem dX8_factor_184 : decode cX8_factor 184 = .ok (.iadd, 1) := by decide +kernel
theorem dX8_factor_185 : decode cX8_factor 185 = .ok (.bipush 32, 2) := by decide +kernel
theorem dX8_factor_187 : decode cX8_factor 187 = .ok (.iload 4, 2) := by decide +kernel
theorem dX8_factor_189 : decode cX8_factor 189 = .ok (.imul, 1) := by decide +kernel
theorem dX8_factor_190 : decode cX8_factor 190 = .ok (.iadd, 1) := by decide +kernel
theorem dX8_factor_191 : decode cX8_factor 191 = .ok (.invokevirtual 93, 3) := by decide +kernel
theorem dX8_factor_194 : decode cX8_factor 194 = .ok (.return_, 1) := by decide +kernel
theorem dX8_every_0 : decode cX8_every 0 = .ok (.aload_n 0, 1) := by decide +kernel
theorem dX8_every_1 : decode cX8_every 1 = .ok (.invokevirtual 90, 3) := by decide +kernel
theorem dX8_every_4 : decode cX8_every 4 = .ok (.aload_n 0, 1) := by decide +kernel
theorem dX8_every_5 : decode cX8_every 5 = .ok (.getfield 63, 3) := by decide +kernel
theorem dX8_every_8 : decode cX8_every 8 = .ok (.ifCond .ne 35, 3) := by decide +kernel
theorem dX8_every_11 : decode cX8_every 11 = .ok (.aload_n 0, 1) := by decide +kernel
theorem dX8_every_12 : decode cX8_every 12 = .ok (.invokevirtual 67, 3) := by decide +kernel
theorem dX8_every_15 : decode cX8_every 15 = .ok (.bipush 38, 2) := by decide +kernel
theorem dX8_every_17 : decode cX8_every 17 = .ok (.if_icmp .ne 26, 3) := by decide +kernel
theorem dX8_every_20 : decode cX8_every 20 = .ok (.aload_n 0, 1) := by decide +kernel
theorem dX8_every_21 : decode cX8_every 21 = .ok (.dup, 1) := by decide +kernel
theorem dX8_every_22 : decode cX8_every 22 = .ok (.getfield 57, 3) := by decide +kernel
theorem dX8_every_25 : decode cX8_every 25 = .ok (.iconst 1, 1) := by decide +kernel
theorem dX8_every_26 : decode cX8_every 26 = .ok (.iadd, 1) := by decide +kernel
theorem dX8_every_27 : decode cX8_every 27 = .ok (.putfield 57, 3) := by decide +kernel
theorem dX8_every_30 : decode cX8_every 30 = .ok (.aload_n 0, 1) := by decide +kernel
theorem dX8_every_31 : decode cX8_every 31 = .ok (.invokevirtual 90, 3) := by decide +kernel
theorem dX8_every_34 : decode cX8_every 34 = .ok (.aload_n 0, 1) := by decide +kernel
theorem dX8_every_35 : decode cX8_every 35 = .ok (.bipush (-2), 2) := by decide +kernel
theorem dX8_every_37 : decode cX8_every 37 = .ok (.invokevirtual 93, 3) := by decide +kernel
theorem dX8_every_40 : decode cX8_every 40 = .ok (.goto (-36), 3) := by decide +kernel
theorem dX8_every_43 : decode cX8_every 43 = .ok (.return_, 1) := by decide +kernel
theorem dX8_some_0 : decode cX8_some 0 = .ok (.aload_n 0, 1) := by decide +kernel
theorem dX8_some_1 : decode cX8_some 1 = .ok (.invokevirtual 110, 3) := by decide +kernel
theorem dX8_some_4 : decode cX8_some 4 = .ok (.aload_n 0, 1) := by decide +kernel
theorem dX8_some_5 : decode cX8_some 5 = .ok (.getfield 63, 3) := by decide +kernel
theorem dX8_some_8 : decode cX8_some 8 = .ok (.ifCond .ne 35, 3) := by decide +kernel
theorem dX8_some_11 : decode cX8_some 11 = .ok (.aload_n 0, 1) := by decide +kernel
theorem dX8_some_12 : decode cX8_some 12 = .ok (.invokevirtual 67, 3) := by decide +kernel
theorem dX8_some_15 : decode cX8_some 15 = .ok (.bipush 124, 2) := by decide +kernel
theorem dX8_some_17 : decode cX8_some 17 = .ok (.if_icmp .ne 26, 3) := by decide +kernel
theorem dX8_some_20 : decode cX8_some 20 = .ok (.aload_n 0, 1) := by decide +kernel
theorem dX8_some_21 : decode cX8_some 21 = .ok (.dup, 1) := by decide +kernel
theorem dX8_some_22 : decode cX8_some 22 = .ok (.getfield 57, 3) := by decide +kernel
theorem dX8_some_25 : decode cX8_some 25 = .ok (.iconst 1, 1) := by decide +kernel
theorem dX8_some_26 : decode cX8_some 26 = .ok (.iadd, 1) := by decide +kernel
theorem dX8_some_27 : decode cX8_some 27 = .ok (.putfield 57, 3) := by decide +kernel
theorem dX8_some_30 : decode cX8_some 30 = .ok (.aload_n 0, 1) := by decide +kernel
theorem dX8_some_31 : decode cX8_some 31 = .ok (.invokevirtual 110, 3) := by decide +kernel
theorem dX8_some_34 : decode cX8_some 34 = .ok (.aload_n 0, 1) := by decide +kernel
theorem dX8_some_35 : decode cX8_some 35 = .ok (.bipush (-3), 2) := by decide +kernel
theorem dX8_some_37 : decode cX8_some 37 = .ok (.invokevirtual 93, 3) := by decide +kernel
theorem dX8_some_40 : decode cX8_some 40 = .ok (.goto (-36), 3) := by decide +kernel
theorem dX8_some_43 : decode cX8_some 43 = .ok (.return_, 1) := by decide +kernel
theorem dX8_much_0 : decode cX8_much 0 = .ok (.aload_n 0, 1) := by decide +kernel
theorem dX8_much_1 : decode cX8_much 1 = .ok (.aload_n 2, 1) := by decide +kernel
theorem dX8_much_2 : decode cX8_much 2 = .ok (.invokevirtual 113, 3) := by decide +kernel
theorem dX8_much_5 : decode cX8_much 5 = .ok (.aload_n 0, 1) := by decide +kernel
theorem dX8_much_6 : decode cX8_much 6 = .ok (.invokevirtual 107, 3) := by decide +kernel
theorem dX8_much_9 : decode cX8_much 9 = .ok (.istore_n 3, 1) := by decide +kernel
theorem dX8_much_10 : decode cX8_much 10 = .ok (.aload_n 0, 1) := by decide +kernel
theorem dX8_much_11 : decode cX8_much 11 = .ok (.bipush 32, 2) := by decide +kernel
theorem dX8_much_13 : decode cX8_much 13 = .ok (.invokevirtual 80, 3) := by decide +kernel
theorem dX8_much_16 : decode cX8_much 16 = .ok (.aload_n 0, 1) := by decide +kernel
theorem dX8_much_17 : decode cX8_much 17 = .ok (.invokevirtual 96, 3) := by decide +kernel
theorem dX8_much_20 : decode cX8_much 20 = .ok (.aload_n 0, 1) := by decide +kernel
theorem dX8_much_21 : decode cX8_much 21 = .ok (.iload_n 1, 1) := by decide +kernel
theorem dX8_much_22 : decode cX8_much 22 = .ok (.iload_n 3, 1) := by decide +kernel
theorem dX8_much_23 : decode cX8_much 23 = .ok (.isub, 1) := by decide +kernel
theorem dX8_much_24 : decode cX8_much 24 = .ok (.invokevirtual 93, 3) := by decide +kernel
theorem dX8_much_27 : decode cX8_much 27 = .ok (.return_, 1) := by decide +kernel
theorem dX8_tellsHere_0 : decode cX8_tellsHere 0 = .ok (.aload_n 0, 1) := by decide +kernel
theorem dX8_tellsHere_1 : decode cX8_tellsHere 1 = .ok (.aload_n 2, 1) := by decide +kernel
theorem dX8_tellsHere_2 : decode cX8_tellsHere 2 = .ok (.invokevirtual 113, 3) := by decide +kernel
theorem dX8_tellsHere_5 : decode cX8_tellsHere 5 = .ok (.aload_n 0, 1) := by decide +kernel
theorem dX8_tellsHere_6 : decode cX8_tellsHere 6 = .ok (.invokevirtual 107, 3) := by decide +kernel
theorem dX8_tellsHere_9 : decode cX8_tellsHere 9 = .ok (.istore_n 3, 1) := by decide +kernel
theorem dX8_tellsHere_10 : decode cX8_tellsHere 10 = .ok (.aload_n 0, 1) := by decide +kernel
theorem dX8_tellsHere_11 : decode cX8_tellsHere 11 = .ok (.getfield 63, 3) := by decide +kernel
theorem dX8_tellsHere_14 : decode cX8_tellsHere 14 = .ok (.ifCond .ne 15, 3) := by decide +kernel
theorem dX8_tellsHere_17 : decode cX8_tellsHere 17 = .ok (.aload_n 0, 1) := by decide +kernel
theorem dX8_tellsHere_18 : decode cX8_tellsHere 18 = .ok (.getfield 9, 3) := by decide +kernel
theorem dX8_tellsHere_21 : decode cX8_tellsHere 21 = .ok (.iload_n 1, 1) := by decide +kernel
theorem dX8_tellsHere_22 : decode cX8_tellsHere 22 = .ok (.aload_n 0, 1) := by decide +kernel
theorem dX8_tellsHere_23 : decode cX8_tellsHere 23 = .ok (.getfield 84, 3) := by decide +kernel
theorem dX8_tellsHere_26 : decode cX8_tellsHere 26 = .ok (.iadd, 1) := by decide +kernel
theorem dX8_tellsHere_27 : decode cX8_tellsHere 27 = .ok (.iload_n 3, 1) := by decide +kernel
theorem dX8_tellsHere_28 : decode cX8_tellsHere 28 = .ok (.iastore, 1) := by decide +kernel
theorem dX8_tellsHere_29 : decode cX8_tellsHere 29 = .ok (.return_, 1) := by decide +kernel
theorem dX8_clauseHere_0 : decode cX8_clauseHere 0 = .ok (.aload_n 0, 1) := by decide +kernel
theorem dX8_clauseHere_1 : decode cX8_clauseHere 1 = .ok (.invokevirtual 67, 3) := by decide +kernel
theorem dX8_clauseHere_4 : decode cX8_clauseHere 4 = .ok (.lookupswitch 91 #[(98, 68), (103, 44), (109, 79), (111, 56)], 44) := by decide +kernel
theorem dX8_clauseHere_48 : decode cX8_clauseHere 48 = .ok (.aload_n 0, 1) := by decide +kernel
theorem dX8_clauseHere_49 : decode cX8_clauseHere 49 = .ok (.sipush 223, 3) := by decide +kernel
theorem dX8_clauseHere_52 : decode cX8_clauseHere 52 = .ok (.ldc 117, 2) := by decide +kernel
theorem dX8_clauseHere_54 : decode cX8_clauseHere 54 = .ok (.invokevirtual 119, 3) := by decide +kernel
theorem dX8_clauseHere_57 : decode cX8_clauseHere 57 = .ok (.goto 43, 3) := by decide +kernel
theorem dX8_clauseHere_60 : decode cX8_clauseHere 60 = .ok (.aload_n 0, 1) := by decide +kernel
theorem dX8_clauseHere_61 : decode cX8_clauseHere 61 = .ok (.sipush 228, 3) := by decide +kernel
theorem dX8_clauseHere_64 : decode cX8_clauseHere 64 = .ok (.ldc 123, 2) := by decide +kernel
theorem dX8_clauseHere_66 : decode cX8_clauseHere 66 = .ok (.invokevirtual 119, 3) := by decide +kernel
theorem dX8_clauseHere_69 : decode cX8_clauseHere 69 = .ok (.goto 31, 3) := by decide +kernel
theorem dX8_clauseHere_72 : decode cX8_clauseHere 72 = .ok (.aload_n 0, 1) := by decide +kernel
theorem dX8_clauseHere_73 : decode cX8_clauseHere 73 = .ok (.bipush (-10), 2) := by decide +kernel
theorem dX8_clauseHere_75 : decode cX8_clauseHere 75 = .ok (.ldc 125, 2) := by decide +kernel
theorem dX8_clauseHere_77 : decode cX8_clauseHere 77 = .ok (.invokevirtual 127, 3) := by decide +kernel
theorem dX8_clauseHere_80 : decode cX8_clauseHere 80 = .ok (.goto 20, 3) := by decide +kernel
theorem dX8_clauseHere_83 : decode cX8_clauseHere 83 = .ok (.aload_n 0, 1) := by decide +kernel
theorem dX8_clauseHere_84 : decode cX8_clauseHere 84 = .ok (.sipush (-200), 3) := by decide +kernel
theorem dX8_clauseHere_87 : decode cX8_clauseHere 87 = .ok (.ldc 130, 2) := by decide +kernel
theorem dX8_clauseHere_89 : decode cX8_clauseHere 89 = .ok (.invokevirtual 127, 3) := by decide +kernel
theorem dX8_clauseHere_92 : decode cX8_clauseHere 92 = .ok (.goto 8, 3) := by decide +kernel
theorem dX8_clauseHere_95 : decode cX8_clauseHere 95 = .ok (.aload_n 0, 1) := by decide +kernel
theorem dX8_clauseHere_96 : decode cX8_clauseHere 96 = .ok (.iconst 1, 1) := by decide +kernel
theorem dX8_clauseHere_97 : decode cX8_clauseHere 97 = .ok (.putfield 63, 3) := by decide +kernel
theorem dX8_clauseHere_100 : decode cX8_clauseHere 100 = .ok (.return_, 1) := by decide +kernel
theorem dX8_village_0 : decode cX8_village 0 = .ok (.aload_n 0, 1) := by decide +kernel
theorem dX8_village_1 : decode cX8_village 1 = .ok (.getfield 9, 3) := by decide +kernel
theorem dX8_village_4 : decode cX8_village 4 = .ok (.bipush 13, 2) := by decide +kernel
theorem dX8_village_6 : decode cX8_village 6 = .ok (.iaload, 1) := by decide +kernel
theorem dX8_village_7 : decode cX8_village 7 = .ok (.iconst 5, 1) := by decide +kernel
theorem dX8_village_8 : decode cX8_village 8 = .ok (.if_icmp .ne 6, 3) := by decide +kernel
theorem dX8_village_11 : decode cX8_village 11 = .ok (.bipush (-4), 2) := by decide +kernel
theorem dX8_village_13 : decode cX8_village 13 = .ok (.ireturn, 1) := by decide +kernel
theorem dX8_village_14 : decode cX8_village 14 = .ok (.aload_n 0, 1) := by decide +kernel
theorem dX8_village_15 : decode cX8_village 15 = .ok (.aload_n 0, 1) := by decide +kernel
theorem dX8_village_16 : decode cX8_village 16 = .ok (.getfield 9, 3) := by decide +kernel
theorem dX8_village_19 : decode cX8_village 19 = .ok (.bipush 13, 2) := by decide +kernel
theorem dX8_village_21 : decode cX8_village 21 = .ok (.iaload, 1) := by decide +kernel
theorem dX8_village_22 : decode cX8_village 22 = .ok (.putfield 84, 3) := by decide +kernel
theorem dX8_village_25 : decode cX8_village 25 = .ok (.aload_n 0, 1) := by decide +kernel
theorem dX8_village_26 : decode cX8_village 26 = .ok (.aload_n 0, 1) := by decide +kernel
theorem dX8_village_27 : decode cX8_village 27 = .ok (.getfield 9, 3) := by decide +kernel
theorem dX8_village_30 : decode cX8_village 30 = .ok (.bipush 17, 2) := by decide +kernel
theorem dX8_village_32 : decode cX8_village 32 = .ok (.iaload, 1) := by decide +kernel
theorem dX8_village_33 : decode cX8_village 33 = .ok (.putfield 60, 3) := by decide +kernel
theorem dX8_village_36 : decode cX8_village 36 = .ok (.aload_n 0, 1) := by decide +kernel
theorem dX8_village_37 : decode cX8_village 37 = .ok (.getfield 9, 3) := by decide +kernel
theorem dX8_village_40 : decode cX8_village 40 = .ok (.bipush 17, 2) := by decide +kernel
theorem dX8_village_42 : decode cX8_village 42 = .ok (.iconst 0, 1) := by decide +kernel
theorem dX8_village_43 : decode cX8_village 43 = .ok (.iastore, 1) := by decide +kernel
theorem dX8_village_44 : decode cX8_village 44 = .ok (.aload_n 0, 1) := by decide +kernel
theorem dX8_village_45 : decode cX8_village 45 = .ok (.getfield 9, 3) := by decide +kernel
theorem dX8_village_48 : decode cX8_village 48 = .ok (.sipush 223, 3) := by decide +kernel
theorem dX8_village_51 : decode cX8_village 51 = .ok (.aload_n 0, 1) := by decide +kernel
theorem dX8_village_52 : decode cX8_village 52 = .ok (.getfield 84, 3) := by decide +kernel
theorem dX8_village_55 : decode cX8_village 55 = .ok (.iadd, 1) := by decide +kernel
theorem dX8_village_56 : decode cX8_village 56 = .ok (.bipush 18, 2) := by decide +kernel
theorem dX8_village_58 : decode cX8_village 58 = .ok (.iastore, 1) := by decide +kernel
theorem dX8_village_59 : decode cX8_village 59 = .ok (.aload_n 0, 1) := by decide +kernel
theorem dX8_village_60 : decode cX8_village 60 = .ok (.getfield 9, 3) := by decide +kernel
theorem dX8_village_63 : decode cX8_village 63 = .ok (.sipush 228, 3) := by decide +kernel
theorem dX8_village_66 : decode cX8_village 66 = .ok (.aload_n 0, 1) := by decide +kernel
theorem dX8_village_67 : decode cX8_village 67 = .ok (.getfield 84, 3) := by decide +kernel
theorem dX8_village_70 : decode cX8_village 70 = .ok (.iadd, 1) := by decide +kernel
theorem dX8_village_71 : decode cX8_village 71 = .ok (.bipush 60, 2) := by decide +kernel
theorem dX8_village_73 : decode cX8_village 73 = .ok (.iastore, 1) := by decide +kernel
theorem dX8_village_74 : decode cX8_village 74 = .ok (.aload_n 0, 1) := by decide +kernel
theorem dX8_village_75 : decode cX8_village 75 = .ok (.getfield 9, 3) := by decide +kernel
theorem dX8_village_78 : decode cX8_village 78 = .ok (.sipush 233, 3) := by decide +kernel
theorem dX8_village_81 : decode cX8_village 81 = .ok (.aload_n 0, 1) := by decide +kernel
theorem dX8_village_82 : decode cX8_village 82 = .ok (.getfield 84, 3) := by decide +kernel
theorem dX8_village_85 : decode cX8_village 85 = .ok (.iadd, 1) := by decide +kernel
theorem dX8_village_86 : decode cX8_village 86 = .ok (.iconst 0, 1) := by decide +kernel
theorem dX8_village_87 : decode cX8_village 87 = .ok (.iastore, 1) := by decide +kernel
theorem dX8_village_88 : decode cX8_village 88 = .ok (.aload_n 0, 1) := by decide +kernel
theorem dX8_village_89 : decode cX8_village 89 = .ok (.iconst 0, 1) := by decide +kernel
theorem dX8_village_90 : decode cX8_village 90 = .ok (.putfield 57, 3) := by decide +kernel
theorem dX8_village_93 : decode cX8_village 93 = .ok (.aload_n 0, 1) := by decide +kernel
theorem dX8_village_94 : decode cX8_village 94 = .ok (.iconst 0, 1) := by decide +kernel
theorem dX8_village_95 : decode cX8_village 95 = .ok (.putfield 63, 3) := by decide +kernel
theorem dX8_village_98 : decode cX8_village 98 = .ok (.aload_n 0, 1) := by decide +kernel
theorem dX8_village_99 : decode cX8_village 99 = .ok (.iconst 0, 1) := by decide +kernel
theorem dX8_village_100 : decode cX8_village 100 = .ok (.putfield 87, 3) := by decide +kernel
theorem dX8_village_103 : decode cX8_village 103 = .ok (.iconst 1, 1) := by decide +kernel
theorem dX8_village_104 : decode cX8_village 104 = .ok (.istore_n 1, 1) := by decide +kernel
theorem dX8_village_105 : decode cX8_village 105 = .ok (.aload_n 0, 1) := by decide +kernel
theorem dX8_village_106 : decode cX8_village 106 = .ok (.invokevirtual 132, 3) := by decide +kernel
theorem dX8_village_109 : decode cX8_village 109 = .ok (.aload_n 0, 1) := by decide +kernel
theorem dX8_village_110 : decode cX8_village 110 = .ok (.getfield 63, 3) := by decide +kernel
theorem dX8_village_113 : decode cX8_village 113 = .ok (.ifCond .ne 38, 3) := by decide +kernel
theorem dX8_village_116 : decode cX8_village 116 = .ok (.iload_n 1, 1) := by decide +kernel
theorem dX8_village_117 : decode cX8_village 117 = .ok (.bipush 10, 2) := by decide +kernel
theorem dX8_village_119 : decode cX8_village 119 = .ok (.if_icmp .ge 32, 3) := by decide +kernel
theorem dX8_village_122 : decode cX8_village 122 = .ok (.aload_n 0, 1) := by decide +kernel
theorem dX8_village_123 : decode cX8_village 123 = .ok (.invokevirtual 67, 3) := by decide +kernel
theorem dX8_village_126 : decode cX8_village 126 = .ok (.bipush 59, 2) := by decide +kernel
theorem dX8_village_128 : decode cX8_village 128 = .ok (.if_icmp .ne 23, 3) := by decide +kernel
theorem dX8_village_131 : decode cX8_village 131 = .ok (.aload_n 0, 1) := by decide +kernel
theorem dX8_village_132 : decode cX8_village 132 = .ok (.dup, 1) := by decide +kernel
theorem dX8_village_133 : decode cX8_village 133 = .ok (.getfield 57, 3) := by decide +kernel
theorem dX8_village_136 : decode cX8_village 136 = .ok (.iconst 1, 1) := by decide +kernel
theorem dX8_village_137 : decode cX8_village 137 = .ok (.iadd, 1) := by decide +kernel
theorem dX8_village_138 : decode cX8_village 138 = .ok (.putfield 57, 3) := by decide +kernel
theorem dX8_village_141 : decode cX8_village 141 = .ok (.aload_n 0, 1) := by decide +kernel
theorem dX8_village_142 : decode cX8_village 142 = .ok (.invokevirtual 132, 3) := by decide +kernel
theorem dX8_village_145 : decode cX8_village 145 = .ok (.iinc 1 1, 3) := by decide +kernel
theorem dX8_village_148 : decode cX8_village 148 = .ok (.goto (-39), 3) := by decide +kernel
theorem dX8_village_151 : decode cX8_village 151 = .ok (.aload_n 0, 1) := by decide +kernel
theorem dX8_village_152 : decode cX8_village 152 = .ok (.getfield 63, 3) := by decide +kernel
theorem dX8_village_155 : decode cX8_village 155 = .ok (.ifCond .ne 14, 3) := by decide +kernel
theorem dX8_village_158 : decode cX8_village 158 = .ok (.aload_n 0, 1) := by decide +kernel
theorem dX8_village_159 : decode cX8_village 159 = .ok (.getfield 57, 3) := by decide +kernel
theorem dX8_village_162 : decode cX8_village 162 = .ok (.aload_n 0, 1) := by decide +kernel
theorem dX8_village_163 : decode cX8_village 163 = .ok (.getfield 60, 3) := by decide +kernel
theorem dX8_village_166 : decode cX8_village 166 = .ok (.if_icmp .eq 11, 3) := by decide +kernel
theorem dX8_village_169 : decode cX8_village 169 = .ok (.bipush (-10), 2) := by decide +kernel
theorem dX8_village_171 : decode cX8_village 171 = .ok (.aload_n 0, 1) := by decide +kernel
theorem dX8_village_172 : decode cX8_village 172 = .ok (.getfield 57, 3) := by decide +kernel
theorem dX8_village_175 : decode cX8_village 175 = .ok (.isub, 1) := by decide +kernel
theorem dX8_village_176 : decode cX8_village 176 = .ok (.ireturn, 1) := by decide +kernel
theorem dX8_village_177 : decode cX8_village 177 = .ok (.aload_n 0, 1) := by decide +kernel
theorem dX8_village_178 : decode cX8_village 178 = .ok (.getfield 9, 3) := by decide +kernel
theorem dX8_village_181 : decode cX8_village 181 = .ok (.bipush 13, 2) := by decide +kernel
theorem dX8_village_183 : decode cX8_village 183 = .ok (.dup2, 1) := by decide +kernel
theorem dX8_village_184 : decode cX8_village 184 = .ok (.iaload, 1) := by decide +kernel
theorem dX8_village_185 : decode cX8_village 185 = .ok (.iconst 1, 1) := by decide +kernel
theorem dX8_village_186 : decode cX8_village 186 = .ok (.iadd, 1) := by decide +kernel
theorem dX8_village_187 : decode cX8_village 187 = .ok (.iastore, 1) := by decide +kernel
theorem dX8_village_188 : decode cX8_village 188 = .ok (.aload_n 0, 1) := by decide +kernel
theorem dX8_village_189 : decode cX8_village 189 = .ok (.getfield 9, 3) := by decide +kernel
theorem dX8_village_192 : decode cX8_village 192 = .ok (.bipush 18, 2) := by decide +kernel
theorem dX8_village_194 : decode cX8_village 194 = .ok (.aload_n 0, 1) := by decide +kernel
theorem dX8_village_195 : decode cX8_village 195 = .ok (.getfield 84, 3) := by decide +kernel
theorem dX8_village_198 : decode cX8_village 198 = .ok (.iastore, 1) := by decide +kernel
theorem dX8_village_199 : decode cX8_village 199 = .ok (.aload_n 0, 1) := by decide +kernel
theorem dX8_village_200 : decode cX8_village 200 = .ok (.getfield 84, 3) := by decide +kernel
theorem dX8_village_203 : decode cX8_village 203 = .ok (.ireturn, 1) := by decide +kernel
theorem dX8_tellsOf_0 : decode cX8_tellsOf 0 = .ok (.aload_n 0, 1) := by decide +kernel
theorem dX8_tellsOf_1 : decode cX8_tellsOf 1 = .ok (.getfield 9, 3) := by decide +kernel
theorem dX8_tellsOf_4 : decode cX8_tellsOf 4 = .ok (.bipush 18, 2) := by decide +kernel
theorem dX8_tellsOf_6 : decode cX8_tellsOf 6 = .ok (.iaload, 1) := by decide +kernel
theorem dX8_tellsOf_7 : decode cX8_tellsOf 7 = .ok (.iconst (-1), 1) := by decide +kernel
theorem dX8_tellsOf_8 : decode cX8_tellsOf 8 = .ok (.if_icmp .ne 7, 3) := by decide +kernel
theorem dX8_tellsOf_11 : decode cX8_tellsOf 11 = .ok (.iload_n 2, 1) := by decide +kernel
theorem dX8_tellsOf_12 : decode cX8_tellsOf 12 = .ok (.goto 17, 3) := by decide +kernel
theorem dX8_tellsOf_15 : decode cX8_tellsOf 15 = .ok (.aload_n 0, 1) := by decide +kernel
theorem dX8_tellsOf_16 : decode cX8_tellsOf 16 = .ok (.getfield 9, 3) := by decide +kernel
theorem dX8_tellsOf_19 : decode cX8_tellsOf 19 = .ok (.iload_n 1, 1) := by decide +kernel
theorem dX8_tellsOf_20 : decode cX8_tellsOf 20 = .ok (.aload_n 0, 1) := by decide +kernel
theorem dX8_tellsOf_21 : decode cX8_tellsOf 21 = .ok (.getfield 9, 3) := by decide +kernel
theorem dX8_tellsOf_24 : decode cX8_tellsOf 24 = .ok (.bipush 18, 2) := by decide +kernel
theorem dX8_tellsOf_26 : decode cX8_tellsOf 26 = .ok (.iaload, 1) := by decide +kernel
theorem dX8_tellsOf_27 : decode cX8_tellsOf 27 = .ok (.iadd, 1) := by decide +kernel
theorem dX8_tellsOf_28 : decode cX8_tellsOf 28 = .ok (.iaload, 1) := by decide +kernel
theorem dX8_tellsOf_29 : decode cX8_tellsOf 29 = .ok (.ireturn, 1) := by decide +kernel
theorem dX8_ageIn_0 : decode cX8_ageIn 0 = .ok (.aload_n 0, 1) := by decide +kernel
theorem dX8_ageIn_1 : decode cX8_ageIn 1 = .ok (.getfield 9, 3) := by decide +kernel
theorem dX8_ageIn_4 : decode cX8_ageIn 4 = .ok (.bipush 32, 2) := by decide +kernel
theorem dX8_ageIn_6 : decode cX8_ageIn 6 = .ok (.iload_n 1, 1) := by decide +kernel
theorem dX8_ageIn_7 : decode cX8_ageIn 7 = .ok (.iadd, 1) := by decide +kernel
theorem dX8_ageIn_8 : decode cX8_ageIn 8 = .ok (.iaload, 1) := by decide +kernel
theorem dX8_ageIn_9 : decode cX8_ageIn 9 = .ok (.istore_n 3, 1) := by decide +kernel
theorem dX8_ageIn_10 : decode cX8_ageIn 10 = .ok (.aload_n 0, 1) := by decide +kernel
theorem dX8_ageIn_11 : decode cX8_ageIn 11 = .ok (.getfield 9, 3) := by decide +kernel
theorem dX8_ageIn_14 : decode cX8_ageIn 14 = .ok (.bipush 26, 2) := by decide +kernel
theorem dX8_ageIn_16 : decode cX8_ageIn 16 = .ok (.iload_n 1, 1) := by decide +kernel
theorem dX8_ageIn_17 : decode cX8_ageIn 17 = .ok (.iadd, 1) := by decide +kernel
theorem dX8_ageIn_18 : decode cX8_ageIn 18 = .ok (.iaload, 1) := by decide +kernel
theorem dX8_ageIn_19 : decode cX8_ageIn 19 = .ok (.istore 4, 2) := by decide +kernel
theorem dX8_ageIn_21 : decode cX8_ageIn 21 = .ok (.aload_n 0, 1) := by decide +kernel
theorem dX8_ageIn_22 : decode cX8_ageIn 22 = .ok (.getfield 9, 3) := by decide +kernel
theorem dX8_ageIn_25 : decode cX8_ageIn 25 = .ok (.iconst 0, 1) := by decide +kernel
theorem dX8_ageIn_26 : decode cX8_ageIn 26 = .ok (.iaload, 1) := by decide +kernel
theorem dX8_ageIn_27 : decode cX8_ageIn 27 = .ok (.iload_n 3, 1) := by decide +kernel
theorem dX8_ageIn_28 : decode cX8_ageIn 28 = .ok (.isub, 1) := by decide +kernel
theorem dX8_ageIn_29 : decode cX8_ageIn 29 = .ok (.istore 5, 2) := by decide +kernel
theorem dX8_ageIn_31 : decode cX8_ageIn 31 = .ok (.iload 5, 2) := by decide +kernel
theorem dX8_ageIn_33 : decode cX8_ageIn 33 = .ok (.iload_n 2, 1) := by decide +kernel
theorem dX8_ageIn_34 : decode cX8_ageIn 34 = .ok (.aload_n 0, 1) := by decide +kernel
theorem dX8_ageIn_35 : decode cX8_ageIn 35 = .ok (.getfield 9, 3) := by decide +kernel
theorem dX8_ageIn_38 : decode cX8_ageIn 38 = .ok (.iconst 0, 1) := by decide +kernel
theorem dX8_ageIn_39 : decode cX8_ageIn 39 = .ok (.iaload, 1) := by decide +kernel
theorem dX8_ageIn_40 : decode cX8_ageIn 40 = .ok (.isub, 1) := by decide +kernel
theorem dX8_ageIn_41 : decode cX8_ageIn 41 = .ok (.iconst 2, 1) := by decide +kernel
theorem dX8_ageIn_42 : decode cX8_ageIn 42 = .ok (.idiv, 1) := by decide +kernel
theorem dX8_ageIn_43 : decode cX8_ageIn 43 = .ok (.iadd, 1) := by decide +kernel
theorem dX8_ageIn_44 : decode cX8_ageIn 44 = .ok (.istore 6, 2) := by decide +kernel
theorem dX8_ageIn_46 : decode cX8_ageIn 46 = .ok (.aload_n 0, 1) := by decide +kernel
theorem dX8_ageIn_47 : decode cX8_ageIn 47 = .ok (.getfield 9, 3) := by decide +kernel
theorem dX8_ageIn_50 : decode cX8_ageIn 50 = .ok (.bipush 20, 2) := by decide +kernel
theorem dX8_ageIn_52 : decode cX8_ageIn 52 = .ok (.iload_n 1, 1) := by decide +kernel
theorem dX8_ageIn_53 : decode cX8_ageIn 53 = .ok (.iadd, 1) := by decide +kernel
theorem dX8_ageIn_54 : decode cX8_ageIn 54 = .ok (.iaload, 1) := by decide +kernel
theorem dX8_ageIn_55 : decode cX8_ageIn 55 = .ok (.tableswitch 94 1 6 #[37, 44, 47, 50, 60, 75], 37) := by decide +kernel
theorem dX8_ageIn_92 : decode cX8_ageIn 92 = .ok (.iload_n 2, 1) := by decide +kernel
theorem dX8_ageIn_93 : decode cX8_ageIn 93 = .ok (.iload_n 3, 1) := by decide +kernel
theorem dX8_ageIn_94 : decode cX8_ageIn 94 = .ok (.isub, 1) := by decide +kernel
theorem dX8_ageIn_95 : decode cX8_ageIn 95 = .ok (.iload 4, 2) := by decide +kernel
theorem dX8_ageIn_97 : decode cX8_ageIn 97 = .ok (.isub, 1) := by decide +kernel
theorem dX8_ageIn_98 : decode cX8_ageIn 98 = .ok (.ireturn, 1) := by decide +kernel
theorem dX8_ageIn_99 : decode cX8_ageIn 99 = .ok (.iload 6, 2) := by decide +kernel
theorem dX8_ageIn_101 : decode cX8_ageIn 101 = .ok (.ireturn, 1) := by decide +kernel
theorem dX8_ageIn_102 : decode cX8_ageIn 102 = .ok (.iload 5, 2) := by decide +kernel
theorem dX8_ageIn_104 : decode cX8_ageIn 104 = .ok (.ireturn, 1) := by decide +kernel
theorem dX8_ageIn_105 : decode cX8_ageIn 105 = .ok (.iload_n 2, 1) := by decide +kernel
theorem dX8_ageIn_106 : decode cX8_ageIn 106 = .ok (.iload_n 3, 1) := by decide +kernel
theorem dX8_ageIn_107 : decode cX8_ageIn 107 = .ok (.isub, 1) := by decide +kernel
theorem dX8_ageIn_108 : decode cX8_ageIn 108 = .ok (.iload 4, 2) := by decide +kernel
theorem dX8_ageIn_110 : decode cX8_ageIn 110 = .ok (.isub, 1) := by decide +kernel
theorem dX8_ageIn_111 : decode cX8_ageIn 111 = .ok (.iload 4, 2) := by decide +kernel
theorem dX8_ageIn_113 : decode cX8_ageIn 113 = .ok (.isub, 1) := by decide +kernel
theorem dX8_ageIn_114 : decode cX8_ageIn 114 = .ok (.ireturn, 1) := by decide +kernel
theorem dX8_ageIn_115 : decode cX8_ageIn 115 = .ok (.iload 6, 2) := by decide +kernel
theorem dX8_ageIn_117 : decode cX8_ageIn 117 = .ok (.iload 5, 2) := by decide +kernel
theorem dX8_ageIn_119 : decode cX8_ageIn 119 = .ok (.if_icmp .ge 8, 3) := by decide +kernel
theorem dX8_ageIn_122 : decode cX8_ageIn 122 = .ok (.iload 6, 2) := by decide +kernel
theorem dX8_ageIn_124 : decode cX8_ageIn 124 = .ok (.goto 5, 3) := by decide +kernel
theorem dX8_ageIn_127 : decode cX8_ageIn 127 = .ok (.iload 5, 2) := by decide +kernel
theorem dX8_ageIn_129 : decode cX8_ageIn 129 = .ok (.ireturn, 1) := by decide +kernel
theorem dX8_ageIn_130 : decode cX8_ageIn 130 = .ok (.iload 5, 2) := by decide +kernel
theorem dX8_ageIn_132 : decode cX8_ageIn 132 = .ok (.aload_n 0, 1) := by decide +kernel
theorem dX8_ageIn_133 : decode cX8_ageIn 133 = .ok (.getfield 9, 3) := by decide +kernel
theorem dX8_ageIn_136 : decode cX8_ageIn 136 = .ok (.bipush 44, 2) := by decide +kernel
theorem dX8_ageIn_138 : decode cX8_ageIn 138 = .ok (.iconst 4, 1) := by decide +kernel
theorem dX8_ageIn_139 : decode cX8_ageIn 139 = .ok (.iload_n 1, 1) := by decide +kernel
theorem dX8_ageIn_140 : decode cX8_ageIn 140 = .ok (.imul, 1) := by decide +kernel
theorem dX8_ageIn_141 : decode cX8_ageIn 141 = .ok (.iadd, 1) := by decide +kernel
theorem dX8_ageIn_142 : decode cX8_ageIn 142 = .ok (.iload_n 2, 1) := by decide +kernel
theorem dX8_ageIn_143 : decode cX8_ageIn 143 = .ok (.iconst 4, 1) := by decide +kernel
theorem dX8_ageIn_144 : decode cX8_ageIn 144 = .ok (.irem, 1) := by decide +kernel
theorem dX8_ageIn_145 : decode cX8_ageIn 145 = .ok (.iadd, 1) := by decide +kernel
theorem dX8_ageIn_146 : decode cX8_ageIn 146 = .ok (.iaload, 1) := by decide +kernel
theorem dX8_ageIn_147 : decode cX8_ageIn 147 = .ok (.isub, 1) := by decide +kernel
theorem dX8_ageIn_148 : decode cX8_ageIn 148 = .ok (.ireturn, 1) := by decide +kernel
theorem dX8_ageIn_149 : decode cX8_ageIn 149 = .ok (.iload_n 2, 1) := by decide +kernel
theorem dX8_ageIn_150 : decode cX8_ageIn 150 = .ok (.iload_n 3, 1) := by decide +kernel
theorem dX8_ageIn_151 : decode cX8_ageIn 151 = .ok (.isub, 1) := by decide +kernel
theorem dX8_ageIn_152 : decode cX8_ageIn 152 = .ok (.ireturn, 1) := by decide +kernel
theorem dX8_ageBy_0 : decode cX8_ageBy 0 = .ok (.iload_n 2, 1) := by decide +kernel
theorem dX8_ageBy_1 : decode cX8_ageBy 1 = .ok (.iconst (-1), 1) := by decide +kernel
theorem dX8_ageBy_2 : decode cX8_ageBy 2 = .ok (.if_icmp .ne 22, 3) := by decide +kernel
theorem dX8_ageBy_5 : decode cX8_ageBy 5 = .ok (.aload_n 0, 1) := by decide +kernel
theorem dX8_ageBy_6 : decode cX8_ageBy 6 = .ok (.getfield 9, 3) := by decide +kernel
theorem dX8_ageBy_9 : decode cX8_ageBy 9 = .ok (.iconst 0, 1) := by decide +kernel
theorem dX8_ageBy_10 : decode cX8_ageBy 10 = .ok (.iaload, 1) := by decide +kernel
theorem dX8_ageBy_11 : decode cX8_ageBy 11 = .ok (.aload_n 0, 1) := by decide +kernel
theorem dX8_ageBy_12 : decode cX8_ageBy 12 = .ok (.getfield 9, 3) := by decide +kernel
theorem dX8_ageBy_15 : decode cX8_ageBy 15 = .ok (.bipush 32, 2) := by decide +kernel
theorem dX8_ageBy_17 : decode cX8_ageBy 17 = .ok (.iload_n 1, 1) := by decide +kernel
theorem dX8_ageBy_18 : decode cX8_ageBy 18 = .ok (.iadd, 1) := by decide +kernel
theorem dX8_ageBy_19 : decode cX8_ageBy 19 = .ok (.iaload, 1) := by decide +kernel
theorem dX8_ageBy_20 : decode cX8_ageBy 20 = .ok (.isub, 1) := by decide +kernel
theorem dX8_ageBy_21 : decode cX8_ageBy 21 = .ok (.goto 17, 3) := by decide +kernel
theorem dX8_ageBy_24 : decode cX8_ageBy 24 = .ok (.aload_n 0, 1) := by decide +kernel
theorem dX8_ageBy_25 : decode cX8_ageBy 25 = .ok (.iload_n 1, 1) := by decide +kernel
theorem dX8_ageBy_26 : decode cX8_ageBy 26 = .ok (.aload_n 0, 1) := by decide +kernel
theorem dX8_ageBy_27 : decode cX8_ageBy 27 = .ok (.getfield 9, 3) := by decide +kernel
theorem dX8_ageBy_30 : decode cX8_ageBy 30 = .ok (.bipush 68, 2) := by decide +kernel
theorem dX8_ageBy_32 : decode cX8_ageBy 32 = .ok (.iload_n 2, 1) := by decide +kernel
theorem dX8_ageBy_33 : decode cX8_ageBy 33 = .ok (.iadd, 1) := by decide +kernel
theorem dX8_ageBy_34 : decode cX8_ageBy 34 = .ok (.iaload, 1) := by decide +kernel
theorem dX8_ageBy_35 : decode cX8_ageBy 35 = .ok (.invokevirtual 135, 3) := by decide +kernel
theorem dX8_ageBy_38 : decode cX8_ageBy 38 = .ok (.ireturn, 1) := by decide +kernel
theorem dX8_isHereAt_0 : decode cX8_isHereAt 0 = .ok (.iload_n 2, 1) := by decide +kernel
theorem dX8_isHereAt_1 : decode cX8_isHereAt 1 = .ok (.iconst 0, 1) := by decide +kernel
theorem dX8_isHereAt_2 : decode cX8_isHereAt 2 = .ok (.aload_n 0, 1) := by decide +kernel
theorem dX8_isHereAt_3 : decode cX8_isHereAt 3 = .ok (.getfield 9, 3) := by decide +kernel
theorem dX8_isHereAt_6 : decode cX8_isHereAt 6 = .ok (.bipush 38, 2) := by decide +kernel
theorem dX8_isHereAt_8 : decode cX8_isHereAt 8 = .ok (.iload_n 1, 1) := by decide +kernel
theorem dX8_isHereAt_9 : decode cX8_isHereAt 9 = .ok (.iadd, 1) := by decide +kernel
theorem dX8_isHereAt_10 : decode cX8_isHereAt 10 = .ok (.iaload, 1) := by decide +kernel
theorem dX8_isHereAt_11 : decode cX8_isHereAt 11 = .ok (.invokestatic 53, 3) := by decide +kernel
theorem dX8_isHereAt_14 : decode cX8_isHereAt 14 = .ok (.ireturn, 1) := by decide +kernel
theorem dX8_stageAt_0 : decode cX8_stageAt 0 = .ok (.aload_n 0, 1) := by decide +kernel
theorem dX8_stageAt_1 : decode cX8_stageAt 1 = .ok (.iload_n 1, 1) := by decide +kernel
theorem dX8_stageAt_2 : decode cX8_stageAt 2 = .ok (.iload_n 2, 1) := by decide +kernel
theorem dX8_stageAt_3 : decode cX8_stageAt 3 = .ok (.invokevirtual 139, 3) := by decide +kernel
theorem dX8_stageAt_6 : decode cX8_stageAt 6 = .ok (.ifCond .ne 7, 3) := by decide +kernel
theorem dX8_stageAt_9 : decode cX8_stageAt 9 = .ok (.iconst 0, 1) := by decide +kernel
theorem dX8_stageAt_10 : decode cX8_stageAt 10 = .ok (.goto 38, 3) := by decide +kernel
theorem dX8_stageAt_13 : decode cX8_stageAt 13 = .ok (.iload_n 2, 1) := by decide +kernel
theorem dX8_stageAt_14 : decode cX8_stageAt 14 = .ok (.aload_n 0, 1) := by decide +kernel
theorem dX8_stageAt_15 : decode cX8_stageAt 15 = .ok (.sipush 223, 3) := by decide +kernel
theorem dX8_stageAt_18 : decode cX8_stageAt 18 = .ok (.bipush 18, 2) := by decide +kernel
theorem dX8_stageAt_20 : decode cX8_stageAt 20 = .ok (.invokevirtual 143, 3) := by decide +kernel
theorem dX8_stageAt_23 : decode cX8_stageAt 23 = .ok (.if_icmp .ge 7, 3) := by decide +kernel
theorem dX8_stageAt_26 : decode cX8_stageAt 26 = .ok (.iconst 1, 1) := by decide +kernel
theorem dX8_stageAt_27 : decode cX8_stageAt 27 = .ok (.goto 21, 3) := by decide +kernel
theorem dX8_stageAt_30 : decode cX8_stageAt 30 = .ok (.iload_n 2, 1) := by decide +kernel
theorem dX8_stageAt_31 : decode cX8_stageAt 31 = .ok (.aload_n 0, 1) := by decide +kernel
theorem dX8_stageAt_32 : decode cX8_stageAt 32 = .ok (.sipush 228, 3) := by decide +kernel
theorem dX8_stageAt_35 : decode cX8_stageAt 35 = .ok (.bipush 60, 2) := by decide +kernel
theorem dX8_stageAt_37 : decode cX8_stageAt 37 = .ok (.invokevirtual 143, 3) := by decide +kernel
theorem dX8_stageAt_40 : decode cX8_stageAt 40 = .ok (.if_icmp .lt 7, 3) := by decide +kernel
theorem dX8_stageAt_43 : decode cX8_stageAt 43 = .ok (.iconst 3, 1) := by decide +kernel
theorem dX8_stageAt_44 : decode cX8_stageAt 44 = .ok (.goto 4, 3) := by decide +kernel
theorem dX8_stageAt_47 : decode cX8_stageAt 47 = .ok (.iconst 2, 1) := by decide +kernel
theorem dX8_stageAt_48 : decode cX8_stageAt 48 = .ok (.ireturn, 1) := by decide +kernel
theorem dX8_looks_0 : decode cX8_looks 0 = .ok (.aload_n 0, 1) := by decide +kernel
theorem dX8_looks_1 : decode cX8_looks 1 = .ok (.iload_n 1, 1) := by decide +kernel
theorem dX8_looks_2 : decode cX8_looks 2 = .ok (.iload_n 2, 1) := by decide +kernel
theorem dX8_looks_3 : decode cX8_looks 3 = .ok (.invokevirtual 146, 3) := by decide +kernel
theorem dX8_looks_6 : decode cX8_looks 6 = .ok (.istore_n 3, 1) := by decide +kernel
theorem dX8_looks_7 : decode cX8_looks 7 = .ok (.aload_n 0, 1) := by decide +kernel
theorem dX8_looks_8 : decode cX8_looks 8 = .ok (.getfield 21, 3) := by decide +kernel
theorem dX8_looks_11 : decode cX8_looks 11 = .ok (.iconst 0, 1) := by decide +kernel
theorem dX8_looks_12 : decode cX8_looks 12 = .ok (.iload_n 1, 1) := by decide +kernel
theorem dX8_looks_13 : decode cX8_looks 13 = .ok (.iastore, 1) := by decide +kernel
theorem dX8_looks_14 : decode cX8_looks 14 = .ok (.aload_n 0, 1) := by decide +kernel
theorem dX8_looks_15 : decode cX8_looks 15 = .ok (.getfield 21, 3) := by decide +kernel
theorem dX8_looks_18 : decode cX8_looks 18 = .ok (.iconst 1, 1) := by decide +kernel
theorem dX8_looks_19 : decode cX8_looks 19 = .ok (.aload_n 0, 1) := by decide +kernel
theorem dX8_looks_20 : decode cX8_looks 20 = .ok (.getfield 9, 3) := by decide +kernel
theorem dX8_looks_23 : decode cX8_looks 23 = .ok (.bipush 20, 2) := by decide +kernel
theorem dX8_looks_25 : decode cX8_looks 25 = .ok (.iload_n 1, 1) := by decide +kernel
theorem dX8_looks_26 : decode cX8_looks 26 = .ok (.iadd, 1) := by decide +kernel
theorem dX8_looks_27 : decode cX8_looks 27 = .ok (.iaload, 1) := by decide +kernel
theorem dX8_looks_28 : decode cX8_looks 28 = .ok (.iastore, 1) := by decide +kernel
theorem dX8_looks_29 : decode cX8_looks 29 = .ok (.aload_n 0, 1) := by decide +kernel
theorem dX8_looks_30 : decode cX8_looks 30 = .ok (.getfield 21, 3) := by decide +kernel
theorem dX8_looks_33 : decode cX8_looks 33 = .ok (.iconst 2, 1) := by decide +kernel
theorem dX8_looks_34 : decode cX8_looks 34 = .ok (.aload_n 0, 1) := by decide +kernel
theorem dX8_looks_35 : decode cX8_looks 35 = .ok (.getfield 9, 3) := by decide +kernel
theorem dX8_looks_38 : decode cX8_looks 38 = .ok (.bipush 26, 2) := by decide +kernel
theorem dX8_looks_40 : decode cX8_looks 40 = .ok (.iload_n 1, 1) := by decide +kernel
theorem dX8_looks_41 : decode cX8_looks 41 = .ok (.iadd, 1) := by decide +kernel
theorem dX8_looks_42 : decode cX8_looks 42 = .ok (.iaload, 1) := by decide +kernel
theorem dX8_looks_43 : decode cX8_looks 43 = .ok (.iastore, 1) := by decide +kernel
theorem dX8_looks_44 : decode cX8_looks 44 = .ok (.aload_n 0, 1) := by decide +kernel
theorem dX8_looks_45 : decode cX8_looks 45 = .ok (.getfield 21, 3) := by decide +kernel
theorem dX8_looks_48 : decode cX8_looks 48 = .ok (.iconst 3, 1) := by decide +kernel
theorem dX8_looks_49 : decode cX8_looks 49 = .ok (.iload_n 3, 1) := by decide +kernel
theorem dX8_looks_50 : decode cX8_looks 50 = .ok (.ifCond .ge 7, 3) := by decide +kernel
theorem dX8_looks_53 : decode cX8_looks 53 = .ok (.iconst 0, 1) := by decide +kernel
theorem dX8_looks_54 : decode cX8_looks 54 = .ok (.goto 7, 3) := by decide +kernel
theorem dX8_looks_57 : decode cX8_looks 57 = .ok (.iload_n 3, 1) := by decide +kernel
theorem dX8_looks_58 : decode cX8_looks 58 = .ok (.bipush 10, 2) := by decide +kernel
theorem dX8_looks_60 : decode cX8_looks 60 = .ok (.idiv, 1) := by decide +kernel
theorem dX8_looks_61 : decode cX8_looks 61 = .ok (.iastore, 1) := by decide +kernel
theorem dX8_looks_62 : decode cX8_looks 62 = .ok (.aload_n 0, 1) := by decide +kernel
theorem dX8_looks_63 : decode cX8_looks 63 = .ok (.getfield 21, 3) := by decide +kernel
theorem dX8_looks_66 : decode cX8_looks 66 = .ok (.iconst 4, 1) := by decide +kernel
theorem dX8_looks_67 : decode cX8_looks 67 = .ok (.aload_n 0, 1) := by decide +kernel
theorem dX8_looks_68 : decode cX8_looks 68 = .ok (.iload_n 1, 1) := by decide +kernel
theorem dX8_looks_69 : decode cX8_looks 69 = .ok (.iload_n 3, 1) := by decide +kernel
theorem dX8_looks_70 : decode cX8_looks 70 = .ok (.invokevirtual 149, 3) := by decide +kernel
theorem dX8_looks_73 : decode cX8_looks 73 = .ok (.iastore, 1) := by decide +kernel
theorem dX8_looks_74 : decode cX8_looks 74 = .ok (.aload_n 0, 1) := by decide +kernel
theorem dX8_looks_75 : decode cX8_looks 75 = .ok (.getfield 21, 3) := by decide +kernel
theorem dX8_looks_78 : decode cX8_looks 78 = .ok (.iconst 5, 1) := by decide +kernel
theorem dX8_looks_79 : decode cX8_looks 79 = .ok (.iload_n 2, 1) := by decide +kernel
theorem dX8_looks_80 : decode cX8_looks 80 = .ok (.iconst (-1), 1) := by decide +kernel
theorem dX8_looks_81 : decode cX8_looks 81 = .ok (.if_icmp .ne 8, 3) := by decide +kernel
theorem dX8_looks_84 : decode cX8_looks 84 = .ok (.bipush 9, 2) := by decide +kernel
theorem dX8_looks_86 : decode cX8_looks 86 = .ok (.goto 4, 3) := by decide +kernel
theorem dX8_looks_89 : decode cX8_looks 89 = .ok (.iload_n 2, 1) := by decide +kernel
theorem dX8_looks_90 : decode cX8_looks 90 = .ok (.iastore, 1) := by decide +kernel
theorem dX8_looks_91 : decode cX8_looks 91 = .ok (.iconst 0, 1) := by decide +kernel
theorem dX8_looks_92 : decode cX8_looks 92 = .ok (.istore 4, 2) := by decide +kernel
theorem dX8_looks_94 : decode cX8_looks 94 = .ok (.aload_n 0, 1) := by decide +kernel
theorem dX8_looks_95 : decode cX8_looks 95 = .ok (.sipush 233, 3) := by decide +kernel
theorem dX8_looks_98 : decode cX8_looks 98 = .ok (.iconst 0, 1) := by decide +kernel
theorem dX8_looks_99 : decode cX8_looks 99 = .ok (.invokevirtual 143, 3) := by decide +kernel
theorem dX8_looks_102 : decode cX8_looks 102 = .ok (.istore 5, 2) := by decide +kernel
theorem dX8_looks_104 : decode cX8_looks 104 = .ok (.sipush 238, 3) := by decide +kernel
theorem dX8_looks_107 : decode cX8_looks 107 = .ok (.sipush 140, 3) := by decide +kernel
theorem dX8_looks_110 : decode cX8_looks 110 = .ok (.aload_n 0, 1) := by decide +kernel
theorem dX8_looks_111 : decode cX8_looks 111 = .ok (.getfield 9, 3) := by decide +kernel
theorem dX8_looks_114 : decode cX8_looks 114 = .ok (.bipush 18, 2) := by decide +kernel
theorem dX8_looks_116 : decode cX8_looks 116 = .ok (.iaload, 1) := by decide +kernel
theorem dX8_looks_117 : decode cX8_looks 117 = .ok (.imul, 1) := by decide +kernel
theorem dX8_looks_118 : decode cX8_looks 118 = .ok (.iadd, 1) := by decide +kernel
theorem dX8_looks_119 : decode cX8_looks 119 = .ok (.istore 6, 2) := by decide +kernel
theorem dX8_looks_121 : decode cX8_looks 121 = .ok (.iconst 0, 1) := by decide +kernel
theorem dX8_looks_122 : decode cX8_looks 122 = .ok (.istore 7, 2) := by decide +kernel
theorem dX8_looks_124 : decode cX8_looks 124 = .ok (.iload 6, 2) := by decide +kernel
theorem dX8_looks_126 : decode cX8_looks 126 = .ok (.istore 8, 2) := by decide +kernel
theorem dX8_looks_128 : decode cX8_looks 128 = .ok (.iload 8, 2) := by decide +kernel
theorem dX8_looks_130 : decode cX8_looks 130 = .ok (.iload 6, 2) := by decide +kernel
theorem dX8_looks_132 : decode cX8_looks 132 = .ok (.iload 5, 2) := by decide +kernel
theorem dX8_looks_134 : decode cX8_looks 134 = .ok (.iadd, 1) := by decide +kernel
theorem dX8_looks_135 : decode cX8_looks 135 = .ok (.if_icmp .ge 304, 3) := by decide +kernel
theorem dX8_looks_138 : decode cX8_looks 138 = .ok (.aload_n 0, 1) := by decide +kernel
theorem dX8_looks_139 : decode cX8_looks 139 = .ok (.getfield 9, 3) := by decide +kernel
theorem dX8_looks_142 : decode cX8_looks 142 = .ok (.iload 8, 2) := by decide +kernel
theorem dX8_looks_144 : decode cX8_looks 144 = .ok (.iaload, 1) := by decide +kernel
theorem dX8_looks_145 : decode cX8_looks 145 = .ok (.istore 9, 2) := by decide +kernel
theorem dX8_looks_147 : decode cX8_looks 147 = .ok (.iload 9, 2) := by decide +kernel
theorem dX8_looks_149 : decode cX8_looks 149 = .ok (.ifCond .lt 97, 3) := by decide +kernel
theorem dX8_looks_152 : decode cX8_looks 152 = .ok (.aload_n 0, 1) := by decide +kernel
theorem dX8_looks_153 : decode cX8_looks 153 = .ok (.getfield 21, 3) := by decide +kernel
theorem dX8_looks_156 : decode cX8_looks 156 = .ok (.iload 9, 2) := by decide +kernel
theorem dX8_looks_158 : decode cX8_looks 158 = .ok (.bipush 8, 2) := by decide +kernel
theorem dX8_looks_160 : decode cX8_looks 160 = .ok (.irem, 1) := by decide +kernel
theorem dX8_looks_161 : decode cX8_looks 161 = .ok (.iaload, 1) := by decide +kernel
theorem dX8_looks_162 : decode cX8_looks 162 = .ok (.istore 10, 2) := by decide +kernel
theorem dX8_looks_164 : decode cX8_looks 164 = .ok (.iload 9, 2) := by decide +kernel
theorem dX8_looks_166 : decode cX8_looks 166 = .ok (.bipush 8, 2) := by decide +kernel
theorem dX8_looks_168 : decode cX8_looks 168 = .ok (.idiv, 1) := by decide +kernel
theorem dX8_looks_169 : decode cX8_looks 169 = .ok (.iconst 4, 1) := by decide +kernel
theorem dX8_looks_170 : decode cX8_looks 170 = .ok (.irem, 1) := by decide +kernel
theorem dX8_looks_171 : decode cX8_looks 171 = .ok (.istore 11, 2) := by decide +kernel
theorem dX8_looks_173 : decode cX8_looks 173 = .ok (.iload 9, 2) := by decide +kernel
theorem dX8_looks_175 : decode cX8_looks 175 = .ok (.bipush 32, 2) := by decide +kernel
theorem dX8_looks_177 : decode cX8_looks 177 = .ok (.idiv, 1) := by decide +kernel
theorem dX8_looks_178 : decode cX8_looks 178 = .ok (.istore 12, 2) := by decide +kernel
theorem dX8_looks_180 : decode cX8_looks 180 = .ok (.aload_n 0, 1) := by decide +kernel
theorem dX8_looks_181 : decode cX8_looks 181 = .ok (.getfield 24, 3) := by decide +kernel
theorem dX8_looks_184 : decode cX8_looks 184 = .ok (.iload 7, 2) := by decide +kernel
theorem dX8_looks_186 : decode cX8_looks 186 = .ok (.iload 11, 2) := by decide +kernel
theorem dX8_looks_188 : decode cX8_looks 188 = .ok (.ifCond .ne 18, 3) := by decide +kernel
theorem dX8_looks_191 : decode cX8_looks 191 = .ok (.iload 10, 2) := by decide +kernel
theorem dX8_looks_193 : decode cX8_looks 193 = .ok (.iload 12, 2) := by decide +kernel
theorem dX8_looks_195 : decode cX8_looks 195 = .ok (.if_icmp .ge 7, 3) := by decide +kernel
theorem dX8_looks_198 : decode cX8_looks 198 = .ok (.iconst 1, 1) := by decide +kernel
theorem dX8_looks_199 : decode cX8_looks 199 = .ok (.goto 40, 3) := by decide +kernel
theorem dX8_looks_202 : decode cX8_looks 202 = .ok (.iconst 0, 1) := by decide +kernel
theorem dX8_looks_203 : decode cX8_looks 203 = .ok (.goto 36, 3) := by decide +kernel
theorem dX8_looks_206 : decode cX8_looks 206 = .ok (.iload 11, 2) := by decide +kernel
theorem dX8_looks_208 : decode cX8_looks 208 = .ok (.iconst 1, 1) := by decide +kernel
theorem dX8_looks_209 : decode cX8_looks 209 = .ok (.if_icmp .ne 18, 3) := by decide +kernel
theorem dX8_looks_212 : decode cX8_looks 212 = .ok (.iload 10, 2) := by decide +kernel
theorem dX8_looks_214 : decode cX8_looks 214 = .ok (.iload 12, 2) := by decide +kernel
theorem dX8_looks_216 : decode cX8_looks 216 = .ok (.if_icmp .ne 7, 3) := by decide +kernel
theorem dX8_looks_219 : decode cX8_looks 219 = .ok (.iconst 1, 1) := by decide +kernel
theorem dX8_looks_220 : decode cX8_looks 220 = .ok (.goto 19, 3) := by decide +kernel
theorem dX8_looks_223 : decode cX8_looks 223 = .ok (.iconst 0, 1) := by decide +kernel
theorem dX8_looks_224 : decode cX8_looks 224 = .ok (.goto 15, 3) := by decide +kernel
theorem dX8_looks_227 : decode cX8_looks 227 = .ok (.iload 10, 2) := by decide +kernel
theorem dX8_looks_229 : decode cX8_looks 229 = .ok (.iload 12, 2) := by decide +kernel
theorem dX8_looks_231 : decode cX8_looks 231 = .ok (.if_icmp .le 7, 3) := by decide +kernel
theorem dX8_looks_234 : decode cX8_looks 234 = .ok (.iconst 1, 1) := by decide +kernel
theorem dX8_looks_235 : decode cX8_looks 235 = .ok (.goto 4, 3) := by decide +kernel
theorem dX8_looks_238 : decode cX8_looks 238 = .ok (.iconst 0, 1) := by decide +kernel
theorem dX8_looks_239 : decode cX8_looks 239 = .ok (.bastore, 1) := by decide +kernel
theorem dX8_looks_240 : decode cX8_looks 240 = .ok (.iinc 7 1, 3) := by decide +kernel
theorem dX8_looks_243 : decode cX8_looks 243 = .ok (.goto 190, 3) := by decide +kernel
theorem dX8_looks_246 : decode cX8_looks 246 = .ok (.iload 9, 2) := by decide +kernel
theorem dX8_looks_248 : decode cX8_looks 248 = .ok (.iconst (-1), 1) := by decide +kernel
theorem dX8_looks_249 : decode cX8_looks 249 = .ok (.if_icmp .ne 32, 3) := by decide +kernel
theorem dX8_looks_252 : decode cX8_looks 252 = .ok (.aload_n 0, 1) := by decide +kernel
theorem dX8_looks_253 : decode cX8_looks 253 = .ok (.getfield 24, 3) := by decide +kernel
theorem dX8_looks_256 : decode cX8_looks 256 = .ok (.iload 7, 2) := by decide +kernel
theorem dX8_looks_258 : decode cX8_looks 258 = .ok (.iconst 1, 1) := by decide +kernel
theorem dX8_looks_259 : decode cX8_looks 259 = .ok (.isub, 1) := by decide +kernel
theorem dX8_looks_260 : decode cX8_looks 260 = .ok (.aload_n 0, 1) := by decide +kernel
theorem dX8_looks_261 : decode cX8_looks 261 = .ok (.getfield 24, 3) := by decide +kernel
theorem dX8_looks_264 : decode cX8_looks 264 = .ok (.iload 7, 2) := by decide +kernel
theorem dX8_looks_266 : decode cX8_looks 266 = .ok (.iconst 1, 1) := by decide +kernel
theorem dX8_looks_267 : decode cX8_looks 267 = .ok (.isub, 1) := by decide +kernel
theorem dX8_looks_268 : decode cX8_looks 268 = .ok (.baload, 1) := by decide +kernel
theorem dX8_looks_269 : decode cX8_looks 269 = .ok (.ifCond .ne 7, 3) := by decide +kernel
theorem dX8_looks_272 : decode cX8_looks 272 = .ok (.iconst 1, 1) := by decide +kernel
theorem dX8_looks_273 : decode cX8_looks 273 = .ok (.goto 4, 3) := by decide +kernel
theorem dX8_looks_276 : decode cX8_looks 276 = .ok (.iconst 0, 1) := by decide +kernel
theorem dX8_looks_277 : decode cX8_looks 277 = .ok (.bastore, 1) := by decide +kernel
theorem dX8_looks_278 : decode cX8_looks 278 = .ok (.goto 155, 3) := by decide +kernel
theorem dX8_looks_281 : decode cX8_looks 281 = .ok (.iload 9, 2) := by decide +kernel
theorem dX8_looks_283 : decode cX8_looks 283 = .ok (.bipush (-10), 2) := by decide +kernel
theorem dX8_looks_285 : decode cX8_looks 285 = .ok (.if_icmp .le 82, 3) := by decide +kernel
theorem dX8_looks_288 : decode cX8_looks 288 = .ok (.iinc 7 (-1), 3) := by decide +kernel
theorem dX8_looks_291 : decode cX8_looks 291 = .ok (.aload_n 0, 1) := by decide +kernel
theorem dX8_looks_292 : decode cX8_looks 292 = .ok (.getfield 24, 3) := by decide +kernel
theorem dX8_looks_295 : decode cX8_looks 295 = .ok (.iload 7, 2) := by decide +kernel
theorem dX8_looks_297 : decode cX8_looks 297 = .ok (.iconst 1, 1) := by decide +kernel
theorem dX8_looks_298 : decode cX8_looks 298 = .ok (.isub, 1) := by decide +kernel
theorem dX8_looks_299 : decode cX8_looks 299 = .ok (.iload 9, 2) := by decide +kernel
theorem dX8_looks_301 : decode cX8_looks 301 = .ok (.bipush (-2), 2) := by decide +kernel
theorem dX8_looks_303 : decode cX8_looks 303 = .ok (.if_icmp .ne 33, 3) := by decide +kernel
theorem dX8_looks_306 : decode cX8_looks 306 = .ok (.aload_n 0, 1) := by decide +kernel
theorem dX8_looks_307 : decode cX8_looks 307 = .ok (.getfield 24, 3) := by decide +kernel
theorem dX8_looks_310 : decode cX8_looks 310 = .ok (.iload 7, 2) := by decide +kernel
theorem dX8_looks_312 : decode cX8_looks 312 = .ok (.iconst 1, 1) := by decide +kernel
theorem dX8_looks_313 : decode cX8_looks 313 = .ok (.isub, 1) := by decide +kernel
theorem dX8_looks_314 : decode cX8_looks 314 = .ok (.baload, 1) := by decide +kernel
theorem dX8_looks_315 : decode cX8_looks 315 = .ok (.ifCond .eq 17, 3) := by decide +kernel
theorem dX8_looks_318 : decode cX8_looks 318 = .ok (.aload_n 0, 1) := by decide +kernel
theorem dX8_looks_319 : decode cX8_looks 319 = .ok (.getfield 24, 3) := by decide +kernel
theorem dX8_looks_322 : decode cX8_looks 322 = .ok (.iload 7, 2) := by decide +kernel
theorem dX8_looks_324 : decode cX8_looks 324 = .ok (.baload, 1) := by decide +kernel
theorem dX8_looks_325 : decode cX8_looks 325 = .ok (.ifCond .eq 7, 3) := by decide +kernel
theorem dX8_looks_328 : decode cX8_looks 328 = .ok (.iconst 1, 1) := by decide +kernel
theorem dX8_looks_329 : decode cX8_looks 329 = .ok (.goto 34, 3) := by decide +kernel
theorem dX8_looks_332 : decode cX8_looks 332 = .ok (.iconst 0, 1) := by decide +kernel
theorem dX8_looks_333 : decode cX8_looks 333 = .ok (.goto 30, 3) := by decide +kernel
theorem dX8_looks_336 : decode cX8_looks 336 = .ok (.aload_n 0, 1) := by decide +kernel
theorem dX8_looks_337 : decode cX8_looks 337 = .ok (.getfield 24, 3) := by decide +kernel
theorem dX8_looks_340 : decode cX8_looks 340 = .ok (.iload 7, 2) := by decide +kernel
theorem dX8_looks_342 : decode cX8_looks 342 = .ok (.iconst 1, 1) := by decide +kernel
theorem dX8_looks_343 : decode cX8_looks 343 = .ok (.isub, 1) := by decide +kernel
theorem dX8_looks_344 : decode cX8_looks 344 = .ok (.baload, 1) := by decide +kernel
theorem dX8_looks_345 : decode cX8_looks 345 = .ok (.ifCond .ne 13, 3) := by decide +kernel
theorem dX8_looks_348 : decode cX8_looks 348 = .ok (.aload_n 0, 1) := by decide +kernel
theorem dX8_looks_349 : decode cX8_looks 349 = .ok (.getfield 24, 3) := by decide +kernel
theorem dX8_looks_352 : decode cX8_looks 352 = .ok (.iload 7, 2) := by decide +kernel
theorem dX8_looks_354 : decode cX8_looks 354 = .ok (.baload, 1) := by decide +kernel
theorem dX8_looks_355 : decode cX8_looks 355 = .ok (.ifCond .eq 7, 3) := by decide +kernel
theorem dX8_looks_358 : decode cX8_looks 358 = .ok (.iconst 1, 1) := by decide +kernel
theorem dX8_looks_359 : decode cX8_looks 359 = .ok (.goto 4, 3) := by decide +kernel
theorem dX8_looks_362 : decode cX8_looks 362 = .ok (.iconst 0, 1) := by decide +kernel
theorem dX8_looks_363 : decode cX8_looks 363 = .ok (.bastore, 1) := by decide +kernel
theorem dX8_looks_364 : decode cX8_looks 364 = .ok (.goto 69, 3) := by decide +kernel
theorem dX8_looks_367 : decode cX8_looks 367 = .ok (.iconst 0, 1) := by decide +kernel
theorem dX8_looks_368 : decode cX8_looks 368 = .ok (.istore 7, 2) := by decide +kernel
theorem dX8_looks_370 : decode cX8_looks 370 = .ok (.aload_n 0, 1) := by decide +kernel
theorem dX8_looks_371 : decode cX8_looks 371 = .ok (.getfield 24, 3) := by decide +kernel
theorem dX8_looks_374 : decode cX8_looks 374 = .ok (.iconst 0, 1) := by decide +kernel
theorem dX8_looks_375 : decode cX8_looks 375 = .ok (.baload, 1) := by decide +kernel
theorem dX8_looks_376 : decode cX8_looks 376 = .ok (.istore 10, 2) := by decide +kernel
theorem dX8_looks_378 : decode cX8_looks 378 = .ok (.iload 4, 2) := by decide +kernel
theorem dX8_looks_380 : decode cX8_looks 380 = .ok (.iload 10, 2) := by decide +kernel
theorem dX8_looks_382 : decode cX8_looks 382 = .ok (.ifCond .eq 19, 3) := by decide +kernel
theorem dX8_looks_385 : decode cX8_looks 385 = .ok (.iload 9, 2) := by decide +kernel
theorem dX8_looks_387 : decode cX8_looks 387 = .ok (.sipush (-200), 3) := by decide +kernel
theorem dX8_looks_390 : decode cX8_looks 390 = .ok (.if_icmp .le 11, 3) := by decide +kernel
theorem dX8_looks_393 : decode cX8_looks 393 = .ok (.bipush (-10), 2) := by decide +kernel
theorem dX8_looks_395 : decode cX8_looks 395 = .ok (.iload 9, 2) := by decide +kernel
theorem dX8_looks_397 : decode cX8_looks 397 = .ok (.isub, 1) := by decide +kernel
theorem dX8_looks_398 : decode cX8_looks 398 = .ok (.goto 4, 3) := by decide +kernel
theorem dX8_looks_401 : decode cX8_looks 401 = .ok (.iconst 0, 1) := by decide +kernel
theorem dX8_looks_402 : decode cX8_looks 402 = .ok (.iadd, 1) := by decide +kernel
theorem dX8_looks_403 : decode cX8_looks 403 = .ok (.istore 4, 2) := by decide +kernel
theorem dX8_looks_405 : decode cX8_looks 405 = .ok (.iload 4, 2) := by decide +kernel
theorem dX8_looks_407 : decode cX8_looks 407 = .ok (.iload 10, 2) := by decide +kernel
theorem dX8_looks_409 : decode cX8_looks 409 = .ok (.ifCond .eq 20, 3) := by decide +kernel
theorem dX8_looks_412 : decode cX8_looks 412 = .ok (.iload 9, 2) := by decide +kernel
theorem dX8_looks_414 : decode cX8_looks 414 = .ok (.sipush (-200), 3) := by decide +kernel
theorem dX8_looks_417 : decode cX8_looks 417 = .ok (.if_icmp .gt 12, 3) := by decide +kernel
theorem dX8_looks_420 : decode cX8_looks 420 = .ok (.sipush (-200), 3) := by decide +kernel
theorem dX8_looks_423 : decode cX8_looks 423 = .ok (.iload 9, 2) := by decide +kernel
theorem dX8_looks_425 : decode cX8_looks 425 = .ok (.isub, 1) := by decide +kernel
theorem dX8_looks_426 : decode cX8_looks 426 = .ok (.goto 4, 3) := by decide +kernel
theorem dX8_looks_429 : decode cX8_looks 429 = .ok (.iconst 0, 1) := by decide +kernel
theorem dX8_looks_430 : decode cX8_looks 430 = .ok (.isub, 1) := by decide +kernel
theorem dX8_looks_431 : decode cX8_looks 431 = .ok (.istore 4, 2) := by decide +kernel
theorem dX8_looks_433 : decode cX8_looks 433 = .ok (.iinc 8 1, 3) := by decide +kernel
theorem dX8_looks_436 : decode cX8_looks 436 = .ok (.goto (-308), 3) := by decide +kernel
theorem dX8_looks_439 : decode cX8_looks 439 = .ok (.iload 4, 2) := by decide +kernel
theorem dX8_looks_441 : decode cX8_looks 441 = .ok (.ireturn, 1) := by decide +kernel
theorem dX8_nerveBy_0 : decode cX8_nerveBy 0 = .ok (.aload_n 0, 1) := by decide +kernel
theorem dX8_nerveBy_1 : decode cX8_nerveBy 1 = .ok (.iload_n 1, 1) := by decide +kernel
theorem dX8_nerveBy_2 : decode cX8_nerveBy 2 = .ok (.aload_n 0, 1) := by decide +kernel
theorem dX8_nerveBy_3 : decode cX8_nerveBy 3 = .ok (.iload_n 1, 1) := by decide +kernel
theorem dX8_nerveBy_4 : decode cX8_nerveBy 4 = .ok (.iload_n 2, 1) := by decide +kernel
theorem dX8_nerveBy_5 : decode cX8_nerveBy 5 = .ok (.invokevirtual 146, 3) := by decide +kernel
theorem dX8_nerveBy_8 : decode cX8_nerveBy 8 = .ok (.invokevirtual 139, 3) := by decide +kernel
theorem dX8_nerveBy_11 : decode cX8_nerveBy 11 = .ok (.ifCond .eq 15, 3) := by decide +kernel
theorem dX8_nerveBy_14 : decode cX8_nerveBy 14 = .ok (.bipush 10, 2) := by decide +kernel
theorem dX8_nerveBy_16 : decode cX8_nerveBy 16 = .ok (.aload_n 0, 1) := by decide +kernel
theorem dX8_nerveBy_17 : decode cX8_nerveBy 17 = .ok (.iload_n 1, 1) := by decide +kernel
theorem dX8_nerveBy_18 : decode cX8_nerveBy 18 = .ok (.iload_n 2, 1) := by decide +kernel
theorem dX8_nerveBy_19 : decode cX8_nerveBy 19 = .ok (.invokevirtual 152, 3) := by decide +kernel
theorem dX8_nerveBy_22 : decode cX8_nerveBy 22 = .ok (.iadd, 1) := by decide +kernel
theorem dX8_nerveBy_23 : decode cX8_nerveBy 23 = .ok (.goto 4, 3) := by decide +kernel
theorem dX8_nerveBy_26 : decode cX8_nerveBy 26 = .ok (.iconst 0, 1) := by decide +kernel
theorem dX8_nerveBy_27 : decode cX8_nerveBy 27 = .ok (.istore_n 3, 1) := by decide +kernel
theorem dX8_nerveBy_28 : decode cX8_nerveBy 28 = .ok (.iload_n 3, 1) := by decide +kernel
theorem dX8_nerveBy_29 : decode cX8_nerveBy 29 = .ok (.ifCond .ge 7, 3) := by decide +kernel
theorem dX8_nerveBy_32 : decode cX8_nerveBy 32 = .ok (.iconst 0, 1) := by decide +kernel
theorem dX8_nerveBy_33 : decode cX8_nerveBy 33 = .ok (.goto 4, 3) := by decide +kernel
theorem dX8_nerveBy_36 : decode cX8_nerveBy 36 = .ok (.iload_n 3, 1) := by decide +kernel
theorem dX8_nerveBy_37 : decode cX8_nerveBy 37 = .ok (.ireturn, 1) := by decide +kernel
theorem dX8_ageOf_0 : decode cX8_ageOf 0 = .ok (.aload_n 0, 1) := by decide +kernel
theorem dX8_ageOf_1 : decode cX8_ageOf 1 = .ok (.iload_n 1, 1) := by decide +kernel
theorem dX8_ageOf_2 : decode cX8_ageOf 2 = .ok (.aload_n 0, 1) := by decide +kernel
theorem dX8_ageOf_3 : decode cX8_ageOf 3 = .ok (.getfield 9, 3) := by decide +kernel
theorem dX8_ageOf_6 : decode cX8_ageOf 6 = .ok (.iconst 1, 1) := by decide +kernel
theorem dX8_ageOf_7 : decode cX8_ageOf 7 = .ok (.iload_n 1, 1) := by decide +kernel
theorem dX8_ageOf_8 : decode cX8_ageOf 8 = .ok (.iadd, 1) := by decide +kernel
theorem dX8_ageOf_9 : decode cX8_ageOf 9 = .ok (.iaload, 1) := by decide +kernel
theorem dX8_ageOf_10 : decode cX8_ageOf 10 = .ok (.invokevirtual 146, 3) := by decide +kernel
theorem dX8_ageOf_13 : decode cX8_ageOf 13 = .ok (.ireturn, 1) := by decide +kernel
theorem dX8_isHere_0 : decode cX8_isHere 0 = .ok (.aload_n 0, 1) := by decide +kernel
theorem dX8_isHere_1 : decode cX8_isHere 1 = .ok (.iload_n 1, 1) := by decide +kernel
theorem dX8_isHere_2 : decode cX8_isHere 2 = .ok (.aload_n 0, 1) := by decide +kernel
theorem dX8_isHere_3 : decode cX8_isHere 3 = .ok (.iload_n 1, 1) := by decide +kernel
theorem dX8_isHere_4 : decode cX8_isHere 4 = .ok (.invokevirtual 155, 3) := by decide +kernel
theorem dX8_isHere_7 : decode cX8_isHere 7 = .ok (.invokevirtual 139, 3) := by decide +kernel
theorem dX8_isHere_10 : decode cX8_isHere 10 = .ok (.ireturn, 1) := by decide +kernel
theorem dX8_whoIsHere_0 : decode cX8_whoIsHere 0 = .ok (.iconst 0, 1) := by decide +kernel
theorem dX8_whoIsHere_1 : decode cX8_whoIsHere 1 = .ok (.istore_n 1, 1) := by decide +kernel
theorem dX8_whoIsHere_2 : decode cX8_whoIsHere 2 = .ok (.iconst 0, 1) := by decide +kernel
theorem dX8_whoIsHere_3 : decode cX8_whoIsHere 3 = .ok (.istore_n 2, 1) := by decide +kernel
theorem dX8_whoIsHere_4 : decode cX8_whoIsHere 4 = .ok (.iload_n 2, 1) := by decide +kernel
theorem dX8_whoIsHere_5 : decode cX8_whoIsHere 5 = .ok (.aload_n 0, 1) := by decide +kernel
theorem dX8_whoIsHere_6 : decode cX8_whoIsHere 6 = .ok (.getfield 9, 3) := by decide +kernel
theorem dX8_whoIsHere_9 : decode cX8_whoIsHere 9 = .ok (.bipush 12, 2) := by decide +kernel
theorem dX8_whoIsHere_11 : decode cX8_whoIsHere 11 = .ok (.iaload, 1) := by decide +kernel
theorem dX8_whoIsHere_12 : decode cX8_whoIsHere 12 = .ok (.if_icmp .ge 27, 3) := by decide +kernel
theorem dX8_whoIsHere_15 : decode cX8_whoIsHere 15 = .ok (.iload_n 1, 1) := by decide +kernel
theorem dX8_whoIsHere_16 : decode cX8_whoIsHere 16 = .ok (.aload_n 0, 1) := by decide +kernel
theorem dX8_whoIsHere_17 : decode cX8_whoIsHere 17 = .ok (.iload_n 2, 1) := by decide +kernel
theorem dX8_whoIsHere_18 : decode cX8_whoIsHere 18 = .ok (.invokevirtual 159, 3) := by decide +kernel
theorem dX8_whoIsHere_21 : decode cX8_whoIsHere 21 = .ok (.ifCond .eq 9, 3) := by decide +kernel
theorem dX8_whoIsHere_24 : decode cX8_whoIsHere 24 = .ok (.iconst 1, 1) := by decide +kernel
theorem dX8_whoIsHere_25 : decode cX8_whoIsHere 25 = .ok (.iload_n 2, 1) := by decide +kernel
theorem dX8_whoIsHere_26 : decode cX8_whoIsHere 26 = .ok (.ishl, 1) := by decide +kernel
theorem dX8_whoIsHere_27 : decode cX8_whoIsHere 27 = .ok (.goto 4, 3) := by decide +kernel
theorem dX8_whoIsHere_30 : decode cX8_whoIsHere 30 = .ok (.iconst 0, 1) := by decide +kernel
theorem dX8_whoIsHere_31 : decode cX8_whoIsHere 31 = .ok (.ior, 1) := by decide +kernel
theorem dX8_whoIsHere_32 : decode cX8_whoIsHere 32 = .ok (.istore_n 1, 1) := by decide +kernel
theorem dX8_whoIsHere_33 : decode cX8_whoIsHere 33 = .ok (.iinc 2 1, 3) := by decide +kernel
theorem dX8_whoIsHere_36 : decode cX8_whoIsHere 36 = .ok (.goto (-32), 3) := by decide +kernel
theorem dX8_whoIsHere_39 : decode cX8_whoIsHere 39 = .ok (.iload_n 1, 1) := by decide +kernel
theorem dX8_whoIsHere_40 : decode cX8_whoIsHere 40 = .ok (.ireturn, 1) := by decide +kernel
theorem dX8_countOf_0 : decode cX8_countOf 0 = .ok (.iconst 0, 1) := by decide +kernel
theorem dX8_countOf_1 : decode cX8_countOf 1 = .ok (.istore_n 1, 1) := by decide +kernel
theorem dX8_countOf_2 : decode cX8_countOf 2 = .ok (.iconst 0, 1) := by decide +kernel
theorem dX8_countOf_3 : decode cX8_countOf 3 = .ok (.istore_n 2, 1) := by decide +kernel
theorem dX8_countOf_4 : decode cX8_countOf 4 = .ok (.iload_n 2, 1) := by decide +kernel
theorem dX8_countOf_5 : decode cX8_countOf 5 = .ok (.bipush 6, 2) := by decide +kernel
theorem dX8_countOf_7 : decode cX8_countOf 7 = .ok (.if_icmp .ge 17, 3) := by decide +kernel
theorem dX8_countOf_10 : decode cX8_countOf 10 = .ok (.iload_n 1, 1) := by decide +kernel
theorem dX8_countOf_11 : decode cX8_countOf 11 = .ok (.iload_n 0, 1) := by decide +kernel
theorem dX8_countOf_12 : decode cX8_countOf 12 = .ok (.iload_n 2, 1) := by decide +kernel
theorem dX8_countOf_13 : decode cX8_countOf 13 = .ok (.ishr, 1) := by decide +kernel
theorem dX8_countOf_14 : decode cX8_countOf 14 = .ok (.iconst 1, 1) := by decide +kernel
theorem dX8_countOf_15 : decode cX8_countOf 15 = .ok (.iand, 1) := by decide +kernel
theorem dX8_countOf_16 : decode cX8_countOf 16 = .ok (.iadd, 1) := by decide +kernel
theorem dX8_countOf_17 : decode cX8_countOf 17 = .ok (.istore_n 1, 1) := by decide +kernel
theorem dX8_countOf_18 : decode cX8_countOf 18 = .ok (.iinc 2 1, 3) := by decide +kernel
theorem dX8_countOf_21 : decode cX8_countOf 21 = .ok (.goto (-17), 3) := by decide +kernel
theorem dX8_countOf_24 : decode cX8_countOf 24 = .ok (.iload_n 1, 1) := by decide +kernel
theorem dX8_countOf_25 : decode cX8_countOf 25 = .ok (.ireturn, 1) := by decide +kernel
theorem dX8_allNerve_0 : decode cX8_allNerve 0 = .ok (.iconst 0, 1) := by decide +kernel
theorem dX8_allNerve_1 : decode cX8_allNerve 1 = .ok (.istore_n 1, 1) := by decide +kernel
theorem dX8_allNerve_2 : decode cX8_allNerve 2 = .ok (.iconst 0, 1) := by decide +kernel
theorem dX8_allNerve_3 : decode cX8_allNerve 3 = .ok (.istore_n 2, 1) := by decide +kernel
theorem dX8_allNerve_4 : decode cX8_allNerve 4 = .ok (.iload_n 2, 1) := by decide +kernel
theorem dX8_allNerve_5 : decode cX8_allNerve 5 = .ok (.aload_n 0, 1) := by decide +kernel
theorem dX8_allNerve_6 : decode cX8_allNerve 6 = .ok (.getfield 9, 3) := by decide +kernel
theorem dX8_allNerve_9 : decode cX8_allNerve 9 = .ok (.bipush 12, 2) := by decide +kernel
theorem dX8_allNerve_11 : decode cX8_allNerve 11 = .ok (.iaload, 1) := by decide +kernel
theorem dX8_allNerve_12 : decode cX8_allNerve 12 = .ok (.if_icmp .ge 25, 3) := by decide +kernel
theorem dX8_allNerve_15 : decode cX8_allNerve 15 = .ok (.iload_n 1, 1) := by decide +kernel
theorem dX8_allNerve_16 : decode cX8_allNerve 16 = .ok (.aload_n 0, 1) := by decide +kernel
theorem dX8_allNerve_17 : decode cX8_allNerve 17 = .ok (.iload_n 2, 1) := by decide +kernel
theorem dX8_allNerve_18 : decode cX8_allNerve 18 = .ok (.aload_n 0, 1) := by decide +kernel
theorem dX8_allNerve_19 : decode cX8_allNerve 19 = .ok (.getfield 9, 3) := by decide +kernel
theorem dX8_allNerve_22 : decode cX8_allNerve 22 = .ok (.iconst 1, 1) := by decide +kernel
theorem dX8_allNerve_23 : decode cX8_allNerve 23 = .ok (.iload_n 2, 1) := by decide +kernel
theorem dX8_allNerve_24 : decode cX8_allNerve 24 = .ok (.iadd, 1) := by decide +kernel
theorem dX8_allNerve_25 : decode cX8_allNerve 25 = .ok (.iaload, 1) := by decide +kernel
theorem dX8_allNerve_26 : decode cX8_allNerve 26 = .ok (.invokevirtual 163, 3) := by decide +kernel
theorem dX8_allNerve_29 : decode cX8_allNerve 29 = .ok (.iadd, 1) := by decide +kernel
theorem dX8_allNerve_30 : decode cX8_allNerve 30 = .ok (.istore_n 1, 1) := by decide +kernel
theorem dX8_allNerve_31 : decode cX8_allNerve 31 = .ok (.iinc 2 1, 3) := by decide +kernel
theorem dX8_allNerve_34 : decode cX8_allNerve 34 = .ok (.goto (-30), 3) := by decide +kernel
theorem dX8_allNerve_37 : decode cX8_allNerve 37 = .ok (.iload_n 1, 1) := by decide +kernel
theorem dX8_allNerve_38 : decode cX8_allNerve 38 = .ok (.ireturn, 1) := by decide +kernel
theorem dX8_allBottles_0 : decode cX8_allBottles 0 = .ok (.iconst 0, 1) := by decide +kernel
theorem dX8_allBottles_1 : decode cX8_allBottles 1 = .ok (.istore_n 1, 1) := by decide +kernel
theorem dX8_allBottles_2 : decode cX8_allBottles 2 = .ok (.iconst 0, 1) := by decide +kernel
theorem dX8_allBottles_3 : decode cX8_allBottles 3 = .ok (.istore_n 2, 1) := by decide +kernel
theorem dX8_allBottles_4 : decode cX8_allBottles 4 = .ok (.iload_n 2, 1) := by decide +kernel
theorem dX8_allBottles_5 : decode cX8_allBottles 5 = .ok (.aload_n 0, 1) := by decide +kernel
theorem dX8_allBottles_6 : decode cX8_allBottles 6 = .ok (.getfield 9, 3) := by decide +kernel
theorem dX8_allBottles_9 : decode cX8_allBottles 9 = .ok (.bipush 19, 2) := by decide +kernel
theorem dX8_allBottles_11 : decode cX8_allBottles 11 = .ok (.iaload, 1) := by decide +kernel
theorem dX8_allBottles_12 : decode cX8_allBottles 12 = .ok (.if_icmp .ge 21, 3) := by decide +kernel
theorem dX8_allBottles_15 : decode cX8_allBottles 15 = .ok (.iload_n 1, 1) := by decide +kernel
theorem dX8_allBottles_16 : decode cX8_allBottles 16 = .ok (.aload_n 0, 1) := by decide +kernel
theorem dX8_allBottles_17 : decode cX8_allBottles 17 = .ok (.getfield 9, 3) := by decide +kernel
theorem dX8_allBottles_20 : decode cX8_allBottles 20 = .ok (.bipush 7, 2) := by decide +kernel
theorem dX8_allBottles_22 : decode cX8_allBottles 22 = .ok (.iload_n 2, 1) := by decide +kernel
theorem dX8_allBottles_23 : decode cX8_allBottles 23 = .ok (.iadd, 1) := by decide +kernel
theorem dX8_allBottles_24 : decode cX8_allBottles 24 = .ok (.iaload, 1) := by decide +kernel
theorem dX8_allBottles_25 : decode cX8_allBottles 25 = .ok (.iadd, 1) := by decide +kernel
theorem dX8_allBottles_26 : decode cX8_allBottles 26 = .ok (.istore_n 1, 1) := by decide +kernel
theorem dX8_allBottles_27 : decode cX8_allBottles 27 = .ok (.iinc 2 1, 3) := by decide +kernel
theorem dX8_allBottles_30 : decode cX8_allBottles 30 = .ok (.goto (-26), 3) := by decide +kernel
theorem dX8_allBottles_33 : decode cX8_allBottles 33 = .ok (.iload_n 1, 1) := by decide +kernel
theorem dX8_allBottles_34 : decode cX8_allBottles 34 = .ok (.ireturn, 1) := by decide +kernel
theorem dX8_person_0 : decode cX8_person 0 = .ok (.iload_n 1, 1) := by decide +kernel
theorem dX8_person_1 : decode cX8_person 1 = .ok (.iconst 0, 1) := by decide +kernel
theorem dX8_person_2 : decode cX8_person 2 = .ok (.bipush 6, 2) := by decide +kernel
theorem dX8_person_4 : decode cX8_person 4 = .ok (.invokestatic 53, 3) := by decide +kernel
theorem dX8_person_7 : decode cX8_person 7 = .ok (.ifCond .ne 5, 3) := by decide +kernel
theorem dX8_person_10 : decode cX8_person 10 = .ok (.iconst (-1), 1) := by decide +kernel
theorem dX8_person_11 : decode cX8_person 11 = .ok (.ireturn, 1) := by decide +kernel
theorem dX8_person_12 : decode cX8_person 12 = .ok (.iload_n 2, 1) := by decide +kernel
theorem dX8_person_13 : decode cX8_person 13 = .ok (.iconst 0, 1) := by decide +kernel
theorem dX8_person_14 : decode cX8_person 14 = .ok (.bipush 9, 2) := by decide +kernel
theorem dX8_person_16 : decode cX8_person 16 = .ok (.invokestatic 53, 3) := by decide +kernel
theorem dX8_person_19 : decode cX8_person 19 = .ok (.ifCond .eq 25, 3) := by decide +kernel
theorem dX8_person_22 : decode cX8_person 22 = .ok (.iload_n 3, 1) := by decide +kernel
theorem dX8_person_23 : decode cX8_person 23 = .ok (.iconst 0, 1) := by decide +kernel
theorem dX8_person_24 : decode cX8_person 24 = .ok (.sipush 199, 3) := by decide +kernel
theorem dX8_person_27 : decode cX8_person 27 = .ok (.invokestatic 53, 3) := by decide +kernel
theorem dX8_person_30 : decode cX8_person 30 = .ok (.ifCond .eq 14, 3) := by decide +kernel
theorem dX8_person_33 : decode cX8_person 33 = .ok (.iload 4, 2) := by decide +kernel
theorem dX8_person_35 : decode cX8_person 35 = .ok (.iconst 0, 1) := by decide +kernel
theorem dX8_person_36 : decode cX8_person 36 = .ok (.bipush 120, 2) := by decide +kernel
theorem dX8_person_38 : decode cX8_person 38 = .ok (.invokestatic 53, 3) := by decide +kernel
theorem dX8_person_41 : decode cX8_person 41 = .ok (.ifCond .ne 6, 3) := by decide +kernel
theorem dX8_person_44 : decode cX8_person 44 = .ok (.bipush (-2), 2) := by decide +kernel
theorem dX8_person_46 : decode cX8_person 46 = .ok (.ireturn, 1) := by decide +kernel
theorem dX8_person_47 : decode cX8_person 47 = .ok (.aload_n 0, 1) := by decide +kernel
theorem dX8_person_48 : decode cX8_person 48 = .ok (.getfield 9, 3) := by decide +kernel
theorem dX8_person_51 : decode cX8_person 51 = .ok (.bipush 12, 2) := by decide +kernel
theorem dX8_person_53 : decode cX8_person 53 = .ok (.iaload, 1) := by decide +kernel
theorem dX8_person_54 : decode cX8_person 54 = .ok (.bipush 6, 2) := by decide +kernel
theorem dX8_person_56 : decode cX8_person 56 = .ok (.if_icmp .ne 6, 3) := by decide +kernel
theorem dX8_person_59 : decode cX8_person 59 = .ok (.bipush (-4), 2) := by decide +kernel
theorem dX8_person_61 : decode cX8_person 61 = .ok (.ireturn, 1) := by decide +kernel
theorem dX8_person_62 : decode cX8_person 62 = .ok (.aload_n 0, 1) := by decide +kernel
theorem dX8_person_63 : decode cX8_person 63 = .ok (.getfield 9, 3) := by decide +kernel
theorem dX8_person_66 : decode cX8_person 66 = .ok (.bipush 12, 2) := by decide +kernel
theorem dX8_person_68 : decode cX8_person 68 = .ok (.iaload, 1) := by decide +kernel
theorem dX8_person_69 : decode cX8_person 69 = .ok (.istore 5, 2) := by decide +kernel
theorem dX8_person_71 : decode cX8_person 71 = .ok (.aload_n 0, 1) := by decide +kernel
theorem dX8_person_72 : decode cX8_person 72 = .ok (.getfield 9, 3) := by decide +kernel
theorem dX8_person_75 : decode cX8_person 75 = .ok (.bipush 20, 2) := by decide +kernel
theorem dX8_person_77 : decode cX8_person 77 = .ok (.iload 5, 2) := by decide +kernel
theorem dX8_person_79 : decode cX8_person 79 = .ok (.iadd, 1) := by decide +kernel
theorem dX8_person_80 : decode cX8_person 80 = .ok (.iload_n 1, 1) := by decide +kernel
theorem dX8_person_81 : decode cX8_person 81 = .ok (.iastore, 1) := by decide +kernel
theorem dX8_person_82 : decode cX8_person 82 = .ok (.aload_n 0, 1) := by decide +kernel
theorem dX8_person_83 : decode cX8_person 83 = .ok (.getfield 9, 3) := by decide +kernel
theorem dX8_person_86 : decode cX8_person 86 = .ok (.bipush 26, 2) := by decide +kernel
theorem dX8_person_88 : decode cX8_person 88 = .ok (.iload 5, 2) := by decide +kernel
theorem dX8_person_90 : decode cX8_person 90 = .ok (.iadd, 1) := by decide +kernel
theorem dX8_person_91 : decode cX8_person 91 = .ok (.iload_n 2, 1) := by decide +kernel
theorem dX8_person_92 : decode cX8_person 92 = .ok (.iastore, 1) := by decide +kernel
theorem dX8_person_93 : decode cX8_person 93 = .ok (.aload_n 0, 1) := by decide +kernel
theorem dX8_person_94 : decode cX8_person 94 = .ok (.getfield 9, 3) := by decide +kernel
theorem dX8_person_97 : decode cX8_person 97 = .ok (.bipush 32, 2) := by decide +kernel
theorem dX8_person_99 : decode cX8_person 99 = .ok (.iload 5, 2) := by decide +kernel
theorem dX8_person_101 : decode cX8_person 101 = .ok (.iadd, 1) := by decide +kernel
theorem dX8_person_102 : decode cX8_person 102 = .ok (.iload_n 3, 1) := by decide +kernel
theorem dX8_person_103 : decode cX8_person 103 = .ok (.iastore, 1) := by decide +kernel
theorem dX8_person_104 : decode cX8_person 104 = .ok (.aload_n 0, 1) := by decide +kernel
theorem dX8_person_105 : decode cX8_person 105 = .ok (.getfield 9, 3) := by decide +kernel
theorem dX8_person_108 : decode cX8_person 108 = .ok (.bipush 38, 2) := by decide +kernel
theorem dX8_person_110 : decode cX8_person 110 = .ok (.iload 5, 2) := by decide +kernel
theorem dX8_person_112 : decode cX8_person 112 = .ok (.iadd, 1) := by decide +kernel
theorem dX8_person_113 : decode cX8_person 113 = .ok (.iload 4, 2) := by decide +kernel
theorem dX8_person_115 : decode cX8_person 115 = .ok (.iastore, 1) := by decide +kernel
theorem dX8_person_116 : decode cX8_person 116 = .ok (.aload_n 0, 1) := by decide +kernel
theorem dX8_person_117 : decode cX8_person 117 = .ok (.getfield 9, 3) := by decide +kernel
theorem dX8_person_120 : decode cX8_person 120 = .ok (.iconst 1, 1) := by decide +kernel
theorem dX8_person_121 : decode cX8_person 121 = .ok (.iload 5, 2) := by decide +kernel
theorem dX8_person_123 : decode cX8_person 123 = .ok (.iadd, 1) := by decide +kernel
theorem dX8_person_124 : decode cX8_person 124 = .ok (.iconst (-1), 1) := by decide +kernel
theorem dX8_person_125 : decode cX8_person 125 = .ok (.iastore, 1) := by decide +kernel
theorem dX8_person_126 : decode cX8_person 126 = .ok (.iconst 0, 1) := by decide +kernel
theorem dX8_person_127 : decode cX8_person 127 = .ok (.istore 6, 2) := by decide +kernel
theorem dX8_person_129 : decode cX8_person 129 = .ok (.iload 6, 2) := by decide +kernel
theorem dX8_person_131 : decode cX8_person 131 = .ok (.iconst 4, 1) := by decide +kernel
theorem dX8_person_132 : decode cX8_person 132 = .ok (.if_icmp .ge 25, 3) := by decide +kernel
theorem dX8_person_135 : decode cX8_person 135 = .ok (.aload_n 0, 1) := by decide +kernel
theorem dX8_person_136 : decode cX8_person 136 = .ok (.getfield 9, 3) := by decide +kernel
theorem dX8_person_139 : decode cX8_person 139 = .ok (.bipush 44, 2) := by decide +kernel
theorem dX8_person_141 : decode cX8_person 141 = .ok (.iconst 4, 1) := by decide +kernel
theorem dX8_person_142 : decode cX8_person 142 = .ok (.iload 5, 2) := by decide +kernel
theorem dX8_person_144 : decode cX8_person 144 = .ok (.imul, 1) := by decide +kernel
theorem dX8_person_145 : decode cX8_person 145 = .ok (.iadd, 1) := by decide +kernel
theorem dX8_person_146 : decode cX8_person 146 = .ok (.iload 6, 2) := by decide +kernel
theorem dX8_person_148 : decode cX8_person 148 = .ok (.iadd, 1) := by decide +kernel
theorem dX8_person_149 : decode cX8_person 149 = .ok (.iconst 0, 1) := by decide +kernel
theorem dX8_person_150 : decode cX8_person 150 = .ok (.iastore, 1) := by decide +kernel
theorem dX8_person_151 : decode cX8_person 151 = .ok (.iinc 6 1, 3) := by decide +kernel
theorem dX8_person_154 : decode cX8_person 154 = .ok (.goto (-25), 3) := by decide +kernel
theorem dX8_person_157 : decode cX8_person 157 = .ok (.aload_n 0, 1) := by decide +kernel
theorem dX8_person_158 : decode cX8_person 158 = .ok (.getfield 9, 3) := by decide +kernel
theorem dX8_person_161 : decode cX8_person 161 = .ok (.bipush 12, 2) := by decide +kernel
theorem dX8_person_163 : decode cX8_person 163 = .ok (.dup2, 1) := by decide +kernel
theorem dX8_person_164 : decode cX8_person 164 = .ok (.iaload, 1) := by decide +kernel
theorem dX8_person_165 : decode cX8_person 165 = .ok (.iconst 1, 1) := by decide +kernel
theorem dX8_person_166 : decode cX8_person 166 = .ok (.iadd, 1) := by decide +kernel
theorem dX8_person_167 : decode cX8_person 167 = .ok (.iastore, 1) := by decide +kernel
theorem dX8_person_168 : decode cX8_person 168 = .ok (.iload 5, 2) := by decide +kernel
theorem dX8_person_170 : decode cX8_person 170 = .ok (.ireturn, 1) := by decide +kernel
theorem dX8_newVintage_0 : decode cX8_newVintage 0 = .ok (.aload_n 0, 1) := by decide +kernel
theorem dX8_newVintage_1 : decode cX8_newVintage 1 = .ok (.getfield 9, 3) := by decide +kernel
theorem dX8_newVintage_4 : decode cX8_newVintage 4 = .ok (.bipush 19, 2) := by decide +kernel
theorem dX8_newVintage_6 : decode cX8_newVintage 6 = .ok (.iaload, 1) := by decide +kernel
theorem dX8_newVintage_7 : decode cX8_newVintage 7 = .ok (.istore_n 3, 1) := by decide +kernel
theorem dX8_newVintage_8 : decode cX8_newVintage 8 = .ok (.aload_n 0, 1) := by decide +kernel
theorem dX8_newVintage_9 : decode cX8_newVintage 9 = .ok (.getfield 9, 3) := by decide +kernel
theorem dX8_newVintage_12 : decode cX8_newVintage 12 = .ok (.bipush 68, 2) := by decide +kernel
theorem dX8_newVintage_14 : decode cX8_newVintage 14 = .ok (.iload_n 3, 1) := by decide +kernel
theorem dX8_newVintage_15 : decode cX8_newVintage 15 = .ok (.iadd, 1) := by decide +kernel
theorem dX8_newVintage_16 : decode cX8_newVintage 16 = .ok (.iload_n 1, 1) := by decide +kernel
theorem dX8_newVintage_17 : decode cX8_newVintage 17 = .ok (.iastore, 1) := by decide +kernel
theorem dX8_newVintage_18 : decode cX8_newVintage 18 = .ok (.aload_n 0, 1) := by decide +kernel
theorem dX8_newVintage_19 : decode cX8_newVintage 19 = .ok (.getfield 9, 3) := by decide +kernel
theorem dX8_newVintage_22 : decode cX8_newVintage 22 = .ok (.bipush 7, 2) := by decide +kernel
theorem dX8_newVintage_24 : decode cX8_newVintage 24 = .ok (.iload_n 3, 1) := by decide +kernel
theorem dX8_newVintage_25 : decode cX8_newVintage 25 = .ok (.iadd, 1) := by decide +kernel
theorem dX8_newVintage_26 : decode cX8_newVintage 26 = .ok (.iload_n 2, 1) := by decide +kernel
theorem dX8_newVintage_27 : decode cX8_newVintage 27 = .ok (.iastore, 1) := by decide +kernel
theorem dX8_newVintage_28 : decode cX8_newVintage 28 = .ok (.aload_n 0, 1) := by decide +kernel
theorem dX8_newVintage_29 : decode cX8_newVintage 29 = .ok (.getfield 9, 3) := by decide +kernel
theorem dX8_newVintage_32 : decode cX8_newVintage 32 = .ok (.bipush 19, 2) := by decide +kernel
theorem dX8_newVintage_34 : decode cX8_newVintage 34 = .ok (.dup2, 1) := by decide +kernel
theorem dX8_newVintage_35 : decode cX8_newVintage 35 = .ok (.iaload, 1) := by decide +kernel
theorem dX8_newVintage_36 : decode cX8_newVintage 36 = .ok (.iconst 1, 1) := by decide +kernel
theorem dX8_newVintage_37 : decode cX8_newVintage 37 = .ok (.iadd, 1) := by decide +kernel
theorem dX8_newVintage_38 : decode cX8_newVintage 38 = .ok (.iastore, 1) := by decide +kernel
theorem dX8_newVintage_39 : decode cX8_newVintage 39 = .ok (.iload_n 3, 1) := by decide +kernel
theorem dX8_newVintage_40 : decode cX8_newVintage 40 = .ok (.ireturn, 1) := by decide +kernel
theorem dX8_vintage_0 : decode cX8_vintage 0 = .ok (.iload_n 1, 1) := by decide +kernel
theorem dX8_vintage_1 : decode cX8_vintage 1 = .ok (.iconst 0, 1) := by decide +kernel
theorem dX8_vintage_2 : decode cX8_vintage 2 = .ok (.sipush 199, 3) := by decide +kernel
theorem dX8_vintage_5 : decode cX8_vintage 5 = .ok (.invokestatic 53, 3) := by decide +kernel
theorem dX8_vintage_8 : decode cX8_vintage 8 = .ok (.ifCond .eq 13, 3) := by decide +kernel
theorem dX8_vintage_11 : decode cX8_vintage 11 = .ok (.iload_n 2, 1) := by decide +kernel
theorem dX8_vintage_12 : decode cX8_vintage 12 = .ok (.iconst 0, 1) := by decide +kernel
theorem dX8_vintage_13 : decode cX8_vintage 13 = .ok (.bipush 99, 2) := by decide +kernel
theorem dX8_vintage_15 : decode cX8_vintage 15 = .ok (.invokestatic 53, 3) := by decide +kernel
theorem dX8_vintage_18 : decode cX8_vintage 18 = .ok (.ifCond .ne 6, 3) := by decide +kernel
theorem dX8_vintage_21 : decode cX8_vintage 21 = .ok (.bipush (-2), 2) := by decide +kernel
theorem dX8_vintage_23 : decode cX8_vintage 23 = .ok (.ireturn, 1) := by decide +kernel
theorem dX8_vintage_24 : decode cX8_vintage 24 = .ok (.aload_n 0, 1) := by decide +kernel
theorem dX8_vintage_25 : decode cX8_vintage 25 = .ok (.getfield 9, 3) := by decide +kernel
theorem dX8_vintage_28 : decode cX8_vintage 28 = .ok (.bipush 19, 2) := by decide +kernel
theorem dX8_vintage_30 : decode cX8_vintage 30 = .ok (.iaload, 1) := by decide +kernel
theorem dX8_vintage_31 : decode cX8_vintage 31 = .ok (.iconst 5, 1) := by decide +kernel
theorem dX8_vintage_32 : decode cX8_vintage 32 = .ok (.if_icmp .ne 8, 3) := by decide +kernel
theorem dX8_vintage_35 : decode cX8_vintage 35 = .ok (.bipush (-4), 2) := by decide +kernel
theorem dX8_vintage_37 : decode cX8_vintage 37 = .ok (.goto 9, 3) := by decide +kernel
theorem dX8_vintage_40 : decode cX8_vintage 40 = .ok (.aload_n 0, 1) := by decide +kernel
theorem dX8_vintage_41 : decode cX8_vintage 41 = .ok (.iload_n 1, 1) := by decide +kernel
theorem dX8_vintage_42 : decode cX8_vintage 42 = .ok (.iload_n 2, 1) := by decide +kernel
theorem dX8_vintage_43 : decode cX8_vintage 43 = .ok (.invokevirtual 166, 3) := by decide +kernel
theorem dX8_vintage_46 : decode cX8_vintage 46 = .ok (.ireturn, 1) := by decide +kernel
theorem dX8_of_0 : decode cX8_of 0 = .ok (.aload_n 0, 1) := by decide +kernel
theorem dX8_of_1 : decode cX8_of 1 = .ok (.iload_n 1, 1) := by decide +kernel
theorem dX8_of_2 : decode cX8_of 2 = .ok (.invokevirtual 169, 3) := by decide +kernel
theorem dX8_of_5 : decode cX8_of 5 = .ok (.ifCond .eq 13, 3) := by decide +kernel
theorem dX8_of_8 : decode cX8_of 8 = .ok (.iload_n 2, 1) := by decide +kernel
theorem dX8_of_9 : decode cX8_of 9 = .ok (.iconst 0, 1) := by decide +kernel
theorem dX8_of_10 : decode cX8_of 10 = .ok (.bipush 8, 2) := by decide +kernel
theorem dX8_of_12 : decode cX8_of 12 = .ok (.invokestatic 53, 3) := by decide +kernel
theorem dX8_of_15 : decode cX8_of 15 = .ok (.ifCond .ne 7, 3) := by decide +kernel
theorem dX8_of_18 : decode cX8_of 18 = .ok (.sipush (-10001), 3) := by decide +kernel
theorem dX8_of_21 : decode cX8_of 21 = .ok (.ireturn, 1) := by decide +kernel
theorem dX8_of_22 : decode cX8_of 22 = .ok (.iload_n 2, 1) := by decide +kernel
theorem dX8_of_23 : decode cX8_of 23 = .ok (.tableswitch 90 4 8 #[33, 45, 51, 65, 76], 33) := by decide +kernel
theorem dX8_of_56 : decode cX8_of 56 = .ok (.aload_n 0, 1) := by decide +kernel
theorem dX8_of_57 : decode cX8_of 57 = .ok (.getfield 9, 3) := by decide +kernel
theorem dX8_of_60 : decode cX8_of 60 = .ok (.iconst 1, 1) := by decide +kernel
theorem dX8_of_61 : decode cX8_of 61 = .ok (.iload_n 1, 1) := by decide +kernel
theorem dX8_of_62 : decode cX8_of 62 = .ok (.iadd, 1) := by decide +kernel
theorem dX8_of_63 : decode cX8_of 63 = .ok (.iaload, 1) := by decide +kernel
theorem dX8_of_64 : decode cX8_of 64 = .ok (.invokestatic 172, 3) := by decide +kernel
theorem dX8_of_67 : decode cX8_of 67 = .ok (.ireturn, 1) := by decide +kernel
theorem dX8_of_68 : decode cX8_of 68 = .ok (.aload_n 0, 1) := by decide +kernel
theorem dX8_of_69 : decode cX8_of 69 = .ok (.iload_n 1, 1) := by decide +kernel
theorem dX8_of_70 : decode cX8_of 70 = .ok (.invokevirtual 155, 3) := by decide +kernel
theorem dX8_of_73 : decode cX8_of 73 = .ok (.ireturn, 1) := by decide +kernel
theorem dX8_of_74 : decode cX8_of 74 = .ok (.aload_n 0, 1) := by decide +kernel
theorem dX8_of_75 : decode cX8_of 75 = .ok (.iload_n 1, 1) := by decide +kernel
theorem dX8_of_76 : decode cX8_of 76 = .ok (.invokevirtual 159, 3) := by decide +kernel
theorem dX8_of_79 : decode cX8_of 79 = .ok (.ifCond .eq 7, 3) := by decide +kernel
theorem dX8_of_82 : decode cX8_of 82 = .ok (.iconst 1, 1) := by decide +kernel
theorem dX8_of_83 : decode cX8_of 83 = .ok (.goto 4, 3) := by decide +kernel
theorem dX8_of_86 : decode cX8_of 86 = .ok (.iconst 0, 1) := by decide +kernel
theorem dX8_of_87 : decode cX8_of 87 = .ok (.ireturn, 1) := by decide +kernel
theorem dX8_of_88 : decode cX8_of 88 = .ok (.aload_n 0, 1) := by decide +kernel
theorem dX8_of_89 : decode cX8_of 89 = .ok (.iload_n 1, 1) := by decide +kernel
theorem dX8_of_90 : decode cX8_of 90 = .ok (.aload_n 0, 1) := by decide +kernel
theorem dX8_of_91 : decode cX8_of 91 = .ok (.iload_n 1, 1) := by decide +kernel
theorem dX8_of_92 : decode cX8_of 92 = .ok (.invokevirtual 155, 3) := by decide +kernel
theorem dX8_of_95 : decode cX8_of 95 = .ok (.invokevirtual 149, 3) := by decide +kernel
theorem dX8_of_98 : decode cX8_of 98 = .ok (.ireturn, 1) := by decide +kernel
theorem dX8_of_99 : decode cX8_of 99 = .ok (.aload_n 0, 1) := by decide +kernel
theorem dX8_of_100 : decode cX8_of 100 = .ok (.iload_n 1, 1) := by decide +kernel
theorem dX8_of_101 : decode cX8_of 101 = .ok (.aload_n 0, 1) := by decide +kernel
theorem dX8_of_102 : decode cX8_of 102 = .ok (.getfield 9, 3) := by decide +kernel
theorem dX8_of_105 : decode cX8_of 105 = .ok (.iconst 1, 1) := by decide +kernel
theorem dX8_of_106 : decode cX8_of 106 = .ok (.iload_n 1, 1) := by decide +kernel
theorem dX8_of_107 : decode cX8_of 107 = .ok (.iadd, 1) := by decide +kernel
theorem dX8_of_108 : decode cX8_of 108 = .ok (.iaload, 1) := by decide +kernel
theorem dX8_of_109 : decode cX8_of 109 = .ok (.invokevirtual 163, 3) := by decide +kernel
theorem dX8_of_112 : decode cX8_of 112 = .ok (.ireturn, 1) := by decide +kernel
theorem dX8_of_113 : decode cX8_of 113 = .ok (.aload_n 0, 1) := by decide +kernel
theorem dX8_of_114 : decode cX8_of 114 = .ok (.getfield 9, 3) := by decide +kernel
theorem dX8_of_117 : decode cX8_of 117 = .ok (.bipush 20, 2) := by decide +kernel
theorem dX8_of_119 : decode cX8_of 119 = .ok (.bipush 6, 2) := by decide +kernel
theorem dX8_of_121 : decode cX8_of 121 = .ok (.iload_n 2, 1) := by decide +kernel
theorem dX8_of_122 : decode cX8_of 122 = .ok (.imul, 1) := by decide +kernel
theorem dX8_of_123 : decode cX8_of 123 = .ok (.iadd, 1) := by decide +kernel
theorem dX8_of_124 : decode cX8_of 124 = .ok (.iload_n 1, 1) := by decide +kernel
theorem dX8_of_125 : decode cX8_of 125 = .ok (.iadd, 1) := by decide +kernel
theorem dX8_of_126 : decode cX8_of 126 = .ok (.iaload, 1) := by decide +kernel
theorem dX8_of_127 : decode cX8_of 127 = .ok (.ireturn, 1) := by decide +kernel
theorem dX8_row_0 : decode cX8_row 0 = .ok (.aload_n 0, 1) := by decide +kernel
theorem dX8_row_1 : decode cX8_row 1 = .ok (.iload_n 1, 1) := by decide +kernel
theorem dX8_row_2 : decode cX8_row 2 = .ok (.invokevirtual 169, 3) := by decide +kernel
theorem dX8_row_5 : decode cX8_row 5 = .ok (.ifCond .eq 12, 3) := by decide +kernel
theorem dX8_row_8 : decode cX8_row 8 = .ok (.iload_n 2, 1) := by decide +kernel
theorem dX8_row_9 : decode cX8_row 9 = .ok (.iconst 0, 1) := by decide +kernel
theorem dX8_row_10 : decode cX8_row 10 = .ok (.iconst 3, 1) := by decide +kernel
theorem dX8_row_11 : decode cX8_row 11 = .ok (.invokestatic 53, 3) := by decide +kernel
theorem dX8_row_14 : decode cX8_row 14 = .ok (.ifCond .ne 5, 3) := by decide +kernel
theorem dX8_row_17 : decode cX8_row 17 = .ok (.iconst (-1), 1) := by decide +kernel
theorem dX8_row_18 : decode cX8_row 18 = .ok (.ireturn, 1) := by decide +kernel
theorem dX8_row_19 : decode cX8_row 19 = .ok (.iload_n 3, 1) := by decide +kernel
theorem dX8_row_20 : decode cX8_row 20 = .ok (.iconst 0, 1) := by decide +kernel
theorem dX8_row_21 : decode cX8_row 21 = .ok (.bipush 9, 2) := by decide +kernel
theorem dX8_row_23 : decode cX8_row 23 = .ok (.invokestatic 53, 3) := by decide +kernel
theorem dX8_row_26 : decode cX8_row 26 = .ok (.ifCond .ne 6, 3) := by decide +kernel
theorem dX8_row_29 : decode cX8_row 29 = .ok (.bipush (-2), 2) := by decide +kernel
theorem dX8_row_31 : decode cX8_row 31 = .ok (.ireturn, 1) := by decide +kernel
theorem dX8_row_32 : decode cX8_row 32 = .ok (.aload_n 0, 1) := by decide +kernel
theorem dX8_row_33 : decode cX8_row 33 = .ok (.getfield 9, 3) := by decide +kernel
theorem dX8_row_36 : decode cX8_row 36 = .ok (.bipush 20, 2) := by decide +kernel
theorem dX8_row_38 : decode cX8_row 38 = .ok (.iload_n 1, 1) := by decide +kernel
theorem dX8_row_39 : decode cX8_row 39 = .ok (.iadd, 1) := by decide +kernel
theorem dX8_row_40 : decode cX8_row 40 = .ok (.iaload, 1) := by decide +kernel
theorem dX8_row_41 : decode cX8_row 41 = .ok (.bipush 6, 2) := by decide +kernel
theorem dX8_row_43 : decode cX8_row 43 = .ok (.if_icmp .eq 6, 3) := by decide +kernel
theorem dX8_row_46 : decode cX8_row 46 = .ok (.bipush (-3), 2) := by decide +kernel
theorem dX8_row_48 : decode cX8_row 48 = .ok (.ireturn, 1) := by decide +kernel
theorem dX8_row_49 : decode cX8_row 49 = .ok (.aload_n 0, 1) := by decide +kernel
theorem dX8_row_50 : decode cX8_row 50 = .ok (.getfield 9, 3) := by decide +kernel
theorem dX8_row_53 : decode cX8_row 53 = .ok (.bipush 44, 2) := by decide +kernel
theorem dX8_row_55 : decode cX8_row 55 = .ok (.iconst 4, 1) := by decide +kernel
theorem dX8_row_56 : decode cX8_row 56 = .ok (.iload_n 1, 1) := by decide +kernel
theorem dX8_row_57 : decode cX8_row 57 = .ok (.imul, 1) := by decide +kernel
theorem dX8_row_58 : decode cX8_row 58 = .ok (.iadd, 1) := by decide +kernel
theorem dX8_row_59 : decode cX8_row 59 = .ok (.iload_n 2, 1) := by decide +kernel
theorem dX8_row_60 : decode cX8_row 60 = .ok (.iadd, 1) := by decide +kernel
theorem dX8_row_61 : decode cX8_row 61 = .ok (.iaload, 1) := by decide +kernel
theorem dX8_row_62 : decode cX8_row 62 = .ok (.istore 4, 2) := by decide +kernel
theorem dX8_row_64 : decode cX8_row 64 = .ok (.aload_n 0, 1) := by decide +kernel
theorem dX8_row_65 : decode cX8_row 65 = .ok (.getfield 9, 3) := by decide +kernel
theorem dX8_row_68 : decode cX8_row 68 = .ok (.bipush 44, 2) := by decide +kernel
theorem dX8_row_70 : decode cX8_row 70 = .ok (.iconst 4, 1) := by decide +kernel
theorem dX8_row_71 : decode cX8_row 71 = .ok (.iload_n 1, 1) := by decide +kernel
theorem dX8_row_72 : decode cX8_row 72 = .ok (.imul, 1) := by decide +kernel
theorem dX8_row_73 : decode cX8_row 73 = .ok (.iadd, 1) := by decide +kernel
theorem dX8_row_74 : decode cX8_row 74 = .ok (.iload_n 2, 1) := by decide +kernel
theorem dX8_row_75 : decode cX8_row 75 = .ok (.iadd, 1) := by decide +kernel
theorem dX8_row_76 : decode cX8_row 76 = .ok (.iload_n 3, 1) := by decide +kernel
theorem dX8_row_77 : decode cX8_row 77 = .ok (.iastore, 1) := by decide +kernel
theorem dX8_row_78 : decode cX8_row 78 = .ok (.iload 4, 2) := by decide +kernel
theorem dX8_row_80 : decode cX8_row 80 = .ok (.ireturn, 1) := by decide +kernel
theorem dX8_wine_0 : decode cX8_wine 0 = .ok (.aload_n 0, 1) := by decide +kernel
theorem dX8_wine_1 : decode cX8_wine 1 = .ok (.iload_n 1, 1) := by decide +kernel
theorem dX8_wine_2 : decode cX8_wine 2 = .ok (.invokevirtual 175, 3) := by decide +kernel
theorem dX8_wine_5 : decode cX8_wine 5 = .ok (.ifCond .eq 12, 3) := by decide +kernel
theorem dX8_wine_8 : decode cX8_wine 8 = .ok (.iload_n 2, 1) := by decide +kernel
theorem dX8_wine_9 : decode cX8_wine 9 = .ok (.iconst 0, 1) := by decide +kernel
theorem dX8_wine_10 : decode cX8_wine 10 = .ok (.iconst 1, 1) := by decide +kernel
theorem dX8_wine_11 : decode cX8_wine 11 = .ok (.invokestatic 53, 3) := by decide +kernel
theorem dX8_wine_14 : decode cX8_wine 14 = .ok (.ifCond .ne 5, 3) := by decide +kernel
theorem dX8_wine_17 : decode cX8_wine 17 = .ok (.iconst (-1), 1) := by decide +kernel
theorem dX8_wine_18 : decode cX8_wine 18 = .ok (.ireturn, 1) := by decide +kernel
theorem dX8_wine_19 : decode cX8_wine 19 = .ok (.iload_n 2, 1) := by decide +kernel
theorem dX8_wine_20 : decode cX8_wine 20 = .ok (.ifCond .ne 15, 3) := by decide +kernel
theorem dX8_wine_23 : decode cX8_wine 23 = .ok (.aload_n 0, 1) := by decide +kernel
theorem dX8_wine_24 : decode cX8_wine 24 = .ok (.getfield 9, 3) := by decide +kernel
theorem dX8_wine_27 : decode cX8_wine 27 = .ok (.bipush 68, 2) := by decide +kernel
theorem dX8_wine_29 : decode cX8_wine 29 = .ok (.iload_n 1, 1) := by decide +kernel
theorem dX8_wine_30 : decode cX8_wine 30 = .ok (.iadd, 1) := by decide +kernel
theorem dX8_wine_31 : decode cX8_wine 31 = .ok (.iaload, 1) := by decide +kernel
theorem dX8_wine_32 : decode cX8_wine 32 = .ok (.goto 12, 3) := by decide +kernel
theorem dX8_wine_35 : decode cX8_wine 35 = .ok (.aload_n 0, 1) := by decide +kernel
theorem dX8_wine_36 : decode cX8_wine 36 = .ok (.getfield 9, 3) := by decide +kernel
theorem dX8_wine_39 : decode cX8_wine 39 = .ok (.bipush 7, 2) := by decide +kernel
theorem dX8_wine_41 : decode cX8_wine 41 = .ok (.iload_n 1, 1) := by decide +kernel
theorem dX8_wine_42 : decode cX8_wine 42 = .ok (.iadd, 1) := by decide +kernel
theorem dX8_wine_43 : decode cX8_wine 43 = .ok (.iaload, 1) := by decide +kernel
theorem dX8_wine_44 : decode cX8_wine 44 = .ok (.ireturn, 1) := by decide +kernel
theorem dX8_stock_0 : decode cX8_stock 0 = .ok (.aload_n 0, 1) := by decide +kernel
theorem dX8_stock_1 : decode cX8_stock 1 = .ok (.iload_n 1, 1) := by decide +kernel
theorem dX8_stock_2 : decode cX8_stock 2 = .ok (.invokevirtual 175, 3) := by decide +kernel
theorem dX8_stock_5 : decode cX8_stock 5 = .ok (.ifCond .ne 5, 3) := by decide +kernel
theorem dX8_stock_8 : decode cX8_stock 8 = .ok (.iconst (-1), 1) := by decide +kernel
theorem dX8_stock_9 : decode cX8_stock 9 = .ok (.ireturn, 1) := by decide +kernel
theorem dX8_stock_10 : decode cX8_stock 10 = .ok (.iload_n 2, 1) := by decide +kernel
theorem dX8_stock_11 : decode cX8_stock 11 = .ok (.iconst 0, 1) := by decide +kernel
theorem dX8_stock_12 : decode cX8_stock 12 = .ok (.bipush 99, 2) := by decide +kernel
theorem dX8_stock_14 : decode cX8_stock 14 = .ok (.invokestatic 53, 3) := by decide +kernel
theorem dX8_stock_17 : decode cX8_stock 17 = .ok (.ifCond .ne 6, 3) := by decide +kernel
theorem dX8_stock_20 : decode cX8_stock 20 = .ok (.bipush (-2), 2) := by decide +kernel
theorem dX8_stock_22 : decode cX8_stock 22 = .ok (.ireturn, 1) := by decide +kernel
theorem dX8_stock_23 : decode cX8_stock 23 = .ok (.aload_n 0, 1) := by decide +kernel
theorem dX8_stock_24 : decode cX8_stock 24 = .ok (.getfield 9, 3) := by decide +kernel
theorem dX8_stock_27 : decode cX8_stock 27 = .ok (.bipush 7, 2) := by decide +kernel
theorem dX8_stock_29 : decode cX8_stock 29 = .ok (.iload_n 1, 1) := by decide +kernel
theorem dX8_stock_30 : decode cX8_stock 30 = .ok (.iadd, 1) := by decide +kernel
theorem dX8_stock_31 : decode cX8_stock 31 = .ok (.iaload, 1) := by decide +kernel
theorem dX8_stock_32 : decode cX8_stock 32 = .ok (.istore_n 3, 1) := by decide +kernel
theorem dX8_stock_33 : decode cX8_stock 33 = .ok (.aload_n 0, 1) := by decide +kernel
theorem dX8_stock_34 : decode cX8_stock 34 = .ok (.getfield 9, 3) := by decide +kernel
theorem dX8_stock_37 : decode cX8_stock 37 = .ok (.bipush 7, 2) := by decide +kernel
theorem dX8_stock_39 : decode cX8_stock 39 = .ok (.iload_n 1, 1) := by decide +kernel
theorem dX8_stock_40 : decode cX8_stock 40 = .ok (.iadd, 1) := by decide +kernel
theorem dX8_stock_41 : decode cX8_stock 41 = .ok (.iload_n 2, 1) := by decide +kernel
theorem dX8_stock_42 : decode cX8_stock 42 = .ok (.iastore, 1) := by decide +kernel
theorem dX8_stock_43 : decode cX8_stock 43 = .ok (.iload_n 3, 1) := by decide +kernel
theorem dX8_stock_44 : decode cX8_stock 44 = .ok (.ireturn, 1) := by decide +kernel
theorem dX8_told_0 : decode cX8_told 0 = .ok (.iload_n 1, 1) := by decide +kernel
theorem dX8_told_1 : decode cX8_told 1 = .ok (.tableswitch 81 0 5 #[39, 46, 56, 66, 71, 76], 39) := by decide +kernel
theorem dX8_told_40 : decode cX8_told 40 = .ok (.aload_n 0, 1) := by decide +kernel
theorem dX8_told_41 : decode cX8_told 41 = .ok (.getfield 9, 3) := by decide +kernel
theorem dX8_told_44 : decode cX8_told 44 = .ok (.iconst 0, 1) := by decide +kernel
theorem dX8_told_45 : decode cX8_told 45 = .ok (.iaload, 1) := by decide +kernel
theorem dX8_told_46 : decode cX8_told 46 = .ok (.ireturn, 1) := by decide +kernel
theorem dX8_told_47 : decode cX8_told 47 = .ok (.aload_n 0, 1) := by decide +kernel
theorem dX8_told_48 : decode cX8_told 48 = .ok (.sipush 223, 3) := by decide +kernel
theorem dX8_told_51 : decode cX8_told 51 = .ok (.bipush 18, 2) := by decide +kernel
theorem dX8_told_53 : decode cX8_told 53 = .ok (.invokevirtual 143, 3) := by decide +kernel
theorem dX8_told_56 : decode cX8_told 56 = .ok (.ireturn, 1) := by decide +kernel
theorem dX8_told_57 : decode cX8_told 57 = .ok (.aload_n 0, 1) := by decide +kernel
theorem dX8_told_58 : decode cX8_told 58 = .ok (.sipush 228, 3) := by decide +kernel
theorem dX8_told_61 : decode cX8_told 61 = .ok (.bipush 60, 2) := by decide +kernel
theorem dX8_told_63 : decode cX8_told 63 = .ok (.invokevirtual 143, 3) := by decide +kernel
theorem dX8_told_66 : decode cX8_told 66 = .ok (.ireturn, 1) := by decide +kernel
theorem dX8_told_67 : decode cX8_told 67 = .ok (.aload_n 0, 1) := by decide +kernel
theorem dX8_told_68 : decode cX8_told 68 = .ok (.invokevirtual 178, 3) := by decide +kernel
theorem dX8_told_71 : decode cX8_told 71 = .ok (.ireturn, 1) := by decide +kernel
theorem dX8_told_72 : decode cX8_told 72 = .ok (.aload_n 0, 1) := by decide +kernel
theorem dX8_told_73 : decode cX8_told 73 = .ok (.invokevirtual 181, 3) := by decide +kernel
theorem dX8_told_76 : decode cX8_told 76 = .ok (.ireturn, 1) := by decide +kernel
theorem dX8_told_77 : decode cX8_told 77 = .ok (.aload_n 0, 1) := by decide +kernel
theorem dX8_told_78 : decode cX8_told 78 = .ok (.invokevirtual 184, 3) := by decide +kernel
theorem dX8_told_81 : decode cX8_told 81 = .ok (.ireturn, 1) := by decide +kernel
theorem dX8_told_82 : decode cX8_told 82 = .ok (.iconst (-1), 1) := by decide +kernel
theorem dX8_told_83 : decode cX8_told 83 = .ok (.ireturn, 1) := by decide +kernel
theorem dX8_pours_0 : decode cX8_pours 0 = .ok (.aload_n 0, 1) := by decide +kernel
theorem dX8_pours_1 : decode cX8_pours 1 = .ok (.getfield 9, 3) := by decide +kernel
theorem dX8_pours_4 : decode cX8_pours 4 = .ok (.bipush 7, 2) := by decide +kernel
theorem dX8_pours_6 : decode cX8_pours 6 = .ok (.iload_n 2, 1) := by decide +kernel
theorem dX8_pours_7 : decode cX8_pours 7 = .ok (.iadd, 1) := by decide +kernel
theorem dX8_pours_8 : decode cX8_pours 8 = .ok (.iaload, 1) := by decide +kernel
theorem dX8_pours_9 : decode cX8_pours 9 = .ok (.ifCond .le 25, 3) := by decide +kernel
theorem dX8_pours_12 : decode cX8_pours 12 = .ok (.aload_n 0, 1) := by decide +kernel
theorem dX8_pours_13 : decode cX8_pours 13 = .ok (.getfield 9, 3) := by decide +kernel
theorem dX8_pours_16 : decode cX8_pours 16 = .ok (.bipush 7, 2) := by decide +kernel
theorem dX8_pours_18 : decode cX8_pours 18 = .ok (.iload_n 2, 1) := by decide +kernel
theorem dX8_pours_19 : decode cX8_pours 19 = .ok (.iadd, 1) := by decide +kernel
theorem dX8_pours_20 : decode cX8_pours 20 = .ok (.dup2, 1) := by decide +kernel
theorem dX8_pours_21 : decode cX8_pours 21 = .ok (.iaload, 1) := by decide +kernel
theorem dX8_pours_22 : decode cX8_pours 22 = .ok (.iconst 1, 1) := by decide +kernel
theorem dX8_pours_23 : decode cX8_pours 23 = .ok (.isub, 1) := by decide +kernel
theorem dX8_pours_24 : decode cX8_pours 24 = .ok (.iastore, 1) := by decide +kernel
theorem dX8_pours_25 : decode cX8_pours 25 = .ok (.aload_n 0, 1) := by decide +kernel
theorem dX8_pours_26 : decode cX8_pours 26 = .ok (.getfield 9, 3) := by decide +kernel
theorem dX8_pours_29 : decode cX8_pours 29 = .ok (.iconst 1, 1) := by decide +kernel
theorem dX8_pours_30 : decode cX8_pours 30 = .ok (.iload_n 1, 1) := by decide +kernel
theorem dX8_pours_31 : decode cX8_pours 31 = .ok (.iadd, 1) := by decide +kernel
theorem dX8_pours_32 : decode cX8_pours 32 = .ok (.iload_n 2, 1) := by decide +kernel
theorem dX8_pours_33 : decode cX8_pours 33 = .ok (.iastore, 1) := by decide +kernel
theorem dX8_pours_34 : decode cX8_pours 34 = .ok (.return_, 1) := by decide +kernel
theorem dX8_pour_0 : decode cX8_pour 0 = .ok (.aload_n 0, 1) := by decide +kernel
theorem dX8_pour_1 : decode cX8_pour 1 = .ok (.iload_n 1, 1) := by decide +kernel
theorem dX8_pour_2 : decode cX8_pour 2 = .ok (.invokevirtual 169, 3) := by decide +kernel
theorem dX8_pour_5 : decode cX8_pour 5 = .ok (.ifCond .eq 11, 3) := by decide +kernel
theorem dX8_pour_8 : decode cX8_pour 8 = .ok (.aload_n 0, 1) := by decide +kernel
theorem dX8_pour_9 : decode cX8_pour 9 = .ok (.iload_n 2, 1) := by decide +kernel
theorem dX8_pour_10 : decode cX8_pour 10 = .ok (.invokevirtual 175, 3) := by decide +kernel
theorem dX8_pour_13 : decode cX8_pour 13 = .ok (.ifCond .ne 5, 3) := by decide +kernel
theorem dX8_pour_16 : decode cX8_pour 16 = .ok (.iconst (-1), 1) := by decide +kernel
theorem dX8_pour_17 : decode cX8_pour 17 = .ok (.ireturn, 1) := by decide +kernel
theorem dX8_pour_18 : decode cX8_pour 18 = .ok (.aload_n 0, 1) := by decide +kernel
theorem dX8_pour_19 : decode cX8_pour 19 = .ok (.getfield 9, 3) := by decide +kernel
theorem dX8_pour_22 : decode cX8_pour 22 = .ok (.bipush 7, 2) := by decide +kernel
theorem dX8_pour_24 : decode cX8_pour 24 = .ok (.iload_n 2, 1) := by decide +kernel
theorem dX8_pour_25 : decode cX8_pour 25 = .ok (.iadd, 1) := by decide +kernel
theorem dX8_pour_26 : decode cX8_pour 26 = .ok (.iaload, 1) := by decide +kernel
theorem dX8_pour_27 : decode cX8_pour 27 = .ok (.ifCond .ne 6, 3) := by decide +kernel
theorem dX8_pour_30 : decode cX8_pour 30 = .ok (.bipush (-3), 2) := by decide +kernel
theorem dX8_pour_32 : decode cX8_pour 32 = .ok (.ireturn, 1) := by decide +kernel
theorem dX8_pour_33 : decode cX8_pour 33 = .ok (.aload_n 0, 1) := by decide +kernel
theorem dX8_pour_34 : decode cX8_pour 34 = .ok (.iload_n 1, 1) := by decide +kernel
theorem dX8_pour_35 : decode cX8_pour 35 = .ok (.iload_n 2, 1) := by decide +kernel
theorem dX8_pour_36 : decode cX8_pour 36 = .ok (.invokevirtual 187, 3) := by decide +kernel
theorem dX8_pour_39 : decode cX8_pour 39 = .ok (.aload_n 0, 1) := by decide +kernel
theorem dX8_pour_40 : decode cX8_pour 40 = .ok (.iload_n 1, 1) := by decide +kernel
theorem dX8_pour_41 : decode cX8_pour 41 = .ok (.aload_n 0, 1) := by decide +kernel
theorem dX8_pour_42 : decode cX8_pour 42 = .ok (.iload_n 1, 1) := by decide +kernel
theorem dX8_pour_43 : decode cX8_pour 43 = .ok (.invokevirtual 155, 3) := by decide +kernel
theorem dX8_pour_46 : decode cX8_pour 46 = .ok (.invokevirtual 149, 3) := by decide +kernel
theorem dX8_pour_49 : decode cX8_pour 49 = .ok (.ireturn, 1) := by decide +kernel
theorem dX8_dry_0 : decode cX8_dry 0 = .ok (.aload_n 0, 1) := by decide +kernel
theorem dX8_dry_1 : decode cX8_dry 1 = .ok (.iload_n 1, 1) := by decide +kernel
theorem dX8_dry_2 : decode cX8_dry 2 = .ok (.invokevirtual 169, 3) := by decide +kernel
theorem dX8_dry_5 : decode cX8_dry 5 = .ok (.ifCond .ne 5, 3) := by decide +kernel
theorem dX8_dry_8 : decode cX8_dry 8 = .ok (.iconst (-1), 1) := by decide +kernel
theorem dX8_dry_9 : decode cX8_dry 9 = .ok (.ireturn, 1) := by decide +kernel
theorem dX8_dry_10 : decode cX8_dry 10 = .ok (.aload_n 0, 1) := by decide +kernel
theorem dX8_dry_11 : decode cX8_dry 11 = .ok (.getfield 9, 3) := by decide +kernel
theorem dX8_dry_14 : decode cX8_dry 14 = .ok (.iconst 1, 1) := by decide +kernel
theorem dX8_dry_15 : decode cX8_dry 15 = .ok (.iload_n 1, 1) := by decide +kernel
theorem dX8_dry_16 : decode cX8_dry 16 = .ok (.iadd, 1) := by decide +kernel
theorem dX8_dry_17 : decode cX8_dry 17 = .ok (.iaload, 1) := by decide +kernel
theorem dX8_dry_18 : decode cX8_dry 18 = .ok (.invokestatic 172, 3) := by decide +kernel
theorem dX8_dry_21 : decode cX8_dry 21 = .ok (.istore_n 2, 1) := by decide +kernel
theorem dX8_dry_22 : decode cX8_dry 22 = .ok (.aload_n 0, 1) := by decide +kernel
theorem dX8_dry_23 : decode cX8_dry 23 = .ok (.getfield 9, 3) := by decide +kernel
theorem dX8_dry_26 : decode cX8_dry 26 = .ok (.iconst 1, 1) := by decide +kernel
theorem dX8_dry_27 : decode cX8_dry 27 = .ok (.iload_n 1, 1) := by decide +kernel
theorem dX8_dry_28 : decode cX8_dry 28 = .ok (.iadd, 1) := by decide +kernel
theorem dX8_dry_29 : decode cX8_dry 29 = .ok (.iconst (-1), 1) := by decide +kernel
theorem dX8_dry_30 : decode cX8_dry 30 = .ok (.iastore, 1) := by decide +kernel
theorem dX8_dry_31 : decode cX8_dry 31 = .ok (.iload_n 2, 1) := by decide +kernel
theorem dX8_dry_32 : decode cX8_dry 32 = .ok (.ireturn, 1) := by decide +kernel
theorem dX8_dawns_0 : decode cX8_dawns 0 = .ok (.iconst 0, 1) := by decide +kernel
theorem dX8_dawns_1 : decode cX8_dawns 1 = .ok (.istore_n 1, 1) := by decide +kernel
theorem dX8_dawns_2 : decode cX8_dawns 2 = .ok (.iload_n 1, 1) := by decide +kernel
theorem dX8_dawns_3 : decode cX8_dawns 3 = .ok (.aload_n 0, 1) := by decide +kernel
theorem dX8_dawns_4 : decode cX8_dawns 4 = .ok (.getfield 9, 3) := by decide +kernel
theorem dX8_dawns_7 : decode cX8_dawns 7 = .ok (.bipush 12, 2) := by decide +kernel
theorem dX8_dawns_9 : decode cX8_dawns 9 = .ok (.iaload, 1) := by decide +kernel
theorem dX8_dawns_10 : decode cX8_dawns 10 = .ok (.if_icmp .ge 18, 3) := by decide +kernel
theorem dX8_dawns_13 : decode cX8_dawns 13 = .ok (.aload_n 0, 1) := by decide +kernel
theorem dX8_dawns_14 : decode cX8_dawns 14 = .ok (.getfield 9, 3) := by decide +kernel
theorem dX8_dawns_17 : decode cX8_dawns 17 = .ok (.iconst 1, 1) := by decide +kernel
theorem dX8_dawns_18 : decode cX8_dawns 18 = .ok (.iload_n 1, 1) := by decide +kernel
theorem dX8_dawns_19 : decode cX8_dawns 19 = .ok (.iadd, 1) := by decide +kernel
theorem dX8_dawns_20 : decode cX8_dawns 20 = .ok (.iconst (-1), 1) := by decide +kernel
theorem dX8_dawns_21 : decode cX8_dawns 21 = .ok (.iastore, 1) := by decide +kernel
theorem dX8_dawns_22 : decode cX8_dawns 22 = .ok (.iinc 1 1, 3) := by decide +kernel
theorem dX8_dawns_25 : decode cX8_dawns 25 = .ok (.goto (-23), 3) := by decide +kernel
theorem dX8_dawns_28 : decode cX8_dawns 28 = .ok (.aload_n 0, 1) := by decide +kernel
theorem dX8_dawns_29 : decode cX8_dawns 29 = .ok (.getfield 9, 3) := by decide +kernel
theorem dX8_dawns_32 : decode cX8_dawns 32 = .ok (.iconst 0, 1) := by decide +kernel
theorem dX8_dawns_33 : decode cX8_dawns 33 = .ok (.dup2, 1) := by decide +kernel
theorem dX8_dawns_34 : decode cX8_dawns 34 = .ok (.iaload, 1) := by decide +kernel
theorem dX8_dawns_35 : decode cX8_dawns 35 = .ok (.iconst 1, 1) := by decide +kernel
theorem dX8_dawns_36 : decode cX8_dawns 36 = .ok (.iadd, 1) := by decide +kernel
theorem dX8_dawns_37 : decode cX8_dawns 37 = .ok (.iastore, 1) := by decide +kernel
theorem dX8_dawns_38 : decode cX8_dawns 38 = .ok (.return_, 1) := by decide +kernel
theorem dX8_dawn_0 : decode cX8_dawn 0 = .ok (.iload_n 1, 1) := by decide +kernel
theorem dX8_dawn_1 : decode cX8_dawn 1 = .ok (.iconst 1, 1) := by decide +kernel
theorem dX8_dawn_2 : decode cX8_dawn 2 = .ok (.bipush 99, 2) := by decide +kernel
theorem dX8_dawn_4 : decode cX8_dawn 4 = .ok (.invokestatic 53, 3) := by decide +kernel
theorem dX8_dawn_7 : decode cX8_dawn 7 = .ok (.ifCond .ne 6, 3) := by decide +kernel
theorem dX8_dawn_10 : decode cX8_dawn 10 = .ok (.bipush (-2), 2) := by decide +kernel
theorem dX8_dawn_12 : decode cX8_dawn 12 = .ok (.ireturn, 1) := by decide +kernel
theorem dX8_dawn_13 : decode cX8_dawn 13 = .ok (.aload_n 0, 1) := by decide +kernel
theorem dX8_dawn_14 : decode cX8_dawn 14 = .ok (.getfield 9, 3) := by decide +kernel
theorem dX8_dawn_17 : decode cX8_dawn 17 = .ok (.iconst 0, 1) := by decide +kernel
theorem dX8_dawn_18 : decode cX8_dawn 18 = .ok (.iaload, 1) := by decide +kernel
theorem dX8_dawn_19 : decode cX8_dawn 19 = .ok (.iload_n 1, 1) := by decide +kernel
theorem dX8_dawn_20 : decode cX8_dawn 20 = .ok (.iadd, 1) := by decide +kernel
theorem dX8_dawn_21 : decode cX8_dawn 21 = .ok (.sipush 999, 3) := by decide +kernel
theorem dX8_dawn_24 : decode cX8_dawn 24 = .ok (.if_icmp .le 6, 3) := by decide +kernel
theorem dX8_dawn_27 : decode cX8_dawn 27 = .ok (.bipush (-3), 2) := by decide +kernel
theorem dX8_dawn_29 : decode cX8_dawn 29 = .ok (.ireturn, 1) := by decide +kernel
theorem dX8_dawn_30 : decode cX8_dawn 30 = .ok (.iconst 0, 1) := by decide +kernel
theorem dX8_dawn_31 : decode cX8_dawn 31 = .ok (.istore_n 2, 1) := by decide +kernel
theorem dX8_dawn_32 : decode cX8_dawn 32 = .ok (.iload_n 2, 1) := by decide +kernel
theorem dX8_dawn_33 : decode cX8_dawn 33 = .ok (.iload_n 1, 1) := by decide +kernel
theorem dX8_dawn_34 : decode cX8_dawn 34 = .ok (.if_icmp .ge 13, 3) := by decide +kernel
theorem dX8_dawn_37 : decode cX8_dawn 37 = .ok (.aload_n 0, 1) := by decide +kernel
theorem dX8_dawn_38 : decode cX8_dawn 38 = .ok (.invokevirtual 191, 3) := by decide +kernel
theorem dX8_dawn_41 : decode cX8_dawn 41 = .ok (.iinc 2 1, 3) := by decide +kernel
theorem dX8_dawn_44 : decode cX8_dawn 44 = .ok (.goto (-12), 3) := by decide +kernel
theorem dX8_dawn_47 : decode cX8_dawn 47 = .ok (.aload_n 0, 1) := by decide +kernel
theorem dX8_dawn_48 : decode cX8_dawn 48 = .ok (.getfield 9, 3) := by decide +kernel
theorem dX8_dawn_51 : decode cX8_dawn 51 = .ok (.iconst 0, 1) := by decide +kernel
theorem dX8_dawn_52 : decode cX8_dawn 52 = .ok (.iaload, 1) := by decide +kernel
theorem dX8_dawn_53 : decode cX8_dawn 53 = .ok (.ireturn, 1) := by decide +kernel
theorem dX8_blend_0 : decode cX8_blend 0 = .ok (.aload_n 0, 1) := by decide +kernel
theorem dX8_blend_1 : decode cX8_blend 1 = .ok (.iload_n 1, 1) := by decide +kernel
theorem dX8_blend_2 : decode cX8_blend 2 = .ok (.invokevirtual 175, 3) := by decide +kernel
theorem dX8_blend_5 : decode cX8_blend 5 = .ok (.ifCond .eq 11, 3) := by decide +kernel
theorem dX8_blend_8 : decode cX8_blend 8 = .ok (.aload_n 0, 1) := by decide +kernel
theorem dX8_blend_9 : decode cX8_blend 9 = .ok (.iload_n 2, 1) := by decide +kernel
theorem dX8_blend_10 : decode cX8_blend 10 = .ok (.invokevirtual 175, 3) := by decide +kernel
theorem dX8_blend_13 : decode cX8_blend 13 = .ok (.ifCond .ne 5, 3) := by decide +kernel
theorem dX8_blend_16 : decode cX8_blend 16 = .ok (.iconst (-1), 1) := by decide +kernel
theorem dX8_blend_17 : decode cX8_blend 17 = .ok (.ireturn, 1) := by decide +kernel
theorem dX8_blend_18 : decode cX8_blend 18 = .ok (.iload_n 1, 1) := by decide +kernel
theorem dX8_blend_19 : decode cX8_blend 19 = .ok (.iload_n 2, 1) := by decide +kernel
theorem dX8_blend_20 : decode cX8_blend 20 = .ok (.if_icmp .ne 6, 3) := by decide +kernel
theorem dX8_blend_23 : decode cX8_blend 23 = .ok (.bipush (-2), 2) := by decide +kernel
theorem dX8_blend_25 : decode cX8_blend 25 = .ok (.ireturn, 1) := by decide +kernel
theorem dX8_blend_26 : decode cX8_blend 26 = .ok (.aload_n 0, 1) := by decide +kernel
theorem dX8_blend_27 : decode cX8_blend 27 = .ok (.getfield 9, 3) := by decide +kernel
theorem dX8_blend_30 : decode cX8_blend 30 = .ok (.bipush 7, 2) := by decide +kernel
theorem dX8_blend_32 : decode cX8_blend 32 = .ok (.iload_n 1, 1) := by decide +kernel
theorem dX8_blend_33 : decode cX8_blend 33 = .ok (.iadd, 1) := by decide +kernel
theorem dX8_blend_34 : decode cX8_blend 34 = .ok (.iaload, 1) := by decide +kernel
theorem dX8_blend_35 : decode cX8_blend 35 = .ok (.ifCond .eq 15, 3) := by decide +kernel
theorem dX8_blend_38 : decode cX8_blend 38 = .ok (.aload_n 0, 1) := by decide +kernel
theorem dX8_blend_39 : decode cX8_blend 39 = .ok (.getfield 9, 3) := by decide +kernel
theorem dX8_blend_42 : decode cX8_blend 42 = .ok (.bipush 7, 2) := by decide +kernel
theorem dX8_blend_44 : decode cX8_blend 44 = .ok (.iload_n 2, 1) := by decide +kernel
theorem dX8_blend_45 : decode cX8_blend 45 = .ok (.iadd, 1) := by decide +kernel
theorem dX8_blend_46 : decode cX8_blend 46 = .ok (.iaload, 1) := by decide +kernel
theorem dX8_blend_47 : decode cX8_blend 47 = .ok (.ifCond .ne 6, 3) := by decide +kernel
theorem dX8_blend_50 : decode cX8_blend 50 = .ok (.bipush (-3), 2) := by decide +kernel
theorem dX8_blend_52 : decode cX8_blend 52 = .ok (.ireturn, 1) := by decide +kernel
theorem dX8_blend_53 : decode cX8_blend 53 = .ok (.aload_n 0, 1) := by decide +kernel
theorem dX8_blend_54 : decode cX8_blend 54 = .ok (.getfield 9, 3) := by decide +kernel
theorem dX8_blend_57 : decode cX8_blend 57 = .ok (.bipush 19, 2) := by decide +kernel
theorem dX8_blend_59 : decode cX8_blend 59 = .ok (.iaload, 1) := by decide +kernel
theorem dX8_blend_60 : decode cX8_blend 60 = .ok (.iconst 5, 1) := by decide +kernel
theorem dX8_blend_61 : decode cX8_blend 61 = .ok (.if_icmp .ne 6, 3) := by decide +kernel
theorem dX8_blend_64 : decode cX8_blend 64 = .ok (.bipush (-4), 2) := by decide +kernel
theorem dX8_blend_66 : decode cX8_blend 66 = .ok (.ireturn, 1) := by decide +kernel
theorem dX8_blend_67 : decode cX8_blend 67 = .ok (.aload_n 0, 1) := by decide +kernel
theorem dX8_blend_68 : decode cX8_blend 68 = .ok (.getfield 9, 3) := by decide +kernel
theorem dX8_blend_71 : decode cX8_blend 71 = .ok (.bipush 7, 2) := by decide +kernel
theorem dX8_blend_73 : decode cX8_blend 73 = .ok (.iload_n 1, 1) := by decide +kernel
theorem dX8_blend_74 : decode cX8_blend 74 = .ok (.iadd, 1) := by decide +kernel
theorem dX8_blend_75 : decode cX8_blend 75 = .ok (.dup2, 1) := by decide +kernel
theorem dX8_blend_76 : decode cX8_blend 76 = .ok (.iaload, 1) := by decide +kernel
theorem dX8_blend_77 : decode cX8_blend 77 = .ok (.iconst 1, 1) := by decide +kernel
theorem dX8_blend_78 : decode cX8_blend 78 = .ok (.isub, 1) := by decide +kernel
theorem dX8_blend_79 : decode cX8_blend 79 = .ok (.iastore, 1) := by decide +kernel
theorem dX8_blend_80 : decode cX8_blend 80 = .ok (.aload_n 0, 1) := by decide +kernel
theorem dX8_blend_81 : decode cX8_blend 81 = .ok (.getfield 9, 3) := by decide +kernel
theorem dX8_blend_84 : decode cX8_blend 84 = .ok (.bipush 7, 2) := by decide +kernel
theorem dX8_blend_86 : decode cX8_blend 86 = .ok (.iload_n 2, 1) := by decide +kernel
theorem dX8_blend_87 : decode cX8_blend 87 = .ok (.iadd, 1) := by decide +kernel
theorem dX8_blend_88 : decode cX8_blend 88 = .ok (.dup2, 1) := by decide +kernel
theorem dX8_blend_89 : decode cX8_blend 89 = .ok (.iaload, 1) := by decide +kernel
theorem dX8_blend_90 : decode cX8_blend 90 = .ok (.iconst 1, 1) := by decide +kernel
theorem dX8_blend_91 : decode cX8_blend 91 = .ok (.isub, 1) := by decide +kernel
theorem dX8_blend_92 : decode cX8_blend 92 = .ok (.iastore, 1) := by decide +kernel
theorem dX8_blend_93 : decode cX8_blend 93 = .ok (.aload_n 0, 1) := by decide +kernel
theorem dX8_blend_94 : decode cX8_blend 94 = .ok (.aload_n 0, 1) := by decide +kernel
theorem dX8_blend_95 : decode cX8_blend 95 = .ok (.getfield 9, 3) := by decide +kernel
theorem dX8_blend_98 : decode cX8_blend 98 = .ok (.bipush 68, 2) := by decide +kernel
theorem dX8_blend_100 : decode cX8_blend 100 = .ok (.iload_n 1, 1) := by decide +kernel
theorem dX8_blend_101 : decode cX8_blend 101 = .ok (.iadd, 1) := by decide +kernel
theorem dX8_blend_102 : decode cX8_blend 102 = .ok (.iaload, 1) := by decide +kernel
theorem dX8_blend_103 : decode cX8_blend 103 = .ok (.aload_n 0, 1) := by decide +kernel
theorem dX8_blend_104 : decode cX8_blend 104 = .ok (.getfield 9, 3) := by decide +kernel
theorem dX8_blend_107 : decode cX8_blend 107 = .ok (.bipush 68, 2) := by decide +kernel
theorem dX8_blend_109 : decode cX8_blend 109 = .ok (.iload_n 2, 1) := by decide +kernel
theorem dX8_blend_110 : decode cX8_blend 110 = .ok (.iadd, 1) := by decide +kernel
theorem dX8_blend_111 : decode cX8_blend 111 = .ok (.iaload, 1) := by decide +kernel
theorem dX8_blend_112 : decode cX8_blend 112 = .ok (.iadd, 1) := by decide +kernel
theorem dX8_blend_113 : decode cX8_blend 113 = .ok (.iconst 2, 1) := by decide +kernel
theorem dX8_blend_114 : decode cX8_blend 114 = .ok (.idiv, 1) := by decide +kernel
theorem dX8_blend_115 : decode cX8_blend 115 = .ok (.iconst 2, 1) := by decide +kernel
theorem dX8_blend_116 : decode cX8_blend 116 = .ok (.invokevirtual 166, 3) := by decide +kernel
theorem dX8_blend_119 : decode cX8_blend 119 = .ok (.ireturn, 1) := by decide +kernel
theorem dX8_alive_0 : decode cX8_alive 0 = .ok (.iload_n 1, 1) := by decide +kernel
theorem dX8_alive_1 : decode cX8_alive 1 = .ok (.iconst 0, 1) := by decide +kernel
theorem dX8_alive_2 : decode cX8_alive 2 = .ok (.bipush 99, 2) := by decide +kernel
theorem dX8_alive_4 : decode cX8_alive 4 = .ok (.invokestatic 53, 3) := by decide +kernel
theorem dX8_alive_7 : decode cX8_alive 7 = .ok (.ifCond .ne 6, 3) := by decide +kernel
theorem dX8_alive_10 : decode cX8_alive 10 = .ok (.bipush (-2), 2) := by decide +kernel
theorem dX8_alive_12 : decode cX8_alive 12 = .ok (.ireturn, 1) := by decide +kernel
theorem dX8_alive_13 : decode cX8_alive 13 = .ok (.aload_n 0, 1) := by decide +kernel
theorem dX8_alive_14 : decode cX8_alive 14 = .ok (.invokevirtual 194, 3) := by decide +kernel
theorem dX8_alive_17 : decode cX8_alive 17 = .ok (.iconst 0, 1) := by decide +kernel
theorem dX8_alive_18 : decode cX8_alive 18 = .ok (.istore_n 2, 1) := by decide +kernel
theorem dX8_alive_19 : decode cX8_alive 19 = .ok (.iload_n 2, 1) := by decide +kernel
theorem dX8_alive_20 : decode cX8_alive 20 = .ok (.iload_n 1, 1) := by decide +kernel
theorem dX8_alive_21 : decode cX8_alive 21 = .ok (.if_icmp .ge 13, 3) := by decide +kernel
theorem dX8_alive_24 : decode cX8_alive 24 = .ok (.aload_n 0, 1) := by decide +kernel
theorem dX8_alive_25 : decode cX8_alive 25 = .ok (.invokevirtual 191, 3) := by decide +kernel
theorem dX8_alive_28 : decode cX8_alive 28 = .ok (.iinc 2 1, 3) := by decide +kernel
theorem dX8_alive_31 : decode cX8_alive 31 = .ok (.goto (-12), 3) := by decide +kernel
theorem dX8_alive_34 : decode cX8_alive 34 = .ok (.aload_n 0, 1) := by decide +kernel
theorem dX8_alive_35 : decode cX8_alive 35 = .ok (.invokevirtual 178, 3) := by decide +kernel
theorem dX8_alive_38 : decode cX8_alive 38 = .ok (.istore_n 2, 1) := by decide +kernel
theorem dX8_alive_39 : decode cX8_alive 39 = .ok (.aload_n 0, 1) := by decide +kernel
theorem dX8_alive_40 : decode cX8_alive 40 = .ok (.invokevirtual 197, 3) := by decide +kernel
theorem dX8_alive_43 : decode cX8_alive 43 = .ok (.iload_n 2, 1) := by decide +kernel
theorem dX8_alive_44 : decode cX8_alive 44 = .ok (.ireturn, 1) := by decide +kernel
theorem dX8_brings_0 : decode cX8_brings 0 = .ok (.aload_n 0, 1) := by decide +kernel
theorem dX8_brings_1 : decode cX8_brings 1 = .ok (.iload_n 1, 1) := by decide +kernel
theorem dX8_brings_2 : decode cX8_brings 2 = .ok (.invokevirtual 169, 3) := by decide +kernel
theorem dX8_brings_5 : decode cX8_brings 5 = .ok (.ifCond .ne 5, 3) := by decide +kernel
theorem dX8_brings_8 : decode cX8_brings 8 = .ok (.iconst (-1), 1) := by decide +kernel
theorem dX8_brings_9 : decode cX8_brings 9 = .ok (.ireturn, 1) := by decide +kernel
theorem dX8_brings_10 : decode cX8_brings 10 = .ok (.iconst 0, 1) := by decide +kernel
theorem dX8_brings_11 : decode cX8_brings 11 = .ok (.istore_n 2, 1) := by decide +kernel
theorem dX8_brings_12 : decode cX8_brings 12 = .ok (.iconst 0, 1) := by decide +kernel
theorem dX8_brings_13 : decode cX8_brings 13 = .ok (.istore_n 3, 1) := by decide +kernel
theorem dX8_brings_14 : decode cX8_brings 14 = .ok (.iload_n 3, 1) := by decide +kernel
theorem dX8_brings_15 : decode cX8_brings 15 = .ok (.aload_n 0, 1) := by decide +kernel
theorem dX8_brings_16 : decode cX8_brings 16 = .ok (.getfield 9, 3) := by decide +kernel
theorem dX8_brings_19 : decode cX8_brings 19 = .ok (.bipush 19, 2) := by decide +kernel
theorem dX8_brings_21 : decode cX8_brings 21 = .ok (.iaload, 1) := by decide +kernel
theorem dX8_brings_22 : decode cX8_brings 22 = .ok (.if_icmp .ge 45, 3) := by decide +kernel
theorem dX8_brings_25 : decode cX8_brings 25 = .ok (.iload_n 2, 1) := by decide +kernel
theorem dX8_brings_26 : decode cX8_brings 26 = .ok (.aload_n 0, 1) := by decide +kernel
theorem dX8_brings_27 : decode cX8_brings 27 = .ok (.getfield 9, 3) := by decide +kernel
theorem dX8_brings_30 : decode cX8_brings 30 = .ok (.bipush 7, 2) := by decide +kernel
theorem dX8_brings_32 : decode cX8_brings 32 = .ok (.iload_n 3, 1) := by decide +kernel
theorem dX8_brings_33 : decode cX8_brings 33 = .ok (.iadd, 1) := by decide +kernel
theorem dX8_brings_34 : decode cX8_brings 34 = .ok (.iaload, 1) := by decide +kernel
theorem dX8_brings_35 : decode cX8_brings 35 = .ok (.ifCond .le 23, 3) := by decide +kernel
theorem dX8_brings_38 : decode cX8_brings 38 = .ok (.aload_n 0, 1) := by decide +kernel
theorem dX8_brings_39 : decode cX8_brings 39 = .ok (.iload_n 1, 1) := by decide +kernel
theorem dX8_brings_40 : decode cX8_brings 40 = .ok (.aload_n 0, 1) := by decide +kernel
theorem dX8_brings_41 : decode cX8_brings 41 = .ok (.iload_n 1, 1) := by decide +kernel
theorem dX8_brings_42 : decode cX8_brings 42 = .ok (.iload_n 3, 1) := by decide +kernel
theorem dX8_brings_43 : decode cX8_brings 43 = .ok (.invokevirtual 146, 3) := by decide +kernel
theorem dX8_brings_46 : decode cX8_brings 46 = .ok (.invokevirtual 139, 3) := by decide +kernel
theorem dX8_brings_49 : decode cX8_brings 49 = .ok (.ifCond .eq 9, 3) := by decide +kernel
theorem dX8_brings_52 : decode cX8_brings 52 = .ok (.iconst 1, 1) := by decide +kernel
theorem dX8_brings_53 : decode cX8_brings 53 = .ok (.iload_n 3, 1) := by decide +kernel
theorem dX8_brings_54 : decode cX8_brings 54 = .ok (.ishl, 1) := by decide +kernel
theorem dX8_brings_55 : decode cX8_brings 55 = .ok (.goto 4, 3) := by decide +kernel
theorem dX8_brings_58 : decode cX8_brings 58 = .ok (.iconst 0, 1) := by decide +kernel
theorem dX8_brings_59 : decode cX8_brings 59 = .ok (.ior, 1) := by decide +kernel
theorem dX8_brings_60 : decode cX8_brings 60 = .ok (.istore_n 2, 1) := by decide +kernel
theorem dX8_brings_61 : decode cX8_brings 61 = .ok (.iinc 3 1, 3) := by decide +kernel
theorem dX8_brings_64 : decode cX8_brings 64 = .ok (.goto (-50), 3) := by decide +kernel
theorem dX8_brings_67 : decode cX8_brings 67 = .ok (.iload_n 2, 1) := by decide +kernel
theorem dX8_brings_68 : decode cX8_brings 68 = .ok (.ireturn, 1) := by decide +kernel
theorem dX8_nearest_0 : decode cX8_nearest 0 = .ok (.aload_n 0, 1) := by decide +kernel
theorem dX8_nearest_1 : decode cX8_nearest 1 = .ok (.iload_n 1, 1) := by decide +kernel
theorem dX8_nearest_2 : decode cX8_nearest 2 = .ok (.invokevirtual 169, 3) := by decide +kernel
theorem dX8_nearest_5 : decode cX8_nearest 5 = .ok (.ifCond .ne 5, 3) := by decide +kernel
theorem dX8_nearest_8 : decode cX8_nearest 8 = .ok (.iconst (-1), 1) := by decide +kernel
theorem dX8_nearest_9 : decode cX8_nearest 9 = .ok (.ireturn, 1) := by decide +kernel
theorem dX8_nearest_10 : decode cX8_nearest 10 = .ok (.iload_n 2, 1) := by decide +kernel
theorem dX8_nearest_11 : decode cX8_nearest 11 = .ok (.iconst 0, 1) := by decide +kernel
theorem dX8_nearest_12 : decode cX8_nearest 12 = .ok (.bipush 120, 2) := by decide +kernel
theorem dX8_nearest_14 : decode cX8_nearest 14 = .ok (.invokestatic 53, 3) := by decide +kernel
theorem dX8_nearest_17 : decode cX8_nearest 17 = .ok (.ifCond .ne 6, 3) := by decide +kernel
theorem dX8_nearest_20 : decode cX8_nearest 20 = .ok (.bipush (-2), 2) := by decide +kernel
theorem dX8_nearest_22 : decode cX8_nearest 22 = .ok (.ireturn, 1) := by decide +kernel
theorem dX8_nearest_23 : decode cX8_nearest 23 = .ok (.bipush (-5), 2) := by decide +kernel
theorem dX8_nearest_25 : decode cX8_nearest 25 = .ok (.istore_n 3, 1) := by decide +kernel
theorem dX8_nearest_26 : decode cX8_nearest 26 = .ok (.ldc 200, 2) := by decide +kernel
theorem dX8_nearest_28 : decode cX8_nearest 28 = .ok (.istore 4, 2) := by decide +kernel
theorem dX8_nearest_30 : decode cX8_nearest 30 = .ok (.iconst 0, 1) := by decide +kernel
theorem dX8_nearest_31 : decode cX8_nearest 31 = .ok (.istore 5, 2) := by decide +kernel
theorem dX8_nearest_33 : decode cX8_nearest 33 = .ok (.iload 5, 2) := by decide +kernel
theorem dX8_nearest_35 : decode cX8_nearest 35 = .ok (.aload_n 0, 1) := by decide +kernel
theorem dX8_nearest_36 : decode cX8_nearest 36 = .ok (.getfield 9, 3) := by decide +kernel
theorem dX8_nearest_39 : decode cX8_nearest 39 = .ok (.bipush 19, 2) := by decide +kernel
theorem dX8_nearest_41 : decode cX8_nearest 41 = .ok (.iaload, 1) := by decide +kernel
theorem dX8_nearest_42 : decode cX8_nearest 42 = .ok (.if_icmp .ge 70, 3) := by decide +kernel
theorem dX8_nearest_45 : decode cX8_nearest 45 = .ok (.aload_n 0, 1) := by decide +kernel
theorem dX8_nearest_46 : decode cX8_nearest 46 = .ok (.getfield 9, 3) := by decide +kernel
theorem dX8_nearest_49 : decode cX8_nearest 49 = .ok (.bipush 7, 2) := by decide +kernel
theorem dX8_nearest_51 : decode cX8_nearest 51 = .ok (.iload 5, 2) := by decide +kernel
theorem dX8_nearest_53 : decode cX8_nearest 53 = .ok (.iadd, 1) := by decide +kernel
theorem dX8_nearest_54 : decode cX8_nearest 54 = .ok (.iaload, 1) := by decide +kernel
theorem dX8_nearest_55 : decode cX8_nearest 55 = .ok (.ifCond .le 17, 3) := by decide +kernel
theorem dX8_nearest_58 : decode cX8_nearest 58 = .ok (.aload_n 0, 1) := by decide +kernel
theorem dX8_nearest_59 : decode cX8_nearest 59 = .ok (.iload_n 1, 1) := by decide +kernel
theorem dX8_nearest_60 : decode cX8_nearest 60 = .ok (.iload 5, 2) := by decide +kernel
theorem dX8_nearest_62 : decode cX8_nearest 62 = .ok (.invokevirtual 146, 3) := by decide +kernel
theorem dX8_nearest_65 : decode cX8_nearest 65 = .ok (.iload_n 2, 1) := by decide +kernel
theorem dX8_nearest_66 : decode cX8_nearest 66 = .ok (.invokestatic 201, 3) := by decide +kernel
theorem dX8_nearest_69 : decode cX8_nearest 69 = .ok (.goto 5, 3) := by decide +kernel
theorem dX8_nearest_72 : decode cX8_nearest 72 = .ok (.ldc 200, 2) := by decide +kernel
theorem dX8_nearest_74 : decode cX8_nearest 74 = .ok (.istore 6, 2) := by decide +kernel
theorem dX8_nearest_76 : decode cX8_nearest 76 = .ok (.iload 6, 2) := by decide +kernel
theorem dX8_nearest_78 : decode cX8_nearest 78 = .ok (.iload 4, 2) := by decide +kernel
theorem dX8_nearest_80 : decode cX8_nearest 80 = .ok (.if_icmp .ge 8, 3) := by decide +kernel
theorem dX8_nearest_83 : decode cX8_nearest 83 = .ok (.iload 5, 2) := by decide +kernel
theorem dX8_nearest_85 : decode cX8_nearest 85 = .ok (.goto 4, 3) := by decide +kernel
theorem dX8_nearest_88 : decode cX8_nearest 88 = .ok (.iload_n 3, 1) := by decide +kernel
theorem dX8_nearest_89 : decode cX8_nearest 89 = .ok (.istore_n 3, 1) := by decide +kernel
theorem dX8_nearest_90 : decode cX8_nearest 90 = .ok (.iload 6, 2) := by decide +kernel
theorem dX8_nearest_92 : decode cX8_nearest 92 = .ok (.iload 4, 2) := by decide +kernel
theorem dX8_nearest_94 : decode cX8_nearest 94 = .ok (.if_icmp .ge 8, 3) := by decide +kernel
theorem dX8_nearest_97 : decode cX8_nearest 97 = .ok (.iload 6, 2) := by decide +kernel
theorem dX8_nearest_99 : decode cX8_nearest 99 = .ok (.goto 5, 3) := by decide +kernel
theorem dX8_nearest_102 : decode cX8_nearest 102 = .ok (.iload 4, 2) := by decide +kernel
theorem dX8_nearest_104 : decode cX8_nearest 104 = .ok (.istore 4, 2) := by decide +kernel
theorem dX8_nearest_106 : decode cX8_nearest 106 = .ok (.iinc 5 1, 3) := by decide +kernel
theorem dX8_nearest_109 : decode cX8_nearest 109 = .ok (.goto (-76), 3) := by decide +kernel
theorem dX8_nearest_112 : decode cX8_nearest 112 = .ok (.iload_n 3, 1) := by decide +kernel
theorem dX8_nearest_113 : decode cX8_nearest 113 = .ok (.ireturn, 1) := by decide +kernel
theorem dX8_two_0 : decode cX8_two 0 = .ok (.bipush (-5), 2) := by decide +kernel
theorem dX8_two_2 : decode cX8_two 2 = .ok (.istore_n 1, 1) := by decide +kernel
theorem dX8_two_3 : decode cX8_two 3 = .ok (.ldc 200, 2) := by decide +kernel
theorem dX8_two_5 : decode cX8_two 5 = .ok (.istore_n 2, 1) := by decide +kernel
theorem dX8_two_6 : decode cX8_two 6 = .ok (.iconst 0, 1) := by decide +kernel
theorem dX8_two_7 : decode cX8_two 7 = .ok (.istore_n 3, 1) := by decide +kernel
theorem dX8_two_8 : decode cX8_two 8 = .ok (.iload_n 3, 1) := by decide +kernel
theorem dX8_two_9 : decode cX8_two 9 = .ok (.aload_n 0, 1) := by decide +kernel
theorem dX8_two_10 : decode cX8_two 10 = .ok (.getfield 9, 3) := by decide +kernel
theorem dX8_two_13 : decode cX8_two 13 = .ok (.bipush 12, 2) := by decide +kernel
theorem dX8_two_15 : decode cX8_two 15 = .ok (.iaload, 1) := by decide +kernel
theorem dX8_two_16 : decode cX8_two 16 = .ok (.if_icmp .ge 101, 3) := by decide +kernel
theorem dX8_two_19 : decode cX8_two 19 = .ok (.iload_n 3, 1) := by decide +kernel
theorem dX8_two_20 : decode cX8_two 20 = .ok (.iconst 1, 1) := by decide +kernel
theorem dX8_two_21 : decode cX8_two 21 = .ok (.iadd, 1) := by decide +kernel
theorem dX8_two_22 : decode cX8_two 22 = .ok (.istore 4, 2) := by decide +kernel
theorem dX8_two_24 : decode cX8_two 24 = .ok (.iload 4, 2) := by decide +kernel
theorem dX8_two_26 : decode cX8_two 26 = .ok (.aload_n 0, 1) := by decide +kernel
theorem dX8_two_27 : decode cX8_two 27 = .ok (.getfield 9, 3) := by decide +kernel
theorem dX8_two_30 : decode cX8_two 30 = .ok (.bipush 12, 2) := by decide +kernel
theorem dX8_two_32 : decode cX8_two 32 = .ok (.iaload, 1) := by decide +kernel
theorem dX8_two_33 : decode cX8_two 33 = .ok (.if_icmp .ge 78, 3) := by decide +kernel
theorem dX8_two_36 : decode cX8_two 36 = .ok (.aload_n 0, 1) := by decide +kernel
theorem dX8_two_37 : decode cX8_two 37 = .ok (.iload_n 3, 1) := by decide +kernel
theorem dX8_two_38 : decode cX8_two 38 = .ok (.invokevirtual 159, 3) := by decide +kernel
theorem dX8_two_41 : decode cX8_two 41 = .ok (.ifCond .eq 29, 3) := by decide +kernel
theorem dX8_two_44 : decode cX8_two 44 = .ok (.aload_n 0, 1) := by decide +kernel
theorem dX8_two_45 : decode cX8_two 45 = .ok (.iload 4, 2) := by decide +kernel
theorem dX8_two_47 : decode cX8_two 47 = .ok (.invokevirtual 159, 3) := by decide +kernel
theorem dX8_two_50 : decode cX8_two 50 = .ok (.ifCond .eq 20, 3) := by decide +kernel
theorem dX8_two_53 : decode cX8_two 53 = .ok (.aload_n 0, 1) := by decide +kernel
theorem dX8_two_54 : decode cX8_two 54 = .ok (.iload_n 3, 1) := by decide +kernel
theorem dX8_two_55 : decode cX8_two 55 = .ok (.invokevirtual 155, 3) := by decide +kernel
theorem dX8_two_58 : decode cX8_two 58 = .ok (.aload_n 0, 1) := by decide +kernel
theorem dX8_two_59 : decode cX8_two 59 = .ok (.iload 4, 2) := by decide +kernel
theorem dX8_two_61 : decode cX8_two 61 = .ok (.invokevirtual 155, 3) := by decide +kernel
theorem dX8_two_64 : decode cX8_two 64 = .ok (.invokestatic 201, 3) := by decide +kernel
theorem dX8_two_67 : decode cX8_two 67 = .ok (.goto 5, 3) := by decide +kernel
theorem dX8_two_70 : decode cX8_two 70 = .ok (.ldc 200, 2) := by decide +kernel
theorem dX8_two_72 : decode cX8_two 72 = .ok (.istore 5, 2) := by decide +kernel
theorem dX8_two_74 : decode cX8_two 74 = .ok (.iload 5, 2) := by decide +kernel
theorem dX8_two_76 : decode cX8_two 76 = .ok (.iload_n 2, 1) := by decide +kernel
theorem dX8_two_77 : decode cX8_two 77 = .ok (.if_icmp .ge 13, 3) := by decide +kernel
theorem dX8_two_80 : decode cX8_two 80 = .ok (.bipush 10, 2) := by decide +kernel
theorem dX8_two_82 : decode cX8_two 82 = .ok (.iload_n 3, 1) := by decide +kernel
theorem dX8_two_83 : decode cX8_two 83 = .ok (.imul, 1) := by decide +kernel
theorem dX8_two_84 : decode cX8_two 84 = .ok (.iload 4, 2) := by decide +kernel
theorem dX8_two_86 : decode cX8_two 86 = .ok (.iadd, 1) := by decide +kernel
theorem dX8_two_87 : decode cX8_two 87 = .ok (.goto 4, 3) := by decide +kernel
theorem dX8_two_90 : decode cX8_two 90 = .ok (.iload_n 1, 1) := by decide +kernel
theorem dX8_two_91 : decode cX8_two 91 = .ok (.istore_n 1, 1) := by decide +kernel
theorem dX8_two_92 : decode cX8_two 92 = .ok (.iload 5, 2) := by decide +kernel
theorem dX8_two_94 : decode cX8_two 94 = .ok (.iload_n 2, 1) := by decide +kernel
theorem dX8_two_95 : decode cX8_two 95 = .ok (.if_icmp .ge 8, 3) := by decide +kernel
theorem dX8_two_98 : decode cX8_two 98 = .ok (.iload 5, 2) := by decide +kernel
theorem dX8_two_100 : decode cX8_two 100 = .ok (.goto 4, 3) := by decide +kernel
theorem dX8_two_103 : decode cX8_two 103 = .ok (.iload_n 2, 1) := by decide +kernel
theorem dX8_two_104 : decode cX8_two 104 = .ok (.istore_n 2, 1) := by decide +kernel
theorem dX8_two_105 : decode cX8_two 105 = .ok (.iinc 4 1, 3) := by decide +kernel
theorem dX8_two_108 : decode cX8_two 108 = .ok (.goto (-84), 3) := by decide +kernel
theorem dX8_two_111 : decode cX8_two 111 = .ok (.iinc 3 1, 3) := by decide +kernel
theorem dX8_two_114 : decode cX8_two 114 = .ok (.goto (-106), 3) := by decide +kernel
theorem dX8_two_117 : decode cX8_two 117 = .ok (.iload_n 1, 1) := by decide +kernel
theorem dX8_two_118 : decode cX8_two 118 = .ok (.ireturn, 1) := by decide +kernel
theorem dX8_meet_0 : decode cX8_meet 0 = .ok (.aload_n 0, 1) := by decide +kernel
theorem dX8_meet_1 : decode cX8_meet 1 = .ok (.iload_n 1, 1) := by decide +kernel
theorem dX8_meet_2 : decode cX8_meet 2 = .ok (.invokevirtual 169, 3) := by decide +kernel
theorem dX8_meet_5 : decode cX8_meet 5 = .ok (.ifCond .eq 20, 3) := by decide +kernel
theorem dX8_meet_8 : decode cX8_meet 8 = .ok (.aload_n 0, 1) := by decide +kernel
theorem dX8_meet_9 : decode cX8_meet 9 = .ok (.iload_n 2, 1) := by decide +kernel
theorem dX8_meet_10 : decode cX8_meet 10 = .ok (.invokevirtual 169, 3) := by decide +kernel
theorem dX8_meet_13 : decode cX8_meet 13 = .ok (.ifCond .eq 12, 3) := by decide +kernel
theorem dX8_meet_16 : decode cX8_meet 16 = .ok (.iload_n 3, 1) := by decide +kernel
theorem dX8_meet_17 : decode cX8_meet 17 = .ok (.iconst 0, 1) := by decide +kernel
theorem dX8_meet_18 : decode cX8_meet 18 = .ok (.iconst 1, 1) := by decide +kernel
theorem dX8_meet_19 : decode cX8_meet 19 = .ok (.invokestatic 53, 3) := by decide +kernel
theorem dX8_meet_22 : decode cX8_meet 22 = .ok (.ifCond .ne 5, 3) := by decide +kernel
theorem dX8_meet_25 : decode cX8_meet 25 = .ok (.iconst (-1), 1) := by decide +kernel
theorem dX8_meet_26 : decode cX8_meet 26 = .ok (.ireturn, 1) := by decide +kernel
theorem dX8_meet_27 : decode cX8_meet 27 = .ok (.iload_n 1, 1) := by decide +kernel
theorem dX8_meet_28 : decode cX8_meet 28 = .ok (.iload_n 2, 1) := by decide +kernel
theorem dX8_meet_29 : decode cX8_meet 29 = .ok (.if_icmp .ne 6, 3) := by decide +kernel
theorem dX8_meet_32 : decode cX8_meet 32 = .ok (.bipush (-2), 2) := by decide +kernel
theorem dX8_meet_34 : decode cX8_meet 34 = .ok (.ireturn, 1) := by decide +kernel
theorem dX8_meet_35 : decode cX8_meet 35 = .ok (.iconst 0, 1) := by decide +kernel
theorem dX8_meet_36 : decode cX8_meet 36 = .ok (.istore 4, 2) := by decide +kernel
theorem dX8_meet_38 : decode cX8_meet 38 = .ok (.bipush (-5), 2) := by decide +kernel
theorem dX8_meet_40 : decode cX8_meet 40 = .ok (.istore 5, 2) := by decide +kernel
theorem dX8_meet_42 : decode cX8_meet 42 = .ok (.sipush 199, 3) := by decide +kernel
theorem dX8_meet_45 : decode cX8_meet 45 = .ok (.istore 6, 2) := by decide +kernel
theorem dX8_meet_47 : decode cX8_meet 47 = .ok (.iload 6, 2) := by decide +kernel
theorem dX8_meet_49 : decode cX8_meet 49 = .ok (.ifCond .lt 75, 3) := by decide +kernel
theorem dX8_meet_52 : decode cX8_meet 52 = .ok (.aload_n 0, 1) := by decide +kernel
theorem dX8_meet_53 : decode cX8_meet 53 = .ok (.iload_n 1, 1) := by decide +kernel
theorem dX8_meet_54 : decode cX8_meet 54 = .ok (.aload_n 0, 1) := by decide +kernel
theorem dX8_meet_55 : decode cX8_meet 55 = .ok (.iload_n 1, 1) := by decide +kernel
theorem dX8_meet_56 : decode cX8_meet 56 = .ok (.iload 6, 2) := by decide +kernel
theorem dX8_meet_58 : decode cX8_meet 58 = .ok (.invokevirtual 135, 3) := by decide +kernel
theorem dX8_meet_61 : decode cX8_meet 61 = .ok (.invokevirtual 139, 3) := by decide +kernel
theorem dX8_meet_64 : decode cX8_meet 64 = .ok (.ifCond .eq 22, 3) := by decide +kernel
theorem dX8_meet_67 : decode cX8_meet 67 = .ok (.aload_n 0, 1) := by decide +kernel
theorem dX8_meet_68 : decode cX8_meet 68 = .ok (.iload_n 2, 1) := by decide +kernel
theorem dX8_meet_69 : decode cX8_meet 69 = .ok (.aload_n 0, 1) := by decide +kernel
theorem dX8_meet_70 : decode cX8_meet 70 = .ok (.iload_n 2, 1) := by decide +kernel
theorem dX8_meet_71 : decode cX8_meet 71 = .ok (.iload 6, 2) := by decide +kernel
theorem dX8_meet_73 : decode cX8_meet 73 = .ok (.invokevirtual 135, 3) := by decide +kernel
theorem dX8_meet_76 : decode cX8_meet 76 = .ok (.invokevirtual 139, 3) := by decide +kernel
theorem dX8_meet_79 : decode cX8_meet 79 = .ok (.ifCond .eq 7, 3) := by decide +kernel
theorem dX8_meet_82 : decode cX8_meet 82 = .ok (.iconst 1, 1) := by decide +kernel
theorem dX8_meet_83 : decode cX8_meet 83 = .ok (.goto 4, 3) := by decide +kernel
theorem dX8_meet_86 : decode cX8_meet 86 = .ok (.iconst 0, 1) := by decide +kernel
theorem dX8_meet_87 : decode cX8_meet 87 = .ok (.istore 7, 2) := by decide +kernel
theorem dX8_meet_89 : decode cX8_meet 89 = .ok (.iload 4, 2) := by decide +kernel
theorem dX8_meet_91 : decode cX8_meet 91 = .ok (.iload 7, 2) := by decide +kernel
theorem dX8_meet_93 : decode cX8_meet 93 = .ok (.ifCond .eq 7, 3) := by decide +kernel
theorem dX8_meet_96 : decode cX8_meet 96 = .ok (.iconst 1, 1) := by decide +kernel
theorem dX8_meet_97 : decode cX8_meet 97 = .ok (.goto 4, 3) := by decide +kernel
theorem dX8_meet_100 : decode cX8_meet 100 = .ok (.iconst 0, 1) := by decide +kernel
theorem dX8_meet_101 : decode cX8_meet 101 = .ok (.iadd, 1) := by decide +kernel
theorem dX8_meet_102 : decode cX8_meet 102 = .ok (.istore 4, 2) := by decide +kernel
theorem dX8_meet_104 : decode cX8_meet 104 = .ok (.iload 7, 2) := by decide +kernel
theorem dX8_meet_106 : decode cX8_meet 106 = .ok (.ifCond .eq 8, 3) := by decide +kernel
theorem dX8_meet_109 : decode cX8_meet 109 = .ok (.iload 6, 2) := by decide +kernel
theorem dX8_meet_111 : decode cX8_meet 111 = .ok (.goto 5, 3) := by decide +kernel
theorem dX8_meet_114 : decode cX8_meet 114 = .ok (.iload 5, 2) := by decide +kernel
theorem dX8_meet_116 : decode cX8_meet 116 = .ok (.istore 5, 2) := by decide +kernel
theorem dX8_meet_118 : decode cX8_meet 118 = .ok (.iinc 6 (-1), 3) := by decide +kernel
theorem dX8_meet_121 : decode cX8_meet 121 = .ok (.goto (-74), 3) := by decide +kernel
theorem dX8_meet_124 : decode cX8_meet 124 = .ok (.iload_n 3, 1) := by decide +kernel
theorem dX8_meet_125 : decode cX8_meet 125 = .ok (.ifCond .ne 8, 3) := by decide +kernel
theorem dX8_meet_128 : decode cX8_meet 128 = .ok (.iload 4, 2) := by decide +kernel
theorem dX8_meet_130 : decode cX8_meet 130 = .ok (.goto 5, 3) := by decide +kernel
theorem dX8_meet_133 : decode cX8_meet 133 = .ok (.iload 5, 2) := by decide +kernel
theorem dX8_meet_135 : decode cX8_meet 135 = .ok (.ireturn, 1) := by decide +kernel
theorem dX8_looksForSeats_0 : decode cX8_looksForSeats 0 = .ok (.iconst 0, 1) := by decide +kernel
theorem dX8_looksForSeats_1 : decode cX8_looksForSeats 1 = .ok (.istore_n 1, 1) := by decide +kernel
theorem dX8_looksForSeats_2 : decode cX8_looksForSeats 2 = .ok (.iload_n 1, 1) := by decide +kernel
theorem dX8_looksForSeats_3 : decode cX8_looksForSeats 3 = .ok (.aload_n 0, 1) := by decide +kernel
theorem dX8_looksForSeats_4 : decode cX8_looksForSeats 4 = .ok (.getfield 9, 3) := by decide +kernel
theorem dX8_looksForSeats_7 : decode cX8_looksForSeats 7 = .ok (.bipush 12, 2) := by decide +kernel
theorem dX8_looksForSeats_9 : decode cX8_looksForSeats 9 = .ok (.iaload, 1) := by decide +kernel
theorem dX8_looksForSeats_10 : decode cX8_looksForSeats 10 = .ok (.if_icmp .ge 93, 3) := by decide +kernel
theorem dX8_looksForSeats_13 : decode cX8_looksForSeats 13 = .ok (.iconst 0, 1) := by decide +kernel
theorem dX8_looksForSeats_14 : decode cX8_looksForSeats 14 = .ok (.istore_n 2, 1) := by decide +kernel
theorem dX8_looksForSeats_15 : decode cX8_looksForSeats 15 = .ok (.iload_n 2, 1) := by decide +kernel
theorem dX8_looksForSeats_16 : decode cX8_looksForSeats 16 = .ok (.aload_n 0, 1) := by decide +kernel
theorem dX8_looksForSeats_17 : decode cX8_looksForSeats 17 = .ok (.getfield 9, 3) := by decide +kernel
theorem dX8_looksForSeats_20 : decode cX8_looksForSeats 20 = .ok (.bipush 19, 2) := by decide +kernel
theorem dX8_looksForSeats_22 : decode cX8_looksForSeats 22 = .ok (.iaload, 1) := by decide +kernel
theorem dX8_looksForSeats_23 : decode cX8_looksForSeats 23 = .ok (.if_icmp .gt 74, 3) := by decide +kernel
theorem dX8_looksForSeats_26 : decode cX8_looksForSeats 26 = .ok (.aload_n 0, 1) := by decide +kernel
theorem dX8_looksForSeats_27 : decode cX8_looksForSeats 27 = .ok (.getfield 28, 3) := by decide +kernel
theorem dX8_looksForSeats_30 : decode cX8_looksForSeats 30 = .ok (.bipush 6, 2) := by decide +kernel
theorem dX8_looksForSeats_32 : decode cX8_looksForSeats 32 = .ok (.iload_n 1, 1) := by decide +kernel
theorem dX8_looksForSeats_33 : decode cX8_looksForSeats 33 = .ok (.imul, 1) := by decide +kernel
theorem dX8_looksForSeats_34 : decode cX8_looksForSeats 34 = .ok (.iload_n 2, 1) := by decide +kernel
theorem dX8_looksForSeats_35 : decode cX8_looksForSeats 35 = .ok (.iadd, 1) := by decide +kernel
theorem dX8_looksForSeats_36 : decode cX8_looksForSeats 36 = .ok (.aload_n 0, 1) := by decide +kernel
theorem dX8_looksForSeats_37 : decode cX8_looksForSeats 37 = .ok (.iload_n 1, 1) := by decide +kernel
theorem dX8_looksForSeats_38 : decode cX8_looksForSeats 38 = .ok (.iload_n 2, 1) := by decide +kernel
theorem dX8_looksForSeats_39 : decode cX8_looksForSeats 39 = .ok (.iconst 1, 1) := by decide +kernel
theorem dX8_looksForSeats_40 : decode cX8_looksForSeats 40 = .ok (.isub, 1) := by decide +kernel
theorem dX8_looksForSeats_41 : decode cX8_looksForSeats 41 = .ok (.invokevirtual 146, 3) := by decide +kernel
theorem dX8_looksForSeats_44 : decode cX8_looksForSeats 44 = .ok (.iastore, 1) := by decide +kernel
theorem dX8_looksForSeats_45 : decode cX8_looksForSeats 45 = .ok (.aload_n 0, 1) := by decide +kernel
theorem dX8_looksForSeats_46 : decode cX8_looksForSeats 46 = .ok (.getfield 43, 3) := by decide +kernel
theorem dX8_looksForSeats_49 : decode cX8_looksForSeats 49 = .ok (.bipush 6, 2) := by decide +kernel
theorem dX8_looksForSeats_51 : decode cX8_looksForSeats 51 = .ok (.iload_n 1, 1) := by decide +kernel
theorem dX8_looksForSeats_52 : decode cX8_looksForSeats 52 = .ok (.imul, 1) := by decide +kernel
theorem dX8_looksForSeats_53 : decode cX8_looksForSeats 53 = .ok (.iload_n 2, 1) := by decide +kernel
theorem dX8_looksForSeats_54 : decode cX8_looksForSeats 54 = .ok (.iadd, 1) := by decide +kernel
theorem dX8_looksForSeats_55 : decode cX8_looksForSeats 55 = .ok (.aload_n 0, 1) := by decide +kernel
theorem dX8_looksForSeats_56 : decode cX8_looksForSeats 56 = .ok (.iload_n 1, 1) := by decide +kernel
theorem dX8_looksForSeats_57 : decode cX8_looksForSeats 57 = .ok (.aload_n 0, 1) := by decide +kernel
theorem dX8_looksForSeats_58 : decode cX8_looksForSeats 58 = .ok (.getfield 28, 3) := by decide +kernel
theorem dX8_looksForSeats_61 : decode cX8_looksForSeats 61 = .ok (.bipush 6, 2) := by decide +kernel
theorem dX8_looksForSeats_63 : decode cX8_looksForSeats 63 = .ok (.iload_n 1, 1) := by decide +kernel
theorem dX8_looksForSeats_64 : decode cX8_looksForSeats 64 = .ok (.imul, 1) := by decide +kernel
theorem dX8_looksForSeats_65 : decode cX8_looksForSeats 65 = .ok (.iload_n 2, 1) := by decide +kernel
theorem dX8_looksForSeats_66 : decode cX8_looksForSeats 66 = .ok (.iadd, 1) := by decide +kernel
theorem dX8_looksForSeats_67 : decode cX8_looksForSeats 67 = .ok (.iaload, 1) := by decide +kernel
theorem dX8_looksForSeats_68 : decode cX8_looksForSeats 68 = .ok (.invokevirtual 139, 3) := by decide +kernel
theorem dX8_looksForSeats_71 : decode cX8_looksForSeats 71 = .ok (.bastore, 1) := by decide +kernel
theorem dX8_looksForSeats_72 : decode cX8_looksForSeats 72 = .ok (.aload_n 0, 1) := by decide +kernel
theorem dX8_looksForSeats_73 : decode cX8_looksForSeats 73 = .ok (.getfield 31, 3) := by decide +kernel
theorem dX8_looksForSeats_76 : decode cX8_looksForSeats 76 = .ok (.bipush 6, 2) := by decide +kernel
theorem dX8_looksForSeats_78 : decode cX8_looksForSeats 78 = .ok (.iload_n 1, 1) := by decide +kernel
theorem dX8_looksForSeats_79 : decode cX8_looksForSeats 79 = .ok (.imul, 1) := by decide +kernel
theorem dX8_looksForSeats_80 : decode cX8_looksForSeats 80 = .ok (.iload_n 2, 1) := by decide +kernel
theorem dX8_looksForSeats_81 : decode cX8_looksForSeats 81 = .ok (.iadd, 1) := by decide +kernel
theorem dX8_looksForSeats_82 : decode cX8_looksForSeats 82 = .ok (.aload_n 0, 1) := by decide +kernel
theorem dX8_looksForSeats_83 : decode cX8_looksForSeats 83 = .ok (.iload_n 1, 1) := by decide +kernel
theorem dX8_looksForSeats_84 : decode cX8_looksForSeats 84 = .ok (.iload_n 2, 1) := by decide +kernel
theorem dX8_looksForSeats_85 : decode cX8_looksForSeats 85 = .ok (.iconst 1, 1) := by decide +kernel
theorem dX8_looksForSeats_86 : decode cX8_looksForSeats 86 = .ok (.isub, 1) := by decide +kernel
theorem dX8_looksForSeats_87 : decode cX8_looksForSeats 87 = .ok (.invokevirtual 163, 3) := by decide +kernel
theorem dX8_looksForSeats_90 : decode cX8_looksForSeats 90 = .ok (.iastore, 1) := by decide +kernel
theorem dX8_looksForSeats_91 : decode cX8_looksForSeats 91 = .ok (.iinc 2 1, 3) := by decide +kernel
theorem dX8_looksForSeats_94 : decode cX8_looksForSeats 94 = .ok (.goto (-79), 3) := by decide +kernel
theorem dX8_looksForSeats_97 : decode cX8_looksForSeats 97 = .ok (.iinc 1 1, 3) := by decide +kernel
theorem dX8_looksForSeats_100 : decode cX8_looksForSeats 100 = .ok (.goto (-98), 3) := by decide +kernel
theorem dX8_looksForSeats_103 : decode cX8_looksForSeats 103 = .ok (.iconst 0, 1) := by decide +kernel
theorem dX8_looksForSeats_104 : decode cX8_looksForSeats 104 = .ok (.istore_n 1, 1) := by decide +kernel
theorem dX8_looksForSeats_105 : decode cX8_looksForSeats 105 = .ok (.iload_n 1, 1) := by decide +kernel
theorem dX8_looksForSeats_106 : decode cX8_looksForSeats 106 = .ok (.aload_n 0, 1) := by decide +kernel
theorem dX8_looksForSeats_107 : decode cX8_looksForSeats 107 = .ok (.getfield 9, 3) := by decide +kernel
theorem dX8_looksForSeats_110 : decode cX8_looksForSeats 110 = .ok (.bipush 19, 2) := by decide +kernel
theorem dX8_looksForSeats_112 : decode cX8_looksForSeats 112 = .ok (.iaload, 1) := by decide +kernel
theorem dX8_looksForSeats_113 : decode cX8_looksForSeats 113 = .ok (.if_icmp .ge 24, 3) := by decide +kernel
theorem dX8_looksForSeats_116 : decode cX8_looksForSeats 116 = .ok (.aload_n 0, 1) := by decide +kernel
theorem dX8_looksForSeats_117 : decode cX8_looksForSeats 117 = .ok (.getfield 40, 3) := by decide +kernel
theorem dX8_looksForSeats_120 : decode cX8_looksForSeats 120 = .ok (.iload_n 1, 1) := by decide +kernel
theorem dX8_looksForSeats_121 : decode cX8_looksForSeats 121 = .ok (.aload_n 0, 1) := by decide +kernel
theorem dX8_looksForSeats_122 : decode cX8_looksForSeats 122 = .ok (.getfield 9, 3) := by decide +kernel
theorem dX8_looksForSeats_125 : decode cX8_looksForSeats 125 = .ok (.bipush 7, 2) := by decide +kernel
theorem dX8_looksForSeats_127 : decode cX8_looksForSeats 127 = .ok (.iload_n 1, 1) := by decide +kernel
theorem dX8_looksForSeats_128 : decode cX8_looksForSeats 128 = .ok (.iadd, 1) := by decide +kernel
theorem dX8_looksForSeats_129 : decode cX8_looksForSeats 129 = .ok (.iaload, 1) := by decide +kernel
theorem dX8_looksForSeats_130 : decode cX8_looksForSeats 130 = .ok (.iastore, 1) := by decide +kernel
theorem dX8_looksForSeats_131 : decode cX8_looksForSeats 131 = .ok (.iinc 1 1, 3) := by decide +kernel
theorem dX8_looksForSeats_134 : decode cX8_looksForSeats 134 = .ok (.goto (-29), 3) := by decide +kernel
theorem dX8_looksForSeats_137 : decode cX8_looksForSeats 137 = .ok (.return_, 1) := by decide +kernel
theorem dX8_spread_0 : decode cX8_spread 0 = .ok (.iconst 0, 1) := by decide +kernel
theorem dX8_spread_1 : decode cX8_spread 1 = .ok (.istore_n 1, 1) := by decide +kernel
theorem dX8_spread_2 : decode cX8_spread 2 = .ok (.iconst 0, 1) := by decide +kernel
theorem dX8_spread_3 : decode cX8_spread 3 = .ok (.istore_n 2, 1) := by decide +kernel
theorem dX8_spread_4 : decode cX8_spread 4 = .ok (.iload_n 2, 1) := by decide +kernel
theorem dX8_spread_5 : decode cX8_spread 5 = .ok (.aload_n 0, 1) := by decide +kernel
theorem dX8_spread_6 : decode cX8_spread 6 = .ok (.getfield 9, 3) := by decide +kernel
theorem dX8_spread_9 : decode cX8_spread 9 = .ok (.bipush 12, 2) := by decide +kernel
theorem dX8_spread_11 : decode cX8_spread 11 = .ok (.iaload, 1) := by decide +kernel
theorem dX8_spread_12 : decode cX8_spread 12 = .ok (.if_icmp .ge 76, 3) := by decide +kernel
theorem dX8_spread_15 : decode cX8_spread 15 = .ok (.iconst 0, 1) := by decide +kernel
theorem dX8_spread_16 : decode cX8_spread 16 = .ok (.istore_n 3, 1) := by decide +kernel
theorem dX8_spread_17 : decode cX8_spread 17 = .ok (.iload_n 3, 1) := by decide +kernel
theorem dX8_spread_18 : decode cX8_spread 18 = .ok (.aload_n 0, 1) := by decide +kernel
theorem dX8_spread_19 : decode cX8_spread 19 = .ok (.getfield 9, 3) := by decide +kernel
theorem dX8_spread_22 : decode cX8_spread 22 = .ok (.bipush 12, 2) := by decide +kernel
theorem dX8_spread_24 : decode cX8_spread 24 = .ok (.iaload, 1) := by decide +kernel
theorem dX8_spread_25 : decode cX8_spread 25 = .ok (.if_icmp .ge 57, 3) := by decide +kernel
theorem dX8_spread_28 : decode cX8_spread 28 = .ok (.aload_n 0, 1) := by decide +kernel
theorem dX8_spread_29 : decode cX8_spread 29 = .ok (.getfield 28, 3) := by decide +kernel
theorem dX8_spread_32 : decode cX8_spread 32 = .ok (.bipush 6, 2) := by decide +kernel
theorem dX8_spread_34 : decode cX8_spread 34 = .ok (.iload_n 2, 1) := by decide +kernel
theorem dX8_spread_35 : decode cX8_spread 35 = .ok (.imul, 1) := by decide +kernel
theorem dX8_spread_36 : decode cX8_spread 36 = .ok (.aload_n 0, 1) := by decide +kernel
theorem dX8_spread_37 : decode cX8_spread 37 = .ok (.getfield 34, 3) := by decide +kernel
theorem dX8_spread_40 : decode cX8_spread 40 = .ok (.iload_n 2, 1) := by decide +kernel
theorem dX8_spread_41 : decode cX8_spread 41 = .ok (.iaload, 1) := by decide +kernel
theorem dX8_spread_42 : decode cX8_spread 42 = .ok (.iadd, 1) := by decide +kernel
theorem dX8_spread_43 : decode cX8_spread 43 = .ok (.iaload, 1) := by decide +kernel
theorem dX8_spread_44 : decode cX8_spread 44 = .ok (.aload_n 0, 1) := by decide +kernel
theorem dX8_spread_45 : decode cX8_spread 45 = .ok (.getfield 28, 3) := by decide +kernel
theorem dX8_spread_48 : decode cX8_spread 48 = .ok (.bipush 6, 2) := by decide +kernel
theorem dX8_spread_50 : decode cX8_spread 50 = .ok (.iload_n 3, 1) := by decide +kernel
theorem dX8_spread_51 : decode cX8_spread 51 = .ok (.imul, 1) := by decide +kernel
theorem dX8_spread_52 : decode cX8_spread 52 = .ok (.aload_n 0, 1) := by decide +kernel
theorem dX8_spread_53 : decode cX8_spread 53 = .ok (.getfield 34, 3) := by decide +kernel
theorem dX8_spread_56 : decode cX8_spread 56 = .ok (.iload_n 3, 1) := by decide +kernel
theorem dX8_spread_57 : decode cX8_spread 57 = .ok (.iaload, 1) := by decide +kernel
theorem dX8_spread_58 : decode cX8_spread 58 = .ok (.iadd, 1) := by decide +kernel
theorem dX8_spread_59 : decode cX8_spread 59 = .ok (.iaload, 1) := by decide +kernel
theorem dX8_spread_60 : decode cX8_spread 60 = .ok (.isub, 1) := by decide +kernel
theorem dX8_spread_61 : decode cX8_spread 61 = .ok (.istore 4, 2) := by decide +kernel
theorem dX8_spread_63 : decode cX8_spread 63 = .ok (.iload 4, 2) := by decide +kernel
theorem dX8_spread_65 : decode cX8_spread 65 = .ok (.iload_n 1, 1) := by decide +kernel
theorem dX8_spread_66 : decode cX8_spread 66 = .ok (.if_icmp .le 8, 3) := by decide +kernel
theorem dX8_spread_69 : decode cX8_spread 69 = .ok (.iload 4, 2) := by decide +kernel
theorem dX8_spread_71 : decode cX8_spread 71 = .ok (.goto 4, 3) := by decide +kernel
theorem dX8_spread_74 : decode cX8_spread 74 = .ok (.iload_n 1, 1) := by decide +kernel
theorem dX8_spread_75 : decode cX8_spread 75 = .ok (.istore_n 1, 1) := by decide +kernel
theorem dX8_spread_76 : decode cX8_spread 76 = .ok (.iinc 3 1, 3) := by decide +kernel
theorem dX8_spread_79 : decode cX8_spread 79 = .ok (.goto (-62), 3) := by decide +kernel
theorem dX8_spread_82 : decode cX8_spread 82 = .ok (.iinc 2 1, 3) := by decide +kernel
theorem dX8_spread_85 : decode cX8_spread 85 = .ok (.goto (-81), 3) := by decide +kernel
theorem dX8_spread_88 : decode cX8_spread 88 = .ok (.iload_n 1, 1) := by decide +kernel
theorem dX8_spread_89 : decode cX8_spread 89 = .ok (.ireturn, 1) := by decide +kernel
theorem dX8_worth_0 : decode cX8_worth 0 = .ok (.iconst 0, 1) := by decide +kernel
theorem dX8_worth_1 : decode cX8_worth 1 = .ok (.istore_n 1, 1) := by decide +kernel
theorem dX8_worth_2 : decode cX8_worth 2 = .ok (.iconst 0, 1) := by decide +kernel
theorem dX8_worth_3 : decode cX8_worth 3 = .ok (.istore_n 2, 1) := by decide +kernel
theorem dX8_worth_4 : decode cX8_worth 4 = .ok (.iload_n 2, 1) := by decide +kernel
theorem dX8_worth_5 : decode cX8_worth 5 = .ok (.aload_n 0, 1) := by decide +kernel
theorem dX8_worth_6 : decode cX8_worth 6 = .ok (.getfield 9, 3) := by decide +kernel
theorem dX8_worth_9 : decode cX8_worth 9 = .ok (.bipush 12, 2) := by decide +kernel
theorem dX8_worth_11 : decode cX8_worth 11 = .ok (.iaload, 1) := by decide +kernel
theorem dX8_worth_12 : decode cX8_worth 12 = .ok (.if_icmp .ge 28, 3) := by decide +kernel
theorem dX8_worth_15 : decode cX8_worth 15 = .ok (.iload_n 1, 1) := by decide +kernel
theorem dX8_worth_16 : decode cX8_worth 16 = .ok (.aload_n 0, 1) := by decide +kernel
theorem dX8_worth_17 : decode cX8_worth 17 = .ok (.getfield 31, 3) := by decide +kernel
theorem dX8_worth_20 : decode cX8_worth 20 = .ok (.bipush 6, 2) := by decide +kernel
theorem dX8_worth_22 : decode cX8_worth 22 = .ok (.iload_n 2, 1) := by decide +kernel
theorem dX8_worth_23 : decode cX8_worth 23 = .ok (.imul, 1) := by decide +kernel
theorem dX8_worth_24 : decode cX8_worth 24 = .ok (.aload_n 0, 1) := by decide +kernel
theorem dX8_worth_25 : decode cX8_worth 25 = .ok (.getfield 34, 3) := by decide +kernel
theorem dX8_worth_28 : decode cX8_worth 28 = .ok (.iload_n 2, 1) := by decide +kernel
theorem dX8_worth_29 : decode cX8_worth 29 = .ok (.iaload, 1) := by decide +kernel
theorem dX8_worth_30 : decode cX8_worth 30 = .ok (.iadd, 1) := by decide +kernel
theorem dX8_worth_31 : decode cX8_worth 31 = .ok (.iaload, 1) := by decide +kernel
theorem dX8_worth_32 : decode cX8_worth 32 = .ok (.iadd, 1) := by decide +kernel
theorem dX8_worth_33 : decode cX8_worth 33 = .ok (.istore_n 1, 1) := by decide +kernel
theorem dX8_worth_34 : decode cX8_worth 34 = .ok (.iinc 2 1, 3) := by decide +kernel
theorem dX8_worth_37 : decode cX8_worth 37 = .ok (.goto (-33), 3) := by decide +kernel
theorem dX8_worth_40 : decode cX8_worth 40 = .ok (.aload_n 0, 1) := by decide +kernel
theorem dX8_worth_41 : decode cX8_worth 41 = .ok (.getfield 204, 3) := by decide +kernel
theorem dX8_worth_44 : decode cX8_worth 44 = .ok (.ifCond .ne 7, 3) := by decide +kernel
theorem dX8_worth_47 : decode cX8_worth 47 = .ok (.iconst 0, 1) := by decide +kernel
theorem dX8_worth_48 : decode cX8_worth 48 = .ok (.goto 20, 3) := by decide +kernel
theorem dX8_worth_51 : decode cX8_worth 51 = .ok (.aload_n 0, 1) := by decide +kernel
theorem dX8_worth_52 : decode cX8_worth 52 = .ok (.getfield 204, 3) := by decide +kernel
theorem dX8_worth_55 : decode cX8_worth 55 = .ok (.iconst 1, 1) := by decide +kernel
theorem dX8_worth_56 : decode cX8_worth 56 = .ok (.if_icmp .ne 11, 3) := by decide +kernel
theorem dX8_worth_59 : decode cX8_worth 59 = .ok (.aload_n 0, 1) := by decide +kernel
theorem dX8_worth_60 : decode cX8_worth 60 = .ok (.invokevirtual 207, 3) := by decide +kernel
theorem dX8_worth_63 : decode cX8_worth 63 = .ok (.ineg, 1) := by decide +kernel
theorem dX8_worth_64 : decode cX8_worth 64 = .ok (.goto 4, 3) := by decide +kernel
theorem dX8_worth_67 : decode cX8_worth 67 = .ok (.iload_n 1, 1) := by decide +kernel
theorem dX8_worth_68 : decode cX8_worth 68 = .ok (.ireturn, 1) := by decide +kernel
theorem dX8_keepsSeat_0 : decode cX8_keepsSeat 0 = .ok (.aload_n 0, 1) := by decide +kernel
theorem dX8_keepsSeat_1 : decode cX8_keepsSeat 1 = .ok (.invokevirtual 210, 3) := by decide +kernel
theorem dX8_keepsSeat_4 : decode cX8_keepsSeat 4 = .ok (.istore_n 2, 1) := by decide +kernel
theorem dX8_keepsSeat_5 : decode cX8_keepsSeat 5 = .ok (.aload_n 0, 1) := by decide +kernel
theorem dX8_keepsSeat_6 : decode cX8_keepsSeat 6 = .ok (.getfield 213, 3) := by decide +kernel
theorem dX8_keepsSeat_9 : decode cX8_keepsSeat 9 = .ok (.iconst (-1), 1) := by decide +kernel
theorem dX8_keepsSeat_10 : decode cX8_keepsSeat 10 = .ok (.if_icmp .eq 27, 3) := by decide +kernel
theorem dX8_keepsSeat_13 : decode cX8_keepsSeat 13 = .ok (.iload_n 2, 1) := by decide +kernel
theorem dX8_keepsSeat_14 : decode cX8_keepsSeat 14 = .ok (.aload_n 0, 1) := by decide +kernel
theorem dX8_keepsSeat_15 : decode cX8_keepsSeat 15 = .ok (.getfield 216, 3) := by decide +kernel
theorem dX8_keepsSeat_18 : decode cX8_keepsSeat 18 = .ok (.if_icmp .gt 19, 3) := by decide +kernel
theorem dX8_keepsSeat_21 : decode cX8_keepsSeat 21 = .ok (.iload_n 2, 1) := by decide +kernel
theorem dX8_keepsSeat_22 : decode cX8_keepsSeat 22 = .ok (.aload_n 0, 1) := by decide +kernel
theorem dX8_keepsSeat_23 : decode cX8_keepsSeat 23 = .ok (.getfield 216, 3) := by decide +kernel
theorem dX8_keepsSeat_26 : decode cX8_keepsSeat 26 = .ok (.if_icmp .ne 52, 3) := by decide +kernel
theorem dX8_keepsSeat_29 : decode cX8_keepsSeat 29 = .ok (.iload_n 1, 1) := by decide +kernel
theorem dX8_keepsSeat_30 : decode cX8_keepsSeat 30 = .ok (.aload_n 0, 1) := by decide +kernel
theorem dX8_keepsSeat_31 : decode cX8_keepsSeat 31 = .ok (.getfield 213, 3) := by decide +kernel
theorem dX8_keepsSeat_34 : decode cX8_keepsSeat 34 = .ok (.if_icmp .ge 44, 3) := by decide +kernel
theorem dX8_keepsSeat_37 : decode cX8_keepsSeat 37 = .ok (.aload_n 0, 1) := by decide +kernel
theorem dX8_keepsSeat_38 : decode cX8_keepsSeat 38 = .ok (.iload_n 1, 1) := by decide +kernel
theorem dX8_keepsSeat_39 : decode cX8_keepsSeat 39 = .ok (.putfield 213, 3) := by decide +kernel
theorem dX8_keepsSeat_42 : decode cX8_keepsSeat 42 = .ok (.aload_n 0, 1) := by decide +kernel
theorem dX8_keepsSeat_43 : decode cX8_keepsSeat 43 = .ok (.iload_n 2, 1) := by decide +kernel
theorem dX8_keepsSeat_44 : decode cX8_keepsSeat 44 = .ok (.putfield 216, 3) := by decide +kernel
theorem dX8_keepsSeat_47 : decode cX8_keepsSeat 47 = .ok (.iconst 0, 1) := by decide +kernel
theorem dX8_keepsSeat_48 : decode cX8_keepsSeat 48 = .ok (.istore_n 3, 1) := by decide +kernel
theorem dX8_keepsSeat_49 : decode cX8_keepsSeat 49 = .ok (.iload_n 3, 1) := by decide +kernel
theorem dX8_keepsSeat_50 : decode cX8_keepsSeat 50 = .ok (.aload_n 0, 1) := by decide +kernel
theorem dX8_keepsSeat_51 : decode cX8_keepsSeat 51 = .ok (.getfield 9, 3) := by decide +kernel
theorem dX8_keepsSeat_54 : decode cX8_keepsSeat 54 = .ok (.bipush 12, 2) := by decide +kernel
theorem dX8_keepsSeat_56 : decode cX8_keepsSeat 56 = .ok (.iaload, 1) := by decide +kernel
theorem dX8_keepsSeat_57 : decode cX8_keepsSeat 57 = .ok (.if_icmp .ge 21, 3) := by decide +kernel
theorem dX8_keepsSeat_60 : decode cX8_keepsSeat 60 = .ok (.aload_n 0, 1) := by decide +kernel
theorem dX8_keepsSeat_61 : decode cX8_keepsSeat 61 = .ok (.getfield 37, 3) := by decide +kernel
theorem dX8_keepsSeat_64 : decode cX8_keepsSeat 64 = .ok (.iload_n 3, 1) := by decide +kernel
theorem dX8_keepsSeat_65 : decode cX8_keepsSeat 65 = .ok (.aload_n 0, 1) := by decide +kernel
theorem dX8_keepsSeat_66 : decode cX8_keepsSeat 66 = .ok (.getfield 34, 3) := by decide +kernel
theorem dX8_keepsSeat_69 : decode cX8_keepsSeat 69 = .ok (.iload_n 3, 1) := by decide +kernel
theorem dX8_keepsSeat_70 : decode cX8_keepsSeat 70 = .ok (.iaload, 1) := by decide +kernel
theorem dX8_keepsSeat_71 : decode cX8_keepsSeat 71 = .ok (.iastore, 1) := by decide +kernel
theorem dX8_keepsSeat_72 : decode cX8_keepsSeat 72 = .ok (.iinc 3 1, 3) := by decide +kernel
theorem dX8_keepsSeat_75 : decode cX8_keepsSeat 75 = .ok (.goto (-26), 3) := by decide +kernel
theorem dX8_keepsSeat_78 : decode cX8_keepsSeat 78 = .ok (.return_, 1) := by decide +kernel
theorem dX8_seatsFrom_0 : decode cX8_seatsFrom 0 = .ok (.iload_n 1, 1) := by decide +kernel
theorem dX8_seatsFrom_1 : decode cX8_seatsFrom 1 = .ok (.aload_n 0, 1) := by decide +kernel
theorem dX8_seatsFrom_2 : decode cX8_seatsFrom 2 = .ok (.getfield 9, 3) := by decide +kernel
theorem dX8_seatsFrom_5 : decode cX8_seatsFrom 5 = .ok (.bipush 12, 2) := by decide +kernel
theorem dX8_seatsFrom_7 : decode cX8_seatsFrom 7 = .ok (.iaload, 1) := by decide +kernel
theorem dX8_seatsFrom_8 : decode cX8_seatsFrom 8 = .ok (.if_icmp .ne 9, 3) := by decide +kernel
theorem dX8_seatsFrom_11 : decode cX8_seatsFrom 11 = .ok (.aload_n 0, 1) := by decide +kernel
theorem dX8_seatsFrom_12 : decode cX8_seatsFrom 12 = .ok (.iload_n 2, 1) := by decide +kernel
theorem dX8_seatsFrom_13 : decode cX8_seatsFrom 13 = .ok (.invokevirtual 219, 3) := by decide +kernel
theorem dX8_seatsFrom_16 : decode cX8_seatsFrom 16 = .ok (.return_, 1) := by decide +kernel
theorem dX8_seatsFrom_17 : decode cX8_seatsFrom 17 = .ok (.iconst 0, 1) := by decide +kernel
theorem dX8_seatsFrom_18 : decode cX8_seatsFrom 18 = .ok (.istore_n 3, 1) := by decide +kernel
theorem dX8_seatsFrom_19 : decode cX8_seatsFrom 19 = .ok (.iload_n 3, 1) := by decide +kernel
theorem dX8_seatsFrom_20 : decode cX8_seatsFrom 20 = .ok (.aload_n 0, 1) := by decide +kernel
theorem dX8_seatsFrom_21 : decode cX8_seatsFrom 21 = .ok (.getfield 9, 3) := by decide +kernel
theorem dX8_seatsFrom_24 : decode cX8_seatsFrom 24 = .ok (.bipush 19, 2) := by decide +kernel
theorem dX8_seatsFrom_26 : decode cX8_seatsFrom 26 = .ok (.iaload, 1) := by decide +kernel
theorem dX8_seatsFrom_27 : decode cX8_seatsFrom 27 = .ok (.if_icmp .gt 132, 3) := by decide +kernel
theorem dX8_seatsFrom_30 : decode cX8_seatsFrom 30 = .ok (.aload_n 0, 1) := by decide +kernel
theorem dX8_seatsFrom_31 : decode cX8_seatsFrom 31 = .ok (.getfield 204, 3) := by decide +kernel
theorem dX8_seatsFrom_34 : decode cX8_seatsFrom 34 = .ok (.iconst 2, 1) := by decide +kernel
theorem dX8_seatsFrom_35 : decode cX8_seatsFrom 35 = .ok (.if_icmp .eq 34, 3) := by decide +kernel
theorem dX8_seatsFrom_38 : decode cX8_seatsFrom 38 = .ok (.aload_n 0, 1) := by decide +kernel
theorem dX8_seatsFrom_39 : decode cX8_seatsFrom 39 = .ok (.getfield 43, 3) := by decide +kernel
theorem dX8_seatsFrom_42 : decode cX8_seatsFrom 42 = .ok (.bipush 6, 2) := by decide +kernel
theorem dX8_seatsFrom_44 : decode cX8_seatsFrom 44 = .ok (.iload_n 1, 1) := by decide +kernel
theorem dX8_seatsFrom_45 : decode cX8_seatsFrom 45 = .ok (.imul, 1) := by decide +kernel
theorem dX8_seatsFrom_46 : decode cX8_seatsFrom 46 = .ok (.iload_n 3, 1) := by decide +kernel
theorem dX8_seatsFrom_47 : decode cX8_seatsFrom 47 = .ok (.iadd, 1) := by decide +kernel
theorem dX8_seatsFrom_48 : decode cX8_seatsFrom 48 = .ok (.baload, 1) := by decide +kernel
theorem dX8_seatsFrom_49 : decode cX8_seatsFrom 49 = .ok (.aload_n 0, 1) := by decide +kernel
theorem dX8_seatsFrom_50 : decode cX8_seatsFrom 50 = .ok (.getfield 222, 3) := by decide +kernel
theorem dX8_seatsFrom_53 : decode cX8_seatsFrom 53 = .ok (.iload_n 1, 1) := by decide +kernel
theorem dX8_seatsFrom_54 : decode cX8_seatsFrom 54 = .ok (.ishr, 1) := by decide +kernel
theorem dX8_seatsFrom_55 : decode cX8_seatsFrom 55 = .ok (.iconst 1, 1) := by decide +kernel
theorem dX8_seatsFrom_56 : decode cX8_seatsFrom 56 = .ok (.iand, 1) := by decide +kernel
theorem dX8_seatsFrom_57 : decode cX8_seatsFrom 57 = .ok (.iconst 1, 1) := by decide +kernel
theorem dX8_seatsFrom_58 : decode cX8_seatsFrom 58 = .ok (.if_icmp .ne 7, 3) := by decide +kernel
theorem dX8_seatsFrom_61 : decode cX8_seatsFrom 61 = .ok (.iconst 1, 1) := by decide +kernel
theorem dX8_seatsFrom_62 : decode cX8_seatsFrom 62 = .ok (.goto 4, 3) := by decide +kernel
theorem dX8_seatsFrom_65 : decode cX8_seatsFrom 65 = .ok (.iconst 0, 1) := by decide +kernel
theorem dX8_seatsFrom_66 : decode cX8_seatsFrom 66 = .ok (.if_icmp .ne 7, 3) := by decide +kernel
theorem dX8_seatsFrom_69 : decode cX8_seatsFrom 69 = .ok (.iconst 1, 1) := by decide +kernel
theorem dX8_seatsFrom_70 : decode cX8_seatsFrom 70 = .ok (.goto 4, 3) := by decide +kernel
theorem dX8_seatsFrom_73 : decode cX8_seatsFrom 73 = .ok (.iconst 0, 1) := by decide +kernel
theorem dX8_seatsFrom_74 : decode cX8_seatsFrom 74 = .ok (.istore 4, 2) := by decide +kernel
theorem dX8_seatsFrom_76 : decode cX8_seatsFrom 76 = .ok (.iload 4, 2) := by decide +kernel
theorem dX8_seatsFrom_78 : decode cX8_seatsFrom 78 = .ok (.ifCond .eq 75, 3) := by decide +kernel
theorem dX8_seatsFrom_81 : decode cX8_seatsFrom 81 = .ok (.iload_n 3, 1) := by decide +kernel
theorem dX8_seatsFrom_82 : decode cX8_seatsFrom 82 = .ok (.ifCond .eq 14, 3) := by decide +kernel
theorem dX8_seatsFrom_85 : decode cX8_seatsFrom 85 = .ok (.aload_n 0, 1) := by decide +kernel
theorem dX8_seatsFrom_86 : decode cX8_seatsFrom 86 = .ok (.getfield 40, 3) := by decide +kernel
theorem dX8_seatsFrom_89 : decode cX8_seatsFrom 89 = .ok (.iload_n 3, 1) := by decide +kernel
theorem dX8_seatsFrom_90 : decode cX8_seatsFrom 90 = .ok (.iconst 1, 1) := by decide +kernel
theorem dX8_seatsFrom_91 : decode cX8_seatsFrom 91 = .ok (.isub, 1) := by decide +kernel
theorem dX8_seatsFrom_92 : decode cX8_seatsFrom 92 = .ok (.iaload, 1) := by decide +kernel
theorem dX8_seatsFrom_93 : decode cX8_seatsFrom 93 = .ok (.ifCond .le 60, 3) := by decide +kernel
theorem dX8_seatsFrom_96 : decode cX8_seatsFrom 96 = .ok (.aload_n 0, 1) := by decide +kernel
theorem dX8_seatsFrom_97 : decode cX8_seatsFrom 97 = .ok (.getfield 34, 3) := by decide +kernel
theorem dX8_seatsFrom_100 : decode cX8_seatsFrom 100 = .ok (.iload_n 1, 1) := by decide +kernel
theorem dX8_seatsFrom_101 : decode cX8_seatsFrom 101 = .ok (.iload_n 3, 1) := by decide +kernel
theorem dX8_seatsFrom_102 : decode cX8_seatsFrom 102 = .ok (.iastore, 1) := by decide +kernel
theorem dX8_seatsFrom_103 : decode cX8_seatsFrom 103 = .ok (.iload_n 3, 1) := by decide +kernel
theorem dX8_seatsFrom_104 : decode cX8_seatsFrom 104 = .ok (.ifCond .le 15, 3) := by decide +kernel
theorem dX8_seatsFrom_107 : decode cX8_seatsFrom 107 = .ok (.aload_n 0, 1) := by decide +kernel
theorem dX8_seatsFrom_108 : decode cX8_seatsFrom 108 = .ok (.getfield 40, 3) := by decide +kernel
theorem dX8_seatsFrom_111 : decode cX8_seatsFrom 111 = .ok (.iload_n 3, 1) := by decide +kernel
theorem dX8_seatsFrom_112 : decode cX8_seatsFrom 112 = .ok (.iconst 1, 1) := by decide +kernel
theorem dX8_seatsFrom_113 : decode cX8_seatsFrom 113 = .ok (.isub, 1) := by decide +kernel
theorem dX8_seatsFrom_114 : decode cX8_seatsFrom 114 = .ok (.dup2, 1) := by decide +kernel
theorem dX8_seatsFrom_115 : decode cX8_seatsFrom 115 = .ok (.iaload, 1) := by decide +kernel
theorem dX8_seatsFrom_116 : decode cX8_seatsFrom 116 = .ok (.iconst 1, 1) := by decide +kernel
theorem dX8_seatsFrom_117 : decode cX8_seatsFrom 117 = .ok (.isub, 1) := by decide +kernel
theorem dX8_seatsFrom_118 : decode cX8_seatsFrom 118 = .ok (.iastore, 1) := by decide +kernel
theorem dX8_seatsFrom_119 : decode cX8_seatsFrom 119 = .ok (.aload_n 0, 1) := by decide +kernel
theorem dX8_seatsFrom_120 : decode cX8_seatsFrom 120 = .ok (.iload_n 1, 1) := by decide +kernel
theorem dX8_seatsFrom_121 : decode cX8_seatsFrom 121 = .ok (.iconst 1, 1) := by decide +kernel
theorem dX8_seatsFrom_122 : decode cX8_seatsFrom 122 = .ok (.iadd, 1) := by decide +kernel
theorem dX8_seatsFrom_123 : decode cX8_seatsFrom 123 = .ok (.iload_n 2, 1) := by decide +kernel
theorem dX8_seatsFrom_124 : decode cX8_seatsFrom 124 = .ok (.iload_n 3, 1) := by decide +kernel
theorem dX8_seatsFrom_125 : decode cX8_seatsFrom 125 = .ok (.ifCond .le 7, 3) := by decide +kernel
theorem dX8_seatsFrom_128 : decode cX8_seatsFrom 128 = .ok (.iconst 1, 1) := by decide +kernel
theorem dX8_seatsFrom_129 : decode cX8_seatsFrom 129 = .ok (.goto 4, 3) := by decide +kernel
theorem dX8_seatsFrom_132 : decode cX8_seatsFrom 132 = .ok (.iconst 0, 1) := by decide +kernel
theorem dX8_seatsFrom_133 : decode cX8_seatsFrom 133 = .ok (.iadd, 1) := by decide +kernel
theorem dX8_seatsFrom_134 : decode cX8_seatsFrom 134 = .ok (.invokevirtual 225, 3) := by decide +kernel
theorem dX8_seatsFrom_137 : decode cX8_seatsFrom 137 = .ok (.iload_n 3, 1) := by decide +kernel
theorem dX8_seatsFrom_138 : decode cX8_seatsFrom 138 = .ok (.ifCond .le 15, 3) := by decide +kernel
theorem dX8_seatsFrom_141 : decode cX8_seatsFrom 141 = .ok (.aload_n 0, 1) := by decide +kernel
theorem dX8_seatsFrom_142 : decode cX8_seatsFrom 142 = .ok (.getfield 40, 3) := by decide +kernel
theorem dX8_seatsFrom_145 : decode cX8_seatsFrom 145 = .ok (.iload_n 3, 1) := by decide +kernel
theorem dX8_seatsFrom_146 : decode cX8_seatsFrom 146 = .ok (.iconst 1, 1) := by decide +kernel
theorem dX8_seatsFrom_147 : decode cX8_seatsFrom 147 = .ok (.isub, 1) := by decide +kernel
theorem dX8_seatsFrom_148 : decode cX8_seatsFrom 148 = .ok (.dup2, 1) := by decide +kernel
theorem dX8_seatsFrom_149 : decode cX8_seatsFrom 149 = .ok (.iaload, 1) := by decide +kernel
theorem dX8_seatsFrom_150 : decode cX8_seatsFrom 150 = .ok (.iconst 1, 1) := by decide +kernel
theorem dX8_seatsFrom_151 : decode cX8_seatsFrom 151 = .ok (.iadd, 1) := by decide +kernel
theorem dX8_seatsFrom_152 : decode cX8_seatsFrom 152 = .ok (.iastore, 1) := by decide +kernel
theorem dX8_seatsFrom_153 : decode cX8_seatsFrom 153 = .ok (.iinc 3 1, 3) := by decide +kernel
theorem dX8_seatsFrom_156 : decode cX8_seatsFrom 156 = .ok (.goto (-137), 3) := by decide +kernel
theorem dX8_seatsFrom_159 : decode cX8_seatsFrom 159 = .ok (.return_, 1) := by decide +kernel
theorem dX8_looksForSeating_0 : decode cX8_looksForSeating 0 = .ok (.aload_n 0, 1) := by decide +kernel
theorem dX8_looksForSeating_1 : decode cX8_looksForSeating 1 = .ok (.invokevirtual 228, 3) := by decide +kernel
theorem dX8_looksForSeating_4 : decode cX8_looksForSeating 4 = .ok (.aload_n 0, 1) := by decide +kernel
theorem dX8_looksForSeating_5 : decode cX8_looksForSeating 5 = .ok (.iload_n 1, 1) := by decide +kernel
theorem dX8_looksForSeating_6 : decode cX8_looksForSeating 6 = .ok (.putfield 204, 3) := by decide +kernel
theorem dX8_looksForSeating_9 : decode cX8_looksForSeating 9 = .ok (.aload_n 0, 1) := by decide +kernel
theorem dX8_looksForSeating_10 : decode cX8_looksForSeating 10 = .ok (.iload_n 2, 1) := by decide +kernel
theorem dX8_looksForSeating_11 : decode cX8_looksForSeating 11 = .ok (.putfield 222, 3) := by decide +kernel
theorem dX8_looksForSeating_14 : decode cX8_looksForSeating 14 = .ok (.aload_n 0, 1) := by decide +kernel
theorem dX8_looksForSeating_15 : decode cX8_looksForSeating 15 = .ok (.iconst (-1), 1) := by decide +kernel
theorem dX8_looksForSeating_16 : decode cX8_looksForSeating 16 = .ok (.putfield 213, 3) := by decide +kernel
theorem dX8_looksForSeating_19 : decode cX8_looksForSeating 19 = .ok (.aload_n 0, 1) := by decide +kernel
theorem dX8_looksForSeating_20 : decode cX8_looksForSeating 20 = .ok (.iconst 0, 1) := by decide +kernel
theorem dX8_looksForSeating_21 : decode cX8_looksForSeating 21 = .ok (.iconst 0, 1) := by decide +kernel
theorem dX8_looksForSeating_22 : decode cX8_looksForSeating 22 = .ok (.invokevirtual 225, 3) := by decide +kernel
theorem dX8_looksForSeating_25 : decode cX8_looksForSeating 25 = .ok (.return_, 1) := by decide +kernel
theorem dX8_everybody_0 : decode cX8_everybody 0 = .ok (.iconst 1, 1) := by decide +kernel
theorem dX8_everybody_1 : decode cX8_everybody 1 = .ok (.aload_n 0, 1) := by decide +kernel
theorem dX8_everybody_2 : decode cX8_everybody 2 = .ok (.getfield 9, 3) := by decide +kernel
theorem dX8_everybody_5 : decode cX8_everybody 5 = .ok (.bipush 12, 2) := by decide +kernel
theorem dX8_everybody_7 : decode cX8_everybody 7 = .ok (.iaload, 1) := by decide +kernel
theorem dX8_everybody_8 : decode cX8_everybody 8 = .ok (.ishl, 1) := by decide +kernel
theorem dX8_everybody_9 : decode cX8_everybody 9 = .ok (.iconst 1, 1) := by decide +kernel
theorem dX8_everybody_10 : decode cX8_everybody 10 = .ok (.isub, 1) := by decide +kernel
theorem dX8_everybody_11 : decode cX8_everybody 11 = .ok (.ireturn, 1) := by decide +kernel
theorem dX8_isAsked_0 : decode cX8_isAsked 0 = .ok (.iload_n 1, 1) := by decide +kernel
theorem dX8_isAsked_1 : decode cX8_isAsked 1 = .ok (.ifCond .eq 14, 3) := by decide +kernel
theorem dX8_isAsked_4 : decode cX8_isAsked 4 = .ok (.aload_n 0, 1) := by decide +kernel
theorem dX8_isAsked_5 : decode cX8_isAsked 5 = .ok (.iload_n 1, 1) := by decide +kernel
theorem dX8_isAsked_6 : decode cX8_isAsked 6 = .ok (.bipush 10, 2) := by decide +kernel
theorem dX8_isAsked_8 : decode cX8_isAsked 8 = .ok (.isub, 1) := by decide +kernel
theorem dX8_isAsked_9 : decode cX8_isAsked 9 = .ok (.invokevirtual 169, 3) := by decide +kernel
theorem dX8_isAsked_12 : decode cX8_isAsked 12 = .ok (.ifCond .eq 7, 3) := by decide +kernel
theorem dX8_isAsked_15 : decode cX8_isAsked 15 = .ok (.iconst 1, 1) := by decide +kernel
theorem dX8_isAsked_16 : decode cX8_isAsked 16 = .ok (.goto 4, 3) := by decide +kernel
theorem dX8_isAsked_19 : decode cX8_isAsked 19 = .ok (.iconst 0, 1) := by decide +kernel
theorem dX8_isAsked_20 : decode cX8_isAsked 20 = .ok (.ireturn, 1) := by decide +kernel
theorem dX8_seatOf_0 : decode cX8_seatOf 0 = .ok (.aload_n 0, 1) := by decide +kernel
theorem dX8_seatOf_1 : decode cX8_seatOf 1 = .ok (.getfield 37, 3) := by decide +kernel
theorem dX8_seatOf_4 : decode cX8_seatOf 4 = .ok (.iload_n 1, 1) := by decide +kernel
theorem dX8_seatOf_5 : decode cX8_seatOf 5 = .ok (.bipush 10, 2) := by decide +kernel
theorem dX8_seatOf_7 : decode cX8_seatOf 7 = .ok (.isub, 1) := by decide +kernel
theorem dX8_seatOf_8 : decode cX8_seatOf 8 = .ok (.iaload, 1) := by decide +kernel
theorem dX8_seatOf_9 : decode cX8_seatOf 9 = .ok (.ifCond .ne 8, 3) := by decide +kernel
theorem dX8_seatOf_12 : decode cX8_seatOf 12 = .ok (.bipush (-5), 2) := by decide +kernel
theorem dX8_seatOf_14 : decode cX8_seatOf 14 = .ok (.goto 14, 3) := by decide +kernel
theorem dX8_seatOf_17 : decode cX8_seatOf 17 = .ok (.aload_n 0, 1) := by decide +kernel
theorem dX8_seatOf_18 : decode cX8_seatOf 18 = .ok (.getfield 37, 3) := by decide +kernel
theorem dX8_seatOf_21 : decode cX8_seatOf 21 = .ok (.iload_n 1, 1) := by decide +kernel
theorem dX8_seatOf_22 : decode cX8_seatOf 22 = .ok (.bipush 10, 2) := by decide +kernel
theorem dX8_seatOf_24 : decode cX8_seatOf 24 = .ok (.isub, 1) := by decide +kernel
theorem dX8_seatOf_25 : decode cX8_seatOf 25 = .ok (.iaload, 1) := by decide +kernel
theorem dX8_seatOf_26 : decode cX8_seatOf 26 = .ok (.iconst 1, 1) := by decide +kernel
theorem dX8_seatOf_27 : decode cX8_seatOf 27 = .ok (.isub, 1) := by decide +kernel
theorem dX8_seatOf_28 : decode cX8_seatOf 28 = .ok (.ireturn, 1) := by decide +kernel
theorem dX8_fewest_0 : decode cX8_fewest 0 = .ok (.aload_n 0, 1) := by decide +kernel
theorem dX8_fewest_1 : decode cX8_fewest 1 = .ok (.iload_n 2, 1) := by decide +kernel
theorem dX8_fewest_2 : decode cX8_fewest 2 = .ok (.invokevirtual 231, 3) := by decide +kernel
theorem dX8_fewest_5 : decode cX8_fewest 5 = .ok (.ifCond .ne 5, 3) := by decide +kernel
theorem dX8_fewest_8 : decode cX8_fewest 8 = .ok (.iconst (-1), 1) := by decide +kernel
theorem dX8_fewest_9 : decode cX8_fewest 9 = .ok (.ireturn, 1) := by decide +kernel
theorem dX8_fewest_10 : decode cX8_fewest 10 = .ok (.iload_n 1, 1) := by decide +kernel
theorem dX8_fewest_11 : decode cX8_fewest 11 = .ok (.iconst 0, 1) := by decide +kernel
theorem dX8_fewest_12 : decode cX8_fewest 12 = .ok (.aload_n 0, 1) := by decide +kernel
theorem dX8_fewest_13 : decode cX8_fewest 13 = .ok (.invokevirtual 234, 3) := by decide +kernel
theorem dX8_fewest_16 : decode cX8_fewest 16 = .ok (.invokestatic 53, 3) := by decide +kernel
theorem dX8_fewest_19 : decode cX8_fewest 19 = .ok (.ifCond .ne 6, 3) := by decide +kernel
theorem dX8_fewest_22 : decode cX8_fewest 22 = .ok (.bipush (-2), 2) := by decide +kernel
theorem dX8_fewest_24 : decode cX8_fewest 24 = .ok (.ireturn, 1) := by decide +kernel
theorem dX8_fewest_25 : decode cX8_fewest 25 = .ok (.aload_n 0, 1) := by decide +kernel
theorem dX8_fewest_26 : decode cX8_fewest 26 = .ok (.iconst 0, 1) := by decide +kernel
theorem dX8_fewest_27 : decode cX8_fewest 27 = .ok (.iload_n 1, 1) := by decide +kernel
theorem dX8_fewest_28 : decode cX8_fewest 28 = .ok (.invokevirtual 237, 3) := by decide +kernel
theorem dX8_fewest_31 : decode cX8_fewest 31 = .ok (.aload_n 0, 1) := by decide +kernel
theorem dX8_fewest_32 : decode cX8_fewest 32 = .ok (.getfield 213, 3) := by decide +kernel
theorem dX8_fewest_35 : decode cX8_fewest 35 = .ok (.iconst (-1), 1) := by decide +kernel
theorem dX8_fewest_36 : decode cX8_fewest 36 = .ok (.if_icmp .ne 8, 3) := by decide +kernel
theorem dX8_fewest_39 : decode cX8_fewest 39 = .ok (.bipush (-6), 2) := by decide +kernel
theorem dX8_fewest_41 : decode cX8_fewest 41 = .ok (.goto 19, 3) := by decide +kernel
theorem dX8_fewest_44 : decode cX8_fewest 44 = .ok (.iload_n 2, 1) := by decide +kernel
theorem dX8_fewest_45 : decode cX8_fewest 45 = .ok (.ifCond .ne 10, 3) := by decide +kernel
theorem dX8_fewest_48 : decode cX8_fewest 48 = .ok (.aload_n 0, 1) := by decide +kernel
theorem dX8_fewest_49 : decode cX8_fewest 49 = .ok (.getfield 213, 3) := by decide +kernel
theorem dX8_fewest_52 : decode cX8_fewest 52 = .ok (.goto 8, 3) := by decide +kernel
theorem dX8_fewest_55 : decode cX8_fewest 55 = .ok (.aload_n 0, 1) := by decide +kernel
theorem dX8_fewest_56 : decode cX8_fewest 56 = .ok (.iload_n 2, 1) := by decide +kernel
theorem dX8_fewest_57 : decode cX8_fewest 57 = .ok (.invokevirtual 240, 3) := by decide +kernel
theorem dX8_fewest_60 : decode cX8_fewest 60 = .ok (.ireturn, 1) := by decide +kernel
theorem dX8_close_0 : decode cX8_close 0 = .ok (.aload_n 0, 1) := by decide +kernel
theorem dX8_close_1 : decode cX8_close 1 = .ok (.iload_n 1, 1) := by decide +kernel
theorem dX8_close_2 : decode cX8_close 2 = .ok (.invokevirtual 231, 3) := by decide +kernel
theorem dX8_close_5 : decode cX8_close 5 = .ok (.ifCond .ne 5, 3) := by decide +kernel
theorem dX8_close_8 : decode cX8_close 8 = .ok (.iconst (-1), 1) := by decide +kernel
theorem dX8_close_9 : decode cX8_close 9 = .ok (.ireturn, 1) := by decide +kernel
theorem dX8_close_10 : decode cX8_close 10 = .ok (.aload_n 0, 1) := by decide +kernel
theorem dX8_close_11 : decode cX8_close 11 = .ok (.iconst 1, 1) := by decide +kernel
theorem dX8_close_12 : decode cX8_close 12 = .ok (.aload_n 0, 1) := by decide +kernel
theorem dX8_close_13 : decode cX8_close 13 = .ok (.invokevirtual 234, 3) := by decide +kernel
theorem dX8_close_16 : decode cX8_close 16 = .ok (.invokevirtual 237, 3) := by decide +kernel
theorem dX8_close_19 : decode cX8_close 19 = .ok (.aload_n 0, 1) := by decide +kernel
theorem dX8_close_20 : decode cX8_close 20 = .ok (.getfield 213, 3) := by decide +kernel
theorem dX8_close_23 : decode cX8_close 23 = .ok (.iconst (-1), 1) := by decide +kernel
theorem dX8_close_24 : decode cX8_close 24 = .ok (.if_icmp .ne 8, 3) := by decide +kernel
theorem dX8_close_27 : decode cX8_close 27 = .ok (.bipush (-6), 2) := by decide +kernel
theorem dX8_close_29 : decode cX8_close 29 = .ok (.goto 20, 3) := by decide +kernel
theorem dX8_close_32 : decode cX8_close 32 = .ok (.iload_n 1, 1) := by decide +kernel
theorem dX8_close_33 : decode cX8_close 33 = .ok (.ifCond .ne 11, 3) := by decide +kernel
theorem dX8_close_36 : decode cX8_close 36 = .ok (.aload_n 0, 1) := by decide +kernel
theorem dX8_close_37 : decode cX8_close 37 = .ok (.getfield 216, 3) := by decide +kernel
theorem dX8_close_40 : decode cX8_close 40 = .ok (.ineg, 1) := by decide +kernel
theorem dX8_close_41 : decode cX8_close 41 = .ok (.goto 8, 3) := by decide +kernel
theorem dX8_close_44 : decode cX8_close 44 = .ok (.aload_n 0, 1) := by decide +kernel
theorem dX8_close_45 : decode cX8_close 45 = .ok (.iload_n 1, 1) := by decide +kernel
theorem dX8_close_46 : decode cX8_close 46 = .ok (.invokevirtual 240, 3) := by decide +kernel
theorem dX8_close_49 : decode cX8_close 49 = .ok (.ireturn, 1) := by decide +kernel
theorem dX8_boldest_0 : decode cX8_boldest 0 = .ok (.aload_n 0, 1) := by decide +kernel
theorem dX8_boldest_1 : decode cX8_boldest 1 = .ok (.iload_n 1, 1) := by decide +kernel
theorem dX8_boldest_2 : decode cX8_boldest 2 = .ok (.invokevirtual 231, 3) := by decide +kernel
theorem dX8_boldest_5 : decode cX8_boldest 5 = .ok (.ifCond .ne 5, 3) := by decide +kernel
theorem dX8_boldest_8 : decode cX8_boldest 8 = .ok (.iconst (-1), 1) := by decide +kernel
theorem dX8_boldest_9 : decode cX8_boldest 9 = .ok (.ireturn, 1) := by decide +kernel
theorem dX8_boldest_10 : decode cX8_boldest 10 = .ok (.aload_n 0, 1) := by decide +kernel
theorem dX8_boldest_11 : decode cX8_boldest 11 = .ok (.iconst 2, 1) := by decide +kernel
theorem dX8_boldest_12 : decode cX8_boldest 12 = .ok (.iconst 0, 1) := by decide +kernel
theorem dX8_boldest_13 : decode cX8_boldest 13 = .ok (.invokevirtual 237, 3) := by decide +kernel
theorem dX8_boldest_16 : decode cX8_boldest 16 = .ok (.iload_n 1, 1) := by decide +kernel
theorem dX8_boldest_17 : decode cX8_boldest 17 = .ok (.ifCond .ne 10, 3) := by decide +kernel
theorem dX8_boldest_20 : decode cX8_boldest 20 = .ok (.aload_n 0, 1) := by decide +kernel
theorem dX8_boldest_21 : decode cX8_boldest 21 = .ok (.getfield 216, 3) := by decide +kernel
theorem dX8_boldest_24 : decode cX8_boldest 24 = .ok (.goto 8, 3) := by decide +kernel
theorem dX8_boldest_27 : decode cX8_boldest 27 = .ok (.aload_n 0, 1) := by decide +kernel
theorem dX8_boldest_28 : decode cX8_boldest 28 = .ok (.iload_n 1, 1) := by decide +kernel
theorem dX8_boldest_29 : decode cX8_boldest 29 = .ok (.invokevirtual 240, 3) := by decide +kernel
theorem dX8_boldest_32 : decode cX8_boldest 32 = .ok (.ireturn, 1) := by decide +kernel
theorem dX8_see_0 : decode cX8_see 0 = .ok (.iload_n 1, 1) := by decide +kernel
theorem dX8_see_1 : decode cX8_see 1 = .ok (.iconst (-1), 1) := by decide +kernel
theorem dX8_see_2 : decode cX8_see 2 = .ok (.if_icmp .ne 13, 3) := by decide +kernel
theorem dX8_see_5 : decode cX8_see 5 = .ok (.aload_n 0, 1) := by decide +kernel
theorem dX8_see_6 : decode cX8_see 6 = .ok (.getfield 9, 3) := by decide +kernel
theorem dX8_see_9 : decode cX8_see 9 = .ok (.bipush 14, 2) := by decide +kernel
theorem dX8_see_11 : decode cX8_see 11 = .ok (.iconst 0, 1) := by decide +kernel
theorem dX8_see_12 : decode cX8_see 12 = .ok (.iastore, 1) := by decide +kernel
theorem dX8_see_13 : decode cX8_see 13 = .ok (.iconst 0, 1) := by decide +kernel
theorem dX8_see_14 : decode cX8_see 14 = .ok (.ireturn, 1) := by decide +kernel
theorem dX8_see_15 : decode cX8_see 15 = .ok (.aload_n 0, 1) := by decide +kernel
theorem dX8_see_16 : decode cX8_see 16 = .ok (.iload_n 1, 1) := by decide +kernel
theorem dX8_see_17 : decode cX8_see 17 = .ok (.invokevirtual 169, 3) := by decide +kernel
theorem dX8_see_20 : decode cX8_see 20 = .ok (.ifCond .ne 5, 3) := by decide +kernel
theorem dX8_see_23 : decode cX8_see 23 = .ok (.iconst (-1), 1) := by decide +kernel
theorem dX8_see_24 : decode cX8_see 24 = .ok (.ireturn, 1) := by decide +kernel
theorem dX8_see_25 : decode cX8_see 25 = .ok (.iload_n 2, 1) := by decide +kernel
theorem dX8_see_26 : decode cX8_see 26 = .ok (.invokestatic 243, 3) := by decide +kernel
theorem dX8_see_29 : decode cX8_see 29 = .ok (.ifCond .ne 6, 3) := by decide +kernel
theorem dX8_see_32 : decode cX8_see 32 = .ok (.bipush (-2), 2) := by decide +kernel
theorem dX8_see_34 : decode cX8_see 34 = .ok (.ireturn, 1) := by decide +kernel
theorem dX8_see_35 : decode cX8_see 35 = .ok (.aload_n 0, 1) := by decide +kernel
theorem dX8_see_36 : decode cX8_see 36 = .ok (.getfield 9, 3) := by decide +kernel
theorem dX8_see_39 : decode cX8_see 39 = .ok (.bipush 14, 2) := by decide +kernel
theorem dX8_see_41 : decode cX8_see 41 = .ok (.iaload, 1) := by decide +kernel
theorem dX8_see_42 : decode cX8_see 42 = .ok (.iconst 5, 1) := by decide +kernel
theorem dX8_see_43 : decode cX8_see 43 = .ok (.if_icmp .ne 6, 3) := by decide +kernel
theorem dX8_see_46 : decode cX8_see 46 = .ok (.bipush (-4), 2) := by decide +kernel
theorem dX8_see_48 : decode cX8_see 48 = .ok (.ireturn, 1) := by decide +kernel
theorem dX8_see_49 : decode cX8_see 49 = .ok (.aload_n 0, 1) := by decide +kernel
theorem dX8_see_50 : decode cX8_see 50 = .ok (.getfield 9, 3) := by decide +kernel
theorem dX8_see_53 : decode cX8_see 53 = .ok (.bipush 73, 2) := by decide +kernel
theorem dX8_see_55 : decode cX8_see 55 = .ok (.aload_n 0, 1) := by decide +kernel
theorem dX8_see_56 : decode cX8_see 56 = .ok (.getfield 9, 3) := by decide +kernel
theorem dX8_see_59 : decode cX8_see 59 = .ok (.bipush 14, 2) := by decide +kernel
theorem dX8_see_61 : decode cX8_see 61 = .ok (.iaload, 1) := by decide +kernel
theorem dX8_see_62 : decode cX8_see 62 = .ok (.iadd, 1) := by decide +kernel
theorem dX8_see_63 : decode cX8_see 63 = .ok (.iload_n 1, 1) := by decide +kernel
theorem dX8_see_64 : decode cX8_see 64 = .ok (.iastore, 1) := by decide +kernel
theorem dX8_see_65 : decode cX8_see 65 = .ok (.aload_n 0, 1) := by decide +kernel
theorem dX8_see_66 : decode cX8_see 66 = .ok (.getfield 9, 3) := by decide +kernel
theorem dX8_see_69 : decode cX8_see 69 = .ok (.bipush 78, 2) := by decide +kernel
theorem dX8_see_71 : decode cX8_see 71 = .ok (.aload_n 0, 1) := by decide +kernel
theorem dX8_see_72 : decode cX8_see 72 = .ok (.getfield 9, 3) := by decide +kernel
theorem dX8_see_75 : decode cX8_see 75 = .ok (.bipush 14, 2) := by decide +kernel
theorem dX8_see_77 : decode cX8_see 77 = .ok (.iaload, 1) := by decide +kernel
theorem dX8_see_78 : decode cX8_see 78 = .ok (.iadd, 1) := by decide +kernel
theorem dX8_see_79 : decode cX8_see 79 = .ok (.iload_n 2, 1) := by decide +kernel
theorem dX8_see_80 : decode cX8_see 80 = .ok (.iastore, 1) := by decide +kernel
theorem dX8_see_81 : decode cX8_see 81 = .ok (.aload_n 0, 1) := by decide +kernel
theorem dX8_see_82 : decode cX8_see 82 = .ok (.getfield 9, 3) := by decide +kernel
theorem dX8_see_85 : decode cX8_see 85 = .ok (.bipush 14, 2) := by decide +kernel
theorem dX8_see_87 : decode cX8_see 87 = .ok (.dup2, 1) := by decide +kernel
theorem dX8_see_88 : decode cX8_see 88 = .ok (.iaload, 1) := by decide +kernel
theorem dX8_see_89 : decode cX8_see 89 = .ok (.iconst 1, 1) := by decide +kernel
theorem dX8_see_90 : decode cX8_see 90 = .ok (.iadd, 1) := by decide +kernel
theorem dX8_see_91 : decode cX8_see 91 = .ok (.iastore, 1) := by decide +kernel
theorem dX8_see_92 : decode cX8_see 92 = .ok (.aload_n 0, 1) := by decide +kernel
theorem dX8_see_93 : decode cX8_see 93 = .ok (.getfield 9, 3) := by decide +kernel
theorem dX8_see_96 : decode cX8_see 96 = .ok (.bipush 14, 2) := by decide +kernel
theorem dX8_see_98 : decode cX8_see 98 = .ok (.iaload, 1) := by decide +kernel
theorem dX8_see_99 : decode cX8_see 99 = .ok (.ireturn, 1) := by decide +kernel
theorem dX8_isAsSeen_0 : decode cX8_isAsSeen 0 = .ok (.iconst 1, 1) := by decide +kernel
theorem dX8_isAsSeen_1 : decode cX8_isAsSeen 1 = .ok (.istore_n 3, 1) := by decide +kernel
theorem dX8_isAsSeen_2 : decode cX8_isAsSeen 2 = .ok (.iconst 0, 1) := by decide +kernel
theorem dX8_isAsSeen_3 : decode cX8_isAsSeen 3 = .ok (.istore 4, 2) := by decide +kernel
theorem dX8_isAsSeen_5 : decode cX8_isAsSeen 5 = .ok (.iload 4, 2) := by decide +kernel
theorem dX8_isAsSeen_7 : decode cX8_isAsSeen 7 = .ok (.aload_n 0, 1) := by decide +kernel
theorem dX8_isAsSeen_8 : decode cX8_isAsSeen 8 = .ok (.getfield 9, 3) := by decide +kernel
theorem dX8_isAsSeen_11 : decode cX8_isAsSeen 11 = .ok (.bipush 14, 2) := by decide +kernel
theorem dX8_isAsSeen_13 : decode cX8_isAsSeen 13 = .ok (.iaload, 1) := by decide +kernel
theorem dX8_isAsSeen_14 : decode cX8_isAsSeen 14 = .ok (.if_icmp .ge 47, 3) := by decide +kernel
theorem dX8_isAsSeen_17 : decode cX8_isAsSeen 17 = .ok (.iload_n 3, 1) := by decide +kernel
theorem dX8_isAsSeen_18 : decode cX8_isAsSeen 18 = .ok (.ifCond .eq 35, 3) := by decide +kernel
theorem dX8_isAsSeen_21 : decode cX8_isAsSeen 21 = .ok (.aload_n 0, 1) := by decide +kernel
theorem dX8_isAsSeen_22 : decode cX8_isAsSeen 22 = .ok (.getfield 9, 3) := by decide +kernel
theorem dX8_isAsSeen_25 : decode cX8_isAsSeen 25 = .ok (.bipush 73, 2) := by decide +kernel
theorem dX8_isAsSeen_27 : decode cX8_isAsSeen 27 = .ok (.iload 4, 2) := by decide +kernel
theorem dX8_isAsSeen_29 : decode cX8_isAsSeen 29 = .ok (.iadd, 1) := by decide +kernel
theorem dX8_isAsSeen_30 : decode cX8_isAsSeen 30 = .ok (.iaload, 1) := by decide +kernel
theorem dX8_isAsSeen_31 : decode cX8_isAsSeen 31 = .ok (.iload_n 1, 1) := by decide +kernel
theorem dX8_isAsSeen_32 : decode cX8_isAsSeen 32 = .ok (.if_icmp .ne 17, 3) := by decide +kernel
theorem dX8_isAsSeen_35 : decode cX8_isAsSeen 35 = .ok (.aload_n 0, 1) := by decide +kernel
theorem dX8_isAsSeen_36 : decode cX8_isAsSeen 36 = .ok (.getfield 9, 3) := by decide +kernel
theorem dX8_isAsSeen_39 : decode cX8_isAsSeen 39 = .ok (.bipush 78, 2) := by decide +kernel
theorem dX8_isAsSeen_41 : decode cX8_isAsSeen 41 = .ok (.iload 4, 2) := by decide +kernel
theorem dX8_isAsSeen_43 : decode cX8_isAsSeen 43 = .ok (.iadd, 1) := by decide +kernel
theorem dX8_isAsSeen_44 : decode cX8_isAsSeen 44 = .ok (.iaload, 1) := by decide +kernel
theorem dX8_isAsSeen_45 : decode cX8_isAsSeen 45 = .ok (.iload_n 2, 1) := by decide +kernel
theorem dX8_isAsSeen_46 : decode cX8_isAsSeen 46 = .ok (.if_icmp .ne 7, 3) := by decide +kernel
theorem dX8_isAsSeen_49 : decode cX8_isAsSeen 49 = .ok (.iconst 1, 1) := by decide +kernel
theorem dX8_isAsSeen_50 : decode cX8_isAsSeen 50 = .ok (.goto 4, 3) := by decide +kernel
theorem dX8_isAsSeen_53 : decode cX8_isAsSeen 53 = .ok (.iconst 0, 1) := by decide +kernel
theorem dX8_isAsSeen_54 : decode cX8_isAsSeen 54 = .ok (.istore_n 3, 1) := by decide +kernel
theorem dX8_isAsSeen_55 : decode cX8_isAsSeen 55 = .ok (.iinc 4 1, 3) := by decide +kernel
theorem dX8_isAsSeen_58 : decode cX8_isAsSeen 58 = .ok (.goto (-53), 3) := by decide +kernel
theorem dX8_isAsSeen_61 : decode cX8_isAsSeen 61 = .ok (.iload_n 3, 1) := by decide +kernel
theorem dX8_isAsSeen_62 : decode cX8_isAsSeen 62 = .ok (.ireturn, 1) := by decide +kernel
theorem dX8_drank_0 : decode cX8_drank 0 = .ok (.aload_n 0, 1) := by decide +kernel
theorem dX8_drank_1 : decode cX8_drank 1 = .ok (.iload_n 1, 1) := by decide +kernel
theorem dX8_drank_2 : decode cX8_drank 2 = .ok (.invokevirtual 169, 3) := by decide +kernel
theorem dX8_drank_5 : decode cX8_drank 5 = .ok (.ifCond .ne 5, 3) := by decide +kernel
theorem dX8_drank_8 : decode cX8_drank 8 = .ok (.iconst (-1), 1) := by decide +kernel
theorem dX8_drank_9 : decode cX8_drank 9 = .ok (.ireturn, 1) := by decide +kernel
theorem dX8_drank_10 : decode cX8_drank 10 = .ok (.aload_n 0, 1) := by decide +kernel
theorem dX8_drank_11 : decode cX8_drank 11 = .ok (.iload_n 1, 1) := by decide +kernel
theorem dX8_drank_12 : decode cX8_drank 12 = .ok (.aload_n 0, 1) := by decide +kernel
theorem dX8_drank_13 : decode cX8_drank 13 = .ok (.iload_n 1, 1) := by decide +kernel
theorem dX8_drank_14 : decode cX8_drank 14 = .ok (.iconst (-1), 1) := by decide +kernel
theorem dX8_drank_15 : decode cX8_drank 15 = .ok (.invokevirtual 146, 3) := by decide +kernel
theorem dX8_drank_18 : decode cX8_drank 18 = .ok (.invokevirtual 246, 3) := by decide +kernel
theorem dX8_drank_21 : decode cX8_drank 21 = .ok (.ifCond .eq 8, 3) := by decide +kernel
theorem dX8_drank_24 : decode cX8_drank 24 = .ok (.bipush 32, 2) := by decide +kernel
theorem dX8_drank_26 : decode cX8_drank 26 = .ok (.goto 4, 3) := by decide +kernel
theorem dX8_drank_29 : decode cX8_drank 29 = .ok (.iconst 0, 1) := by decide +kernel
theorem dX8_drank_30 : decode cX8_drank 30 = .ok (.istore_n 2, 1) := by decide +kernel
theorem dX8_drank_31 : decode cX8_drank 31 = .ok (.iconst 0, 1) := by decide +kernel
theorem dX8_drank_32 : decode cX8_drank 32 = .ok (.istore_n 3, 1) := by decide +kernel
theorem dX8_drank_33 : decode cX8_drank 33 = .ok (.iload_n 3, 1) := by decide +kernel
theorem dX8_drank_34 : decode cX8_drank 34 = .ok (.aload_n 0, 1) := by decide +kernel
theorem dX8_drank_35 : decode cX8_drank 35 = .ok (.getfield 9, 3) := by decide +kernel
theorem dX8_drank_38 : decode cX8_drank 38 = .ok (.bipush 19, 2) := by decide +kernel
theorem dX8_drank_40 : decode cX8_drank 40 = .ok (.iaload, 1) := by decide +kernel
theorem dX8_drank_41 : decode cX8_drank 41 = .ok (.if_icmp .ge 33, 3) := by decide +kernel
theorem dX8_drank_44 : decode cX8_drank 44 = .ok (.iload_n 2, 1) := by decide +kernel
theorem dX8_drank_45 : decode cX8_drank 45 = .ok (.aload_n 0, 1) := by decide +kernel
theorem dX8_drank_46 : decode cX8_drank 46 = .ok (.iload_n 1, 1) := by decide +kernel
theorem dX8_drank_47 : decode cX8_drank 47 = .ok (.aload_n 0, 1) := by decide +kernel
theorem dX8_drank_48 : decode cX8_drank 48 = .ok (.iload_n 1, 1) := by decide +kernel
theorem dX8_drank_49 : decode cX8_drank 49 = .ok (.iload_n 3, 1) := by decide +kernel
theorem dX8_drank_50 : decode cX8_drank 50 = .ok (.invokevirtual 146, 3) := by decide +kernel
theorem dX8_drank_53 : decode cX8_drank 53 = .ok (.invokevirtual 246, 3) := by decide +kernel
theorem dX8_drank_56 : decode cX8_drank 56 = .ok (.ifCond .eq 9, 3) := by decide +kernel
theorem dX8_drank_59 : decode cX8_drank 59 = .ok (.iconst 1, 1) := by decide +kernel
theorem dX8_drank_60 : decode cX8_drank 60 = .ok (.iload_n 3, 1) := by decide +kernel
theorem dX8_drank_61 : decode cX8_drank 61 = .ok (.ishl, 1) := by decide +kernel
theorem dX8_drank_62 : decode cX8_drank 62 = .ok (.goto 4, 3) := by decide +kernel
theorem dX8_drank_65 : decode cX8_drank 65 = .ok (.iconst 0, 1) := by decide +kernel
theorem dX8_drank_66 : decode cX8_drank 66 = .ok (.ior, 1) := by decide +kernel
theorem dX8_drank_67 : decode cX8_drank 67 = .ok (.istore_n 2, 1) := by decide +kernel
theorem dX8_drank_68 : decode cX8_drank 68 = .ok (.iinc 3 1, 3) := by decide +kernel
theorem dX8_drank_71 : decode cX8_drank 71 = .ok (.goto (-38), 3) := by decide +kernel
theorem dX8_drank_74 : decode cX8_drank 74 = .ok (.iload_n 2, 1) := by decide +kernel
theorem dX8_drank_75 : decode cX8_drank 75 = .ok (.ireturn, 1) := by decide +kernel
theorem dX8_looksForFitting_0 : decode cX8_looksForFitting 0 = .ok (.aload_n 0, 1) := by decide +kernel
theorem dX8_looksForFitting_1 : decode cX8_looksForFitting 1 = .ok (.getfield 9, 3) := by decide +kernel
theorem dX8_looksForFitting_4 : decode cX8_looksForFitting 4 = .ok (.iload_n 2, 1) := by decide +kernel
theorem dX8_looksForFitting_5 : decode cX8_looksForFitting 5 = .ok (.iaload, 1) := by decide +kernel
theorem dX8_looksForFitting_6 : decode cX8_looksForFitting 6 = .ok (.istore 4, 2) := by decide +kernel
theorem dX8_looksForFitting_8 : decode cX8_looksForFitting 8 = .ok (.aload_n 0, 1) := by decide +kernel
theorem dX8_looksForFitting_9 : decode cX8_looksForFitting 9 = .ok (.iconst 0, 1) := by decide +kernel
theorem dX8_looksForFitting_10 : decode cX8_looksForFitting 10 = .ok (.putfield 249, 3) := by decide +kernel
theorem dX8_looksForFitting_13 : decode cX8_looksForFitting 13 = .ok (.aload_n 0, 1) := by decide +kernel
theorem dX8_looksForFitting_14 : decode cX8_looksForFitting 14 = .ok (.bipush (-5), 2) := by decide +kernel
theorem dX8_looksForFitting_16 : decode cX8_looksForFitting 16 = .ok (.putfield 252, 3) := by decide +kernel
theorem dX8_looksForFitting_19 : decode cX8_looksForFitting 19 = .ok (.iload_n 3, 1) := by decide +kernel
theorem dX8_looksForFitting_20 : decode cX8_looksForFitting 20 = .ok (.istore 5, 2) := by decide +kernel
theorem dX8_looksForFitting_22 : decode cX8_looksForFitting 22 = .ok (.iload 5, 2) := by decide +kernel
theorem dX8_looksForFitting_24 : decode cX8_looksForFitting 24 = .ok (.ifCond .lt 66, 3) := by decide +kernel
theorem dX8_looksForFitting_27 : decode cX8_looksForFitting 27 = .ok (.aload_n 0, 1) := by decide +kernel
theorem dX8_looksForFitting_28 : decode cX8_looksForFitting 28 = .ok (.getfield 9, 3) := by decide +kernel
theorem dX8_looksForFitting_31 : decode cX8_looksForFitting 31 = .ok (.iload_n 2, 1) := by decide +kernel
theorem dX8_looksForFitting_32 : decode cX8_looksForFitting 32 = .ok (.iload 5, 2) := by decide +kernel
theorem dX8_looksForFitting_34 : decode cX8_looksForFitting 34 = .ok (.iastore, 1) := by decide +kernel
theorem dX8_looksForFitting_35 : decode cX8_looksForFitting 35 = .ok (.aload_n 0, 1) := by decide +kernel
theorem dX8_looksForFitting_36 : decode cX8_looksForFitting 36 = .ok (.iload_n 1, 1) := by decide +kernel
theorem dX8_looksForFitting_37 : decode cX8_looksForFitting 37 = .ok (.aload_n 0, 1) := by decide +kernel
theorem dX8_looksForFitting_38 : decode cX8_looksForFitting 38 = .ok (.iload_n 1, 1) := by decide +kernel
theorem dX8_looksForFitting_39 : decode cX8_looksForFitting 39 = .ok (.invokevirtual 155, 3) := by decide +kernel
theorem dX8_looksForFitting_42 : decode cX8_looksForFitting 42 = .ok (.invokevirtual 246, 3) := by decide +kernel
theorem dX8_looksForFitting_45 : decode cX8_looksForFitting 45 = .ok (.istore 6, 2) := by decide +kernel
theorem dX8_looksForFitting_47 : decode cX8_looksForFitting 47 = .ok (.aload_n 0, 1) := by decide +kernel
theorem dX8_looksForFitting_48 : decode cX8_looksForFitting 48 = .ok (.dup, 1) := by decide +kernel
theorem dX8_looksForFitting_49 : decode cX8_looksForFitting 49 = .ok (.getfield 249, 3) := by decide +kernel
theorem dX8_looksForFitting_52 : decode cX8_looksForFitting 52 = .ok (.iload 6, 2) := by decide +kernel
theorem dX8_looksForFitting_54 : decode cX8_looksForFitting 54 = .ok (.ifCond .eq 7, 3) := by decide +kernel
theorem dX8_looksForFitting_57 : decode cX8_looksForFitting 57 = .ok (.iconst 1, 1) := by decide +kernel
theorem dX8_looksForFitting_58 : decode cX8_looksForFitting 58 = .ok (.goto 4, 3) := by decide +kernel
theorem dX8_looksForFitting_61 : decode cX8_looksForFitting 61 = .ok (.iconst 0, 1) := by decide +kernel
theorem dX8_looksForFitting_62 : decode cX8_looksForFitting 62 = .ok (.iadd, 1) := by decide +kernel
theorem dX8_looksForFitting_63 : decode cX8_looksForFitting 63 = .ok (.putfield 249, 3) := by decide +kernel
theorem dX8_looksForFitting_66 : decode cX8_looksForFitting 66 = .ok (.aload_n 0, 1) := by decide +kernel
theorem dX8_looksForFitting_67 : decode cX8_looksForFitting 67 = .ok (.iload 6, 2) := by decide +kernel
theorem dX8_looksForFitting_69 : decode cX8_looksForFitting 69 = .ok (.ifCond .eq 8, 3) := by decide +kernel
theorem dX8_looksForFitting_72 : decode cX8_looksForFitting 72 = .ok (.iload 5, 2) := by decide +kernel
theorem dX8_looksForFitting_74 : decode cX8_looksForFitting 74 = .ok (.goto 7, 3) := by decide +kernel
theorem dX8_looksForFitting_77 : decode cX8_looksForFitting 77 = .ok (.aload_n 0, 1) := by decide +kernel
theorem dX8_looksForFitting_78 : decode cX8_looksForFitting 78 = .ok (.getfield 252, 3) := by decide +kernel
theorem dX8_looksForFitting_81 : decode cX8_looksForFitting 81 = .ok (.putfield 252, 3) := by decide +kernel
theorem dX8_looksForFitting_84 : decode cX8_looksForFitting 84 = .ok (.iinc 5 (-1), 3) := by decide +kernel
theorem dX8_looksForFitting_87 : decode cX8_looksForFitting 87 = .ok (.goto (-65), 3) := by decide +kernel
theorem dX8_looksForFitting_90 : decode cX8_looksForFitting 90 = .ok (.aload_n 0, 1) := by decide +kernel
theorem dX8_looksForFitting_91 : decode cX8_looksForFitting 91 = .ok (.getfield 9, 3) := by decide +kernel
theorem dX8_looksForFitting_94 : decode cX8_looksForFitting 94 = .ok (.iload_n 2, 1) := by decide +kernel
theorem dX8_looksForFitting_95 : decode cX8_looksForFitting 95 = .ok (.iload 4, 2) := by decide +kernel
theorem dX8_looksForFitting_97 : decode cX8_looksForFitting 97 = .ok (.iastore, 1) := by decide +kernel
theorem dX8_looksForFitting_98 : decode cX8_looksForFitting 98 = .ok (.return_, 1) := by decide +kernel
theorem dX8_birth_0 : decode cX8_birth 0 = .ok (.aload_n 0, 1) := by decide +kernel
theorem dX8_birth_1 : decode cX8_birth 1 = .ok (.iload_n 1, 1) := by decide +kernel
theorem dX8_birth_2 : decode cX8_birth 2 = .ok (.invokevirtual 169, 3) := by decide +kernel
theorem dX8_birth_5 : decode cX8_birth 5 = .ok (.ifCond .eq 12, 3) := by decide +kernel
theorem dX8_birth_8 : decode cX8_birth 8 = .ok (.iload_n 2, 1) := by decide +kernel
theorem dX8_birth_9 : decode cX8_birth 9 = .ok (.iconst 0, 1) := by decide +kernel
theorem dX8_birth_10 : decode cX8_birth 10 = .ok (.iconst 1, 1) := by decide +kernel
theorem dX8_birth_11 : decode cX8_birth 11 = .ok (.invokestatic 53, 3) := by decide +kernel
theorem dX8_birth_14 : decode cX8_birth 14 = .ok (.ifCond .ne 5, 3) := by decide +kernel
theorem dX8_birth_17 : decode cX8_birth 17 = .ok (.iconst (-1), 1) := by decide +kernel
theorem dX8_birth_18 : decode cX8_birth 18 = .ok (.ireturn, 1) := by decide +kernel
theorem dX8_birth_19 : decode cX8_birth 19 = .ok (.aload_n 0, 1) := by decide +kernel
theorem dX8_birth_20 : decode cX8_birth 20 = .ok (.iload_n 1, 1) := by decide +kernel
theorem dX8_birth_21 : decode cX8_birth 21 = .ok (.bipush 32, 2) := by decide +kernel
theorem dX8_birth_23 : decode cX8_birth 23 = .ok (.iload_n 1, 1) := by decide +kernel
theorem dX8_birth_24 : decode cX8_birth 24 = .ok (.iadd, 1) := by decide +kernel
theorem dX8_birth_25 : decode cX8_birth 25 = .ok (.sipush 199, 3) := by decide +kernel
theorem dX8_birth_28 : decode cX8_birth 28 = .ok (.invokevirtual 255, 3) := by decide +kernel
theorem dX8_birth_31 : decode cX8_birth 31 = .ok (.iload_n 2, 1) := by decide +kernel
theorem dX8_birth_32 : decode cX8_birth 32 = .ok (.ifCond .ne 10, 3) := by decide +kernel
theorem dX8_birth_35 : decode cX8_birth 35 = .ok (.aload_n 0, 1) := by decide +kernel
theorem dX8_birth_36 : decode cX8_birth 36 = .ok (.getfield 249, 3) := by decide +kernel
theorem dX8_birth_39 : decode cX8_birth 39 = .ok (.goto 7, 3) := by decide +kernel
theorem dX8_birth_42 : decode cX8_birth 42 = .ok (.aload_n 0, 1) := by decide +kernel
theorem dX8_birth_43 : decode cX8_birth 43 = .ok (.getfield 252, 3) := by decide +kernel
theorem dX8_birth_46 : decode cX8_birth 46 = .ok (.ireturn, 1) := by decide +kernel
theorem dX8_firm_0 : decode cX8_firm 0 = .ok (.aload_n 0, 1) := by decide +kernel
theorem dX8_firm_1 : decode cX8_firm 1 = .ok (.iload_n 1, 1) := by decide +kernel
theorem dX8_firm_2 : decode cX8_firm 2 = .ok (.invokevirtual 169, 3) := by decide +kernel
theorem dX8_firm_5 : decode cX8_firm 5 = .ok (.ifCond .eq 12, 3) := by decide +kernel
theorem dX8_firm_8 : decode cX8_firm 8 = .ok (.iload_n 2, 1) := by decide +kernel
theorem dX8_firm_9 : decode cX8_firm 9 = .ok (.iconst 0, 1) := by decide +kernel
theorem dX8_firm_10 : decode cX8_firm 10 = .ok (.iconst 1, 1) := by decide +kernel
theorem dX8_firm_11 : decode cX8_firm 11 = .ok (.invokestatic 53, 3) := by decide +kernel
theorem dX8_firm_14 : decode cX8_firm 14 = .ok (.ifCond .ne 5, 3) := by decide +kernel
theorem dX8_firm_17 : decode cX8_firm 17 = .ok (.iconst (-1), 1) := by decide +kernel
theorem dX8_firm_18 : decode cX8_firm 18 = .ok (.ireturn, 1) := by decide +kernel
theorem dX8_firm_19 : decode cX8_firm 19 = .ok (.aload_n 0, 1) := by decide +kernel
theorem dX8_firm_20 : decode cX8_firm 20 = .ok (.iload_n 1, 1) := by decide +kernel
theorem dX8_firm_21 : decode cX8_firm 21 = .ok (.bipush 26, 2) := by decide +kernel
theorem dX8_firm_23 : decode cX8_firm 23 = .ok (.iload_n 1, 1) := by decide +kernel
theorem dX8_firm_24 : decode cX8_firm 24 = .ok (.iadd, 1) := by decide +kernel
theorem dX8_firm_25 : decode cX8_firm 25 = .ok (.bipush 9, 2) := by decide +kernel
theorem dX8_firm_27 : decode cX8_firm 27 = .ok (.invokevirtual 255, 3) := by decide +kernel
theorem dX8_firm_30 : decode cX8_firm 30 = .ok (.iload_n 2, 1) := by decide +kernel
theorem dX8_firm_31 : decode cX8_firm 31 = .ok (.ifCond .ne 10, 3) := by decide +kernel
theorem dX8_firm_34 : decode cX8_firm 34 = .ok (.aload_n 0, 1) := by decide +kernel
theorem dX8_firm_35 : decode cX8_firm 35 = .ok (.getfield 249, 3) := by decide +kernel
theorem dX8_firm_38 : decode cX8_firm 38 = .ok (.goto 7, 3) := by decide +kernel
theorem dX8_firm_41 : decode cX8_firm 41 = .ok (.aload_n 0, 1) := by decide +kernel
theorem dX8_firm_42 : decode cX8_firm 42 = .ok (.getfield 252, 3) := by decide +kernel
theorem dX8_firm_45 : decode cX8_firm 45 = .ok (.ireturn, 1) := by decide +kernel
theorem dX8_lowest_0 : decode cX8_lowest 0 = .ok (.lload_n 0, 1) := by decide +kernel
theorem dX8_lowest_1 : decode cX8_lowest 1 = .ok (.lstore 5, 2) := by decide +kernel
theorem dX8_lowest_3 : decode cX8_lowest 3 = .ok (.lload_n 2, 1) := by decide +kernel
theorem dX8_lowest_4 : decode cX8_lowest 4 = .ok (.lstore 7, 2) := by decide +kernel
theorem dX8_lowest_6 : decode cX8_lowest 6 = .ok (.lload 7, 2) := by decide +kernel
theorem dX8_lowest_8 : decode cX8_lowest 8 = .ok (.lconst 0, 1) := by decide +kernel
theorem dX8_lowest_9 : decode cX8_lowest 9 = .ok (.lcmp, 1) := by decide +kernel
theorem dX8_lowest_10 : decode cX8_lowest 10 = .ok (.ifCond .eq 21, 3) := by decide +kernel
theorem dX8_lowest_13 : decode cX8_lowest 13 = .ok (.lload 5, 2) := by decide +kernel
theorem dX8_lowest_15 : decode cX8_lowest 15 = .ok (.lload 7, 2) := by decide +kernel
theorem dX8_lowest_17 : decode cX8_lowest 17 = .ok (.lrem, 1) := by decide +kernel
theorem dX8_lowest_18 : decode cX8_lowest 18 = .ok (.lstore 9, 2) := by decide +kernel
theorem dX8_lowest_20 : decode cX8_lowest 20 = .ok (.lload 7, 2) := by decide +kernel
theorem dX8_lowest_22 : decode cX8_lowest 22 = .ok (.lstore 5, 2) := by decide +kernel
theorem dX8_lowest_24 : decode cX8_lowest 24 = .ok (.lload 9, 2) := by decide +kernel
theorem dX8_lowest_26 : decode cX8_lowest 26 = .ok (.lstore 7, 2) := by decide +kernel
theorem dX8_lowest_28 : decode cX8_lowest 28 = .ok (.goto (-22), 3) := by decide +kernel
theorem dX8_lowest_31 : decode cX8_lowest 31 = .ok (.iload 4, 2) := by decide +kernel
theorem dX8_lowest_33 : decode cX8_lowest 33 = .ok (.ifCond .ne 7, 3) := by decide +kernel
theorem dX8_lowest_36 : decode cX8_lowest 36 = .ok (.lload_n 0, 1) := by decide +kernel
theorem dX8_lowest_37 : decode cX8_lowest 37 = .ok (.goto 4, 3) := by decide +kernel
theorem dX8_lowest_40 : decode cX8_lowest 40 = .ok (.lload_n 2, 1) := by decide +kernel
theorem dX8_lowest_41 : decode cX8_lowest 41 = .ok (.lload 5, 2) := by decide +kernel
theorem dX8_lowest_43 : decode cX8_lowest 43 = .ok (.ldiv, 1) := by decide +kernel
theorem dX8_lowest_44 : decode cX8_lowest 44 = .ok (.lreturn, 1) := by decide +kernel
theorem dX8_odds_0 : decode cX8_odds 0 = .ok (.aload_n 0, 1) := by decide +kernel
theorem dX8_odds_1 : decode cX8_odds 1 = .ok (.iload_n 1, 1) := by decide +kernel
theorem dX8_odds_2 : decode cX8_odds 2 = .ok (.invokevirtual 169, 3) := by decide +kernel
theorem dX8_odds_5 : decode cX8_odds 5 = .ok (.ifCond .eq 28, 3) := by decide +kernel
theorem dX8_odds_8 : decode cX8_odds 8 = .ok (.iload_n 2, 1) := by decide +kernel
theorem dX8_odds_9 : decode cX8_odds 9 = .ok (.iconst 0, 1) := by decide +kernel
theorem dX8_odds_10 : decode cX8_odds 10 = .ok (.iconst 3, 1) := by decide +kernel
theorem dX8_odds_11 : decode cX8_odds 11 = .ok (.invokestatic 53, 3) := by decide +kernel
theorem dX8_odds_14 : decode cX8_odds 14 = .ok (.ifCond .eq 19, 3) := by decide +kernel
theorem dX8_odds_17 : decode cX8_odds 17 = .ok (.iload_n 3, 1) := by decide +kernel
theorem dX8_odds_18 : decode cX8_odds 18 = .ok (.iconst 0, 1) := by decide +kernel
theorem dX8_odds_19 : decode cX8_odds 19 = .ok (.iconst 1, 1) := by decide +kernel
theorem dX8_odds_20 : decode cX8_odds 20 = .ok (.invokestatic 53, 3) := by decide +kernel
theorem dX8_odds_23 : decode cX8_odds 23 = .ok (.ifCond .eq 10, 3) := by decide +kernel
theorem dX8_odds_26 : decode cX8_odds 26 = .ok (.aload_n 0, 1) := by decide +kernel
theorem dX8_odds_27 : decode cX8_odds 27 = .ok (.invokevirtual 184, 3) := by decide +kernel
theorem dX8_odds_30 : decode cX8_odds 30 = .ok (.ifCond .ne 7, 3) := by decide +kernel
theorem dX8_odds_33 : decode cX8_odds 33 = .ok (.ldc2_w 259, 3) := by decide +kernel
theorem dX8_odds_36 : decode cX8_odds 36 = .ok (.lreturn, 1) := by decide +kernel
theorem dX8_odds_37 : decode cX8_odds 37 = .ok (.lconst 0, 1) := by decide +kernel
theorem dX8_odds_38 : decode cX8_odds 38 = .ok (.lstore 4, 2) := by decide +kernel
theorem dX8_odds_40 : decode cX8_odds 40 = .ok (.iconst 0, 1) := by decide +kernel
theorem dX8_odds_41 : decode cX8_odds 41 = .ok (.istore 6, 2) := by decide +kernel
theorem dX8_odds_43 : decode cX8_odds 43 = .ok (.iload 6, 2) := by decide +kernel
theorem dX8_odds_45 : decode cX8_odds 45 = .ok (.aload_n 0, 1) := by decide +kernel
theorem dX8_odds_46 : decode cX8_odds 46 = .ok (.getfield 9, 3) := by decide +kernel
theorem dX8_odds_49 : decode cX8_odds 49 = .ok (.bipush 19, 2) := by decide +kernel
theorem dX8_odds_51 : decode cX8_odds 51 = .ok (.iaload, 1) := by decide +kernel
theorem dX8_odds_52 : decode cX8_odds 52 = .ok (.if_icmp .ge 45, 3) := by decide +kernel
theorem dX8_odds_55 : decode cX8_odds 55 = .ok (.lload 4, 2) := by decide +kernel
theorem dX8_odds_57 : decode cX8_odds 57 = .ok (.aload_n 0, 1) := by decide +kernel
theorem dX8_odds_58 : decode cX8_odds 58 = .ok (.iload_n 1, 1) := by decide +kernel
theorem dX8_odds_59 : decode cX8_odds 59 = .ok (.aload_n 0, 1) := by decide +kernel
theorem dX8_odds_60 : decode cX8_odds 60 = .ok (.iload_n 1, 1) := by decide +kernel
theorem dX8_odds_61 : decode cX8_odds 61 = .ok (.iload 6, 2) := by decide +kernel
theorem dX8_odds_63 : decode cX8_odds 63 = .ok (.invokevirtual 146, 3) := by decide +kernel
theorem dX8_odds_66 : decode cX8_odds 66 = .ok (.invokevirtual 149, 3) := by decide +kernel
theorem dX8_odds_69 : decode cX8_odds 69 = .ok (.iload_n 2, 1) := by decide +kernel
theorem dX8_odds_70 : decode cX8_odds 70 = .ok (.if_icmp .ne 17, 3) := by decide +kernel
theorem dX8_odds_73 : decode cX8_odds 73 = .ok (.aload_n 0, 1) := by decide +kernel
theorem dX8_odds_74 : decode cX8_odds 74 = .ok (.getfield 9, 3) := by decide +kernel
theorem dX8_odds_77 : decode cX8_odds 77 = .ok (.bipush 7, 2) := by decide +kernel
theorem dX8_odds_79 : decode cX8_odds 79 = .ok (.iload 6, 2) := by decide +kernel
theorem dX8_odds_81 : decode cX8_odds 81 = .ok (.iadd, 1) := by decide +kernel
theorem dX8_odds_82 : decode cX8_odds 82 = .ok (.iaload, 1) := by decide +kernel
theorem dX8_odds_83 : decode cX8_odds 83 = .ok (.i2l, 1) := by decide +kernel
theorem dX8_odds_84 : decode cX8_odds 84 = .ok (.goto 4, 3) := by decide +kernel
theorem dX8_odds_87 : decode cX8_odds 87 = .ok (.lconst 0, 1) := by decide +kernel
theorem dX8_odds_88 : decode cX8_odds 88 = .ok (.ladd, 1) := by decide +kernel
theorem dX8_odds_89 : decode cX8_odds 89 = .ok (.lstore 4, 2) := by decide +kernel
theorem dX8_odds_91 : decode cX8_odds 91 = .ok (.iinc 6 1, 3) := by decide +kernel
theorem dX8_odds_94 : decode cX8_odds 94 = .ok (.goto (-51), 3) := by decide +kernel
theorem dX8_odds_97 : decode cX8_odds 97 = .ok (.lload 4, 2) := by decide +kernel
theorem dX8_odds_99 : decode cX8_odds 99 = .ok (.aload_n 0, 1) := by decide +kernel
theorem dX8_odds_100 : decode cX8_odds 100 = .ok (.invokevirtual 184, 3) := by decide +kernel
theorem dX8_odds_103 : decode cX8_odds 103 = .ok (.i2l, 1) := by decide +kernel
theorem dX8_odds_104 : decode cX8_odds 104 = .ok (.iload_n 3, 1) := by decide +kernel
theorem dX8_odds_105 : decode cX8_odds 105 = .ok (.invokestatic 261, 3) := by decide +kernel
theorem dX8_odds_108 : decode cX8_odds 108 = .ok (.lreturn, 1) := by decide +kernel
theorem dX8_mean_0 : decode cX8_mean 0 = .ok (.iload_n 1, 1) := by decide +kernel
theorem dX8_mean_1 : decode cX8_mean 1 = .ok (.iconst 0, 1) := by decide +kernel
theorem dX8_mean_2 : decode cX8_mean 2 = .ok (.iconst 1, 1) := by decide +kernel
theorem dX8_mean_3 : decode cX8_mean 3 = .ok (.invokestatic 53, 3) := by decide +kernel
theorem dX8_mean_6 : decode cX8_mean 6 = .ok (.ifCond .eq 10, 3) := by decide +kernel
theorem dX8_mean_9 : decode cX8_mean 9 = .ok (.aload_n 0, 1) := by decide +kernel
theorem dX8_mean_10 : decode cX8_mean 10 = .ok (.invokevirtual 178, 3) := by decide +kernel
theorem dX8_mean_13 : decode cX8_mean 13 = .ok (.ifCond .ne 7, 3) := by decide +kernel
theorem dX8_mean_16 : decode cX8_mean 16 = .ok (.ldc2_w 259, 3) := by decide +kernel
theorem dX8_mean_19 : decode cX8_mean 19 = .ok (.lreturn, 1) := by decide +kernel
theorem dX8_mean_20 : decode cX8_mean 20 = .ok (.lconst 0, 1) := by decide +kernel
theorem dX8_mean_21 : decode cX8_mean 21 = .ok (.lstore_n 2, 1) := by decide +kernel
theorem dX8_mean_22 : decode cX8_mean 22 = .ok (.iconst 0, 1) := by decide +kernel
theorem dX8_mean_23 : decode cX8_mean 23 = .ok (.istore 4, 2) := by decide +kernel
theorem dX8_mean_25 : decode cX8_mean 25 = .ok (.iload 4, 2) := by decide +kernel
theorem dX8_mean_27 : decode cX8_mean 27 = .ok (.aload_n 0, 1) := by decide +kernel
theorem dX8_mean_28 : decode cX8_mean 28 = .ok (.getfield 9, 3) := by decide +kernel
theorem dX8_mean_31 : decode cX8_mean 31 = .ok (.bipush 12, 2) := by decide +kernel
theorem dX8_mean_33 : decode cX8_mean 33 = .ok (.iaload, 1) := by decide +kernel
theorem dX8_mean_34 : decode cX8_mean 34 = .ok (.if_icmp .ge 32, 3) := by decide +kernel
theorem dX8_mean_37 : decode cX8_mean 37 = .ok (.lload_n 2, 1) := by decide +kernel
theorem dX8_mean_38 : decode cX8_mean 38 = .ok (.aload_n 0, 1) := by decide +kernel
theorem dX8_mean_39 : decode cX8_mean 39 = .ok (.iload 4, 2) := by decide +kernel
theorem dX8_mean_41 : decode cX8_mean 41 = .ok (.invokevirtual 159, 3) := by decide +kernel
theorem dX8_mean_44 : decode cX8_mean 44 = .ok (.ifCond .eq 13, 3) := by decide +kernel
theorem dX8_mean_47 : decode cX8_mean 47 = .ok (.aload_n 0, 1) := by decide +kernel
theorem dX8_mean_48 : decode cX8_mean 48 = .ok (.iload 4, 2) := by decide +kernel
theorem dX8_mean_50 : decode cX8_mean 50 = .ok (.invokevirtual 155, 3) := by decide +kernel
theorem dX8_mean_53 : decode cX8_mean 53 = .ok (.i2l, 1) := by decide +kernel
theorem dX8_mean_54 : decode cX8_mean 54 = .ok (.goto 4, 3) := by decide +kernel
theorem dX8_mean_57 : decode cX8_mean 57 = .ok (.lconst 0, 1) := by decide +kernel
theorem dX8_mean_58 : decode cX8_mean 58 = .ok (.ladd, 1) := by decide +kernel
theorem dX8_mean_59 : decode cX8_mean 59 = .ok (.lstore_n 2, 1) := by decide +kernel
theorem dX8_mean_60 : decode cX8_mean 60 = .ok (.iinc 4 1, 3) := by decide +kernel
theorem dX8_mean_63 : decode cX8_mean 63 = .ok (.goto (-38), 3) := by decide +kernel
theorem dX8_mean_66 : decode cX8_mean 66 = .ok (.lload_n 2, 1) := by decide +kernel
theorem dX8_mean_67 : decode cX8_mean 67 = .ok (.aload_n 0, 1) := by decide +kernel
theorem dX8_mean_68 : decode cX8_mean 68 = .ok (.invokevirtual 178, 3) := by decide +kernel
theorem dX8_mean_71 : decode cX8_mean 71 = .ok (.invokestatic 265, 3) := by decide +kernel
theorem dX8_mean_74 : decode cX8_mean 74 = .ok (.i2l, 1) := by decide +kernel
theorem dX8_mean_75 : decode cX8_mean 75 = .ok (.iload_n 1, 1) := by decide +kernel
theorem dX8_mean_76 : decode cX8_mean 76 = .ok (.invokestatic 261, 3) := by decide +kernel
theorem dX8_mean_79 : decode cX8_mean 79 = .ok (.lreturn, 1) := by decide +kernel
theorem dX8_night_0 : decode cX8_night 0 = .ok (.iload_n 1, 1) := by decide +kernel
theorem dX8_night_1 : decode cX8_night 1 = .ok (.iconst (-1), 1) := by decide +kernel
theorem dX8_night_2 : decode cX8_night 2 = .ok (.if_icmp .ne 13, 3) := by decide +kernel
theorem dX8_night_5 : decode cX8_night 5 = .ok (.aload_n 0, 1) := by decide +kernel
theorem dX8_night_6 : decode cX8_night 6 = .ok (.getfield 9, 3) := by decide +kernel
theorem dX8_night_9 : decode cX8_night 9 = .ok (.bipush 15, 2) := by decide +kernel
theorem dX8_night_11 : decode cX8_night 11 = .ok (.iconst 0, 1) := by decide +kernel
theorem dX8_night_12 : decode cX8_night 12 = .ok (.iastore, 1) := by decide +kernel
theorem dX8_night_13 : decode cX8_night 13 = .ok (.iconst 0, 1) := by decide +kernel
theorem dX8_night_14 : decode cX8_night 14 = .ok (.ireturn, 1) := by decide +kernel
theorem dX8_night_15 : decode cX8_night 15 = .ok (.iload_n 1, 1) := by decide +kernel
theorem dX8_night_16 : decode cX8_night 16 = .ok (.iconst 0, 1) := by decide +kernel
theorem dX8_night_17 : decode cX8_night 17 = .ok (.iconst 2, 1) := by decide +kernel
theorem dX8_night_18 : decode cX8_night 18 = .ok (.invokestatic 53, 3) := by decide +kernel
theorem dX8_night_21 : decode cX8_night 21 = .ok (.ifCond .eq 28, 3) := by decide +kernel
theorem dX8_night_24 : decode cX8_night 24 = .ok (.iload_n 1, 1) := by decide +kernel
theorem dX8_night_25 : decode cX8_night 25 = .ok (.ifCond .le 11, 3) := by decide +kernel
theorem dX8_night_28 : decode cX8_night 28 = .ok (.aload_n 0, 1) := by decide +kernel
theorem dX8_night_29 : decode cX8_night 29 = .ok (.iload_n 2, 1) := by decide +kernel
theorem dX8_night_30 : decode cX8_night 30 = .ok (.invokevirtual 169, 3) := by decide +kernel
theorem dX8_night_33 : decode cX8_night 33 = .ok (.ifCond .eq 16, 3) := by decide +kernel
theorem dX8_night_36 : decode cX8_night 36 = .ok (.iload_n 1, 1) := by decide +kernel
theorem dX8_night_37 : decode cX8_night 37 = .ok (.iconst 1, 1) := by decide +kernel
theorem dX8_night_38 : decode cX8_night 38 = .ok (.if_icmp .ne 13, 3) := by decide +kernel
theorem dX8_night_41 : decode cX8_night 41 = .ok (.aload_n 0, 1) := by decide +kernel
theorem dX8_night_42 : decode cX8_night 42 = .ok (.iload_n 3, 1) := by decide +kernel
theorem dX8_night_43 : decode cX8_night 43 = .ok (.invokevirtual 175, 3) := by decide +kernel
theorem dX8_night_46 : decode cX8_night 46 = .ok (.ifCond .ne 5, 3) := by decide +kernel
theorem dX8_night_49 : decode cX8_night 49 = .ok (.iconst (-1), 1) := by decide +kernel
theorem dX8_night_50 : decode cX8_night 50 = .ok (.ireturn, 1) := by decide +kernel
theorem dX8_night_51 : decode cX8_night 51 = .ok (.aload_n 0, 1) := by decide +kernel
theorem dX8_night_52 : decode cX8_night 52 = .ok (.getfield 9, 3) := by decide +kernel
theorem dX8_night_55 : decode cX8_night 55 = .ok (.bipush 15, 2) := by decide +kernel
theorem dX8_night_57 : decode cX8_night 57 = .ok (.iaload, 1) := by decide +kernel
theorem dX8_night_58 : decode cX8_night 58 = .ok (.bipush 8, 2) := by decide +kernel
theorem dX8_night_60 : decode cX8_night 60 = .ok (.if_icmp .ne 6, 3) := by decide +kernel
theorem dX8_night_63 : decode cX8_night 63 = .ok (.bipush (-4), 2) := by decide +kernel
theorem dX8_night_65 : decode cX8_night 65 = .ok (.ireturn, 1) := by decide +kernel
theorem dX8_night_66 : decode cX8_night 66 = .ok (.aload_n 0, 1) := by decide +kernel
theorem dX8_night_67 : decode cX8_night 67 = .ok (.getfield 9, 3) := by decide +kernel
theorem dX8_night_70 : decode cX8_night 70 = .ok (.bipush 83, 2) := by decide +kernel
theorem dX8_night_72 : decode cX8_night 72 = .ok (.aload_n 0, 1) := by decide +kernel
theorem dX8_night_73 : decode cX8_night 73 = .ok (.getfield 9, 3) := by decide +kernel
theorem dX8_night_76 : decode cX8_night 76 = .ok (.bipush 15, 2) := by decide +kernel
theorem dX8_night_78 : decode cX8_night 78 = .ok (.iaload, 1) := by decide +kernel
theorem dX8_night_79 : decode cX8_night 79 = .ok (.iadd, 1) := by decide +kernel
theorem dX8_night_80 : decode cX8_night 80 = .ok (.iload_n 1, 1) := by decide +kernel
theorem dX8_night_81 : decode cX8_night 81 = .ok (.iastore, 1) := by decide +kernel
theorem dX8_night_82 : decode cX8_night 82 = .ok (.aload_n 0, 1) := by decide +kernel
theorem dX8_night_83 : decode cX8_night 83 = .ok (.getfield 9, 3) := by decide +kernel
theorem dX8_night_86 : decode cX8_night 86 = .ok (.bipush 91, 2) := by decide +kernel
theorem dX8_night_88 : decode cX8_night 88 = .ok (.aload_n 0, 1) := by decide +kernel
theorem dX8_night_89 : decode cX8_night 89 = .ok (.getfield 9, 3) := by decide +kernel
theorem dX8_night_92 : decode cX8_night 92 = .ok (.bipush 15, 2) := by decide +kernel
theorem dX8_night_94 : decode cX8_night 94 = .ok (.iaload, 1) := by decide +kernel
theorem dX8_night_95 : decode cX8_night 95 = .ok (.iadd, 1) := by decide +kernel
theorem dX8_night_96 : decode cX8_night 96 = .ok (.iload_n 2, 1) := by decide +kernel
theorem dX8_night_97 : decode cX8_night 97 = .ok (.iastore, 1) := by decide +kernel
theorem dX8_night_98 : decode cX8_night 98 = .ok (.aload_n 0, 1) := by decide +kernel
theorem dX8_night_99 : decode cX8_night 99 = .ok (.getfield 9, 3) := by decide +kernel
theorem dX8_night_102 : decode cX8_night 102 = .ok (.bipush 99, 2) := by decide +kernel
theorem dX8_night_104 : decode cX8_night 104 = .ok (.aload_n 0, 1) := by decide +kernel
theorem dX8_night_105 : decode cX8_night 105 = .ok (.getfield 9, 3) := by decide +kernel
theorem dX8_night_108 : decode cX8_night 108 = .ok (.bipush 15, 2) := by decide +kernel
theorem dX8_night_110 : decode cX8_night 110 = .ok (.iaload, 1) := by decide +kernel
theorem dX8_night_111 : decode cX8_night 111 = .ok (.iadd, 1) := by decide +kernel
theorem dX8_night_112 : decode cX8_night 112 = .ok (.iload_n 3, 1) := by decide +kernel
theorem dX8_night_113 : decode cX8_night 113 = .ok (.iastore, 1) := by decide +kernel
theorem dX8_night_114 : decode cX8_night 114 = .ok (.aload_n 0, 1) := by decide +kernel
theorem dX8_night_115 : decode cX8_night 115 = .ok (.getfield 9, 3) := by decide +kernel
theorem dX8_night_118 : decode cX8_night 118 = .ok (.bipush 15, 2) := by decide +kernel
theorem dX8_night_120 : decode cX8_night 120 = .ok (.dup2, 1) := by decide +kernel
theorem dX8_night_121 : decode cX8_night 121 = .ok (.iaload, 1) := by decide +kernel
theorem dX8_night_122 : decode cX8_night 122 = .ok (.iconst 1, 1) := by decide +kernel
theorem dX8_night_123 : decode cX8_night 123 = .ok (.iadd, 1) := by decide +kernel
theorem dX8_night_124 : decode cX8_night 124 = .ok (.iastore, 1) := by decide +kernel
theorem dX8_night_125 : decode cX8_night 125 = .ok (.aload_n 0, 1) := by decide +kernel
theorem dX8_night_126 : decode cX8_night 126 = .ok (.getfield 9, 3) := by decide +kernel
theorem dX8_night_129 : decode cX8_night 129 = .ok (.bipush 15, 2) := by decide +kernel
theorem dX8_night_131 : decode cX8_night 131 = .ok (.iaload, 1) := by decide +kernel
theorem dX8_night_132 : decode cX8_night 132 = .ok (.ireturn, 1) := by decide +kernel
theorem dX8_does_0 : decode cX8_does 0 = .ok (.iload_n 1, 1) := by decide +kernel
theorem dX8_does_1 : decode cX8_does 1 = .ok (.ifCond .ne 10, 3) := by decide +kernel
theorem dX8_does_4 : decode cX8_does 4 = .ok (.aload_n 0, 1) := by decide +kernel
theorem dX8_does_5 : decode cX8_does 5 = .ok (.invokevirtual 191, 3) := by decide +kernel
theorem dX8_does_8 : decode cX8_does 8 = .ok (.goto 26, 3) := by decide +kernel
theorem dX8_does_11 : decode cX8_does 11 = .ok (.iload_n 1, 1) := by decide +kernel
theorem dX8_does_12 : decode cX8_does 12 = .ok (.iconst 1, 1) := by decide +kernel
theorem dX8_does_13 : decode cX8_does 13 = .ok (.if_icmp .ne 12, 3) := by decide +kernel
theorem dX8_does_16 : decode cX8_does 16 = .ok (.aload_n 0, 1) := by decide +kernel
theorem dX8_does_17 : decode cX8_does 17 = .ok (.iload_n 2, 1) := by decide +kernel
theorem dX8_does_18 : decode cX8_does 18 = .ok (.iload_n 3, 1) := by decide +kernel
theorem dX8_does_19 : decode cX8_does 19 = .ok (.invokevirtual 187, 3) := by decide +kernel
theorem dX8_does_22 : decode cX8_does 22 = .ok (.goto 12, 3) := by decide +kernel
theorem dX8_does_25 : decode cX8_does 25 = .ok (.aload_n 0, 1) := by decide +kernel
theorem dX8_does_26 : decode cX8_does 26 = .ok (.getfield 9, 3) := by decide +kernel
theorem dX8_does_29 : decode cX8_does 29 = .ok (.iconst 1, 1) := by decide +kernel
theorem dX8_does_30 : decode cX8_does 30 = .ok (.iload_n 2, 1) := by decide +kernel
theorem dX8_does_31 : decode cX8_does 31 = .ok (.iadd, 1) := by decide +kernel
theorem dX8_does_32 : decode cX8_does 32 = .ok (.iconst (-1), 1) := by decide +kernel
theorem dX8_does_33 : decode cX8_does 33 = .ok (.iastore, 1) := by decide +kernel
theorem dX8_does_34 : decode cX8_does 34 = .ok (.return_, 1) := by decide +kernel
theorem dX8_done_0 : decode cX8_done 0 = .ok (.iload_n 1, 1) := by decide +kernel
theorem dX8_done_1 : decode cX8_done 1 = .ok (.iconst 0, 1) := by decide +kernel
theorem dX8_done_2 : decode cX8_done 2 = .ok (.iconst 1, 1) := by decide +kernel
theorem dX8_done_3 : decode cX8_done 3 = .ok (.invokestatic 53, 3) := by decide +kernel
theorem dX8_done_6 : decode cX8_done 6 = .ok (.ifCond .ne 5, 3) := by decide +kernel
theorem dX8_done_9 : decode cX8_done 9 = .ok (.iconst (-1), 1) := by decide +kernel
theorem dX8_done_10 : decode cX8_done 10 = .ok (.ireturn, 1) := by decide +kernel
theorem dX8_done_11 : decode cX8_done 11 = .ok (.aload_n 0, 1) := by decide +kernel
theorem dX8_done_12 : decode cX8_done 12 = .ok (.invokevirtual 194, 3) := by decide +kernel
theorem dX8_done_15 : decode cX8_done 15 = .ok (.iconst 0, 1) := by decide +kernel
theorem dX8_done_16 : decode cX8_done 16 = .ok (.istore_n 2, 1) := by decide +kernel
theorem dX8_done_17 : decode cX8_done 17 = .ok (.iload_n 2, 1) := by decide +kernel
theorem dX8_done_18 : decode cX8_done 18 = .ok (.aload_n 0, 1) := by decide +kernel
theorem dX8_done_19 : decode cX8_done 19 = .ok (.getfield 9, 3) := by decide +kernel
theorem dX8_done_22 : decode cX8_done 22 = .ok (.bipush 15, 2) := by decide +kernel
theorem dX8_done_24 : decode cX8_done 24 = .ok (.iaload, 1) := by decide +kernel
theorem dX8_done_25 : decode cX8_done 25 = .ok (.if_icmp .ge 40, 3) := by decide +kernel
theorem dX8_done_28 : decode cX8_done 28 = .ok (.aload_n 0, 1) := by decide +kernel
theorem dX8_done_29 : decode cX8_done 29 = .ok (.aload_n 0, 1) := by decide +kernel
theorem dX8_done_30 : decode cX8_done 30 = .ok (.getfield 9, 3) := by decide +kernel
theorem dX8_done_33 : decode cX8_done 33 = .ok (.bipush 83, 2) := by decide +kernel
theorem dX8_done_35 : decode cX8_done 35 = .ok (.iload_n 2, 1) := by decide +kernel
theorem dX8_done_36 : decode cX8_done 36 = .ok (.iadd, 1) := by decide +kernel
theorem dX8_done_37 : decode cX8_done 37 = .ok (.iaload, 1) := by decide +kernel
theorem dX8_done_38 : decode cX8_done 38 = .ok (.aload_n 0, 1) := by decide +kernel
theorem dX8_done_39 : decode cX8_done 39 = .ok (.getfield 9, 3) := by decide +kernel
theorem dX8_done_42 : decode cX8_done 42 = .ok (.bipush 91, 2) := by decide +kernel
theorem dX8_done_44 : decode cX8_done 44 = .ok (.iload_n 2, 1) := by decide +kernel
theorem dX8_done_45 : decode cX8_done 45 = .ok (.iadd, 1) := by decide +kernel
theorem dX8_done_46 : decode cX8_done 46 = .ok (.iaload, 1) := by decide +kernel
theorem dX8_done_47 : decode cX8_done 47 = .ok (.aload_n 0, 1) := by decide +kernel
theorem dX8_done_48 : decode cX8_done 48 = .ok (.getfield 9, 3) := by decide +kernel
theorem dX8_done_51 : decode cX8_done 51 = .ok (.bipush 99, 2) := by decide +kernel
theorem dX8_done_53 : decode cX8_done 53 = .ok (.iload_n 2, 1) := by decide +kernel
theorem dX8_done_54 : decode cX8_done 54 = .ok (.iadd, 1) := by decide +kernel
theorem dX8_done_55 : decode cX8_done 55 = .ok (.iaload, 1) := by decide +kernel
theorem dX8_done_56 : decode cX8_done 56 = .ok (.invokevirtual 268, 3) := by decide +kernel
theorem dX8_done_59 : decode cX8_done 59 = .ok (.iinc 2 1, 3) := by decide +kernel
theorem dX8_done_62 : decode cX8_done 62 = .ok (.goto (-45), 3) := by decide +kernel
theorem dX8_done_65 : decode cX8_done 65 = .ok (.iload_n 1, 1) := by decide +kernel
theorem dX8_done_66 : decode cX8_done 66 = .ok (.ifCond .ne 13, 3) := by decide +kernel
theorem dX8_done_69 : decode cX8_done 69 = .ok (.aload_n 0, 1) := by decide +kernel
theorem dX8_done_70 : decode cX8_done 70 = .ok (.invokevirtual 178, 3) := by decide +kernel
theorem dX8_done_73 : decode cX8_done 73 = .ok (.invokestatic 265, 3) := by decide +kernel
theorem dX8_done_76 : decode cX8_done 76 = .ok (.goto 7, 3) := by decide +kernel
theorem dX8_done_79 : decode cX8_done 79 = .ok (.aload_n 0, 1) := by decide +kernel
theorem dX8_done_80 : decode cX8_done 80 = .ok (.invokevirtual 181, 3) := by decide +kernel
theorem dX8_done_83 : decode cX8_done 83 = .ok (.istore_n 2, 1) := by decide +kernel
theorem dX8_done_84 : decode cX8_done 84 = .ok (.aload_n 0, 1) := by decide +kernel
theorem dX8_done_85 : decode cX8_done 85 = .ok (.invokevirtual 197, 3) := by decide +kernel
theorem dX8_done_88 : decode cX8_done 88 = .ok (.iload_n 2, 1) := by decide +kernel
theorem dX8_done_89 : decode cX8_done 89 = .ok (.ireturn, 1) := by decide +kernel
theorem dX8_book_0 : decode cX8_book 0 = .ok (.iload_n 1, 1) := by decide +kernel
theorem dX8_book_1 : decode cX8_book 1 = .ok (.iconst (-1), 1) := by decide +kernel
theorem dX8_book_2 : decode cX8_book 2 = .ok (.if_icmp .ne 13, 3) := by decide +kernel
theorem dX8_book_5 : decode cX8_book 5 = .ok (.aload_n 0, 1) := by decide +kernel
theorem dX8_book_6 : decode cX8_book 6 = .ok (.getfield 9, 3) := by decide +kernel
theorem dX8_book_9 : decode cX8_book 9 = .ok (.bipush 16, 2) := by decide +kernel
theorem dX8_book_11 : decode cX8_book 11 = .ok (.iconst 0, 1) := by decide +kernel
theorem dX8_book_12 : decode cX8_book 12 = .ok (.iastore, 1) := by decide +kernel
theorem dX8_book_13 : decode cX8_book 13 = .ok (.iconst 0, 1) := by decide +kernel
theorem dX8_book_14 : decode cX8_book 14 = .ok (.ireturn, 1) := by decide +kernel
theorem dX8_book_15 : decode cX8_book 15 = .ok (.aload_n 0, 1) := by decide +kernel
theorem dX8_book_16 : decode cX8_book 16 = .ok (.iload_n 1, 1) := by decide +kernel
theorem dX8_book_17 : decode cX8_book 17 = .ok (.invokevirtual 169, 3) := by decide +kernel
theorem dX8_book_20 : decode cX8_book 20 = .ok (.ifCond .ne 5, 3) := by decide +kernel
theorem dX8_book_23 : decode cX8_book 23 = .ok (.iconst (-1), 1) := by decide +kernel
theorem dX8_book_24 : decode cX8_book 24 = .ok (.ireturn, 1) := by decide +kernel
theorem dX8_book_25 : decode cX8_book 25 = .ok (.iload_n 2, 1) := by decide +kernel
theorem dX8_book_26 : decode cX8_book 26 = .ok (.invokestatic 243, 3) := by decide +kernel
theorem dX8_book_29 : decode cX8_book 29 = .ok (.ifCond .ne 6, 3) := by decide +kernel
theorem dX8_book_32 : decode cX8_book 32 = .ok (.bipush (-2), 2) := by decide +kernel
theorem dX8_book_34 : decode cX8_book 34 = .ok (.ireturn, 1) := by decide +kernel
theorem dX8_book_35 : decode cX8_book 35 = .ok (.aload_n 0, 1) := by decide +kernel
theorem dX8_book_36 : decode cX8_book 36 = .ok (.getfield 9, 3) := by decide +kernel
theorem dX8_book_39 : decode cX8_book 39 = .ok (.bipush 16, 2) := by decide +kernel
theorem dX8_book_41 : decode cX8_book 41 = .ok (.iaload, 1) := by decide +kernel
theorem dX8_book_42 : decode cX8_book 42 = .ok (.bipush 8, 2) := by decide +kernel
theorem dX8_book_44 : decode cX8_book 44 = .ok (.if_icmp .ne 6, 3) := by decide +kernel
theorem dX8_book_47 : decode cX8_book 47 = .ok (.bipush (-4), 2) := by decide +kernel
theorem dX8_book_49 : decode cX8_book 49 = .ok (.ireturn, 1) := by decide +kernel
theorem dX8_book_50 : decode cX8_book 50 = .ok (.aload_n 0, 1) := by decide +kernel
theorem dX8_book_51 : decode cX8_book 51 = .ok (.getfield 9, 3) := by decide +kernel
theorem dX8_book_54 : decode cX8_book 54 = .ok (.bipush 107, 2) := by decide +kernel
theorem dX8_book_56 : decode cX8_book 56 = .ok (.aload_n 0, 1) := by decide +kernel
theorem dX8_book_57 : decode cX8_book 57 = .ok (.getfield 9, 3) := by decide +kernel
theorem dX8_book_60 : decode cX8_book 60 = .ok (.bipush 16, 2) := by decide +kernel
theorem dX8_book_62 : decode cX8_book 62 = .ok (.iaload, 1) := by decide +kernel
theorem dX8_book_63 : decode cX8_book 63 = .ok (.iadd, 1) := by decide +kernel
theorem dX8_book_64 : decode cX8_book 64 = .ok (.iload_n 1, 1) := by decide +kernel
theorem dX8_book_65 : decode cX8_book 65 = .ok (.iastore, 1) := by decide +kernel
theorem dX8_book_66 : decode cX8_book 66 = .ok (.aload_n 0, 1) := by decide +kernel
theorem dX8_book_67 : decode cX8_book 67 = .ok (.getfield 9, 3) := by decide +kernel
theorem dX8_book_70 : decode cX8_book 70 = .ok (.bipush 115, 2) := by decide +kernel
theorem dX8_book_72 : decode cX8_book 72 = .ok (.aload_n 0, 1) := by decide +kernel
theorem dX8_book_73 : decode cX8_book 73 = .ok (.getfield 9, 3) := by decide +kernel
theorem dX8_book_76 : decode cX8_book 76 = .ok (.bipush 16, 2) := by decide +kernel
theorem dX8_book_78 : decode cX8_book 78 = .ok (.iaload, 1) := by decide +kernel
theorem dX8_book_79 : decode cX8_book 79 = .ok (.iadd, 1) := by decide +kernel
theorem dX8_book_80 : decode cX8_book 80 = .ok (.iload_n 2, 1) := by decide +kernel
theorem dX8_book_81 : decode cX8_book 81 = .ok (.iastore, 1) := by decide +kernel
theorem dX8_book_82 : decode cX8_book 82 = .ok (.aload_n 0, 1) := by decide +kernel
theorem dX8_book_83 : decode cX8_book 83 = .ok (.getfield 9, 3) := by decide +kernel
theorem dX8_book_86 : decode cX8_book 86 = .ok (.bipush 16, 2) := by decide +kernel
theorem dX8_book_88 : decode cX8_book 88 = .ok (.dup2, 1) := by decide +kernel
theorem dX8_book_89 : decode cX8_book 89 = .ok (.iaload, 1) := by decide +kernel
theorem dX8_book_90 : decode cX8_book 90 = .ok (.iconst 1, 1) := by decide +kernel
theorem dX8_book_91 : decode cX8_book 91 = .ok (.iadd, 1) := by decide +kernel
theorem dX8_book_92 : decode cX8_book 92 = .ok (.iastore, 1) := by decide +kernel
theorem dX8_book_93 : decode cX8_book 93 = .ok (.aload_n 0, 1) := by decide +kernel
theorem dX8_book_94 : decode cX8_book 94 = .ok (.getfield 9, 3) := by decide +kernel
theorem dX8_book_97 : decode cX8_book 97 = .ok (.bipush 16, 2) := by decide +kernel
theorem dX8_book_99 : decode cX8_book 99 = .ok (.iaload, 1) := by decide +kernel
theorem dX8_book_100 : decode cX8_book 100 = .ok (.ireturn, 1) := by decide +kernel
theorem dX8_looked_0 : decode cX8_looked 0 = .ok (.iconst 0, 1) := by decide +kernel
theorem dX8_looked_1 : decode cX8_looked 1 = .ok (.istore_n 1, 1) := by decide +kernel
theorem dX8_looked_2 : decode cX8_looked 2 = .ok (.iload_n 1, 1) := by decide +kernel
theorem dX8_looked_3 : decode cX8_looked 3 = .ok (.aload_n 0, 1) := by decide +kernel
theorem dX8_looked_4 : decode cX8_looked 4 = .ok (.getfield 9, 3) := by decide +kernel
theorem dX8_looked_7 : decode cX8_looked 7 = .ok (.bipush 16, 2) := by decide +kernel
theorem dX8_looked_9 : decode cX8_looked 9 = .ok (.iaload, 1) := by decide +kernel
theorem dX8_looked_10 : decode cX8_looked 10 = .ok (.if_icmp .ge 36, 3) := by decide +kernel
theorem dX8_looked_13 : decode cX8_looked 13 = .ok (.aload_n 0, 1) := by decide +kernel
theorem dX8_looked_14 : decode cX8_looked 14 = .ok (.aload_n 0, 1) := by decide +kernel
theorem dX8_looked_15 : decode cX8_looked 15 = .ok (.getfield 9, 3) := by decide +kernel
theorem dX8_looked_18 : decode cX8_looked 18 = .ok (.bipush 107, 2) := by decide +kernel
theorem dX8_looked_20 : decode cX8_looked 20 = .ok (.iload_n 1, 1) := by decide +kernel
theorem dX8_looked_21 : decode cX8_looked 21 = .ok (.iadd, 1) := by decide +kernel
theorem dX8_looked_22 : decode cX8_looked 22 = .ok (.iaload, 1) := by decide +kernel
theorem dX8_looked_23 : decode cX8_looked 23 = .ok (.invokevirtual 155, 3) := by decide +kernel
theorem dX8_looked_26 : decode cX8_looked 26 = .ok (.aload_n 0, 1) := by decide +kernel
theorem dX8_looked_27 : decode cX8_looked 27 = .ok (.getfield 9, 3) := by decide +kernel
theorem dX8_looked_30 : decode cX8_looked 30 = .ok (.bipush 115, 2) := by decide +kernel
theorem dX8_looked_32 : decode cX8_looked 32 = .ok (.iload_n 1, 1) := by decide +kernel
theorem dX8_looked_33 : decode cX8_looked 33 = .ok (.iadd, 1) := by decide +kernel
theorem dX8_looked_34 : decode cX8_looked 34 = .ok (.iaload, 1) := by decide +kernel
theorem dX8_looked_35 : decode cX8_looked 35 = .ok (.if_icmp .eq 5, 3) := by decide +kernel
theorem dX8_looked_38 : decode cX8_looked 38 = .ok (.iload_n 1, 1) := by decide +kernel
theorem dX8_looked_39 : decode cX8_looked 39 = .ok (.ireturn, 1) := by decide +kernel
theorem dX8_looked_40 : decode cX8_looked 40 = .ok (.iinc 1 1, 3) := by decide +kernel
theorem dX8_looked_43 : decode cX8_looked 43 = .ok (.goto (-41), 3) := by decide +kernel
theorem dX8_looked_46 : decode cX8_looked 46 = .ok (.bipush (-5), 2) := by decide +kernel
theorem dX8_looked_48 : decode cX8_looked 48 = .ok (.ireturn, 1) := by decide +kernel
theorem dX8_ranBody_0 : decode cX8_ranBody 0 = .ok (.aload_n 0, 1) := by decide +kernel
theorem dX8_ranBody_1 : decode cX8_ranBody 1 = .ok (.getfield 271, 3) := by decide +kernel
theorem dX8_ranBody_4 : decode cX8_ranBody 4 = .ok (.bipush 20, 2) := by decide +kernel
theorem dX8_ranBody_6 : decode cX8_ranBody 6 = .ok (.if_icmp .ge 13, 3) := by decide +kernel
theorem dX8_ranBody_9 : decode cX8_ranBody 9 = .ok (.aload_n 0, 1) := by decide +kernel
theorem dX8_ranBody_10 : decode cX8_ranBody 10 = .ok (.getfield 46, 3) := by decide +kernel
theorem dX8_ranBody_13 : decode cX8_ranBody 13 = .ok (.aload_n 0, 1) := by decide +kernel
theorem dX8_ranBody_14 : decode cX8_ranBody 14 = .ok (.getfield 271, 3) := by decide +kernel
theorem dX8_ranBody_17 : decode cX8_ranBody 17 = .ok (.iload_n 1, 1) := by decide +kernel
theorem dX8_ranBody_18 : decode cX8_ranBody 18 = .ok (.iastore, 1) := by decide +kernel
theorem dX8_ranBody_19 : decode cX8_ranBody 19 = .ok (.aload_n 0, 1) := by decide +kernel
theorem dX8_ranBody_20 : decode cX8_ranBody 20 = .ok (.dup, 1) := by decide +kernel
theorem dX8_ranBody_21 : decode cX8_ranBody 21 = .ok (.getfield 271, 3) := by decide +kernel
theorem dX8_ranBody_24 : decode cX8_ranBody 24 = .ok (.iconst 1, 1) := by decide +kernel
theorem dX8_ranBody_25 : decode cX8_ranBody 25 = .ok (.iadd, 1) := by decide +kernel
theorem dX8_ranBody_26 : decode cX8_ranBody 26 = .ok (.putfield 271, 3) := by decide +kernel
theorem dX8_ranBody_29 : decode cX8_ranBody 29 = .ok (.return_, 1) := by decide +kernel
theorem dX8_isUnder_0 : decode cX8_isUnder 0 = .ok (.iload_n 1, 1) := by decide +kernel
theorem dX8_isUnder_1 : decode cX8_isUnder 1 = .ok (.ifCond .eq 24, 3) := by decide +kernel
theorem dX8_isUnder_4 : decode cX8_isUnder 4 = .ok (.iload_n 1, 1) := by decide +kernel
theorem dX8_isUnder_5 : decode cX8_isUnder 5 = .ok (.iload_n 0, 1) := by decide +kernel
theorem dX8_isUnder_6 : decode cX8_isUnder 6 = .ok (.if_icmp .eq 19, 3) := by decide +kernel
theorem dX8_isUnder_9 : decode cX8_isUnder 9 = .ok (.iload_n 1, 1) := by decide +kernel
theorem dX8_isUnder_10 : decode cX8_isUnder 10 = .ok (.ifCond .le 19, 3) := by decide +kernel
theorem dX8_isUnder_13 : decode cX8_isUnder 13 = .ok (.iload_n 1, 1) := by decide +kernel
theorem dX8_isUnder_14 : decode cX8_isUnder 14 = .ok (.iconst 4, 1) := by decide +kernel
theorem dX8_isUnder_15 : decode cX8_isUnder 15 = .ok (.if_icmp .ge 14, 3) := by decide +kernel
theorem dX8_isUnder_18 : decode cX8_isUnder 18 = .ok (.iload_n 0, 1) := by decide +kernel
theorem dX8_isUnder_19 : decode cX8_isUnder 19 = .ok (.iload_n 1, 1) := by decide +kernel
theorem dX8_isUnder_20 : decode cX8_isUnder 20 = .ok (.iconst 3, 1) := by decide +kernel
theorem dX8_isUnder_21 : decode cX8_isUnder 21 = .ok (.iadd, 1) := by decide +kernel
theorem dX8_isUnder_22 : decode cX8_isUnder 22 = .ok (.if_icmp .ne 7, 3) := by decide +kernel
theorem dX8_isUnder_25 : decode cX8_isUnder 25 = .ok (.iconst 1, 1) := by decide +kernel
theorem dX8_isUnder_26 : decode cX8_isUnder 26 = .ok (.goto 4, 3) := by decide +kernel
theorem dX8_isUnder_29 : decode cX8_isUnder 29 = .ok (.iconst 0, 1) := by decide +kernel
theorem dX8_isUnder_30 : decode cX8_isUnder 30 = .ok (.ireturn, 1) := by decide +kernel
theorem dX8_plainDrinks_0 : decode cX8_plainDrinks 0 = .ok (.aload_n 0, 1) := by decide +kernel
theorem dX8_plainDrinks_1 : decode cX8_plainDrinks 1 = .ok (.iconst 1, 1) := by decide +kernel
theorem dX8_plainDrinks_2 : decode cX8_plainDrinks 2 = .ok (.invokevirtual 274, 3) := by decide +kernel
theorem dX8_plainDrinks_5 : decode cX8_plainDrinks 5 = .ok (.iload_n 1, 1) := by decide +kernel
theorem dX8_plainDrinks_6 : decode cX8_plainDrinks 6 = .ok (.aload_n 0, 1) := by decide +kernel
theorem dX8_plainDrinks_7 : decode cX8_plainDrinks 7 = .ok (.getfield 277, 3) := by decide +kernel
theorem dX8_plainDrinks_10 : decode cX8_plainDrinks 10 = .ok (.iadd, 1) := by decide +kernel
theorem dX8_plainDrinks_11 : decode cX8_plainDrinks 11 = .ok (.ireturn, 1) := by decide +kernel
theorem dX8_drinksActs_0 : decode cX8_drinksActs 0 = .ok (.aload_n 0, 1) := by decide +kernel
theorem dX8_drinksActs_1 : decode cX8_drinksActs 1 = .ok (.getfield 280, 3) := by decide +kernel
theorem dX8_drinksActs_4 : decode cX8_drinksActs 4 = .ok (.iconst 1, 1) := by decide +kernel
theorem dX8_drinksActs_5 : decode cX8_drinksActs 5 = .ok (.invokestatic 283, 3) := by decide +kernel
theorem dX8_drinksActs_8 : decode cX8_drinksActs 8 = .ok (.ifCond .eq 17, 3) := by decide +kernel
theorem dX8_drinksActs_11 : decode cX8_drinksActs 11 = .ok (.aload_n 0, 1) := by decide +kernel
theorem dX8_drinksActs_12 : decode cX8_drinksActs 12 = .ok (.bipush 11, 2) := by decide +kernel
theorem dX8_drinksActs_14 : decode cX8_drinksActs 14 = .ok (.invokevirtual 274, 3) := by decide +kernel
theorem dX8_drinksActs_17 : decode cX8_drinksActs 17 = .ok (.aload_n 0, 1) := by decide +kernel
theorem dX8_drinksActs_18 : decode cX8_drinksActs 18 = .ok (.iload_n 1, 1) := by decide +kernel
theorem dX8_drinksActs_19 : decode cX8_drinksActs 19 = .ok (.iconst 3, 1) := by decide +kernel
theorem dX8_drinksActs_20 : decode cX8_drinksActs 20 = .ok (.imul, 1) := by decide +kernel
theorem dX8_drinksActs_21 : decode cX8_drinksActs 21 = .ok (.invokevirtual 286, 3) := by decide +kernel
theorem dX8_drinksActs_24 : decode cX8_drinksActs 24 = .ok (.ireturn, 1) := by decide +kernel
theorem dX8_drinksActs_25 : decode cX8_drinksActs 25 = .ok (.aload_n 0, 1) := by decide +kernel
theorem dX8_drinksActs_26 : decode cX8_drinksActs 26 = .ok (.getfield 280, 3) := by decide +kernel
theorem dX8_drinksActs_29 : decode cX8_drinksActs 29 = .ok (.iconst 5, 1) := by decide +kernel
theorem dX8_drinksActs_30 : decode cX8_drinksActs 30 = .ok (.if_icmp .ne 20, 3) := by decide +kernel
theorem dX8_drinksActs_33 : decode cX8_drinksActs 33 = .ok (.aload_n 0, 1) := by decide +kernel
theorem dX8_drinksActs_34 : decode cX8_drinksActs 34 = .ok (.bipush 51, 2) := by decide +kernel
theorem dX8_drinksActs_36 : decode cX8_drinksActs 36 = .ok (.invokevirtual 274, 3) := by decide +kernel
theorem dX8_drinksActs_39 : decode cX8_drinksActs 39 = .ok (.aload_n 0, 1) := by decide +kernel
theorem dX8_drinksActs_40 : decode cX8_drinksActs 40 = .ok (.iload_n 1, 1) := by decide +kernel
theorem dX8_drinksActs_41 : decode cX8_drinksActs 41 = .ok (.invokevirtual 286, 3) := by decide +kernel
theorem dX8_drinksActs_44 : decode cX8_drinksActs 44 = .ok (.aload_n 0, 1) := by decide +kernel
theorem dX8_drinksActs_45 : decode cX8_drinksActs 45 = .ok (.getfield 277, 3) := by decide +kernel
theorem dX8_drinksActs_48 : decode cX8_drinksActs 48 = .ok (.ixor, 1) := by decide +kernel
theorem dX8_drinksActs_49 : decode cX8_drinksActs 49 = .ok (.ireturn, 1) := by decide +kernel
theorem dX8_drinksActs_50 : decode cX8_drinksActs 50 = .ok (.aload_n 0, 1) := by decide +kernel
theorem dX8_drinksActs_51 : decode cX8_drinksActs 51 = .ok (.iload_n 1, 1) := by decide +kernel
theorem dX8_drinksActs_52 : decode cX8_drinksActs 52 = .ok (.invokevirtual 286, 3) := by decide +kernel
theorem dX8_drinksActs_55 : decode cX8_drinksActs 55 = .ok (.ireturn, 1) := by decide +kernel
theorem dX8_plainAges_0 : decode cX8_plainAges 0 = .ok (.aload_n 0, 1) := by decide +kernel
theorem dX8_plainAges_1 : decode cX8_plainAges 1 = .ok (.iconst 2, 1) := by decide +kernel
theorem dX8_plainAges_2 : decode cX8_plainAges 2 = .ok (.invokevirtual 274, 3) := by decide +kernel
theorem dX8_plainAges_5 : decode cX8_plainAges 5 = .ok (.aload_n 0, 1) := by decide +kernel
theorem dX8_plainAges_6 : decode cX8_plainAges 6 = .ok (.iload_n 1, 1) := by decide +kernel
theorem dX8_plainAges_7 : decode cX8_plainAges 7 = .ok (.invokevirtual 289, 3) := by decide +kernel
theorem dX8_plainAges_10 : decode cX8_plainAges 10 = .ok (.aload_n 0, 1) := by decide +kernel
theorem dX8_plainAges_11 : decode cX8_plainAges 11 = .ok (.getfield 292, 3) := by decide +kernel
theorem dX8_plainAges_14 : decode cX8_plainAges 14 = .ok (.isub, 1) := by decide +kernel
theorem dX8_plainAges_15 : decode cX8_plainAges 15 = .ok (.ireturn, 1) := by decide +kernel
theorem dX8_agesActs_0 : decode cX8_agesActs 0 = .ok (.aload_n 0, 1) := by decide +kernel
theorem dX8_agesActs_1 : decode cX8_agesActs 1 = .ok (.getfield 280, 3) := by decide +kernel
theorem dX8_agesActs_4 : decode cX8_agesActs 4 = .ok (.iconst 2, 1) := by decide +kernel
theorem dX8_agesActs_5 : decode cX8_agesActs 5 = .ok (.invokestatic 283, 3) := by decide +kernel
theorem dX8_agesActs_8 : decode cX8_agesActs 8 = .ok (.ifCond .eq 16, 3) := by decide +kernel
theorem dX8_agesActs_11 : decode cX8_agesActs 11 = .ok (.aload_n 0, 1) := by decide +kernel
theorem dX8_agesActs_12 : decode cX8_agesActs 12 = .ok (.bipush 21, 2) := by decide +kernel
theorem dX8_agesActs_14 : decode cX8_agesActs 14 = .ok (.invokevirtual 274, 3) := by decide +kernel
theorem dX8_agesActs_17 : decode cX8_agesActs 17 = .ok (.aload_n 0, 1) := by decide +kernel
theorem dX8_agesActs_18 : decode cX8_agesActs 18 = .ok (.iload_n 1, 1) := by decide +kernel
theorem dX8_agesActs_19 : decode cX8_agesActs 19 = .ok (.invokevirtual 295, 3) := by decide +kernel
theorem dX8_agesActs_22 : decode cX8_agesActs 22 = .ok (.ineg, 1) := by decide +kernel
theorem dX8_agesActs_23 : decode cX8_agesActs 23 = .ok (.ireturn, 1) := by decide +kernel
theorem dX8_agesActs_24 : decode cX8_agesActs 24 = .ok (.aload_n 0, 1) := by decide +kernel
theorem dX8_agesActs_25 : decode cX8_agesActs 25 = .ok (.getfield 280, 3) := by decide +kernel
theorem dX8_agesActs_28 : decode cX8_agesActs 28 = .ok (.bipush 6, 2) := by decide +kernel
theorem dX8_agesActs_30 : decode cX8_agesActs 30 = .ok (.if_icmp .ne 20, 3) := by decide +kernel
theorem dX8_agesActs_33 : decode cX8_agesActs 33 = .ok (.aload_n 0, 1) := by decide +kernel
theorem dX8_agesActs_34 : decode cX8_agesActs 34 = .ok (.bipush 61, 2) := by decide +kernel
theorem dX8_agesActs_36 : decode cX8_agesActs 36 = .ok (.invokevirtual 274, 3) := by decide +kernel
theorem dX8_agesActs_39 : decode cX8_agesActs 39 = .ok (.aload_n 0, 1) := by decide +kernel
theorem dX8_agesActs_40 : decode cX8_agesActs 40 = .ok (.iload_n 1, 1) := by decide +kernel
theorem dX8_agesActs_41 : decode cX8_agesActs 41 = .ok (.invokevirtual 295, 3) := by decide +kernel
theorem dX8_agesActs_44 : decode cX8_agesActs 44 = .ok (.aload_n 0, 1) := by decide +kernel
theorem dX8_agesActs_45 : decode cX8_agesActs 45 = .ok (.getfield 292, 3) := by decide +kernel
theorem dX8_agesActs_48 : decode cX8_agesActs 48 = .ok (.iadd, 1) := by decide +kernel
theorem dX8_agesActs_49 : decode cX8_agesActs 49 = .ok (.ireturn, 1) := by decide +kernel
theorem dX8_agesActs_50 : decode cX8_agesActs 50 = .ok (.aload_n 0, 1) := by decide +kernel
theorem dX8_agesActs_51 : decode cX8_agesActs 51 = .ok (.iload_n 1, 1) := by decide +kernel
theorem dX8_agesActs_52 : decode cX8_agesActs 52 = .ok (.invokevirtual 295, 3) := by decide +kernel
theorem dX8_agesActs_55 : decode cX8_agesActs 55 = .ok (.ireturn, 1) := by decide +kernel
theorem dX8_plainTelling_0 : decode cX8_plainTelling 0 = .ok (.aload_n 0, 1) := by decide +kernel
theorem dX8_plainTelling_1 : decode cX8_plainTelling 1 = .ok (.iconst 3, 1) := by decide +kernel
theorem dX8_plainTelling_2 : decode cX8_plainTelling 2 = .ok (.invokevirtual 274, 3) := by decide +kernel
theorem dX8_plainTelling_5 : decode cX8_plainTelling 5 = .ok (.aload_n 0, 1) := by decide +kernel
theorem dX8_plainTelling_6 : decode cX8_plainTelling 6 = .ok (.iload_n 1, 1) := by decide +kernel
theorem dX8_plainTelling_7 : decode cX8_plainTelling 7 = .ok (.invokevirtual 298, 3) := by decide +kernel
theorem dX8_plainTelling_10 : decode cX8_plainTelling 10 = .ok (.iconst 2, 1) := by decide +kernel
theorem dX8_plainTelling_11 : decode cX8_plainTelling 11 = .ok (.imul, 1) := by decide +kernel
theorem dX8_plainTelling_12 : decode cX8_plainTelling 12 = .ok (.ireturn, 1) := by decide +kernel
theorem dX8_tellsActs_0 : decode cX8_tellsActs 0 = .ok (.aload_n 0, 1) := by decide +kernel
theorem dX8_tellsActs_1 : decode cX8_tellsActs 1 = .ok (.getfield 280, 3) := by decide +kernel
theorem dX8_tellsActs_4 : decode cX8_tellsActs 4 = .ok (.iconst 3, 1) := by decide +kernel
theorem dX8_tellsActs_5 : decode cX8_tellsActs 5 = .ok (.invokestatic 283, 3) := by decide +kernel
theorem dX8_tellsActs_8 : decode cX8_tellsActs 8 = .ok (.ifCond .eq 18, 3) := by decide +kernel
theorem dX8_tellsActs_11 : decode cX8_tellsActs 11 = .ok (.aload_n 0, 1) := by decide +kernel
theorem dX8_tellsActs_12 : decode cX8_tellsActs 12 = .ok (.bipush 31, 2) := by decide +kernel
theorem dX8_tellsActs_14 : decode cX8_tellsActs 14 = .ok (.invokevirtual 274, 3) := by decide +kernel
theorem dX8_tellsActs_17 : decode cX8_tellsActs 17 = .ok (.aload_n 0, 1) := by decide +kernel
theorem dX8_tellsActs_18 : decode cX8_tellsActs 18 = .ok (.iload_n 1, 1) := by decide +kernel
theorem dX8_tellsActs_19 : decode cX8_tellsActs 19 = .ok (.invokevirtual 301, 3) := by decide +kernel
theorem dX8_tellsActs_22 : decode cX8_tellsActs 22 = .ok (.bipush 7, 2) := by decide +kernel
theorem dX8_tellsActs_24 : decode cX8_tellsActs 24 = .ok (.ixor, 1) := by decide +kernel
theorem dX8_tellsActs_25 : decode cX8_tellsActs 25 = .ok (.ireturn, 1) := by decide +kernel
theorem dX8_tellsActs_26 : decode cX8_tellsActs 26 = .ok (.aload_n 0, 1) := by decide +kernel
theorem dX8_tellsActs_27 : decode cX8_tellsActs 27 = .ok (.getfield 280, 3) := by decide +kernel
theorem dX8_tellsActs_30 : decode cX8_tellsActs 30 = .ok (.iconst 4, 1) := by decide +kernel
theorem dX8_tellsActs_31 : decode cX8_tellsActs 31 = .ok (.if_icmp .ne 25, 3) := by decide +kernel
theorem dX8_tellsActs_34 : decode cX8_tellsActs 34 = .ok (.aload_n 0, 1) := by decide +kernel
theorem dX8_tellsActs_35 : decode cX8_tellsActs 35 = .ok (.bipush 41, 2) := by decide +kernel
theorem dX8_tellsActs_37 : decode cX8_tellsActs 37 = .ok (.invokevirtual 274, 3) := by decide +kernel
theorem dX8_tellsActs_40 : decode cX8_tellsActs 40 = .ok (.aload_n 0, 1) := by decide +kernel
theorem dX8_tellsActs_41 : decode cX8_tellsActs 41 = .ok (.iload_n 1, 1) := by decide +kernel
theorem dX8_tellsActs_42 : decode cX8_tellsActs 42 = .ok (.iconst 1, 1) := by decide +kernel
theorem dX8_tellsActs_43 : decode cX8_tellsActs 43 = .ok (.isub, 1) := by decide +kernel
theorem dX8_tellsActs_44 : decode cX8_tellsActs 44 = .ok (.invokevirtual 301, 3) := by decide +kernel
theorem dX8_tellsActs_47 : decode cX8_tellsActs 47 = .ok (.istore_n 2, 1) := by decide +kernel
theorem dX8_tellsActs_48 : decode cX8_tellsActs 48 = .ok (.iload_n 2, 1) := by decide +kernel
theorem dX8_tellsActs_49 : decode cX8_tellsActs 49 = .ok (.aload_n 0, 1) := by decide +kernel
theorem dX8_tellsActs_50 : decode cX8_tellsActs 50 = .ok (.iconst 2, 1) := by decide +kernel
theorem dX8_tellsActs_51 : decode cX8_tellsActs 51 = .ok (.invokevirtual 289, 3) := by decide +kernel
theorem dX8_tellsActs_54 : decode cX8_tellsActs 54 = .ok (.iadd, 1) := by decide +kernel
theorem dX8_tellsActs_55 : decode cX8_tellsActs 55 = .ok (.ireturn, 1) := by decide +kernel
theorem dX8_tellsActs_56 : decode cX8_tellsActs 56 = .ok (.aload_n 0, 1) := by decide +kernel
theorem dX8_tellsActs_57 : decode cX8_tellsActs 57 = .ok (.iload_n 1, 1) := by decide +kernel
theorem dX8_tellsActs_58 : decode cX8_tellsActs 58 = .ok (.invokevirtual 301, 3) := by decide +kernel
theorem dX8_tellsActs_61 : decode cX8_tellsActs 61 = .ok (.ireturn, 1) := by decide +kernel
theorem dX8_act_0 : decode cX8_act 0 = .ok (.aload_n 0, 1) := by decide +kernel
theorem dX8_act_1 : decode cX8_act 1 = .ok (.iconst 0, 1) := by decide +kernel
theorem dX8_act_2 : decode cX8_act 2 = .ok (.putfield 271, 3) := by decide +kernel
theorem dX8_act_5 : decode cX8_act 5 = .ok (.aload_n 0, 1) := by decide +kernel
theorem dX8_act_6 : decode cX8_act 6 = .ok (.iload_n 1, 1) := by decide +kernel
theorem dX8_act_7 : decode cX8_act 7 = .ok (.invokevirtual 169, 3) := by decide +kernel
theorem dX8_act_10 : decode cX8_act 10 = .ok (.ifCond .eq 12, 3) := by decide +kernel
theorem dX8_act_13 : decode cX8_act 13 = .ok (.iload_n 2, 1) := by decide +kernel
theorem dX8_act_14 : decode cX8_act 14 = .ok (.iconst 0, 1) := by decide +kernel
theorem dX8_act_15 : decode cX8_act 15 = .ok (.iconst 2, 1) := by decide +kernel
theorem dX8_act_16 : decode cX8_act 16 = .ok (.invokestatic 53, 3) := by decide +kernel
theorem dX8_act_19 : decode cX8_act 19 = .ok (.ifCond .ne 5, 3) := by decide +kernel
theorem dX8_act_22 : decode cX8_act 22 = .ok (.iconst 0, 1) := by decide +kernel
theorem dX8_act_23 : decode cX8_act 23 = .ok (.ireturn, 1) := by decide +kernel
theorem dX8_act_24 : decode cX8_act 24 = .ok (.aload_n 0, 1) := by decide +kernel
theorem dX8_act_25 : decode cX8_act 25 = .ok (.aload_n 0, 1) := by decide +kernel
theorem dX8_act_26 : decode cX8_act 26 = .ok (.getfield 9, 3) := by decide +kernel
theorem dX8_act_29 : decode cX8_act 29 = .ok (.bipush 20, 2) := by decide +kernel
theorem dX8_act_31 : decode cX8_act 31 = .ok (.iload_n 1, 1) := by decide +kernel
theorem dX8_act_32 : decode cX8_act 32 = .ok (.iadd, 1) := by decide +kernel
theorem dX8_act_33 : decode cX8_act 33 = .ok (.iaload, 1) := by decide +kernel
theorem dX8_act_34 : decode cX8_act 34 = .ok (.putfield 280, 3) := by decide +kernel
theorem dX8_act_37 : decode cX8_act 37 = .ok (.aload_n 0, 1) := by decide +kernel
theorem dX8_act_38 : decode cX8_act 38 = .ok (.iload_n 1, 1) := by decide +kernel
theorem dX8_act_39 : decode cX8_act 39 = .ok (.putfield 277, 3) := by decide +kernel
theorem dX8_act_42 : decode cX8_act 42 = .ok (.aload_n 0, 1) := by decide +kernel
theorem dX8_act_43 : decode cX8_act 43 = .ok (.aload_n 0, 1) := by decide +kernel
theorem dX8_act_44 : decode cX8_act 44 = .ok (.getfield 9, 3) := by decide +kernel
theorem dX8_act_47 : decode cX8_act 47 = .ok (.bipush 26, 2) := by decide +kernel
theorem dX8_act_49 : decode cX8_act 49 = .ok (.iload_n 1, 1) := by decide +kernel
theorem dX8_act_50 : decode cX8_act 50 = .ok (.iadd, 1) := by decide +kernel
theorem dX8_act_51 : decode cX8_act 51 = .ok (.iaload, 1) := by decide +kernel
theorem dX8_act_52 : decode cX8_act 52 = .ok (.putfield 292, 3) := by decide +kernel
theorem dX8_act_55 : decode cX8_act 55 = .ok (.iload_n 2, 1) := by decide +kernel
theorem dX8_act_56 : decode cX8_act 56 = .ok (.ifCond .ne 11, 3) := by decide +kernel
theorem dX8_act_59 : decode cX8_act 59 = .ok (.aload_n 0, 1) := by decide +kernel
theorem dX8_act_60 : decode cX8_act 60 = .ok (.iload_n 3, 1) := by decide +kernel
theorem dX8_act_61 : decode cX8_act 61 = .ok (.invokevirtual 289, 3) := by decide +kernel
theorem dX8_act_64 : decode cX8_act 64 = .ok (.goto 21, 3) := by decide +kernel
theorem dX8_act_67 : decode cX8_act 67 = .ok (.iload_n 2, 1) := by decide +kernel
theorem dX8_act_68 : decode cX8_act 68 = .ok (.iconst 1, 1) := by decide +kernel
theorem dX8_act_69 : decode cX8_act 69 = .ok (.if_icmp .ne 11, 3) := by decide +kernel
theorem dX8_act_72 : decode cX8_act 72 = .ok (.aload_n 0, 1) := by decide +kernel
theorem dX8_act_73 : decode cX8_act 73 = .ok (.iload_n 3, 1) := by decide +kernel
theorem dX8_act_74 : decode cX8_act 74 = .ok (.invokevirtual 298, 3) := by decide +kernel
theorem dX8_act_77 : decode cX8_act 77 = .ok (.goto 8, 3) := by decide +kernel
theorem dX8_act_80 : decode cX8_act 80 = .ok (.aload_n 0, 1) := by decide +kernel
theorem dX8_act_81 : decode cX8_act 81 = .ok (.iload_n 3, 1) := by decide +kernel
theorem dX8_act_82 : decode cX8_act 82 = .ok (.invokevirtual 304, 3) := by decide +kernel
theorem dX8_act_85 : decode cX8_act 85 = .ok (.ireturn, 1) := by decide +kernel
theorem dX8_trace_0 : decode cX8_trace 0 = .ok (.iload_n 1, 1) := by decide +kernel
theorem dX8_trace_1 : decode cX8_trace 1 = .ok (.iconst 0, 1) := by decide +kernel
theorem dX8_trace_2 : decode cX8_trace 2 = .ok (.aload_n 0, 1) := by decide +kernel
theorem dX8_trace_3 : decode cX8_trace 3 = .ok (.getfield 271, 3) := by decide +kernel
theorem dX8_trace_6 : decode cX8_trace 6 = .ok (.bipush 20, 2) := by decide +kernel
theorem dX8_trace_8 : decode cX8_trace 8 = .ok (.if_icmp .ge 10, 3) := by decide +kernel
theorem dX8_trace_11 : decode cX8_trace 11 = .ok (.aload_n 0, 1) := by decide +kernel
theorem dX8_trace_12 : decode cX8_trace 12 = .ok (.getfield 271, 3) := by decide +kernel
theorem dX8_trace_15 : decode cX8_trace 15 = .ok (.goto 5, 3) := by decide +kernel
theorem dX8_trace_18 : decode cX8_trace 18 = .ok (.bipush 20, 2) := by decide +kernel
theorem dX8_trace_20 : decode cX8_trace 20 = .ok (.iconst 1, 1) := by decide +kernel
theorem dX8_trace_21 : decode cX8_trace 21 = .ok (.isub, 1) := by decide +kernel
theorem dX8_trace_22 : decode cX8_trace 22 = .ok (.invokestatic 53, 3) := by decide +kernel
theorem dX8_trace_25 : decode cX8_trace 25 = .ok (.ifCond .eq 12, 3) := by decide +kernel
theorem dX8_trace_28 : decode cX8_trace 28 = .ok (.aload_n 0, 1) := by decide +kernel
theorem dX8_trace_29 : decode cX8_trace 29 = .ok (.getfield 46, 3) := by decide +kernel
theorem dX8_trace_32 : decode cX8_trace 32 = .ok (.iload_n 1, 1) := by decide +kernel
theorem dX8_trace_33 : decode cX8_trace 33 = .ok (.iaload, 1) := by decide +kernel
theorem dX8_trace_34 : decode cX8_trace 34 = .ok (.goto 4, 3) := by decide +kernel
theorem dX8_trace_37 : decode cX8_trace 37 = .ok (.iconst (-1), 1) := by decide +kernel
theorem dX8_trace_38 : decode cX8_trace 38 = .ok (.ireturn, 1) := by decide +kernel
theorem dX8_as_0 : decode cX8_as 0 = .ok (.aload_n 0, 1) := by decide +kernel
theorem dX8_as_1 : decode cX8_as 1 = .ok (.iload_n 1, 1) := by decide +kernel
theorem dX8_as_2 : decode cX8_as 2 = .ok (.invokevirtual 169, 3) := by decide +kernel
theorem dX8_as_5 : decode cX8_as 5 = .ok (.ifCond .eq 13, 3) := by decide +kernel
theorem dX8_as_8 : decode cX8_as 8 = .ok (.iload_n 2, 1) := by decide +kernel
theorem dX8_as_9 : decode cX8_as 9 = .ok (.iconst 0, 1) := by decide +kernel
theorem dX8_as_10 : decode cX8_as 10 = .ok (.bipush 6, 2) := by decide +kernel
theorem dX8_as_12 : decode cX8_as 12 = .ok (.invokestatic 53, 3) := by decide +kernel
theorem dX8_as_15 : decode cX8_as 15 = .ok (.ifCond .ne 5, 3) := by decide +kernel
theorem dX8_as_18 : decode cX8_as 18 = .ok (.iconst (-1), 1) := by decide +kernel
theorem dX8_as_19 : decode cX8_as 19 = .ok (.ireturn, 1) := by decide +kernel
theorem dX8_as_20 : decode cX8_as 20 = .ok (.aload_n 0, 1) := by decide +kernel
theorem dX8_as_21 : decode cX8_as 21 = .ok (.getfield 9, 3) := by decide +kernel
theorem dX8_as_24 : decode cX8_as 24 = .ok (.bipush 20, 2) := by decide +kernel
theorem dX8_as_26 : decode cX8_as 26 = .ok (.iload_n 1, 1) := by decide +kernel
theorem dX8_as_27 : decode cX8_as 27 = .ok (.iadd, 1) := by decide +kernel
theorem dX8_as_28 : decode cX8_as 28 = .ok (.iaload, 1) := by decide +kernel
theorem dX8_as_29 : decode cX8_as 29 = .ok (.iload_n 2, 1) := by decide +kernel
theorem dX8_as_30 : decode cX8_as 30 = .ok (.invokestatic 283, 3) := by decide +kernel
theorem dX8_as_33 : decode cX8_as 33 = .ok (.ifCond .eq 15, 3) := by decide +kernel
theorem dX8_as_36 : decode cX8_as 36 = .ok (.aload_n 0, 1) := by decide +kernel
theorem dX8_as_37 : decode cX8_as 37 = .ok (.getfield 9, 3) := by decide +kernel
theorem dX8_as_40 : decode cX8_as 40 = .ok (.bipush 26, 2) := by decide +kernel
theorem dX8_as_42 : decode cX8_as 42 = .ok (.iload_n 1, 1) := by decide +kernel
theorem dX8_as_43 : decode cX8_as 43 = .ok (.iadd, 1) := by decide +kernel
theorem dX8_as_44 : decode cX8_as 44 = .ok (.iaload, 1) := by decide +kernel
theorem dX8_as_45 : decode cX8_as 45 = .ok (.goto 5, 3) := by decide +kernel
theorem dX8_as_48 : decode cX8_as 48 = .ok (.bipush (-6), 2) := by decide +kernel
theorem dX8_as_50 : decode cX8_as 50 = .ok (.ireturn, 1) := by decide +kernel
theorem dX8_image_0 : decode cX8_image 0 = .ok (.iconst 0, 1) := by decide +kernel
theorem dX8_image_1 : decode cX8_image 1 = .ok (.istore_n 1, 1) := by decide +kernel
theorem dX8_image_2 : decode cX8_image 2 = .ok (.iload_n 1, 1) := by decide +kernel
theorem dX8_image_3 : decode cX8_image 3 = .ok (.sipush 938, 3) := by decide +kernel
theorem dX8_image_6 : decode cX8_image 6 = .ok (.if_icmp .ge 21, 3) := by decide +kernel
theorem dX8_image_9 : decode cX8_image 9 = .ok (.aload_n 0, 1) := by decide +kernel
theorem dX8_image_10 : decode cX8_image 10 = .ok (.getfield 15, 3) := by decide +kernel
theorem dX8_image_13 : decode cX8_image 13 = .ok (.iload_n 1, 1) := by decide +kernel
theorem dX8_image_14 : decode cX8_image 14 = .ok (.aload_n 0, 1) := by decide +kernel
theorem dX8_image_15 : decode cX8_image 15 = .ok (.getfield 9, 3) := by decide +kernel
theorem dX8_image_18 : decode cX8_image 18 = .ok (.iload_n 1, 1) := by decide +kernel
theorem dX8_image_19 : decode cX8_image 19 = .ok (.iaload, 1) := by decide +kernel
theorem dX8_image_20 : decode cX8_image 20 = .ok (.iastore, 1) := by decide +kernel
theorem dX8_image_21 : decode cX8_image 21 = .ok (.iinc 1 1, 3) := by decide +kernel
theorem dX8_image_24 : decode cX8_image 24 = .ok (.goto (-22), 3) := by decide +kernel
theorem dX8_image_27 : decode cX8_image 27 = .ok (.aload_n 0, 1) := by decide +kernel
theorem dX8_image_28 : decode cX8_image 28 = .ok (.iconst 1, 1) := by decide +kernel
theorem dX8_image_29 : decode cX8_image 29 = .ok (.putfield 307, 3) := by decide +kernel
theorem dX8_image_32 : decode cX8_image 32 = .ok (.aload_n 0, 1) := by decide +kernel
theorem dX8_image_33 : decode cX8_image 33 = .ok (.getfield 9, 3) := by decide +kernel
theorem dX8_image_36 : decode cX8_image 36 = .ok (.bipush 12, 2) := by decide +kernel
theorem dX8_image_38 : decode cX8_image 38 = .ok (.iaload, 1) := by decide +kernel
theorem dX8_image_39 : decode cX8_image 39 = .ok (.ireturn, 1) := by decide +kernel
theorem dX8_undo_0 : decode cX8_undo 0 = .ok (.aload_n 0, 1) := by decide +kernel
theorem dX8_undo_1 : decode cX8_undo 1 = .ok (.getfield 307, 3) := by decide +kernel
theorem dX8_undo_4 : decode cX8_undo 4 = .ok (.ifCond .ne 6, 3) := by decide +kernel
theorem dX8_undo_7 : decode cX8_undo 7 = .ok (.bipush (-3), 2) := by decide +kernel
theorem dX8_undo_9 : decode cX8_undo 9 = .ok (.ireturn, 1) := by decide +kernel
theorem dX8_undo_10 : decode cX8_undo 10 = .ok (.iconst 0, 1) := by decide +kernel
theorem dX8_undo_11 : decode cX8_undo 11 = .ok (.istore_n 1, 1) := by decide +kernel
theorem dX8_undo_12 : decode cX8_undo 12 = .ok (.iload_n 1, 1) := by decide +kernel
theorem dX8_undo_13 : decode cX8_undo 13 = .ok (.sipush 938, 3) := by decide +kernel
theorem dX8_undo_16 : decode cX8_undo 16 = .ok (.if_icmp .ge 21, 3) := by decide +kernel
theorem dX8_undo_19 : decode cX8_undo 19 = .ok (.aload_n 0, 1) := by decide +kernel
theorem dX8_undo_20 : decode cX8_undo 20 = .ok (.getfield 9, 3) := by decide +kernel
theorem dX8_undo_23 : decode cX8_undo 23 = .ok (.iload_n 1, 1) := by decide +kernel
theorem dX8_undo_24 : decode cX8_undo 24 = .ok (.aload_n 0, 1) := by decide +kernel
theorem dX8_undo_25 : decode cX8_undo 25 = .ok (.getfield 15, 3) := by decide +kernel
theorem dX8_undo_28 : decode cX8_undo 28 = .ok (.iload_n 1, 1) := by decide +kernel
theorem dX8_undo_29 : decode cX8_undo 29 = .ok (.iaload, 1) := by decide +kernel
theorem dX8_undo_30 : decode cX8_undo 30 = .ok (.iastore, 1) := by decide +kernel
theorem dX8_undo_31 : decode cX8_undo 31 = .ok (.iinc 1 1, 3) := by decide +kernel
theorem dX8_undo_34 : decode cX8_undo 34 = .ok (.goto (-22), 3) := by decide +kernel
theorem dX8_undo_37 : decode cX8_undo 37 = .ok (.aload_n 0, 1) := by decide +kernel
theorem dX8_undo_38 : decode cX8_undo 38 = .ok (.getfield 9, 3) := by decide +kernel
theorem dX8_undo_41 : decode cX8_undo 41 = .ok (.bipush 12, 2) := by decide +kernel
theorem dX8_undo_43 : decode cX8_undo 43 = .ok (.iaload, 1) := by decide +kernel
theorem dX8_undo_44 : decode cX8_undo 44 = .ok (.ireturn, 1) := by decide +kernel
theorem dX8_count_0 : decode cX8_count 0 = .ok (.iload_n 1, 1) := by decide +kernel
theorem dX8_count_1 : decode cX8_count 1 = .ok (.bipush 6, 2) := by decide +kernel
theorem dX8_count_3 : decode cX8_count 3 = .ok (.if_icmp .ne 10, 3) := by decide +kernel
theorem dX8_count_6 : decode cX8_count 6 = .ok (.aload_n 0, 1) := by decide +kernel
theorem dX8_count_7 : decode cX8_count 7 = .ok (.getfield 271, 3) := by decide +kernel
theorem dX8_count_10 : decode cX8_count 10 = .ok (.goto 41, 3) := by decide +kernel
theorem dX8_count_13 : decode cX8_count 13 = .ok (.iload_n 1, 1) := by decide +kernel
theorem dX8_count_14 : decode cX8_count 14 = .ok (.bipush 7, 2) := by decide +kernel
theorem dX8_count_16 : decode cX8_count 16 = .ok (.if_icmp .ne 13, 3) := by decide +kernel
theorem dX8_count_19 : decode cX8_count 19 = .ok (.aload_n 0, 1) := by decide +kernel
theorem dX8_count_20 : decode cX8_count 20 = .ok (.getfield 9, 3) := by decide +kernel
theorem dX8_count_23 : decode cX8_count 23 = .ok (.bipush 19, 2) := by decide +kernel
theorem dX8_count_25 : decode cX8_count 25 = .ok (.iaload, 1) := by decide +kernel
theorem dX8_count_26 : decode cX8_count 26 = .ok (.goto 25, 3) := by decide +kernel
theorem dX8_count_29 : decode cX8_count 29 = .ok (.iload_n 1, 1) := by decide +kernel
theorem dX8_count_30 : decode cX8_count 30 = .ok (.iconst 0, 1) := by decide +kernel
theorem dX8_count_31 : decode cX8_count 31 = .ok (.iconst 5, 1) := by decide +kernel
theorem dX8_count_32 : decode cX8_count 32 = .ok (.invokestatic 53, 3) := by decide +kernel
theorem dX8_count_35 : decode cX8_count 35 = .ok (.ifCond .eq 15, 3) := by decide +kernel
theorem dX8_count_38 : decode cX8_count 38 = .ok (.aload_n 0, 1) := by decide +kernel
theorem dX8_count_39 : decode cX8_count 39 = .ok (.getfield 9, 3) := by decide +kernel
theorem dX8_count_42 : decode cX8_count 42 = .ok (.bipush 12, 2) := by decide +kernel
theorem dX8_count_44 : decode cX8_count 44 = .ok (.iload_n 1, 1) := by decide +kernel
theorem dX8_count_45 : decode cX8_count 45 = .ok (.iadd, 1) := by decide +kernel
theorem dX8_count_46 : decode cX8_count 46 = .ok (.iaload, 1) := by decide +kernel
theorem dX8_count_47 : decode cX8_count 47 = .ok (.goto 4, 3) := by decide +kernel
theorem dX8_count_50 : decode cX8_count 50 = .ok (.iconst (-1), 1) := by decide +kernel
theorem dX8_count_51 : decode cX8_count 51 = .ok (.ireturn, 1) := by decide +kernel
end
section
theorem dL_law_0 : decode cL_law 0 = .ok (.new 7, 3) := by decide +kernel
theorem dL_law_3 : decode cL_law 3 = .ok (.dup, 1) := by decide +kernel
theorem dL_law_4 : decode cL_law 4 = .ok (.invokespecial 9, 3) := by decide +kernel
theorem dL_law_7 : decode cL_law 7 = .ok (.astore_n 1, 1) := by decide +kernel
theorem dL_law_8 : decode cL_law 8 = .ok (.new 10, 3) := by decide +kernel
theorem dL_law_11 : decode cL_law 11 = .ok (.dup, 1) := by decide +kernel
theorem dL_law_12 : decode cL_law 12 = .ok (.invokespecial 12, 3) := by decide +kernel
theorem dL_law_15 : decode cL_law 15 = .ok (.astore_n 2, 1) := by decide +kernel
theorem dL_law_16 : decode cL_law 16 = .ok (.iconst 0, 1) := by decide +kernel
theorem dL_law_17 : decode cL_law 17 = .ok (.istore_n 3, 1) := by decide +kernel
theorem dL_law_18 : decode cL_law 18 = .ok (.iload_n 3, 1) := by decide +kernel
theorem dL_law_19 : decode cL_law 19 = .ok (.aload_n 0, 1) := by decide +kernel
theorem dL_law_20 : decode cL_law 20 = .ok (.arraylength, 1) := by decide +kernel
theorem dL_law_21 : decode cL_law 21 = .ok (.iconst 5, 1) := by decide +kernel
theorem dL_law_22 : decode cL_law 22 = .ok (.isub, 1) := by decide +kernel
theorem dL_law_23 : decode cL_law 23 = .ok (.if_icmp .gt 1242, 3) := by decide +kernel
theorem dL_law_26 : decode cL_law 26 = .ok (.aload_n 0, 1) := by decide +kernel
theorem dL_law_27 : decode cL_law 27 = .ok (.iload_n 3, 1) := by decide +kernel
theorem dL_law_28 : decode cL_law 28 = .ok (.iaload, 1) := by decide +kernel
theorem dL_law_29 : decode cL_law 29 = .ok (.bipush 63, 2) := by decide +kernel
theorem dL_law_31 : decode cL_law 31 = .ok (.iand, 1) := by decide +kernel
theorem dL_law_32 : decode cL_law 32 = .ok (.tableswitch 1227 0 36 #[164, 187, 200, 253, 286, 319, 362, 395, 428, 451, 484, 507, 530, 563, 586, 609, 642, 655, 698, 731, 754, 777, 810, 833, 866, 899, 943, 967, 1010, 1033, 1066, 1079, 1122, 1145, 1178, 1191, 1204], 164) := by decide +kernel
theorem dL_law_196 : decode cL_law 196 = .ok (.aload_n 1, 1) := by decide +kernel
theorem dL_law_197 : decode cL_law 197 = .ok (.aload_n 0, 1) := by decide +kernel
theorem dL_law_198 : decode cL_law 198 = .ok (.iload_n 3, 1) := by decide +kernel
theorem dL_law_199 : decode cL_law 199 = .ok (.iconst 1, 1) := by decide +kernel
theorem dL_law_200 : decode cL_law 200 = .ok (.iadd, 1) := by decide +kernel
theorem dL_law_201 : decode cL_law 201 = .ok (.iaload, 1) := by decide +kernel
theorem dL_law_202 : decode cL_law 202 = .ok (.invokevirtual 13, 3) := by decide +kernel
theorem dL_law_205 : decode cL_law 205 = .ok (.aload_n 2, 1) := by decide +kernel
theorem dL_law_206 : decode cL_law 206 = .ok (.aload_n 0, 1) := by decide +kernel
theorem dL_law_207 : decode cL_law 207 = .ok (.iload_n 3, 1) := by decide +kernel
theorem dL_law_208 : decode cL_law 208 = .ok (.iconst 1, 1) := by decide +kernel
theorem dL_law_209 : decode cL_law 209 = .ok (.iadd, 1) := by decide +kernel
theorem dL_law_210 : decode cL_law 210 = .ok (.iaload, 1) := by decide +kernel
theorem dL_law_211 : decode cL_law 211 = .ok (.invokevirtual 17, 3) := by decide +kernel
theorem dL_law_214 : decode cL_law 214 = .ok (.if_icmp .eq 1045, 3) := by decide +kernel
theorem dL_law_217 : decode cL_law 217 = .ok (.iconst 0, 1) := by decide +kernel
theorem dL_law_218 : decode cL_law 218 = .ok (.ireturn, 1) := by decide +kernel
theorem dL_law_219 : decode cL_law 219 = .ok (.aload_n 1, 1) := by decide +kernel
theorem dL_law_220 : decode cL_law 220 = .ok (.invokevirtual 18, 3) := by decide +kernel
theorem dL_law_223 : decode cL_law 223 = .ok (.aload_n 2, 1) := by decide +kernel
theorem dL_law_224 : decode cL_law 224 = .ok (.invokevirtual 22, 3) := by decide +kernel
theorem dL_law_227 : decode cL_law 227 = .ok (.if_icmp .eq 1032, 3) := by decide +kernel
theorem dL_law_230 : decode cL_law 230 = .ok (.iconst 0, 1) := by decide +kernel
theorem dL_law_231 : decode cL_law 231 = .ok (.ireturn, 1) := by decide +kernel
theorem dL_law_232 : decode cL_law 232 = .ok (.aload_n 1, 1) := by decide +kernel
theorem dL_law_233 : decode cL_law 233 = .ok (.aload_n 0, 1) := by decide +kernel
theorem dL_law_234 : decode cL_law 234 = .ok (.iload_n 3, 1) := by decide +kernel
theorem dL_law_235 : decode cL_law 235 = .ok (.iconst 1, 1) := by decide +kernel
theorem dL_law_236 : decode cL_law 236 = .ok (.iadd, 1) := by decide +kernel
theorem dL_law_237 : decode cL_law 237 = .ok (.iaload, 1) := by decide +kernel
theorem dL_law_238 : decode cL_law 238 = .ok (.aload_n 0, 1) := by decide +kernel
theorem dL_law_239 : decode cL_law 239 = .ok (.iload_n 3, 1) := by decide +kernel
theorem dL_law_240 : decode cL_law 240 = .ok (.iconst 2, 1) := by decide +kernel
theorem dL_law_241 : decode cL_law 241 = .ok (.iadd, 1) := by decide +kernel
theorem dL_law_242 : decode cL_law 242 = .ok (.iaload, 1) := by decide +kernel
theorem dL_law_243 : decode cL_law 243 = .ok (.aload_n 0, 1) := by decide +kernel
theorem dL_law_244 : decode cL_law 244 = .ok (.iload_n 3, 1) := by decide +kernel
theorem dL_law_245 : decode cL_law 245 = .ok (.iconst 3, 1) := by decide +kernel
theorem dL_law_246 : decode cL_law 246 = .ok (.iadd, 1) := by decide +kernel
theorem dL_law_247 : decode cL_law 247 = .ok (.iaload, 1) := by decide +kernel
theorem dL_law_248 : decode cL_law 248 = .ok (.aload_n 0, 1) := by decide +kernel
theorem dL_law_249 : decode cL_law 249 = .ok (.iload_n 3, 1) := by decide +kernel
theorem dL_law_250 : decode cL_law 250 = .ok (.iconst 4, 1) := by decide +kernel
theorem dL_law_251 : decode cL_law 251 = .ok (.iadd, 1) := by decide +kernel
theorem dL_law_252 : decode cL_law 252 = .ok (.iaload, 1) := by decide +kernel
theorem dL_law_253 : decode cL_law 253 = .ok (.invokevirtual 23, 3) := by decide +kernel
theorem dL_law_256 : decode cL_law 256 = .ok (.aload_n 2, 1) := by decide +kernel
theorem dL_law_257 : decode cL_law 257 = .ok (.aload_n 0, 1) := by decide +kernel
theorem dL_law_258 : decode cL_law 258 = .ok (.iload_n 3, 1) := by decide +kernel
theorem dL_law_259 : decode cL_law 259 = .ok (.iconst 1, 1) := by decide +kernel
theorem dL_law_260 : decode cL_law 260 = .ok (.iadd, 1) := by decide +kernel
theorem dL_law_261 : decode cL_law 261 = .ok (.iaload, 1) := by decide +kernel
theorem dL_law_262 : decode cL_law 262 = .ok (.aload_n 0, 1) := by decide +kernel
theorem dL_law_263 : decode cL_law 263 = .ok (.iload_n 3, 1) := by decide +kernel
theorem dL_law_264 : decode cL_law 264 = .ok (.iconst 2, 1) := by decide +kernel
theorem dL_law_265 : decode cL_law 265 = .ok (.iadd, 1) := by decide +kernel
theorem dL_law_266 : decode cL_law 266 = .ok (.iaload, 1) := by decide +kernel
theorem dL_law_267 : decode cL_law 267 = .ok (.aload_n 0, 1) := by decide +kernel
theorem dL_law_268 : decode cL_law 268 = .ok (.iload_n 3, 1) := by decide +kernel
theorem dL_law_269 : decode cL_law 269 = .ok (.iconst 3, 1) := by decide +kernel
theorem dL_law_270 : decode cL_law 270 = .ok (.iadd, 1) := by decide +kernel
theorem dL_law_271 : decode cL_law 271 = .ok (.iaload, 1) := by decide +kernel
theorem dL_law_272 : decode cL_law 272 = .ok (.aload_n 0, 1) := by decide +kernel
theorem dL_law_273 : decode cL_law 273 = .ok (.iload_n 3, 1) := by decide +kernel
theorem dL_law_274 : decode cL_law 274 = .ok (.iconst 4, 1) := by decide +kernel
theorem dL_law_275 : decode cL_law 275 = .ok (.iadd, 1) := by decide +kernel
theorem dL_law_276 : decode cL_law 276 = .ok (.iaload, 1) := by decide +kernel
theorem dL_law_277 : decode cL_law 277 = .ok (.invokevirtual 27, 3) := by decide +kernel
theorem dL_law_280 : decode cL_law 280 = .ok (.if_icmp .eq 979, 3) := by decide +kernel
theorem dL_law_283 : decode cL_law 283 = .ok (.iconst 0, 1) := by decide +kernel
theorem dL_law_284 : decode cL_law 284 = .ok (.ireturn, 1) := by decide +kernel
theorem dL_law_285 : decode cL_law 285 = .ok (.aload_n 1, 1) := by decide +kernel
theorem dL_law_286 : decode cL_law 286 = .ok (.aload_n 0, 1) := by decide +kernel
theorem dL_law_287 : decode cL_law 287 = .ok (.iload_n 3, 1) := by decide +kernel
theorem dL_law_288 : decode cL_law 288 = .ok (.iconst 1, 1) := by decide +kernel
theorem dL_law_289 : decode cL_law 289 = .ok (.iadd, 1) := by decide +kernel
theorem dL_law_290 : decode cL_law 290 = .ok (.iaload, 1) := by decide +kernel
theorem dL_law_291 : decode cL_law 291 = .ok (.aload_n 0, 1) := by decide +kernel
theorem dL_law_292 : decode cL_law 292 = .ok (.iload_n 3, 1) := by decide +kernel
theorem dL_law_293 : decode cL_law 293 = .ok (.iconst 2, 1) := by decide +kernel
theorem dL_law_294 : decode cL_law 294 = .ok (.iadd, 1) := by decide +kernel
theorem dL_law_295 : decode cL_law 295 = .ok (.iaload, 1) := by decide +kernel
theorem dL_law_296 : decode cL_law 296 = .ok (.invokevirtual 28, 3) := by decide +kernel
theorem dL_law_299 : decode cL_law 299 = .ok (.aload_n 2, 1) := by decide +kernel
theorem dL_law_300 : decode cL_law 300 = .ok (.aload_n 0, 1) := by decide +kernel
theorem dL_law_301 : decode cL_law 301 = .ok (.iload_n 3, 1) := by decide +kernel
theorem dL_law_302 : decode cL_law 302 = .ok (.iconst 1, 1) := by decide +kernel
theorem dL_law_303 : decode cL_law 303 = .ok (.iadd, 1) := by decide +kernel
theorem dL_law_304 : decode cL_law 304 = .ok (.iaload, 1) := by decide +kernel
theorem dL_law_305 : decode cL_law 305 = .ok (.aload_n 0, 1) := by decide +kernel
theorem dL_law_306 : decode cL_law 306 = .ok (.iload_n 3, 1) := by decide +kernel
theorem dL_law_307 : decode cL_law 307 = .ok (.iconst 2, 1) := by decide +kernel
theorem dL_law_308 : decode cL_law 308 = .ok (.iadd, 1) := by decide +kernel
theorem dL_law_309 : decode cL_law 309 = .ok (.iaload, 1) := by decide +kernel
theorem dL_law_310 : decode cL_law 310 = .ok (.invokevirtual 32, 3) := by decide +kernel
theorem dL_law_313 : decode cL_law 313 = .ok (.if_icmp .eq 946, 3) := by decide +kernel
theorem dL_law_316 : decode cL_law 316 = .ok (.iconst 0, 1) := by decide +kernel
theorem dL_law_317 : decode cL_law 317 = .ok (.ireturn, 1) := by decide +kernel
theorem dL_law_318 : decode cL_law 318 = .ok (.aload_n 1, 1) := by decide +kernel
theorem dL_law_319 : decode cL_law 319 = .ok (.aload_n 0, 1) := by decide +kernel
theorem dL_law_320 : decode cL_law 320 = .ok (.iload_n 3, 1) := by decide +kernel
theorem dL_law_321 : decode cL_law 321 = .ok (.iconst 1, 1) := by decide +kernel
theorem dL_law_322 : decode cL_law 322 = .ok (.iadd, 1) := by decide +kernel
theorem dL_law_323 : decode cL_law 323 = .ok (.iaload, 1) := by decide +kernel
theorem dL_law_324 : decode cL_law 324 = .ok (.aload_n 0, 1) := by decide +kernel
theorem dL_law_325 : decode cL_law 325 = .ok (.iload_n 3, 1) := by decide +kernel
theorem dL_law_326 : decode cL_law 326 = .ok (.iconst 2, 1) := by decide +kernel
theorem dL_law_327 : decode cL_law 327 = .ok (.iadd, 1) := by decide +kernel
theorem dL_law_328 : decode cL_law 328 = .ok (.iaload, 1) := by decide +kernel
theorem dL_law_329 : decode cL_law 329 = .ok (.invokevirtual 33, 3) := by decide +kernel
theorem dL_law_332 : decode cL_law 332 = .ok (.aload_n 2, 1) := by decide +kernel
theorem dL_law_333 : decode cL_law 333 = .ok (.aload_n 0, 1) := by decide +kernel
theorem dL_law_334 : decode cL_law 334 = .ok (.iload_n 3, 1) := by decide +kernel
theorem dL_law_335 : decode cL_law 335 = .ok (.iconst 1, 1) := by decide +kernel
theorem dL_law_336 : decode cL_law 336 = .ok (.iadd, 1) := by decide +kernel
theorem dL_law_337 : decode cL_law 337 = .ok (.iaload, 1) := by decide +kernel
theorem dL_law_338 : decode cL_law 338 = .ok (.aload_n 0, 1) := by decide +kernel
theorem dL_law_339 : decode cL_law 339 = .ok (.iload_n 3, 1) := by decide +kernel
theorem dL_law_340 : decode cL_law 340 = .ok (.iconst 2, 1) := by decide +kernel
theorem dL_law_341 : decode cL_law 341 = .ok (.iadd, 1) := by decide +kernel
theorem dL_law_342 : decode cL_law 342 = .ok (.iaload, 1) := by decide +kernel
theorem dL_law_343 : decode cL_law 343 = .ok (.invokevirtual 36, 3) := by decide +kernel
theorem dL_law_346 : decode cL_law 346 = .ok (.if_icmp .eq 913, 3) := by decide +kernel
theorem dL_law_349 : decode cL_law 349 = .ok (.iconst 0, 1) := by decide +kernel
theorem dL_law_350 : decode cL_law 350 = .ok (.ireturn, 1) := by decide +kernel
theorem dL_law_351 : decode cL_law 351 = .ok (.aload_n 1, 1) := by decide +kernel
theorem dL_law_352 : decode cL_law 352 = .ok (.aload_n 0, 1) := by decide +kernel
theorem dL_law_353 : decode cL_law 353 = .ok (.iload_n 3, 1) := by decide +kernel
theorem dL_law_354 : decode cL_law 354 = .ok (.iconst 1, 1) := by decide +kernel
theorem dL_law_355 : decode cL_law 355 = .ok (.iadd, 1) := by decide +kernel
theorem dL_law_356 : decode cL_law 356 = .ok (.iaload, 1) := by decide +kernel
theorem dL_law_357 : decode cL_law 357 = .ok (.aload_n 0, 1) := by decide +kernel
theorem dL_law_358 : decode cL_law 358 = .ok (.iload_n 3, 1) := by decide +kernel
theorem dL_law_359 : decode cL_law 359 = .ok (.iconst 2, 1) := by decide +kernel
theorem dL_law_360 : decode cL_law 360 = .ok (.iadd, 1) := by decide +kernel
theorem dL_law_361 : decode cL_law 361 = .ok (.iaload, 1) := by decide +kernel
theorem dL_law_362 : decode cL_law 362 = .ok (.aload_n 0, 1) := by decide +kernel
theorem dL_law_363 : decode cL_law 363 = .ok (.iload_n 3, 1) := by decide +kernel
theorem dL_law_364 : decode cL_law 364 = .ok (.iconst 3, 1) := by decide +kernel
theorem dL_law_365 : decode cL_law 365 = .ok (.iadd, 1) := by decide +kernel
theorem dL_law_366 : decode cL_law 366 = .ok (.iaload, 1) := by decide +kernel
theorem dL_law_367 : decode cL_law 367 = .ok (.invokevirtual 37, 3) := by decide +kernel
theorem dL_law_370 : decode cL_law 370 = .ok (.aload_n 2, 1) := by decide +kernel
theorem dL_law_371 : decode cL_law 371 = .ok (.aload_n 0, 1) := by decide +kernel
theorem dL_law_372 : decode cL_law 372 = .ok (.iload_n 3, 1) := by decide +kernel
theorem dL_law_373 : decode cL_law 373 = .ok (.iconst 1, 1) := by decide +kernel
theorem dL_law_374 : decode cL_law 374 = .ok (.iadd, 1) := by decide +kernel
theorem dL_law_375 : decode cL_law 375 = .ok (.iaload, 1) := by decide +kernel
theorem dL_law_376 : decode cL_law 376 = .ok (.aload_n 0, 1) := by decide +kernel
theorem dL_law_377 : decode cL_law 377 = .ok (.iload_n 3, 1) := by decide +kernel
theorem dL_law_378 : decode cL_law 378 = .ok (.iconst 2, 1) := by decide +kernel
theorem dL_law_379 : decode cL_law 379 = .ok (.iadd, 1) := by decide +kernel
theorem dL_law_380 : decode cL_law 380 = .ok (.iaload, 1) := by decide +kernel
theorem dL_law_381 : decode cL_law 381 = .ok (.aload_n 0, 1) := by decide +kernel
theorem dL_law_382 : decode cL_law 382 = .ok (.iload_n 3, 1) := by decide +kernel
theorem dL_law_383 : decode cL_law 383 = .ok (.iconst 3, 1) := by decide +kernel
theorem dL_law_384 : decode cL_law 384 = .ok (.iadd, 1) := by decide +kernel
theorem dL_law_385 : decode cL_law 385 = .ok (.iaload, 1) := by decide +kernel
theorem dL_law_386 : decode cL_law 386 = .ok (.invokevirtual 41, 3) := by decide +kernel
theorem dL_law_389 : decode cL_law 389 = .ok (.if_icmp .eq 870, 3) := by decide +kernel
theorem dL_law_392 : decode cL_law 392 = .ok (.iconst 0, 1) := by decide +kernel
theorem dL_law_393 : decode cL_law 393 = .ok (.ireturn, 1) := by decide +kernel
theorem dL_law_394 : decode cL_law 394 = .ok (.aload_n 1, 1) := by decide +kernel
theorem dL_law_395 : decode cL_law 395 = .ok (.aload_n 0, 1) := by decide +kernel
theorem dL_law_396 : decode cL_law 396 = .ok (.iload_n 3, 1) := by decide +kernel
theorem dL_law_397 : decode cL_law 397 = .ok (.iconst 1, 1) := by decide +kernel
theorem dL_law_398 : decode cL_law 398 = .ok (.iadd, 1) := by decide +kernel
theorem dL_law_399 : decode cL_law 399 = .ok (.iaload, 1) := by decide +kernel
theorem dL_law_400 : decode cL_law 400 = .ok (.aload_n 0, 1) := by decide +kernel
theorem dL_law_401 : decode cL_law 401 = .ok (.iload_n 3, 1) := by decide +kernel
theorem dL_law_402 : decode cL_law 402 = .ok (.iconst 2, 1) := by decide +kernel
theorem dL_law_403 : decode cL_law 403 = .ok (.iadd, 1) := by decide +kernel
theorem dL_law_404 : decode cL_law 404 = .ok (.iaload, 1) := by decide +kernel
theorem dL_law_405 : decode cL_law 405 = .ok (.invokevirtual 42, 3) := by decide +kernel
theorem dL_law_408 : decode cL_law 408 = .ok (.aload_n 2, 1) := by decide +kernel
theorem dL_law_409 : decode cL_law 409 = .ok (.aload_n 0, 1) := by decide +kernel
theorem dL_law_410 : decode cL_law 410 = .ok (.iload_n 3, 1) := by decide +kernel
theorem dL_law_411 : decode cL_law 411 = .ok (.iconst 1, 1) := by decide +kernel
theorem dL_law_412 : decode cL_law 412 = .ok (.iadd, 1) := by decide +kernel
theorem dL_law_413 : decode cL_law 413 = .ok (.iaload, 1) := by decide +kernel
theorem dL_law_414 : decode cL_law 414 = .ok (.aload_n 0, 1) := by decide +kernel
theorem dL_law_415 : decode cL_law 415 = .ok (.iload_n 3, 1) := by decide +kernel
theorem dL_law_416 : decode cL_law 416 = .ok (.iconst 2, 1) := by decide +kernel
theorem dL_law_417 : decode cL_law 417 = .ok (.iadd, 1) := by decide +kernel
theorem dL_law_418 : decode cL_law 418 = .ok (.iaload, 1) := by decide +kernel
theorem dL_law_419 : decode cL_law 419 = .ok (.invokevirtual 45, 3) := by decide +kernel
theorem dL_law_422 : decode cL_law 422 = .ok (.if_icmp .eq 837, 3) := by decide +kernel
theorem dL_law_425 : decode cL_law 425 = .ok (.iconst 0, 1) := by decide +kernel
theorem dL_law_426 : decode cL_law 426 = .ok (.ireturn, 1) := by decide +kernel
theorem dL_law_427 : decode cL_law 427 = .ok (.aload_n 1, 1) := by decide +kernel
theorem dL_law_428 : decode cL_law 428 = .ok (.aload_n 0, 1) := by decide +kernel
theorem dL_law_429 : decode cL_law 429 = .ok (.iload_n 3, 1) := by decide +kernel
theorem dL_law_430 : decode cL_law 430 = .ok (.iconst 1, 1) := by decide +kernel
theorem dL_law_431 : decode cL_law 431 = .ok (.iadd, 1) := by decide +kernel
theorem dL_law_432 : decode cL_law 432 = .ok (.iaload, 1) := by decide +kernel
theorem dL_law_433 : decode cL_law 433 = .ok (.aload_n 0, 1) := by decide +kernel
theorem dL_law_434 : decode cL_law 434 = .ok (.iload_n 3, 1) := by decide +kernel
theorem dL_law_435 : decode cL_law 435 = .ok (.iconst 2, 1) := by decide +kernel
theorem dL_law_436 : decode cL_law 436 = .ok (.iadd, 1) := by decide +kernel
theorem dL_law_437 : decode cL_law 437 = .ok (.iaload, 1) := by decide +kernel
theorem dL_law_438 : decode cL_law 438 = .ok (.invokevirtual 46, 3) := by decide +kernel
theorem dL_law_441 : decode cL_law 441 = .ok (.aload_n 2, 1) := by decide +kernel
theorem dL_law_442 : decode cL_law 442 = .ok (.aload_n 0, 1) := by decide +kernel
theorem dL_law_443 : decode cL_law 443 = .ok (.iload_n 3, 1) := by decide +kernel
theorem dL_law_444 : decode cL_law 444 = .ok (.iconst 1, 1) := by decide +kernel
theorem dL_law_445 : decode cL_law 445 = .ok (.iadd, 1) := by decide +kernel
theorem dL_law_446 : decode cL_law 446 = .ok (.iaload, 1) := by decide +kernel
theorem dL_law_447 : decode cL_law 447 = .ok (.aload_n 0, 1) := by decide +kernel
theorem dL_law_448 : decode cL_law 448 = .ok (.iload_n 3, 1) := by decide +kernel
theorem dL_law_449 : decode cL_law 449 = .ok (.iconst 2, 1) := by decide +kernel
theorem dL_law_450 : decode cL_law 450 = .ok (.iadd, 1) := by decide +kernel
theorem dL_law_451 : decode cL_law 451 = .ok (.iaload, 1) := by decide +kernel
theorem dL_law_452 : decode cL_law 452 = .ok (.invokevirtual 49, 3) := by decide +kernel
theorem dL_law_455 : decode cL_law 455 = .ok (.if_icmp .eq 804, 3) := by decide +kernel
theorem dL_law_458 : decode cL_law 458 = .ok (.iconst 0, 1) := by decide +kernel
theorem dL_law_459 : decode cL_law 459 = .ok (.ireturn, 1) := by decide +kernel
theorem dL_law_460 : decode cL_law 460 = .ok (.aload_n 1, 1) := by decide +kernel
theorem dL_law_461 : decode cL_law 461 = .ok (.aload_n 0, 1) := by decide +kernel
theorem dL_law_462 : decode cL_law 462 = .ok (.iload_n 3, 1) := by decide +kernel
theorem dL_law_463 : decode cL_law 463 = .ok (.iconst 1, 1) := by decide +kernel
theorem dL_law_464 : decode cL_law 464 = .ok (.iadd, 1) := by decide +kernel
theorem dL_law_465 : decode cL_law 465 = .ok (.iaload, 1) := by decide +kernel
theorem dL_law_466 : decode cL_law 466 = .ok (.invokevirtual 50, 3) := by decide +kernel
theorem dL_law_469 : decode cL_law 469 = .ok (.aload_n 2, 1) := by decide +kernel
theorem dL_law_470 : decode cL_law 470 = .ok (.aload_n 0, 1) := by decide +kernel
theorem dL_law_471 : decode cL_law 471 = .ok (.iload_n 3, 1) := by decide +kernel
theorem dL_law_472 : decode cL_law 472 = .ok (.iconst 1, 1) := by decide +kernel
theorem dL_law_473 : decode cL_law 473 = .ok (.iadd, 1) := by decide +kernel
theorem dL_law_474 : decode cL_law 474 = .ok (.iaload, 1) := by decide +kernel
theorem dL_law_475 : decode cL_law 475 = .ok (.invokevirtual 53, 3) := by decide +kernel
theorem dL_law_478 : decode cL_law 478 = .ok (.if_icmp .eq 781, 3) := by decide +kernel
theorem dL_law_481 : decode cL_law 481 = .ok (.iconst 0, 1) := by decide +kernel
theorem dL_law_482 : decode cL_law 482 = .ok (.ireturn, 1) := by decide +kernel
theorem dL_law_483 : decode cL_law 483 = .ok (.aload_n 1, 1) := by decide +kernel
theorem dL_law_484 : decode cL_law 484 = .ok (.aload_n 0, 1) := by decide +kernel
theorem dL_law_485 : decode cL_law 485 = .ok (.iload_n 3, 1) := by decide +kernel
theorem dL_law_486 : decode cL_law 486 = .ok (.iconst 1, 1) := by decide +kernel
theorem dL_law_487 : decode cL_law 487 = .ok (.iadd, 1) := by decide +kernel
theorem dL_law_488 : decode cL_law 488 = .ok (.iaload, 1) := by decide +kernel
theorem dL_law_489 : decode cL_law 489 = .ok (.aload_n 0, 1) := by decide +kernel
theorem dL_law_490 : decode cL_law 490 = .ok (.iload_n 3, 1) := by decide +kernel
theorem dL_law_491 : decode cL_law 491 = .ok (.iconst 2, 1) := by decide +kernel
theorem dL_law_492 : decode cL_law 492 = .ok (.iadd, 1) := by decide +kernel
theorem dL_law_493 : decode cL_law 493 = .ok (.iaload, 1) := by decide +kernel
theorem dL_law_494 : decode cL_law 494 = .ok (.invokevirtual 54, 3) := by decide +kernel
theorem dL_law_497 : decode cL_law 497 = .ok (.aload_n 2, 1) := by decide +kernel
theorem dL_law_498 : decode cL_law 498 = .ok (.aload_n 0, 1) := by decide +kernel
theorem dL_law_499 : decode cL_law 499 = .ok (.iload_n 3, 1) := by decide +kernel
theorem dL_law_500 : decode cL_law 500 = .ok (.iconst 1, 1) := by decide +kernel
theorem dL_law_501 : decode cL_law 501 = .ok (.iadd, 1) := by decide +kernel
theorem dL_law_502 : decode cL_law 502 = .ok (.iaload, 1) := by decide +kernel
theorem dL_law_503 : decode cL_law 503 = .ok (.aload_n 0, 1) := by decide +kernel
theorem dL_law_504 : decode cL_law 504 = .ok (.iload_n 3, 1) := by decide +kernel
theorem dL_law_505 : decode cL_law 505 = .ok (.iconst 2, 1) := by decide +kernel
theorem dL_law_506 : decode cL_law 506 = .ok (.iadd, 1) := by decide +kernel
theorem dL_law_507 : decode cL_law 507 = .ok (.iaload, 1) := by decide +kernel
theorem dL_law_508 : decode cL_law 508 = .ok (.invokevirtual 57, 3) := by decide +kernel
theorem dL_law_511 : decode cL_law 511 = .ok (.if_icmp .eq 748, 3) := by decide +kernel
theorem dL_law_514 : decode cL_law 514 = .ok (.iconst 0, 1) := by decide +kernel
theorem dL_law_515 : decode cL_law 515 = .ok (.ireturn, 1) := by decide +kernel
theorem dL_law_516 : decode cL_law 516 = .ok (.aload_n 1, 1) := by decide +kernel
theorem dL_law_517 : decode cL_law 517 = .ok (.aload_n 0, 1) := by decide +kernel
theorem dL_law_518 : decode cL_law 518 = .ok (.iload_n 3, 1) := by decide +kernel
theorem dL_law_519 : decode cL_law 519 = .ok (.iconst 1, 1) := by decide +kernel
theorem dL_law_520 : decode cL_law 520 = .ok (.iadd, 1) := by decide +kernel
theorem dL_law_521 : decode cL_law 521 = .ok (.iaload, 1) := by decide +kernel
theorem dL_law_522 : decode cL_law 522 = .ok (.invokevirtual 58, 3) := by decide +kernel
theorem dL_law_525 : decode cL_law 525 = .ok (.aload_n 2, 1) := by decide +kernel
theorem dL_law_526 : decode cL_law 526 = .ok (.aload_n 0, 1) := by decide +kernel
theorem dL_law_527 : decode cL_law 527 = .ok (.iload_n 3, 1) := by decide +kernel
theorem dL_law_528 : decode cL_law 528 = .ok (.iconst 1, 1) := by decide +kernel
theorem dL_law_529 : decode cL_law 529 = .ok (.iadd, 1) := by decide +kernel
theorem dL_law_530 : decode cL_law 530 = .ok (.iaload, 1) := by decide +kernel
theorem dL_law_531 : decode cL_law 531 = .ok (.invokevirtual 61, 3) := by decide +kernel
theorem dL_law_534 : decode cL_law 534 = .ok (.if_icmp .eq 725, 3) := by decide +kernel
theorem dL_law_537 : decode cL_law 537 = .ok (.iconst 0, 1) := by decide +kernel
theorem dL_law_538 : decode cL_law 538 = .ok (.ireturn, 1) := by decide +kernel
theorem dL_law_539 : decode cL_law 539 = .ok (.aload_n 1, 1) := by decide +kernel
theorem dL_law_540 : decode cL_law 540 = .ok (.aload_n 0, 1) := by decide +kernel
theorem dL_law_541 : decode cL_law 541 = .ok (.iload_n 3, 1) := by decide +kernel
theorem dL_law_542 : decode cL_law 542 = .ok (.iconst 1, 1) := by decide +kernel
theorem dL_law_543 : decode cL_law 543 = .ok (.iadd, 1) := by decide +kernel
theorem dL_law_544 : decode cL_law 544 = .ok (.iaload, 1) := by decide +kernel
theorem dL_law_545 : decode cL_law 545 = .ok (.invokevirtual 62, 3) := by decide +kernel
theorem dL_law_548 : decode cL_law 548 = .ok (.aload_n 2, 1) := by decide +kernel
theorem dL_law_549 : decode cL_law 549 = .ok (.aload_n 0, 1) := by decide +kernel
theorem dL_law_550 : decode cL_law 550 = .ok (.iload_n 3, 1) := by decide +kernel
theorem dL_law_551 : decode cL_law 551 = .ok (.iconst 1, 1) := by decide +kernel
theorem dL_law_552 : decode cL_law 552 = .ok (.iadd, 1) := by decide +kernel
theorem dL_law_553 : decode cL_law 553 = .ok (.iaload, 1) := by decide +kernel
theorem dL_law_554 : decode cL_law 554 = .ok (.invokevirtual 65, 3) := by decide +kernel
theorem dL_law_557 : decode cL_law 557 = .ok (.if_icmp .eq 702, 3) := by decide +kernel
theorem dL_law_560 : decode cL_law 560 = .ok (.iconst 0, 1) := by decide +kernel
theorem dL_law_561 : decode cL_law 561 = .ok (.ireturn, 1) := by decide +kernel
theorem dL_law_562 : decode cL_law 562 = .ok (.aload_n 1, 1) := by decide +kernel
theorem dL_law_563 : decode cL_law 563 = .ok (.aload_n 0, 1) := by decide +kernel
theorem dL_law_564 : decode cL_law 564 = .ok (.iload_n 3, 1) := by decide +kernel
theorem dL_law_565 : decode cL_law 565 = .ok (.iconst 1, 1) := by decide +kernel
theorem dL_law_566 : decode cL_law 566 = .ok (.iadd, 1) := by decide +kernel
theorem dL_law_567 : decode cL_law 567 = .ok (.iaload, 1) := by decide +kernel
theorem dL_law_568 : decode cL_law 568 = .ok (.aload_n 0, 1) := by decide +kernel
theorem dL_law_569 : decode cL_law 569 = .ok (.iload_n 3, 1) := by decide +kernel
theorem dL_law_570 : decode cL_law 570 = .ok (.iconst 2, 1) := by decide +kernel
theorem dL_law_571 : decode cL_law 571 = .ok (.iadd, 1) := by decide +kernel
theorem dL_law_572 : decode cL_law 572 = .ok (.iaload, 1) := by decide +kernel
theorem dL_law_573 : decode cL_law 573 = .ok (.invokevirtual 66, 3) := by decide +kernel
theorem dL_law_576 : decode cL_law 576 = .ok (.aload_n 2, 1) := by decide +kernel
theorem dL_law_577 : decode cL_law 577 = .ok (.aload_n 0, 1) := by decide +kernel
theorem dL_law_578 : decode cL_law 578 = .ok (.iload_n 3, 1) := by decide +kernel
theorem dL_law_579 : decode cL_law 579 = .ok (.iconst 1, 1) := by decide +kernel
theorem dL_law_580 : decode cL_law 580 = .ok (.iadd, 1) := by decide +kernel
theorem dL_law_581 : decode cL_law 581 = .ok (.iaload, 1) := by decide +kernel
theorem dL_law_582 : decode cL_law 582 = .ok (.aload_n 0, 1) := by decide +kernel
theorem dL_law_583 : decode cL_law 583 = .ok (.iload_n 3, 1) := by decide +kernel
theorem dL_law_584 : decode cL_law 584 = .ok (.iconst 2, 1) := by decide +kernel
theorem dL_law_585 : decode cL_law 585 = .ok (.iadd, 1) := by decide +kernel
theorem dL_law_586 : decode cL_law 586 = .ok (.iaload, 1) := by decide +kernel
theorem dL_law_587 : decode cL_law 587 = .ok (.invokevirtual 69, 3) := by decide +kernel
theorem dL_law_590 : decode cL_law 590 = .ok (.if_icmp .eq 669, 3) := by decide +kernel
theorem dL_law_593 : decode cL_law 593 = .ok (.iconst 0, 1) := by decide +kernel
theorem dL_law_594 : decode cL_law 594 = .ok (.ireturn, 1) := by decide +kernel
theorem dL_law_595 : decode cL_law 595 = .ok (.aload_n 1, 1) := by decide +kernel
theorem dL_law_596 : decode cL_law 596 = .ok (.aload_n 0, 1) := by decide +kernel
theorem dL_law_597 : decode cL_law 597 = .ok (.iload_n 3, 1) := by decide +kernel
theorem dL_law_598 : decode cL_law 598 = .ok (.iconst 1, 1) := by decide +kernel
theorem dL_law_599 : decode cL_law 599 = .ok (.iadd, 1) := by decide +kernel
theorem dL_law_600 : decode cL_law 600 = .ok (.iaload, 1) := by decide +kernel
theorem dL_law_601 : decode cL_law 601 = .ok (.invokevirtual 70, 3) := by decide +kernel
theorem dL_law_604 : decode cL_law 604 = .ok (.aload_n 2, 1) := by decide +kernel
theorem dL_law_605 : decode cL_law 605 = .ok (.aload_n 0, 1) := by decide +kernel
theorem dL_law_606 : decode cL_law 606 = .ok (.iload_n 3, 1) := by decide +kernel
theorem dL_law_607 : decode cL_law 607 = .ok (.iconst 1, 1) := by decide +kernel
theorem dL_law_608 : decode cL_law 608 = .ok (.iadd, 1) := by decide +kernel
theorem dL_law_609 : decode cL_law 609 = .ok (.iaload, 1) := by decide +kernel
theorem dL_law_610 : decode cL_law 610 = .ok (.invokevirtual 73, 3) := by decide +kernel
theorem dL_law_613 : decode cL_law 613 = .ok (.if_icmp .eq 646, 3) := by decide +kernel
theorem dL_law_616 : decode cL_law 616 = .ok (.iconst 0, 1) := by decide +kernel
theorem dL_law_617 : decode cL_law 617 = .ok (.ireturn, 1) := by decide +kernel
theorem dL_law_618 : decode cL_law 618 = .ok (.aload_n 1, 1) := by decide +kernel
theorem dL_law_619 : decode cL_law 619 = .ok (.aload_n 0, 1) := by decide +kernel
theorem dL_law_620 : decode cL_law 620 = .ok (.iload_n 3, 1) := by decide +kernel
theorem dL_law_621 : decode cL_law 621 = .ok (.iconst 1, 1) := by decide +kernel
theorem dL_law_622 : decode cL_law 622 = .ok (.iadd, 1) := by decide +kernel
theorem dL_law_623 : decode cL_law 623 = .ok (.iaload, 1) := by decide +kernel
theorem dL_law_624 : decode cL_law 624 = .ok (.invokevirtual 74, 3) := by decide +kernel
theorem dL_law_627 : decode cL_law 627 = .ok (.aload_n 2, 1) := by decide +kernel
theorem dL_law_628 : decode cL_law 628 = .ok (.aload_n 0, 1) := by decide +kernel
theorem dL_law_629 : decode cL_law 629 = .ok (.iload_n 3, 1) := by decide +kernel
theorem dL_law_630 : decode cL_law 630 = .ok (.iconst 1, 1) := by decide +kernel
theorem dL_law_631 : decode cL_law 631 = .ok (.iadd, 1) := by decide +kernel
theorem dL_law_632 : decode cL_law 632 = .ok (.iaload, 1) := by decide +kernel
theorem dL_law_633 : decode cL_law 633 = .ok (.invokevirtual 77, 3) := by decide +kernel
theorem dL_law_636 : decode cL_law 636 = .ok (.if_icmp .eq 623, 3) := by decide +kernel
theorem dL_law_639 : decode cL_law 639 = .ok (.iconst 0, 1) := by decide +kernel
theorem dL_law_640 : decode cL_law 640 = .ok (.ireturn, 1) := by decide +kernel
theorem dL_law_641 : decode cL_law 641 = .ok (.aload_n 1, 1) := by decide +kernel
theorem dL_law_642 : decode cL_law 642 = .ok (.aload_n 0, 1) := by decide +kernel
theorem dL_law_643 : decode cL_law 643 = .ok (.iload_n 3, 1) := by decide +kernel
theorem dL_law_644 : decode cL_law 644 = .ok (.iconst 1, 1) := by decide +kernel
theorem dL_law_645 : decode cL_law 645 = .ok (.iadd, 1) := by decide +kernel
theorem dL_law_646 : decode cL_law 646 = .ok (.iaload, 1) := by decide +kernel
theorem dL_law_647 : decode cL_law 647 = .ok (.aload_n 0, 1) := by decide +kernel
theorem dL_law_648 : decode cL_law 648 = .ok (.iload_n 3, 1) := by decide +kernel
theorem dL_law_649 : decode cL_law 649 = .ok (.iconst 2, 1) := by decide +kernel
theorem dL_law_650 : decode cL_law 650 = .ok (.iadd, 1) := by decide +kernel
theorem dL_law_651 : decode cL_law 651 = .ok (.iaload, 1) := by decide +kernel
theorem dL_law_652 : decode cL_law 652 = .ok (.invokevirtual 78, 3) := by decide +kernel
theorem dL_law_655 : decode cL_law 655 = .ok (.aload_n 2, 1) := by decide +kernel
theorem dL_law_656 : decode cL_law 656 = .ok (.aload_n 0, 1) := by decide +kernel
theorem dL_law_657 : decode cL_law 657 = .ok (.iload_n 3, 1) := by decide +kernel
theorem dL_law_658 : decode cL_law 658 = .ok (.iconst 1, 1) := by decide +kernel
theorem dL_law_659 : decode cL_law 659 = .ok (.iadd, 1) := by decide +kernel
theorem dL_law_660 : decode cL_law 660 = .ok (.iaload, 1) := by decide +kernel
theorem dL_law_661 : decode cL_law 661 = .ok (.aload_n 0, 1) := by decide +kernel
theorem dL_law_662 : decode cL_law 662 = .ok (.iload_n 3, 1) := by decide +kernel
theorem dL_law_663 : decode cL_law 663 = .ok (.iconst 2, 1) := by decide +kernel
theorem dL_law_664 : decode cL_law 664 = .ok (.iadd, 1) := by decide +kernel
theorem dL_law_665 : decode cL_law 665 = .ok (.iaload, 1) := by decide +kernel
theorem dL_law_666 : decode cL_law 666 = .ok (.invokevirtual 81, 3) := by decide +kernel
theorem dL_law_669 : decode cL_law 669 = .ok (.if_icmp .eq 590, 3) := by decide +kernel
theorem dL_law_672 : decode cL_law 672 = .ok (.iconst 0, 1) := by decide +kernel
theorem dL_law_673 : decode cL_law 673 = .ok (.ireturn, 1) := by decide +kernel
theorem dL_law_674 : decode cL_law 674 = .ok (.aload_n 1, 1) := by decide +kernel
theorem dL_law_675 : decode cL_law 675 = .ok (.invokevirtual 82, 3) := by decide +kernel
theorem dL_law_678 : decode cL_law 678 = .ok (.aload_n 2, 1) := by decide +kernel
theorem dL_law_679 : decode cL_law 679 = .ok (.invokevirtual 85, 3) := by decide +kernel
theorem dL_law_682 : decode cL_law 682 = .ok (.if_icmp .eq 577, 3) := by decide +kernel
theorem dL_law_685 : decode cL_law 685 = .ok (.iconst 0, 1) := by decide +kernel
theorem dL_law_686 : decode cL_law 686 = .ok (.ireturn, 1) := by decide +kernel
theorem dL_law_687 : decode cL_law 687 = .ok (.aload_n 1, 1) := by decide +kernel
theorem dL_law_688 : decode cL_law 688 = .ok (.aload_n 0, 1) := by decide +kernel
theorem dL_law_689 : decode cL_law 689 = .ok (.iload_n 3, 1) := by decide +kernel
theorem dL_law_690 : decode cL_law 690 = .ok (.iconst 1, 1) := by decide +kernel
theorem dL_law_691 : decode cL_law 691 = .ok (.iadd, 1) := by decide +kernel
theorem dL_law_692 : decode cL_law 692 = .ok (.iaload, 1) := by decide +kernel
theorem dL_law_693 : decode cL_law 693 = .ok (.aload_n 0, 1) := by decide +kernel
theorem dL_law_694 : decode cL_law 694 = .ok (.iload_n 3, 1) := by decide +kernel
theorem dL_law_695 : decode cL_law 695 = .ok (.iconst 2, 1) := by decide +kernel
theorem dL_law_696 : decode cL_law 696 = .ok (.iadd, 1) := by decide +kernel
theorem dL_law_697 : decode cL_law 697 = .ok (.iaload, 1) := by decide +kernel
theorem dL_law_698 : decode cL_law 698 = .ok (.aload_n 0, 1) := by decide +kernel
theorem dL_law_699 : decode cL_law 699 = .ok (.iload_n 3, 1) := by decide +kernel
theorem dL_law_700 : decode cL_law 700 = .ok (.iconst 3, 1) := by decide +kernel
theorem dL_law_701 : decode cL_law 701 = .ok (.iadd, 1) := by decide +kernel
theorem dL_law_702 : decode cL_law 702 = .ok (.iaload, 1) := by decide +kernel
theorem dL_law_703 : decode cL_law 703 = .ok (.invokevirtual 86, 3) := by decide +kernel
theorem dL_law_706 : decode cL_law 706 = .ok (.aload_n 2, 1) := by decide +kernel
theorem dL_law_707 : decode cL_law 707 = .ok (.aload_n 0, 1) := by decide +kernel
theorem dL_law_708 : decode cL_law 708 = .ok (.iload_n 3, 1) := by decide +kernel
theorem dL_law_709 : decode cL_law 709 = .ok (.iconst 1, 1) := by decide +kernel
theorem dL_law_710 : decode cL_law 710 = .ok (.iadd, 1) := by decide +kernel
theorem dL_law_711 : decode cL_law 711 = .ok (.iaload, 1) := by decide +kernel
theorem dL_law_712 : decode cL_law 712 = .ok (.aload_n 0, 1) := by decide +kernel
theorem dL_law_713 : decode cL_law 713 = .ok (.iload_n 3, 1) := by decide +kernel
theorem dL_law_714 : decode cL_law 714 = .ok (.iconst 2, 1) := by decide +kernel
theorem dL_law_715 : decode cL_law 715 = .ok (.iadd, 1) := by decide +kernel
theorem dL_law_716 : decode cL_law 716 = .ok (.iaload, 1) := by decide +kernel
theorem dL_law_717 : decode cL_law 717 = .ok (.aload_n 0, 1) := by decide +kernel
theorem dL_law_718 : decode cL_law 718 = .ok (.iload_n 3, 1) := by decide +kernel
theorem dL_law_719 : decode cL_law 719 = .ok (.iconst 3, 1) := by decide +kernel
theorem dL_law_720 : decode cL_law 720 = .ok (.iadd, 1) := by decide +kernel
theorem dL_law_721 : decode cL_law 721 = .ok (.iaload, 1) := by decide +kernel
theorem dL_law_722 : decode cL_law 722 = .ok (.invokevirtual 89, 3) := by decide +kernel
theorem dL_law_725 : decode cL_law 725 = .ok (.if_icmp .eq 534, 3) := by decide +kernel
theorem dL_law_728 : decode cL_law 728 = .ok (.iconst 0, 1) := by decide +kernel
theorem dL_law_729 : decode cL_law 729 = .ok (.ireturn, 1) := by decide +kernel
theorem dL_law_730 : decode cL_law 730 = .ok (.aload_n 1, 1) := by decide +kernel
theorem dL_law_731 : decode cL_law 731 = .ok (.aload_n 0, 1) := by decide +kernel
theorem dL_law_732 : decode cL_law 732 = .ok (.iload_n 3, 1) := by decide +kernel
theorem dL_law_733 : decode cL_law 733 = .ok (.iconst 1, 1) := by decide +kernel
theorem dL_law_734 : decode cL_law 734 = .ok (.iadd, 1) := by decide +kernel
theorem dL_law_735 : decode cL_law 735 = .ok (.iaload, 1) := by decide +kernel
theorem dL_law_736 : decode cL_law 736 = .ok (.aload_n 0, 1) := by decide +kernel
theorem dL_law_737 : decode cL_law 737 = .ok (.iload_n 3, 1) := by decide +kernel
theorem dL_law_738 : decode cL_law 738 = .ok (.iconst 2, 1) := by decide +kernel
theorem dL_law_739 : decode cL_law 739 = .ok (.iadd, 1) := by decide +kernel
theorem dL_law_740 : decode cL_law 740 = .ok (.iaload, 1) := by decide +kernel
theorem dL_law_741 : decode cL_law 741 = .ok (.invokevirtual 90, 3) := by decide +kernel
theorem dL_law_744 : decode cL_law 744 = .ok (.aload_n 2, 1) := by decide +kernel
theorem dL_law_745 : decode cL_law 745 = .ok (.aload_n 0, 1) := by decide +kernel
theorem dL_law_746 : decode cL_law 746 = .ok (.iload_n 3, 1) := by decide +kernel
theorem dL_law_747 : decode cL_law 747 = .ok (.iconst 1, 1) := by decide +kernel
theorem dL_law_748 : decode cL_law 748 = .ok (.iadd, 1) := by decide +kernel
theorem dL_law_749 : decode cL_law 749 = .ok (.iaload, 1) := by decide +kernel
theorem dL_law_750 : decode cL_law 750 = .ok (.aload_n 0, 1) := by decide +kernel
theorem dL_law_751 : decode cL_law 751 = .ok (.iload_n 3, 1) := by decide +kernel
theorem dL_law_752 : decode cL_law 752 = .ok (.iconst 2, 1) := by decide +kernel
theorem dL_law_753 : decode cL_law 753 = .ok (.iadd, 1) := by decide +kernel
theorem dL_law_754 : decode cL_law 754 = .ok (.iaload, 1) := by decide +kernel
theorem dL_law_755 : decode cL_law 755 = .ok (.invokevirtual 93, 3) := by decide +kernel
theorem dL_law_758 : decode cL_law 758 = .ok (.if_icmp .eq 501, 3) := by decide +kernel
theorem dL_law_761 : decode cL_law 761 = .ok (.iconst 0, 1) := by decide +kernel
theorem dL_law_762 : decode cL_law 762 = .ok (.ireturn, 1) := by decide +kernel
theorem dL_law_763 : decode cL_law 763 = .ok (.aload_n 1, 1) := by decide +kernel
theorem dL_law_764 : decode cL_law 764 = .ok (.aload_n 0, 1) := by decide +kernel
theorem dL_law_765 : decode cL_law 765 = .ok (.iload_n 3, 1) := by decide +kernel
theorem dL_law_766 : decode cL_law 766 = .ok (.iconst 1, 1) := by decide +kernel
theorem dL_law_767 : decode cL_law 767 = .ok (.iadd, 1) := by decide +kernel
theorem dL_law_768 : decode cL_law 768 = .ok (.iaload, 1) := by decide +kernel
theorem dL_law_769 : decode cL_law 769 = .ok (.invokevirtual 94, 3) := by decide +kernel
theorem dL_law_772 : decode cL_law 772 = .ok (.aload_n 2, 1) := by decide +kernel
theorem dL_law_773 : decode cL_law 773 = .ok (.aload_n 0, 1) := by decide +kernel
theorem dL_law_774 : decode cL_law 774 = .ok (.iload_n 3, 1) := by decide +kernel
theorem dL_law_775 : decode cL_law 775 = .ok (.iconst 1, 1) := by decide +kernel
theorem dL_law_776 : decode cL_law 776 = .ok (.iadd, 1) := by decide +kernel
theorem dL_law_777 : decode cL_law 777 = .ok (.iaload, 1) := by decide +kernel
theorem dL_law_778 : decode cL_law 778 = .ok (.invokevirtual 97, 3) := by decide +kernel
theorem dL_law_781 : decode cL_law 781 = .ok (.if_icmp .eq 478, 3) := by decide +kernel
theorem dL_law_784 : decode cL_law 784 = .ok (.iconst 0, 1) := by decide +kernel
theorem dL_law_785 : decode cL_law 785 = .ok (.ireturn, 1) := by decide +kernel
theorem dL_law_786 : decode cL_law 786 = .ok (.aload_n 1, 1) := by decide +kernel
theorem dL_law_787 : decode cL_law 787 = .ok (.aload_n 0, 1) := by decide +kernel
theorem dL_law_788 : decode cL_law 788 = .ok (.iload_n 3, 1) := by decide +kernel
theorem dL_law_789 : decode cL_law 789 = .ok (.iconst 1, 1) := by decide +kernel
theorem dL_law_790 : decode cL_law 790 = .ok (.iadd, 1) := by decide +kernel
theorem dL_law_791 : decode cL_law 791 = .ok (.iaload, 1) := by decide +kernel
theorem dL_law_792 : decode cL_law 792 = .ok (.invokevirtual 98, 3) := by decide +kernel
theorem dL_law_795 : decode cL_law 795 = .ok (.aload_n 2, 1) := by decide +kernel
theorem dL_law_796 : decode cL_law 796 = .ok (.aload_n 0, 1) := by decide +kernel
theorem dL_law_797 : decode cL_law 797 = .ok (.iload_n 3, 1) := by decide +kernel
theorem dL_law_798 : decode cL_law 798 = .ok (.iconst 1, 1) := by decide +kernel
theorem dL_law_799 : decode cL_law 799 = .ok (.iadd, 1) := by decide +kernel
theorem dL_law_800 : decode cL_law 800 = .ok (.iaload, 1) := by decide +kernel
theorem dL_law_801 : decode cL_law 801 = .ok (.invokevirtual 101, 3) := by decide +kernel
theorem dL_law_804 : decode cL_law 804 = .ok (.if_icmp .eq 455, 3) := by decide +kernel
theorem dL_law_807 : decode cL_law 807 = .ok (.iconst 0, 1) := by decide +kernel
theorem dL_law_808 : decode cL_law 808 = .ok (.ireturn, 1) := by decide +kernel
theorem dL_law_809 : decode cL_law 809 = .ok (.aload_n 1, 1) := by decide +kernel
theorem dL_law_810 : decode cL_law 810 = .ok (.aload_n 0, 1) := by decide +kernel
theorem dL_law_811 : decode cL_law 811 = .ok (.iload_n 3, 1) := by decide +kernel
theorem dL_law_812 : decode cL_law 812 = .ok (.iconst 1, 1) := by decide +kernel
theorem dL_law_813 : decode cL_law 813 = .ok (.iadd, 1) := by decide +kernel
theorem dL_law_814 : decode cL_law 814 = .ok (.iaload, 1) := by decide +kernel
theorem dL_law_815 : decode cL_law 815 = .ok (.aload_n 0, 1) := by decide +kernel
theorem dL_law_816 : decode cL_law 816 = .ok (.iload_n 3, 1) := by decide +kernel
theorem dL_law_817 : decode cL_law 817 = .ok (.iconst 2, 1) := by decide +kernel
theorem dL_law_818 : decode cL_law 818 = .ok (.iadd, 1) := by decide +kernel
theorem dL_law_819 : decode cL_law 819 = .ok (.iaload, 1) := by decide +kernel
theorem dL_law_820 : decode cL_law 820 = .ok (.invokevirtual 102, 3) := by decide +kernel
theorem dL_law_823 : decode cL_law 823 = .ok (.aload_n 2, 1) := by decide +kernel
theorem dL_law_824 : decode cL_law 824 = .ok (.aload_n 0, 1) := by decide +kernel
theorem dL_law_825 : decode cL_law 825 = .ok (.iload_n 3, 1) := by decide +kernel
theorem dL_law_826 : decode cL_law 826 = .ok (.iconst 1, 1) := by decide +kernel
theorem dL_law_827 : decode cL_law 827 = .ok (.iadd, 1) := by decide +kernel
theorem dL_law_828 : decode cL_law 828 = .ok (.iaload, 1) := by decide +kernel
theorem dL_law_829 : decode cL_law 829 = .ok (.aload_n 0, 1) := by decide +kernel
theorem dL_law_830 : decode cL_law 830 = .ok (.iload_n 3, 1) := by decide +kernel
theorem dL_law_831 : decode cL_law 831 = .ok (.iconst 2, 1) := by decide +kernel
theorem dL_law_832 : decode cL_law 832 = .ok (.iadd, 1) := by decide +kernel
theorem dL_law_833 : decode cL_law 833 = .ok (.iaload, 1) := by decide +kernel
theorem dL_law_834 : decode cL_law 834 = .ok (.invokevirtual 105, 3) := by decide +kernel
theorem dL_law_837 : decode cL_law 837 = .ok (.if_icmp .eq 422, 3) := by decide +kernel
theorem dL_law_840 : decode cL_law 840 = .ok (.iconst 0, 1) := by decide +kernel
theorem dL_law_841 : decode cL_law 841 = .ok (.ireturn, 1) := by decide +kernel
theorem dL_law_842 : decode cL_law 842 = .ok (.aload_n 1, 1) := by decide +kernel
theorem dL_law_843 : decode cL_law 843 = .ok (.aload_n 0, 1) := by decide +kernel
theorem dL_law_844 : decode cL_law 844 = .ok (.iload_n 3, 1) := by decide +kernel
theorem dL_law_845 : decode cL_law 845 = .ok (.iconst 1, 1) := by decide +kernel
theorem dL_law_846 : decode cL_law 846 = .ok (.iadd, 1) := by decide +kernel
theorem dL_law_847 : decode cL_law 847 = .ok (.iaload, 1) := by decide +kernel
theorem dL_law_848 : decode cL_law 848 = .ok (.invokevirtual 106, 3) := by decide +kernel
theorem dL_law_851 : decode cL_law 851 = .ok (.aload_n 2, 1) := by decide +kernel
theorem dL_law_852 : decode cL_law 852 = .ok (.aload_n 0, 1) := by decide +kernel
theorem dL_law_853 : decode cL_law 853 = .ok (.iload_n 3, 1) := by decide +kernel
theorem dL_law_854 : decode cL_law 854 = .ok (.iconst 1, 1) := by decide +kernel
theorem dL_law_855 : decode cL_law 855 = .ok (.iadd, 1) := by decide +kernel
theorem dL_law_856 : decode cL_law 856 = .ok (.iaload, 1) := by decide +kernel
theorem dL_law_857 : decode cL_law 857 = .ok (.invokevirtual 109, 3) := by decide +kernel
theorem dL_law_860 : decode cL_law 860 = .ok (.if_icmp .eq 399, 3) := by decide +kernel
theorem dL_law_863 : decode cL_law 863 = .ok (.iconst 0, 1) := by decide +kernel
theorem dL_law_864 : decode cL_law 864 = .ok (.ireturn, 1) := by decide +kernel
theorem dL_law_865 : decode cL_law 865 = .ok (.aload_n 1, 1) := by decide +kernel
theorem dL_law_866 : decode cL_law 866 = .ok (.aload_n 0, 1) := by decide +kernel
theorem dL_law_867 : decode cL_law 867 = .ok (.iload_n 3, 1) := by decide +kernel
theorem dL_law_868 : decode cL_law 868 = .ok (.iconst 1, 1) := by decide +kernel
theorem dL_law_869 : decode cL_law 869 = .ok (.iadd, 1) := by decide +kernel
theorem dL_law_870 : decode cL_law 870 = .ok (.iaload, 1) := by decide +kernel
theorem dL_law_871 : decode cL_law 871 = .ok (.aload_n 0, 1) := by decide +kernel
theorem dL_law_872 : decode cL_law 872 = .ok (.iload_n 3, 1) := by decide +kernel
theorem dL_law_873 : decode cL_law 873 = .ok (.iconst 2, 1) := by decide +kernel
theorem dL_law_874 : decode cL_law 874 = .ok (.iadd, 1) := by decide +kernel
theorem dL_law_875 : decode cL_law 875 = .ok (.iaload, 1) := by decide +kernel
theorem dL_law_876 : decode cL_law 876 = .ok (.invokevirtual 110, 3) := by decide +kernel
theorem dL_law_879 : decode cL_law 879 = .ok (.aload_n 2, 1) := by decide +kernel
theorem dL_law_880 : decode cL_law 880 = .ok (.aload_n 0, 1) := by decide +kernel
theorem dL_law_881 : decode cL_law 881 = .ok (.iload_n 3, 1) := by decide +kernel
theorem dL_law_882 : decode cL_law 882 = .ok (.iconst 1, 1) := by decide +kernel
theorem dL_law_883 : decode cL_law 883 = .ok (.iadd, 1) := by decide +kernel
theorem dL_law_884 : decode cL_law 884 = .ok (.iaload, 1) := by decide +kernel
theorem dL_law_885 : decode cL_law 885 = .ok (.aload_n 0, 1) := by decide +kernel
theorem dL_law_886 : decode cL_law 886 = .ok (.iload_n 3, 1) := by decide +kernel
theorem dL_law_887 : decode cL_law 887 = .ok (.iconst 2, 1) := by decide +kernel
theorem dL_law_888 : decode cL_law 888 = .ok (.iadd, 1) := by decide +kernel
theorem dL_law_889 : decode cL_law 889 = .ok (.iaload, 1) := by decide +kernel
theorem dL_law_890 : decode cL_law 890 = .ok (.invokevirtual 113, 3) := by decide +kernel
theorem dL_law_893 : decode cL_law 893 = .ok (.if_icmp .eq 366, 3) := by decide +kernel
theorem dL_law_896 : decode cL_law 896 = .ok (.iconst 0, 1) := by decide +kernel
theorem dL_law_897 : decode cL_law 897 = .ok (.ireturn, 1) := by decide +kernel
theorem dL_law_898 : decode cL_law 898 = .ok (.aload_n 1, 1) := by decide +kernel
theorem dL_law_899 : decode cL_law 899 = .ok (.aload_n 0, 1) := by decide +kernel
theorem dL_law_900 : decode cL_law 900 = .ok (.iload_n 3, 1) := by decide +kernel
theorem dL_law_901 : decode cL_law 901 = .ok (.iconst 1, 1) := by decide +kernel
theorem dL_law_902 : decode cL_law 902 = .ok (.iadd, 1) := by decide +kernel
theorem dL_law_903 : decode cL_law 903 = .ok (.iaload, 1) := by decide +kernel
theorem dL_law_904 : decode cL_law 904 = .ok (.aload_n 0, 1) := by decide +kernel
theorem dL_law_905 : decode cL_law 905 = .ok (.iload_n 3, 1) := by decide +kernel
theorem dL_law_906 : decode cL_law 906 = .ok (.iconst 2, 1) := by decide +kernel
theorem dL_law_907 : decode cL_law 907 = .ok (.iadd, 1) := by decide +kernel
theorem dL_law_908 : decode cL_law 908 = .ok (.iaload, 1) := by decide +kernel
theorem dL_law_909 : decode cL_law 909 = .ok (.invokevirtual 114, 3) := by decide +kernel
theorem dL_law_912 : decode cL_law 912 = .ok (.aload_n 2, 1) := by decide +kernel
theorem dL_law_913 : decode cL_law 913 = .ok (.aload_n 0, 1) := by decide +kernel
theorem dL_law_914 : decode cL_law 914 = .ok (.iload_n 3, 1) := by decide +kernel
theorem dL_law_915 : decode cL_law 915 = .ok (.iconst 1, 1) := by decide +kernel
theorem dL_law_916 : decode cL_law 916 = .ok (.iadd, 1) := by decide +kernel
theorem dL_law_917 : decode cL_law 917 = .ok (.iaload, 1) := by decide +kernel
theorem dL_law_918 : decode cL_law 918 = .ok (.aload_n 0, 1) := by decide +kernel
theorem dL_law_919 : decode cL_law 919 = .ok (.iload_n 3, 1) := by decide +kernel
theorem dL_law_920 : decode cL_law 920 = .ok (.iconst 2, 1) := by decide +kernel
theorem dL_law_921 : decode cL_law 921 = .ok (.iadd, 1) := by decide +kernel
theorem dL_law_922 : decode cL_law 922 = .ok (.iaload, 1) := by decide +kernel
theorem dL_law_923 : decode cL_law 923 = .ok (.invokevirtual 117, 3) := by decide +kernel
theorem dL_law_926 : decode cL_law 926 = .ok (.if_icmp .eq 333, 3) := by decide +kernel
theorem dL_law_929 : decode cL_law 929 = .ok (.iconst 0, 1) := by decide +kernel
theorem dL_law_930 : decode cL_law 930 = .ok (.ireturn, 1) := by decide +kernel
theorem dL_law_931 : decode cL_law 931 = .ok (.aload_n 1, 1) := by decide +kernel
theorem dL_law_932 : decode cL_law 932 = .ok (.aload_n 0, 1) := by decide +kernel
theorem dL_law_933 : decode cL_law 933 = .ok (.iload_n 3, 1) := by decide +kernel
theorem dL_law_934 : decode cL_law 934 = .ok (.iconst 1, 1) := by decide +kernel
theorem dL_law_935 : decode cL_law 935 = .ok (.iadd, 1) := by decide +kernel
theorem dL_law_936 : decode cL_law 936 = .ok (.iaload, 1) := by decide +kernel
theorem dL_law_937 : decode cL_law 937 = .ok (.aload_n 0, 1) := by decide +kernel
theorem dL_law_938 : decode cL_law 938 = .ok (.iload_n 3, 1) := by decide +kernel
theorem dL_law_939 : decode cL_law 939 = .ok (.iconst 2, 1) := by decide +kernel
theorem dL_law_940 : decode cL_law 940 = .ok (.iadd, 1) := by decide +kernel
theorem dL_law_941 : decode cL_law 941 = .ok (.iaload, 1) := by decide +kernel
theorem dL_law_942 : decode cL_law 942 = .ok (.aload_n 0, 1) := by decide +kernel
theorem dL_law_943 : decode cL_law 943 = .ok (.iload_n 3, 1) := by decide +kernel
theorem dL_law_944 : decode cL_law 944 = .ok (.iconst 3, 1) := by decide +kernel
theorem dL_law_945 : decode cL_law 945 = .ok (.iadd, 1) := by decide +kernel
theorem dL_law_946 : decode cL_law 946 = .ok (.iaload, 1) := by decide +kernel
theorem dL_law_947 : decode cL_law 947 = .ok (.invokevirtual 118, 3) := by decide +kernel
theorem dL_law_950 : decode cL_law 950 = .ok (.aload_n 2, 1) := by decide +kernel
theorem dL_law_951 : decode cL_law 951 = .ok (.aload_n 0, 1) := by decide +kernel
theorem dL_law_952 : decode cL_law 952 = .ok (.iload_n 3, 1) := by decide +kernel
theorem dL_law_953 : decode cL_law 953 = .ok (.iconst 1, 1) := by decide +kernel
theorem dL_law_954 : decode cL_law 954 = .ok (.iadd, 1) := by decide +kernel
theorem dL_law_955 : decode cL_law 955 = .ok (.iaload, 1) := by decide +kernel
theorem dL_law_956 : decode cL_law 956 = .ok (.aload_n 0, 1) := by decide +kernel
theorem dL_law_957 : decode cL_law 957 = .ok (.iload_n 3, 1) := by decide +kernel
theorem dL_law_958 : decode cL_law 958 = .ok (.iconst 2, 1) := by decide +kernel
theorem dL_law_959 : decode cL_law 959 = .ok (.iadd, 1) := by decide +kernel
theorem dL_law_960 : decode cL_law 960 = .ok (.iaload, 1) := by decide +kernel
theorem dL_law_961 : decode cL_law 961 = .ok (.aload_n 0, 1) := by decide +kernel
theorem dL_law_962 : decode cL_law 962 = .ok (.iload_n 3, 1) := by decide +kernel
theorem dL_law_963 : decode cL_law 963 = .ok (.iconst 3, 1) := by decide +kernel
theorem dL_law_964 : decode cL_law 964 = .ok (.iadd, 1) := by decide +kernel
theorem dL_law_965 : decode cL_law 965 = .ok (.iaload, 1) := by decide +kernel
theorem dL_law_966 : decode cL_law 966 = .ok (.invokevirtual 122, 3) := by decide +kernel
theorem dL_law_969 : decode cL_law 969 = .ok (.lcmp, 1) := by decide +kernel
theorem dL_law_970 : decode cL_law 970 = .ok (.ifCond .eq 289, 3) := by decide +kernel
theorem dL_law_973 : decode cL_law 973 = .ok (.iconst 0, 1) := by decide +kernel
theorem dL_law_974 : decode cL_law 974 = .ok (.ireturn, 1) := by decide +kernel
theorem dL_law_975 : decode cL_law 975 = .ok (.aload_n 1, 1) := by decide +kernel
theorem dL_law_976 : decode cL_law 976 = .ok (.aload_n 0, 1) := by decide +kernel
theorem dL_law_977 : decode cL_law 977 = .ok (.iload_n 3, 1) := by decide +kernel
theorem dL_law_978 : decode cL_law 978 = .ok (.iconst 1, 1) := by decide +kernel
theorem dL_law_979 : decode cL_law 979 = .ok (.iadd, 1) := by decide +kernel
theorem dL_law_980 : decode cL_law 980 = .ok (.iaload, 1) := by decide +kernel
theorem dL_law_981 : decode cL_law 981 = .ok (.invokevirtual 123, 3) := by decide +kernel
theorem dL_law_984 : decode cL_law 984 = .ok (.aload_n 2, 1) := by decide +kernel
theorem dL_law_985 : decode cL_law 985 = .ok (.aload_n 0, 1) := by decide +kernel
theorem dL_law_986 : decode cL_law 986 = .ok (.iload_n 3, 1) := by decide +kernel
theorem dL_law_987 : decode cL_law 987 = .ok (.iconst 1, 1) := by decide +kernel
theorem dL_law_988 : decode cL_law 988 = .ok (.iadd, 1) := by decide +kernel
theorem dL_law_989 : decode cL_law 989 = .ok (.iaload, 1) := by decide +kernel
theorem dL_law_990 : decode cL_law 990 = .ok (.invokevirtual 127, 3) := by decide +kernel
theorem dL_law_993 : decode cL_law 993 = .ok (.lcmp, 1) := by decide +kernel
theorem dL_law_994 : decode cL_law 994 = .ok (.ifCond .eq 265, 3) := by decide +kernel
theorem dL_law_997 : decode cL_law 997 = .ok (.iconst 0, 1) := by decide +kernel
theorem dL_law_998 : decode cL_law 998 = .ok (.ireturn, 1) := by decide +kernel
theorem dL_law_999 : decode cL_law 999 = .ok (.aload_n 1, 1) := by decide +kernel
theorem dL_law_1000 : decode cL_law 1000 = .ok (.aload_n 0, 1) := by decide +kernel
theorem dL_law_1001 : decode cL_law 1001 = .ok (.iload_n 3, 1) := by decide +kernel
theorem dL_law_1002 : decode cL_law 1002 = .ok (.iconst 1, 1) := by decide +kernel
theorem dL_law_1003 : decode cL_law 1003 = .ok (.iadd, 1) := by decide +kernel
theorem dL_law_1004 : decode cL_law 1004 = .ok (.iaload, 1) := by decide +kernel
theorem dL_law_1005 : decode cL_law 1005 = .ok (.aload_n 0, 1) := by decide +kernel
theorem dL_law_1006 : decode cL_law 1006 = .ok (.iload_n 3, 1) := by decide +kernel
theorem dL_law_1007 : decode cL_law 1007 = .ok (.iconst 2, 1) := by decide +kernel
theorem dL_law_1008 : decode cL_law 1008 = .ok (.iadd, 1) := by decide +kernel
theorem dL_law_1009 : decode cL_law 1009 = .ok (.iaload, 1) := by decide +kernel
theorem dL_law_1010 : decode cL_law 1010 = .ok (.aload_n 0, 1) := by decide +kernel
theorem dL_law_1011 : decode cL_law 1011 = .ok (.iload_n 3, 1) := by decide +kernel
theorem dL_law_1012 : decode cL_law 1012 = .ok (.iconst 3, 1) := by decide +kernel
theorem dL_law_1013 : decode cL_law 1013 = .ok (.iadd, 1) := by decide +kernel
theorem dL_law_1014 : decode cL_law 1014 = .ok (.iaload, 1) := by decide +kernel
theorem dL_law_1015 : decode cL_law 1015 = .ok (.invokevirtual 128, 3) := by decide +kernel
theorem dL_law_1018 : decode cL_law 1018 = .ok (.aload_n 2, 1) := by decide +kernel
theorem dL_law_1019 : decode cL_law 1019 = .ok (.aload_n 0, 1) := by decide +kernel
theorem dL_law_1020 : decode cL_law 1020 = .ok (.iload_n 3, 1) := by decide +kernel
theorem dL_law_1021 : decode cL_law 1021 = .ok (.iconst 1, 1) := by decide +kernel
theorem dL_law_1022 : decode cL_law 1022 = .ok (.iadd, 1) := by decide +kernel
theorem dL_law_1023 : decode cL_law 1023 = .ok (.iaload, 1) := by decide +kernel
theorem dL_law_1024 : decode cL_law 1024 = .ok (.aload_n 0, 1) := by decide +kernel
theorem dL_law_1025 : decode cL_law 1025 = .ok (.iload_n 3, 1) := by decide +kernel
theorem dL_law_1026 : decode cL_law 1026 = .ok (.iconst 2, 1) := by decide +kernel
theorem dL_law_1027 : decode cL_law 1027 = .ok (.iadd, 1) := by decide +kernel
theorem dL_law_1028 : decode cL_law 1028 = .ok (.iaload, 1) := by decide +kernel
theorem dL_law_1029 : decode cL_law 1029 = .ok (.aload_n 0, 1) := by decide +kernel
theorem dL_law_1030 : decode cL_law 1030 = .ok (.iload_n 3, 1) := by decide +kernel
theorem dL_law_1031 : decode cL_law 1031 = .ok (.iconst 3, 1) := by decide +kernel
theorem dL_law_1032 : decode cL_law 1032 = .ok (.iadd, 1) := by decide +kernel
theorem dL_law_1033 : decode cL_law 1033 = .ok (.iaload, 1) := by decide +kernel
theorem dL_law_1034 : decode cL_law 1034 = .ok (.invokevirtual 131, 3) := by decide +kernel
theorem dL_law_1037 : decode cL_law 1037 = .ok (.if_icmp .eq 222, 3) := by decide +kernel
theorem dL_law_1040 : decode cL_law 1040 = .ok (.iconst 0, 1) := by decide +kernel
theorem dL_law_1041 : decode cL_law 1041 = .ok (.ireturn, 1) := by decide +kernel
theorem dL_law_1042 : decode cL_law 1042 = .ok (.aload_n 1, 1) := by decide +kernel
theorem dL_law_1043 : decode cL_law 1043 = .ok (.aload_n 0, 1) := by decide +kernel
theorem dL_law_1044 : decode cL_law 1044 = .ok (.iload_n 3, 1) := by decide +kernel
theorem dL_law_1045 : decode cL_law 1045 = .ok (.iconst 1, 1) := by decide +kernel
theorem dL_law_1046 : decode cL_law 1046 = .ok (.iadd, 1) := by decide +kernel
theorem dL_law_1047 : decode cL_law 1047 = .ok (.iaload, 1) := by decide +kernel
theorem dL_law_1048 : decode cL_law 1048 = .ok (.invokevirtual 132, 3) := by decide +kernel
theorem dL_law_1051 : decode cL_law 1051 = .ok (.aload_n 2, 1) := by decide +kernel
theorem dL_law_1052 : decode cL_law 1052 = .ok (.aload_n 0, 1) := by decide +kernel
theorem dL_law_1053 : decode cL_law 1053 = .ok (.iload_n 3, 1) := by decide +kernel
theorem dL_law_1054 : decode cL_law 1054 = .ok (.iconst 1, 1) := by decide +kernel
theorem dL_law_1055 : decode cL_law 1055 = .ok (.iadd, 1) := by decide +kernel
theorem dL_law_1056 : decode cL_law 1056 = .ok (.iaload, 1) := by decide +kernel
theorem dL_law_1057 : decode cL_law 1057 = .ok (.invokevirtual 135, 3) := by decide +kernel
theorem dL_law_1060 : decode cL_law 1060 = .ok (.if_icmp .eq 199, 3) := by decide +kernel
theorem dL_law_1063 : decode cL_law 1063 = .ok (.iconst 0, 1) := by decide +kernel
theorem dL_law_1064 : decode cL_law 1064 = .ok (.ireturn, 1) := by decide +kernel
theorem dL_law_1065 : decode cL_law 1065 = .ok (.aload_n 1, 1) := by decide +kernel
theorem dL_law_1066 : decode cL_law 1066 = .ok (.aload_n 0, 1) := by decide +kernel
theorem dL_law_1067 : decode cL_law 1067 = .ok (.iload_n 3, 1) := by decide +kernel
theorem dL_law_1068 : decode cL_law 1068 = .ok (.iconst 1, 1) := by decide +kernel
theorem dL_law_1069 : decode cL_law 1069 = .ok (.iadd, 1) := by decide +kernel
theorem dL_law_1070 : decode cL_law 1070 = .ok (.iaload, 1) := by decide +kernel
theorem dL_law_1071 : decode cL_law 1071 = .ok (.aload_n 0, 1) := by decide +kernel
theorem dL_law_1072 : decode cL_law 1072 = .ok (.iload_n 3, 1) := by decide +kernel
theorem dL_law_1073 : decode cL_law 1073 = .ok (.iconst 2, 1) := by decide +kernel
theorem dL_law_1074 : decode cL_law 1074 = .ok (.iadd, 1) := by decide +kernel
theorem dL_law_1075 : decode cL_law 1075 = .ok (.iaload, 1) := by decide +kernel
theorem dL_law_1076 : decode cL_law 1076 = .ok (.invokevirtual 136, 3) := by decide +kernel
theorem dL_law_1079 : decode cL_law 1079 = .ok (.aload_n 2, 1) := by decide +kernel
theorem dL_law_1080 : decode cL_law 1080 = .ok (.aload_n 0, 1) := by decide +kernel
theorem dL_law_1081 : decode cL_law 1081 = .ok (.iload_n 3, 1) := by decide +kernel
theorem dL_law_1082 : decode cL_law 1082 = .ok (.iconst 1, 1) := by decide +kernel
theorem dL_law_1083 : decode cL_law 1083 = .ok (.iadd, 1) := by decide +kernel
theorem dL_law_1084 : decode cL_law 1084 = .ok (.iaload, 1) := by decide +kernel
theorem dL_law_1085 : decode cL_law 1085 = .ok (.aload_n 0, 1) := by decide +kernel
theorem dL_law_1086 : decode cL_law 1086 = .ok (.iload_n 3, 1) := by decide +kernel
theorem dL_law_1087 : decode cL_law 1087 = .ok (.iconst 2, 1) := by decide +kernel
theorem dL_law_1088 : decode cL_law 1088 = .ok (.iadd, 1) := by decide +kernel
theorem dL_law_1089 : decode cL_law 1089 = .ok (.iaload, 1) := by decide +kernel
theorem dL_law_1090 : decode cL_law 1090 = .ok (.invokevirtual 139, 3) := by decide +kernel
theorem dL_law_1093 : decode cL_law 1093 = .ok (.if_icmp .eq 166, 3) := by decide +kernel
theorem dL_law_1096 : decode cL_law 1096 = .ok (.iconst 0, 1) := by decide +kernel
theorem dL_law_1097 : decode cL_law 1097 = .ok (.ireturn, 1) := by decide +kernel
theorem dL_law_1098 : decode cL_law 1098 = .ok (.aload_n 1, 1) := by decide +kernel
theorem dL_law_1099 : decode cL_law 1099 = .ok (.invokevirtual 140, 3) := by decide +kernel
theorem dL_law_1102 : decode cL_law 1102 = .ok (.aload_n 2, 1) := by decide +kernel
theorem dL_law_1103 : decode cL_law 1103 = .ok (.invokevirtual 143, 3) := by decide +kernel
theorem dL_law_1106 : decode cL_law 1106 = .ok (.if_icmp .eq 153, 3) := by decide +kernel
theorem dL_law_1109 : decode cL_law 1109 = .ok (.iconst 0, 1) := by decide +kernel
theorem dL_law_1110 : decode cL_law 1110 = .ok (.ireturn, 1) := by decide +kernel
theorem dL_law_1111 : decode cL_law 1111 = .ok (.aload_n 1, 1) := by decide +kernel
theorem dL_law_1112 : decode cL_law 1112 = .ok (.aload_n 0, 1) := by decide +kernel
theorem dL_law_1113 : decode cL_law 1113 = .ok (.iload_n 3, 1) := by decide +kernel
theorem dL_law_1114 : decode cL_law 1114 = .ok (.iconst 1, 1) := by decide +kernel
theorem dL_law_1115 : decode cL_law 1115 = .ok (.iadd, 1) := by decide +kernel
theorem dL_law_1116 : decode cL_law 1116 = .ok (.iaload, 1) := by decide +kernel
theorem dL_law_1117 : decode cL_law 1117 = .ok (.aload_n 0, 1) := by decide +kernel
theorem dL_law_1118 : decode cL_law 1118 = .ok (.iload_n 3, 1) := by decide +kernel
theorem dL_law_1119 : decode cL_law 1119 = .ok (.iconst 2, 1) := by decide +kernel
theorem dL_law_1120 : decode cL_law 1120 = .ok (.iadd, 1) := by decide +kernel
theorem dL_law_1121 : decode cL_law 1121 = .ok (.iaload, 1) := by decide +kernel
theorem dL_law_1122 : decode cL_law 1122 = .ok (.aload_n 0, 1) := by decide +kernel
theorem dL_law_1123 : decode cL_law 1123 = .ok (.iload_n 3, 1) := by decide +kernel
theorem dL_law_1124 : decode cL_law 1124 = .ok (.iconst 3, 1) := by decide +kernel
theorem dL_law_1125 : decode cL_law 1125 = .ok (.iadd, 1) := by decide +kernel
theorem dL_law_1126 : decode cL_law 1126 = .ok (.iaload, 1) := by decide +kernel
theorem dL_law_1127 : decode cL_law 1127 = .ok (.invokevirtual 144, 3) := by decide +kernel
theorem dL_law_1130 : decode cL_law 1130 = .ok (.aload_n 2, 1) := by decide +kernel
theorem dL_law_1131 : decode cL_law 1131 = .ok (.aload_n 0, 1) := by decide +kernel
theorem dL_law_1132 : decode cL_law 1132 = .ok (.iload_n 3, 1) := by decide +kernel
theorem dL_law_1133 : decode cL_law 1133 = .ok (.iconst 1, 1) := by decide +kernel
theorem dL_law_1134 : decode cL_law 1134 = .ok (.iadd, 1) := by decide +kernel
theorem dL_law_1135 : decode cL_law 1135 = .ok (.iaload, 1) := by decide +kernel
theorem dL_law_1136 : decode cL_law 1136 = .ok (.aload_n 0, 1) := by decide +kernel
theorem dL_law_1137 : decode cL_law 1137 = .ok (.iload_n 3, 1) := by decide +kernel
theorem dL_law_1138 : decode cL_law 1138 = .ok (.iconst 2, 1) := by decide +kernel
theorem dL_law_1139 : decode cL_law 1139 = .ok (.iadd, 1) := by decide +kernel
theorem dL_law_1140 : decode cL_law 1140 = .ok (.iaload, 1) := by decide +kernel
theorem dL_law_1141 : decode cL_law 1141 = .ok (.aload_n 0, 1) := by decide +kernel
theorem dL_law_1142 : decode cL_law 1142 = .ok (.iload_n 3, 1) := by decide +kernel
theorem dL_law_1143 : decode cL_law 1143 = .ok (.iconst 3, 1) := by decide +kernel
theorem dL_law_1144 : decode cL_law 1144 = .ok (.iadd, 1) := by decide +kernel
theorem dL_law_1145 : decode cL_law 1145 = .ok (.iaload, 1) := by decide +kernel
theorem dL_law_1146 : decode cL_law 1146 = .ok (.invokevirtual 147, 3) := by decide +kernel
theorem dL_law_1149 : decode cL_law 1149 = .ok (.if_icmp .eq 110, 3) := by decide +kernel
theorem dL_law_1152 : decode cL_law 1152 = .ok (.iconst 0, 1) := by decide +kernel
theorem dL_law_1153 : decode cL_law 1153 = .ok (.ireturn, 1) := by decide +kernel
theorem dL_law_1154 : decode cL_law 1154 = .ok (.aload_n 1, 1) := by decide +kernel
theorem dL_law_1155 : decode cL_law 1155 = .ok (.aload_n 0, 1) := by decide +kernel
theorem dL_law_1156 : decode cL_law 1156 = .ok (.iload_n 3, 1) := by decide +kernel
theorem dL_law_1157 : decode cL_law 1157 = .ok (.iconst 1, 1) := by decide +kernel
theorem dL_law_1158 : decode cL_law 1158 = .ok (.iadd, 1) := by decide +kernel
theorem dL_law_1159 : decode cL_law 1159 = .ok (.iaload, 1) := by decide +kernel
theorem dL_law_1160 : decode cL_law 1160 = .ok (.invokevirtual 148, 3) := by decide +kernel
theorem dL_law_1163 : decode cL_law 1163 = .ok (.aload_n 2, 1) := by decide +kernel
theorem dL_law_1164 : decode cL_law 1164 = .ok (.aload_n 0, 1) := by decide +kernel
theorem dL_law_1165 : decode cL_law 1165 = .ok (.iload_n 3, 1) := by decide +kernel
theorem dL_law_1166 : decode cL_law 1166 = .ok (.iconst 1, 1) := by decide +kernel
theorem dL_law_1167 : decode cL_law 1167 = .ok (.iadd, 1) := by decide +kernel
theorem dL_law_1168 : decode cL_law 1168 = .ok (.iaload, 1) := by decide +kernel
theorem dL_law_1169 : decode cL_law 1169 = .ok (.invokevirtual 151, 3) := by decide +kernel
theorem dL_law_1172 : decode cL_law 1172 = .ok (.if_icmp .eq 87, 3) := by decide +kernel
theorem dL_law_1175 : decode cL_law 1175 = .ok (.iconst 0, 1) := by decide +kernel
theorem dL_law_1176 : decode cL_law 1176 = .ok (.ireturn, 1) := by decide +kernel
theorem dL_law_1177 : decode cL_law 1177 = .ok (.aload_n 1, 1) := by decide +kernel
theorem dL_law_1178 : decode cL_law 1178 = .ok (.aload_n 0, 1) := by decide +kernel
theorem dL_law_1179 : decode cL_law 1179 = .ok (.iload_n 3, 1) := by decide +kernel
theorem dL_law_1180 : decode cL_law 1180 = .ok (.iconst 1, 1) := by decide +kernel
theorem dL_law_1181 : decode cL_law 1181 = .ok (.iadd, 1) := by decide +kernel
theorem dL_law_1182 : decode cL_law 1182 = .ok (.iaload, 1) := by decide +kernel
theorem dL_law_1183 : decode cL_law 1183 = .ok (.aload_n 0, 1) := by decide +kernel
theorem dL_law_1184 : decode cL_law 1184 = .ok (.iload_n 3, 1) := by decide +kernel
theorem dL_law_1185 : decode cL_law 1185 = .ok (.iconst 2, 1) := by decide +kernel
theorem dL_law_1186 : decode cL_law 1186 = .ok (.iadd, 1) := by decide +kernel
theorem dL_law_1187 : decode cL_law 1187 = .ok (.iaload, 1) := by decide +kernel
theorem dL_law_1188 : decode cL_law 1188 = .ok (.invokevirtual 152, 3) := by decide +kernel
theorem dL_law_1191 : decode cL_law 1191 = .ok (.aload_n 2, 1) := by decide +kernel
theorem dL_law_1192 : decode cL_law 1192 = .ok (.aload_n 0, 1) := by decide +kernel
theorem dL_law_1193 : decode cL_law 1193 = .ok (.iload_n 3, 1) := by decide +kernel
theorem dL_law_1194 : decode cL_law 1194 = .ok (.iconst 1, 1) := by decide +kernel
theorem dL_law_1195 : decode cL_law 1195 = .ok (.iadd, 1) := by decide +kernel
theorem dL_law_1196 : decode cL_law 1196 = .ok (.iaload, 1) := by decide +kernel
theorem dL_law_1197 : decode cL_law 1197 = .ok (.aload_n 0, 1) := by decide +kernel
theorem dL_law_1198 : decode cL_law 1198 = .ok (.iload_n 3, 1) := by decide +kernel
theorem dL_law_1199 : decode cL_law 1199 = .ok (.iconst 2, 1) := by decide +kernel
theorem dL_law_1200 : decode cL_law 1200 = .ok (.iadd, 1) := by decide +kernel
theorem dL_law_1201 : decode cL_law 1201 = .ok (.iaload, 1) := by decide +kernel
theorem dL_law_1202 : decode cL_law 1202 = .ok (.invokevirtual 155, 3) := by decide +kernel
theorem dL_law_1205 : decode cL_law 1205 = .ok (.if_icmp .eq 54, 3) := by decide +kernel
theorem dL_law_1208 : decode cL_law 1208 = .ok (.iconst 0, 1) := by decide +kernel
theorem dL_law_1209 : decode cL_law 1209 = .ok (.ireturn, 1) := by decide +kernel
theorem dL_law_1210 : decode cL_law 1210 = .ok (.aload_n 1, 1) := by decide +kernel
theorem dL_law_1211 : decode cL_law 1211 = .ok (.invokevirtual 156, 3) := by decide +kernel
theorem dL_law_1214 : decode cL_law 1214 = .ok (.aload_n 2, 1) := by decide +kernel
theorem dL_law_1215 : decode cL_law 1215 = .ok (.invokevirtual 159, 3) := by decide +kernel
theorem dL_law_1218 : decode cL_law 1218 = .ok (.if_icmp .eq 41, 3) := by decide +kernel
theorem dL_law_1221 : decode cL_law 1221 = .ok (.iconst 0, 1) := by decide +kernel
theorem dL_law_1222 : decode cL_law 1222 = .ok (.ireturn, 1) := by decide +kernel
theorem dL_law_1223 : decode cL_law 1223 = .ok (.aload_n 1, 1) := by decide +kernel
theorem dL_law_1224 : decode cL_law 1224 = .ok (.invokevirtual 160, 3) := by decide +kernel
theorem dL_law_1227 : decode cL_law 1227 = .ok (.aload_n 2, 1) := by decide +kernel
theorem dL_law_1228 : decode cL_law 1228 = .ok (.invokevirtual 163, 3) := by decide +kernel
theorem dL_law_1231 : decode cL_law 1231 = .ok (.if_icmp .eq 28, 3) := by decide +kernel
theorem dL_law_1234 : decode cL_law 1234 = .ok (.iconst 0, 1) := by decide +kernel
theorem dL_law_1235 : decode cL_law 1235 = .ok (.ireturn, 1) := by decide +kernel
theorem dL_law_1236 : decode cL_law 1236 = .ok (.aload_n 1, 1) := by decide +kernel
theorem dL_law_1237 : decode cL_law 1237 = .ok (.aload_n 0, 1) := by decide +kernel
theorem dL_law_1238 : decode cL_law 1238 = .ok (.iload_n 3, 1) := by decide +kernel
theorem dL_law_1239 : decode cL_law 1239 = .ok (.iconst 1, 1) := by decide +kernel
theorem dL_law_1240 : decode cL_law 1240 = .ok (.iadd, 1) := by decide +kernel
theorem dL_law_1241 : decode cL_law 1241 = .ok (.iaload, 1) := by decide +kernel
theorem dL_law_1242 : decode cL_law 1242 = .ok (.invokevirtual 164, 3) := by decide +kernel
theorem dL_law_1245 : decode cL_law 1245 = .ok (.aload_n 2, 1) := by decide +kernel
theorem dL_law_1246 : decode cL_law 1246 = .ok (.aload_n 0, 1) := by decide +kernel
theorem dL_law_1247 : decode cL_law 1247 = .ok (.iload_n 3, 1) := by decide +kernel
theorem dL_law_1248 : decode cL_law 1248 = .ok (.iconst 1, 1) := by decide +kernel
theorem dL_law_1249 : decode cL_law 1249 = .ok (.iadd, 1) := by decide +kernel
theorem dL_law_1250 : decode cL_law 1250 = .ok (.iaload, 1) := by decide +kernel
theorem dL_law_1251 : decode cL_law 1251 = .ok (.invokevirtual 167, 3) := by decide +kernel
theorem dL_law_1254 : decode cL_law 1254 = .ok (.if_icmp .eq 5, 3) := by decide +kernel
theorem dL_law_1257 : decode cL_law 1257 = .ok (.iconst 0, 1) := by decide +kernel
theorem dL_law_1258 : decode cL_law 1258 = .ok (.ireturn, 1) := by decide +kernel
theorem dL_law_1259 : decode cL_law 1259 = .ok (.iinc 3 5, 3) := by decide +kernel
theorem dL_law_1262 : decode cL_law 1262 = .ok (.goto (-1244), 3) := by decide +kernel
theorem dL_law_1265 : decode cL_law 1265 = .ok (.iconst 1, 1) := by decide +kernel
theorem dL_law_1266 : decode cL_law 1266 = .ok (.ireturn, 1) := by decide +kernel
end
section
/-! THE FRAME. Own cells have numbers from 32 on, in the order in which they are made (number i stands at the address s0 + (i - 32)); what was there before has numbers below 32. -/
abbrev KT : Type := MethodName × ByteArray × Nat × Option FieldType
/-- addresses of old things; the heap's size at the law's start; class numbers; slots; array classes; the script -/
abbrev GT : Type := (Nat → Nat) × Nat × (Nat → ClassId) × (Nat → Nat → Nat) × (Nat → ClassId) × Nat × (Nat → Int32)
abbrev MI : Type := Nat → Nat → Int32
abbrev MR : Type := Nat → Nat → Option Nat
abbrev QT : Type := Option Value → Nat → MI → MR → Prop
abbrev gS0 (G : GT) : Nat := G.2.1
abbrev gD (G : GT) : va_G := (G.2.2.1, G.2.2.2.1)
abbrev gC (G : GT) : Nat → ClassId := G.2.2.2.2.1
abbrev gLen (G : GT) : Nat := G.2.2.2.2.2.1
abbrev gXs (G : GT) : Nat → Int32 := G.2.2.2.2.2.2
def gAd (G : GT) (i : Nat) : Nat := if i < 32 then G.1 i else gS0 G + (i - 32)
def gV (G : GT) (v : Value) : Value := match v with
  | .ref i => .ref (gAd G i)
  | w => w
abbrev gA (G : GT) : Nat → Prop := fun q => gS0 G ≤ q
/-- kinds of arrays -/
def gTy : Nat → FieldType := fun k => match k with
  | 0 => .int
  | 1 => .char
  | 2 => .boolean
  | 3 => .array .int
  | 4 => .object "DrunkByYear$Village"
  | _ => .object "DrunkByYear$Person"
def gTys (G : GT) : List (ClassId × FieldType) := [(gC G 0, gTy 0), (gC G 1, gTy 1), (gC G 2, gTy 2), (gC G 3, gTy 3), (gC G 4, gTy 4), (gC G 5, gTy 5)]
theorem gTys_at (G : GT) {k : Nat} (h : k < 6) : (gTys G)[k]? = some (gC G k, gTy k) := by
  match k, h with
  | 0, _ => rfl
  | 1, _ => rfl
  | 2, _ => rfl
  | 3, _ => rfl
  | 4, _ => rfl
  | 5, _ => rfl
abbrev gCls : List vw_C := [(RX0, TX0, 2), (RX1, TX1, 7), (RX2, TX2, 4), (RX3, TX3, 4), (RX4, TX4, 15), (RX5, TX5, 7), (RX6, TX6, 14), (RX7, TX7, 7), (RX8, TX8, 29)]
def gN : Nat → Nat := fun k => match k with
  | 0 => 2
  | 1 => 7
  | 2 => 4
  | 3 => 4
  | 4 => 15
  | 5 => 7
  | 6 => 14
  | 7 => 7
  | _ => 29
def gFT : Nat → Nat → FieldType := fun k => match k with
  | 0 => tyX0
  | 1 => tyX1
  | 2 => tyX2
  | 3 => tyX3
  | 4 => tyX4
  | 5 => tyX5
  | 6 => tyX6
  | 7 => tyX7
  | _ => tyX8
def gRf (ty : FieldType) : Bool := match ty with
  | .object _ => true
  | .array _ => true
  | _ => false
/-- what stands in a world, by its place in it -/
def SHW : Nat → Nat ⊕ (Nat × Nat) := fun o => match o with
  | 0 => .inl 6
  | 1 => .inr (5, 6)
  | 2 => .inr (0, 5)
  | 3 => .inr (0, 5)
  | 4 => .inr (1, 100)
  | 5 => .inl 3
  | 6 => .inr (0, 5)
  | 7 => .inr (0, 5)
  | 8 => .inr (0, 5)
  | 9 => .inl 3
  | 10 => .inr (0, 8)
  | 11 => .inr (0, 8)
  | 12 => .inr (0, 8)
  | 13 => .inl 3
  | 14 => .inr (0, 8)
  | 15 => .inr (0, 8)
  | 16 => .inr (0, 8)
  | 17 => .inr (0, 6)
  | o + 18 => if o % 2 = 0 then .inl 1 else .inr (0, 4)
def SHV : Nat → Nat ⊕ (Nat × Nat) := fun o => match o with
  | 0 => .inl 5
  | 1 => .inr (0, 100)
  | _ => .inr (0, 10)
def SHS : Nat → Nat ⊕ (Nat × Nat) := fun o => match o with
  | 0 => .inl 4
  | 1 => .inr (3, 6)
  | 2 => .inr (0, 6)
  | 3 => .inr (0, 6)
  | 4 => .inr (0, 6)
  | 5 => .inr (0, 6)
  | 6 => .inr (0, 6)
  | 7 => .inr (0, 6)
  | 8 => .inr (3, 6)
  | 9 => .inr (0, 6)
  | 10 => .inr (0, 6)
  | 11 => .inr (0, 6)
  | 12 => .inr (0, 6)
  | 13 => .inr (0, 6)
  | 14 => .inr (0, 6)
  | 15 => .inr (0, 6)
  | 16 => .inr (0, 6)
  | 17 => .inr (0, 6)
  | 18 => .inr (0, 6)
  | _ => .inr (0, 7)
def SHM : Nat → Nat ⊕ (Nat × Nat) := fun o => match o with
  | 0 => .inl 8
  | 1 => .inr (0, 938)
  | 2 => .inr (0, 938)
  | 3 => .inr (0, 12)
  | 4 => .inr (0, 6)
  | 5 => .inr (2, 64)
  | 6 => .inr (0, 36)
  | 7 => .inr (0, 36)
  | 8 => .inr (0, 6)
  | 9 => .inr (0, 6)
  | 10 => .inr (0, 5)
  | 11 => .inr (2, 36)
  | _ => .inr (0, 20)
def SHB : Nat → Nat ⊕ (Nat × Nat) := fun o => match o with
  | 32 => .inl 7
  | 33 => .inr (4, 5)
  | 34 => .inl 0
  | _ => .inr (0, 20)
/-- what the cell of a number is: an object of a class, or an array of a kind and a length -/
def SH (i : Nat) : Nat ⊕ (Nat × Nat) := if i < 36 then SHB i else if i < 40 then SHV (i - 36) else if i < 130 then SHW ((i - 40) % 30) else if i < 153 then SHS (i - 130) else if i < 173 then SHV ((i - 153) % 4) else if i < 186 then SHM (i - 173) else .inl 2
/-- its contents -/
def gE (G : GT) (mi : MI) (mr : MR) (i : Nat) : va_E := match SH i with
  | .inl ci => .inr (ci, (List.range (gN ci)).map (fun k => if gRf (gFT ci k) = true then va_rf ((mr i k).map (gAd G)) else .int (mi i k)))
  | .inr q => .inl (gC G q.1, q.2, if q.1 < 3 then .inl (mi i) else .inr (.inr (.inr (.inr (fun j => (mr i j).map (gAd G))))))
def gH (G : GT) (n : Nat) (mi : MI) (mr : MR) (H : Heap) : Prop := 32 ≤ n ∧ H.size = gS0 G + (n - 32) ∧ (∀ i, 32 ≤ i → i < n → va_at (gD G) gCls (gAd G i, gE G mi mr i) H) ∧ gXs G = mi 0 ∧ mr 0 0 = some (gLen G)
def nestL : List Cond := [
  .fieldLinkNest "DrunkByYear" 257 "DrunkByYear$Acts" "bodies" "[I" "DrunkByYear",
  .fieldLinkNest "DrunkByYear" 250 "DrunkByYear$Acts" "ran" "I" "DrunkByYear",
  .fieldLinkNest "DrunkByYear$Reader" 49 "DrunkByYear$Village" "grown" "I" "DrunkByYear",
  .fieldLinkNest "DrunkByYear$World" 96 "DrunkByYear$Village" "grown" "I" "DrunkByYear",
  .fieldLinkNest "DrunkByYear" 152 "DrunkByYear$Village" "grown" "I" "DrunkByYear",
  .fieldLinkNest "DrunkByYear$Reader" 54 "DrunkByYear$Village" "old" "I" "DrunkByYear",
  .fieldLinkNest "DrunkByYear$World" 99 "DrunkByYear$Village" "old" "I" "DrunkByYear",
  .fieldLinkNest "DrunkByYear" 155 "DrunkByYear$Village" "old" "I" "DrunkByYear",
  .fieldLinkNest "DrunkByYear$World" 124 "DrunkByYear$Rows" "what" "[I" "DrunkByYear",
  .fieldLinkNest "DrunkByYear$World" 130 "DrunkByYear$Rows" "who" "[I" "DrunkByYear",
  .fieldLinkNest "DrunkByYear" 244 "DrunkByYear$Rows" "who" "[I" "DrunkByYear",
  .fieldLinkNest "DrunkByYear$World" 133 "DrunkByYear$Rows" "number" "[I" "DrunkByYear",
  .fieldLinkNest "DrunkByYear" 247 "DrunkByYear$Rows" "number" "[I" "DrunkByYear",
  .fieldLinkNest "DrunkByYear$World" 121 "DrunkByYear$Rows" "size" "I" "DrunkByYear",
  .fieldLinkNest "DrunkByYear" 241 "DrunkByYear$Rows" "size" "I" "DrunkByYear",
  .fieldLinkNest "DrunkByYear$Acts" 25 "DrunkByYear$Person" "number" "I" "DrunkByYear",
  .fieldLinkNest "DrunkByYear$Acts" 34 "DrunkByYear$Person" "kind" "I" "DrunkByYear",
  .fieldLinkNest "DrunkByYear" 108 "DrunkByYear$Person" "kind" "I" "DrunkByYear",
  .fieldLinkNest "DrunkByYear$World" 102 "DrunkByYear$Person" "kind" "I" "DrunkByYear",
  .fieldLinkNest "DrunkByYear$Acts" 31 "DrunkByYear$Person" "v" "I" "DrunkByYear",
  .fieldLinkNest "DrunkByYear" 111 "DrunkByYear$Person" "v" "I" "DrunkByYear",
  .fieldLinkNest "DrunkByYear$World" 105 "DrunkByYear$Person" "v" "I" "DrunkByYear",
  .fieldLinkNest "DrunkByYear" 114 "DrunkByYear$Person" "born" "I" "DrunkByYear",
  .fieldLinkNest "DrunkByYear" 117 "DrunkByYear$Person" "life" "I" "DrunkByYear",
  .fieldLinkNest "DrunkByYear" 120 "DrunkByYear$Person" "has" "I" "DrunkByYear",
  .fieldLinkNest "DrunkByYear$World" 112 "DrunkByYear$Person" "has" "I" "DrunkByYear",
  .fieldLinkNest "DrunkByYear" 136 "DrunkByYear$Person" "row" "[I" "DrunkByYear",
  .fieldLinkNest "DrunkByYear" 149 "DrunkByYear$World" "year" "I" "DrunkByYear",
  .fieldLinkNest "DrunkByYear$Search" 52 "DrunkByYear$World" "people" "I" "DrunkByYear",
  .fieldLinkNest "DrunkByYear" 82 "DrunkByYear$World" "people" "I" "DrunkByYear",
  .fieldLinkNest "DrunkByYear$Search" 88 "DrunkByYear$World" "vintages" "I" "DrunkByYear",
  .fieldLinkNest "DrunkByYear" 98 "DrunkByYear$World" "vintages" "I" "DrunkByYear",
  .fieldLinkNest "DrunkByYear" 57 "DrunkByYear$World" "villages" "I" "DrunkByYear",
  .fieldLinkNest "DrunkByYear" 49 "DrunkByYear$World" "signs" "I" "DrunkByYear",
  .fieldLinkNest "DrunkByYear" 71 "DrunkByYear$World" "holds" "LDrunkByYear$Village;" "DrunkByYear",
  .fieldLinkNest "DrunkByYear" 85 "DrunkByYear$World" "folk" "[LDrunkByYear$Person;" "DrunkByYear",
  .fieldLinkNest "DrunkByYear" 143 "DrunkByYear$World" "wineYear" "[I" "DrunkByYear",
  .fieldLinkNest "DrunkByYear$Search" 91 "DrunkByYear$World" "bottles" "[I" "DrunkByYear",
  .fieldLinkNest "DrunkByYear" 146 "DrunkByYear$World" "bottles" "[I" "DrunkByYear",
  .fieldLinkNest "DrunkByYear" 53 "DrunkByYear$World" "tape" "[C" "DrunkByYear",
  .fieldLinkNest "DrunkByYear" 198 "DrunkByYear$World" "seen" "LDrunkByYear$Rows;" "DrunkByYear",
  .fieldLinkNest "DrunkByYear" 216 "DrunkByYear$World" "night" "LDrunkByYear$Rows;" "DrunkByYear",
  .fieldLinkNest "DrunkByYear" 238 "DrunkByYear$World" "book" "LDrunkByYear$Rows;" "DrunkByYear",
  .fieldLinkNest "DrunkByYear" 68 "DrunkByYear$Reader" "at" "I" "DrunkByYear",
  .fieldLinkNest "DrunkByYear$Acts" 15 "DrunkByYear" "ABOVE" "[I" "DrunkByYear",
  .methodLinkNest "DrunkByYear" 19 ⟨"DrunkByYear$Acts", "<init>", "()V"⟩ "DrunkByYear",
  .methodLinkNest "DrunkByYear$Search" 94 ⟨"DrunkByYear", "shown", "(I)I"⟩ "DrunkByYear"]
def isNest : Cond → Bool
  | .fieldLinkNest _ _ _ _ _ _ => true
  | .methodLinkNest _ _ _ _ => true
  | _ => false
theorem nestL_ok : ∀ w ∈ nestL, isNest w = true := List.all_eq_true.mp (by decide +kernel)
theorem nest_warm {w : Cond} (hw : isNest w = true) {s U : State} (hW : s.WarmedH U.vm) (h : va_Nw w s) : va_Nw w U := by
  cases w <;> first | exact va_Nw.warmF hW h | exact va_Nw.warmM hW h | (simp [isNest] at hw)
theorem nest_same {w : Cond} (hw : isNest w = true) {u U : State} (hv : u.vm = U.vm) (h : va_Nw w u) : va_Nw w U := by
  cases w <;> first | exact va_Nw.same rfl hv h | (simp [isNest] at hw)
theorem nest_use {w : Cond} (hw : isNest w = true) {A : Array Value} {U : State} (h : va_Nw w U) : w.before A U = true := by
  cases w <;> first | exact va_Nw.use rfl h | (simp [isNest] at hw)
def gSL : List Nat := [5, 3, 4, 5, 6, 3, 6, 5]
def gSB : List (List Int32) := [[114, 111, 119, 110, 32], [108, 100, 32], [111, 108, 100, 32], [109, 101, 101, 107, 32], [112, 107, 118, 97, 115, 104], [60, 61, 62], [103, 114, 111, 119, 110, 32], [98, 111, 108, 100, 32]]
def gAB : List Int32 := [-1, 0, 0, 0, 1, 2, 3]
def gBO : List Int32 := [1, 2, 3, 11, 0, 0, 0, 21, 0, 0, 0, 31, 0, 0, 41, 51, 0, 0, 0, 61, 0]
/-- old things that are read: the script, the two static arrays, the flags of String, the texts -/
def gO (G : GT) (U : State) (H : Heap) : Prop :=
  va_T .int (G.1 0) (gLen G) (fun j => .int (gXs G j)) (gA G) U H ∧
  (va_Z "DrunkByYear" "ABOVE" "[I" (.ref (G.1 1)) (gA G) U H ∧ va_T .int (G.1 1) 7 (fun j => .int (gAB.getD j 0)) (gA G) U H) ∧
  (va_Z "DrunkByYear$Acts" "BODY" "[I" (.ref (G.1 2)) (gA G) U H ∧ va_T .int (G.1 2) 21 (fun j => .int (gBO.getD j 0)) (gA G) U H) ∧
  va_Z "java/lang/String" "COMPACT_STRINGS" "Z" (.int 1) (gA G) U H ∧
  (va_Z "jdk/internal/util/Preconditions" "SIOOBE_FORMATTER" "Ljava/util/function/BiFunction;" .null (gA G) U H ∨ va_Z "jdk/internal/util/Preconditions" "SIOOBE_FORMATTER" "Ljava/util/function/BiFunction;" (.ref (G.1 3)) (gA G) U H) ∧
  vk_S 8 gSL gSB (fun i => G.1 (4 + i)) (fun i => G.1 (16 + i)) (gA G) U H
def gR (G : GT) (U : State) : Prop := vk_R "DrunkByYear$Reader" 39 "rown " (G.1 4) U ∧ vk_R "DrunkByYear$Reader" 52 "ld " (G.1 5) U ∧ vk_R "DrunkByYear$Reader" 57 "old " (G.1 6) U ∧ vk_R "DrunkByYear$Reader" 59 "meek " (G.1 7) U ∧ vk_R "DrunkByYear$Reader" 78 "pkvash" (G.1 8) U ∧ vk_R "DrunkByYear$Reader" 84 "<=>" (G.1 9) U ∧ vk_R "DrunkByYearModel" 117 "grown " (G.1 10) U ∧ vk_R "DrunkByYearModel" 123 "old " (G.1 6) U ∧ vk_R "DrunkByYearModel" 125 "bold " (G.1 11) U ∧ vk_R "DrunkByYearModel" 99 "pkvash" (G.1 8) U ∧ vk_R "DrunkByYearModel" 105 "<=>" (G.1 9) U ∧ vk_R "DrunkByYearModel" 130 "meek " (G.1 7) U
def gOv (U : State) : Prop := va_AO "DrunkByYear$Village" U ∧ va_AO "DrunkByYear$Person" U ∧ (Cond.arrayOver (.array .int)).before #[] U = true
def gK (G : GT) (U : State) (H : Heap) : Prop := va_K (gD G) gCls (gTys G) U ∧ (∀ w ∈ nestL, va_Nw w U) ∧ gOv U ∧ gR G U ∧ gO G U H
theorem gO.moved {G : GT} {u U : State} {H : Heap} (hvm : u.vm.Alike U.vm) (h : gO G u H) : gO G U H := by
  obtain ⟨h1, ⟨h2, h3⟩, ⟨h4, h5⟩, h6, h7, h8⟩ := h
  exact ⟨h1.moved hvm, ⟨h2.moved hvm, h3.moved hvm⟩, ⟨h4.moved hvm, h5.moved hvm⟩, h6.moved hvm, h7.elim (fun q => Or.inl (q.moved hvm)) (fun q => Or.inr (q.moved hvm)), h8.moved hvm⟩
theorem gO.kept {G : GT} {U : State} {H H1 : Heap} (h : gO G U H) (hq : ∀ a : Nat, a < H.size → ¬ gA G a → H1[a]? = H[a]?) : gO G U H1 := by
  obtain ⟨h1, ⟨h2, h3⟩, ⟨h4, h5⟩, h6, h7, h8⟩ := h
  exact ⟨h1.kept hq, ⟨h2.kept hq, h3.kept hq⟩, ⟨h4.kept hq, h5.kept hq⟩, h6.kept hq, h7.elim (fun q => Or.inl (q.kept hq)) (fun q => Or.inr (q.kept hq)), h8.kept hq⟩
theorem gOv.moved {u U : State} (hvm : u.vm.Alike U.vm) (h : gOv u) : gOv U := ⟨h.1.moved hvm, h.2.1.moved hvm, arrayOver_alikeB hvm h.2.2⟩
theorem gR.warm {G : GT} {s U : State} (hW : s.WarmedH U.vm) (h : gR G s) : gR G U := by
  obtain ⟨h0, h1, h2, h3, h4, h5, h6, h7, h8, h9, h10, h11⟩ := h
  exact ⟨vk_R.warm hW h0, vk_R.warm hW h1, vk_R.warm hW h2, vk_R.warm hW h3, vk_R.warm hW h4, vk_R.warm hW h5, vk_R.warm hW h6, vk_R.warm hW h7, vk_R.warm hW h8, vk_R.warm hW h9, vk_R.warm hW h10, vk_R.warm hW h11⟩
theorem gR.same {G : GT} {s U : State} (hv : s.vm = U.vm) (h : gR G s) : gR G U := by
  obtain ⟨h0, h1, h2, h3, h4, h5, h6, h7, h8, h9, h10, h11⟩ := h
  exact ⟨vk_R.same hv.symm h0, vk_R.same hv.symm h1, vk_R.same hv.symm h2, vk_R.same hv.symm h3, vk_R.same hv.symm h4, vk_R.same hv.symm h5, vk_R.same hv.symm h6, vk_R.same hv.symm h7, vk_R.same hv.symm h8, vk_R.same hv.symm h9, vk_R.same hv.symm h10, vk_R.same hv.symm h11⟩
theorem gK.warm {G : GT} {s U : State} {H : Heap} (hW : s.WarmedH U.vm) (h : gK G s H) : gK G U H :=
  ⟨va_K.moved hW.alike h.1, fun w hw => nest_warm (nestL_ok w hw) hW (h.2.1 w hw), h.2.2.1.moved hW.alike, h.2.2.2.1.warm hW, h.2.2.2.2.moved hW.alike⟩
theorem gK.same {G : GT} {s U : State} {H : Heap} (hv : s.vm = U.vm) (h : gK G s H) : gK G U H := by
  have ha : s.vm.Alike U.vm := hv ▸ Vm.Alike.refl s.vm
  exact ⟨va_K.moved ha h.1, fun w hw => nest_same (nestL_ok w hw) hv (h.2.1 w hw), h.2.2.1.moved ha, h.2.2.2.1.same hv, h.2.2.2.2.moved ha⟩
theorem gK.kept {G : GT} {U : State} {H H1 : Heap} (h : gK G U H) (hq : ∀ a : Nat, a < H.size → ¬ gA G a → H1[a]? = H[a]?) : gK G U H1 := ⟨h.1, h.2.1, h.2.2.1, h.2.2.2.1, h.2.2.2.2.kept hq⟩
/-- the words that every method may use -/
def TBL : List Cond := lw_tbl.filter goodWord
def WK (K : KT) : List Cond := .code K.1 K.2.1 K.2.2.1 K.2.2.2 :: TBL
theorem TBL_of {w : Cond} (h : w ∈ lw_tbl) (hg : goodWord w = true) : w ∈ TBL := List.mem_filter.mpr ⟨h, hg⟩
theorem TBL_good {K : KT} (h : Cond.code K.1 K.2.1 K.2.2.1 K.2.2.2 ∈ TBL) : GoodIn TBL (WK K) := by
  intro w hw
  have hm : w ∈ TBL := by
    rcases List.mem_cons.mp hw with rfl | hw
    · exact h
    · exact hw
  exact ⟨hm, good_of_word (List.mem_filter.mp hm).2⟩
def rmD (d mc ms : Nat) : Room := { frames := d, cells := mc, slots := ms, locals := 64 * d }
def gQ (G : GT) (Q : QT) : Array Value → State → Outcome → State → Prop := fun _ st o t => (∃ (r : Option Value) (n : Nat) (mi : MI) (mr : MR), o = .returned (r.map (gV G)) ∧ Q r n mi mr ∧ gH G n mi mr t.heap) ∧ va_F (gA G) st t
/-- a method's contract -/
def Ct (K : KT) (d mc ms : Nat) (as : List Value) (n : Nat) (mi : MI) (mr : MR) (Q : QT) : Prop := ∀ (l : Launch) (G : GT), Met l K.1 (WK K) (rmD d mc ms) (va_Pc (as.map (gV G)) (fun U => gH G n mi mr U.heap ∧ gK G U U.heap)) (gQ G Q) mc ms (gA G)
/-- the locals, by their places -/
def gL (G : GT) (L : List (Option Value)) : List (Nat × Value) := L.zipIdx.filterMap (fun q => q.1.map (fun v => (q.2, gV G v)))
theorem gL_in {G : GT} {L : List (Option Value)} {i : Nat} {v : Value} : (i, v) ∈ gL G L ↔ ∃ w, L[i]? = some (some w) ∧ v = gV G w := by
  unfold gL
  rw [List.mem_filterMap]
  constructor
  · rintro ⟨⟨o, j⟩, h1, h2⟩
    cases o with
    | none => simp at h2
    | some w =>
      simp only [Option.map_some, Option.some.injEq, Prod.mk.injEq] at h2
      obtain ⟨rfl, rfl⟩ := h2
      exact ⟨w, by simpa using List.mem_zipIdx_iff_getElem?.mp h1, rfl⟩
  · rintro ⟨w, h1, rfl⟩
    exact ⟨(some w, i), List.mem_zipIdx_iff_getElem?.mpr (by simpa using h1), rfl⟩
/-- what holds all through a method's walk -/
def gX (K : KT) (d mc ms : Nat) (G : GT) (p : Program) (R : Room) (s : State) (m : MethodId) (args : Array Value) (meth : Method) (c : Code) : Prop :=
  p.tables.exec = Jvm.exec ∧ c.code = K.2.1 ∧ c.maxLocals = K.2.2.1 ∧ s.vm.findClass K.1.cls = some m.cls ∧ (∀ w ∈ TBL, w.before args s = true) ∧ (d ≤ R.frames ∧ 64 * d ≤ R.locals ∧ R.cells = mc ∧ R.slots = ms) ∧ meth.name = K.1.name ∧ gK G s s.heap ∧ gS0 G ≤ s.heap.size
/-- what a return instruction wants -/
def retOK (K : KT) (pc : Nat) : Option Value → Prop
  | none => decode K.2.1 pc = .ok (.return_, 1) ∧ K.2.2.2 = none
  | some (.int v) => decode K.2.1 pc = .ok (.ireturn, 1) ∧ ∃ ty, K.2.2.2 = some ty ∧ narrow ty (.int v) = .int v
  | some (.long _) => decode K.2.1 pc = .ok (.lreturn, 1) ∧ K.2.2.2 = some .long
  | _ => False
def gRet (K : KT) (mc ms : Nat) (Q : QT) (G : GT) (p : Program) (l : Launch) (e : Env) (R : Room) (s : State) (m : MethodId) (args : Array Value) (below : List Frame) (meth : Method) (c : Code) (Z : State → Prop) : Prop :=
  ∀ (H : Heap) (locs : List Loc) (cells slots : Nat) (ls : Array Slot) (pc n : Nat) (mi : MI) (mr : MR) (r : Option Value), gH G n mi mr H → va_S (gA G) s.heap H locs → cells ≤ mc → slots ≤ ms → Q r n mi mr → retOK K pc r → W p l e R s m args below meth c H locs cells slots Z (F0 m pc ls (r.toList.map (gV G)))
/-- THE WALK: from this pc, these locals and this stack over this abstract heap, with so many cells and slots left to make, the method ends as Q says -/
def V (K : KT) (d cl sl : Nat) (Q : QT) (pc : Nat) (L : List (Option Value)) (st : List Value) (n : Nat) (mi : MI) (mr : MR) : Prop :=
  ∀ (G : GT) (p : Program) (l : Launch) (e : Env) (R : Room) (s : State) (m : MethodId) (args : Array Value) (below : List Frame) (meth : Method) (c : Code) (Z : State → Prop) (mc ms : Nat), gX K d mc ms G p R s m args meth c → gRet K mc ms Q G p l e R s m args below meth c Z →
    ∀ (H : Heap) (locs : List Loc) (cells slots : Nat) (ls : Array Slot), gH G n mi mr H → va_S (gA G) s.heap H locs → cells + cl ≤ mc → slots + sl ≤ ms → lv_has ls K.2.2.1 (gL G L) → W p l e R s m args below meth c H locs cells slots Z (F0 m pc ls (st.map (gV G)))
theorem gV_cat (G : GT) (v : Value) : (gV G v).category = v.category := by cases v <;> rfl
theorem lv_args_map (G : GT) : ∀ (i : Nat) (vs : List Value), lv_args i (vs.map (gV G)) = (lv_args i vs).map (fun q => (q.1, gV G q.2)) := by
  intro i vs
  induction vs generalizing i with
  | nil => rfl
  | cons v vs ih =>
    simp only [List.map_cons, lv_args, gV_cat]
    try rw [ih]
theorem sl_map (G : GT) (vs : List Value) : (lg_sl (vs.map (gV G))).length = (lg_sl vs).length := by
  induction vs with
  | nil => rfl
  | cons v vs ih =>
    simp only [lg_sl, List.map_cons, List.flatMap_cons, List.length_append, gV_cat] at ih ⊢
    rw [ih]
    split <;> rfl
/-- what a method's start gives -/
theorem gX_of {K : KT} {d mc ms : Nat} {G : GT} {p : Program} {l : Launch} {e : Env} {s : State} {m : MethodId} {args : Array Value} {below : List Frame} {meth : Method} {c : Code} {s₁ : State}
    (B : BodyLoose p l K.1 (headSpec (WK K) (rmD d mc ms)) K.2.1 K.2.2.1 K.2.2.2 e s m args below meth c s₁) (hml : c.maxLocals = K.2.2.1) (hk : gK G s s.heap) (h0 : gS0 G ≤ s.heap.size) : gX K d mc ms G p (rmD d mc ms) s m args meth c := by
  have hts := atoms_spec (ws := WK K) B.pre
  exact ⟨B.exec, B.bytes, hml, findClass_of_methodNamed B.named, fun w hw => hts w (List.mem_cons_of_mem _ hw), ⟨Nat.le_refl _, Nat.le_refl _, rfl, rfl⟩, (name_of_methodNamed B.named B.method).1, hk, h0⟩
theorem gRet_of {K : KT} {d mc ms : Nat} {Q : QT} {G : GT} {p : Program} {l : Launch} {e : Env} {s : State} {m : MethodId} {args : Array Value} {below : List Frame} {meth : Method} {c : Code} {s₁ : State}
    (B : BodyLoose p l K.1 (headSpec (WK K) (rmD d mc ms)) K.2.1 K.2.2.1 K.2.2.2 e s m args below meth c s₁) : gRet K mc ms Q G p l e (rmD d mc ms) s m args below meth c (MQ below (gQ G Q) args s mc ms (gA G)) := by
  intro H locs cells slots ls pc n mi mr r hH hS hc hs hq hr
  have hx := B.exec
  have hb := B.bytes
  have hrt := B.returns
  have hlocks := B.notSynchronized
  refine W.widen (k := mc) (n := ms) hc hs ?_
  have hend : ∀ t : State, t.heap = H → gQ G Q args s (.returned (r.map (gV G))) t := fun t ht => ⟨⟨r, n, mi, mr, rfl, hq, by rw [ht]; exact hH⟩, hS.F ht⟩
  match r, hr, hend with
  | none, ⟨hd, h0⟩, hend => exact W.vret hx hb (hrt.trans h0) (fun t ht _ => hend t ht) hS.2.2 hd
  | some (.int v), ⟨hd, ty, h0, hn⟩, hend => exact W.zret hx hb (hrt.trans h0) hn (fun t ht _ => hend t ht) hS.2.2 hd
  | some (.long v), ⟨hd, h0⟩, hend => exact W.lret hx hb (hrt.trans h0) (fun t ht _ => hend t ht) hS.2.2 hd
/-- the contract out of the walk -/
theorem Ct.of {K : KT} {d mc ms : Nat} {as : List Value} {n : Nat} {mi : MI} {mr : MR} {Q : QT} (L : List (Option Value)) (hy : plainName K.1.cls = true) (hargs : (lg_sl as).length ≤ K.2.2.1) (hL : ∀ i v, L[i]? = some (some v) → (i, v) ∈ lv_args 0 as)
    (h : V K d mc ms Q 0 L [] n mi mr) : Ct K d mc ms as n mi mr Q := by
  intro l G
  refine Met.ofW (cc := K.2.1) (maxL := K.2.2.1) (ret := K.2.2.2) hy rfl ?_
  intro p e s m args below meth c s₁ B hml hv
  obtain ⟨rfl, hH, hK⟩ := hv
  have h0 : gS0 G ≤ s.heap.size := by rw [hH.2.1]; omega
  have hl := lv_entry (as.map (gV G)) (n := K.2.2.1) (by rw [sl_map]; exact hargs)
  rw [lg_entry_eq]
  refine h G p l e (rmD d mc ms) s m _ below meth c _ mc ms (gX_of B hml hK h0) (gRet_of B) s.heap [] 0 0 _ hH va_S.rf (by omega) (by omega) ⟨hl.1, hl.2.1, ?_⟩
  rintro ⟨i, v⟩ hq
  obtain ⟨w, h1, rfl⟩ := gL_in.mp hq
  have h2 := hL i w h1
  refine hl.2.2 (i, gV G w) ?_
  rw [lv_args_map]
  exact List.mem_map.mpr ⟨(i, w), h2, rfl⟩
end
section
section INS
variable {K : KT} {d cl sl : Nat} {Q : QT} {pc : Nat} {L : List (Option Value)} {st : List Value} {n : Nat} {mi : MI} {mr : MR}
/-- the local before i isn't a long that reaches into i -/
def okSt (L : List (Option Value)) (i : Nat) : Bool := match i with
  | 0 => true
  | j + 1 => match L[j]? with
    | some (some (.long _)) => false
    | some (some (.double _)) => false
    | _ => true
theorem gV_cat2 {L : List (Option Value)} {i j : Nat} {w : Value} (ho : okSt L i = true) (h : L[j]? = some (some w)) (hj : j + 1 = i) : w.category ≠ 2 := by
  subst hj
  simp only [okSt, h] at ho
  cases w <;> simp_all [Value.category]
theorem gL_at {G : GT} {ls : Array Slot} {nL : Nat} {L : List (Option Value)} (hl : lv_has ls nL (gL G L)) {i : Nat} {v : Value} (h : L[i]? = some (some v)) : ls[i]? = some (.val (gV G v)) := hl.2.2 (i, gV G v) (gL_in.mpr ⟨v, h, rfl⟩)
theorem gL_set1 {G : GT} {ls : Array Slot} {nL i : Nat} {L : List (Option Value)} {v : Value} {l' : List (Nat × Value)} (hl' : (i, gV G v) :: (gL G L).filter (fun q => !(q.1 == i) && !(q.1 + 1 == i && q.2.category == 2)) = l') (h : lv_has ls nL l') (ho : okSt L i = true) {L' : List (Option Value)} (hL : L.set i (some v) = L') : lv_has ls nL (gL G L') := by
  refine ⟨h.1, h.2.1, ?_⟩
  rintro ⟨j, w⟩ hq
  refine h.2.2 (j, w) ?_
  rw [← hl']
  obtain ⟨u, h1, rfl⟩ := gL_in.mp hq
  rw [← hL] at h1
  by_cases e : i = j
  · subst e
    have hlt := (List.getElem?_eq_some_iff.mp h1).1
    rw [List.getElem?_set_self (by simpa using hlt)] at h1
    cases h1
    exact List.mem_cons_self
  · rw [List.getElem?_set_ne e] at h1
    refine List.mem_cons_of_mem _ (List.mem_filter.mpr ⟨gL_in.mpr ⟨u, h1, rfl⟩, ?_⟩)
    have e1 : (j == i) = false := by simpa using fun q => e q.symm
    have e2 : (j + 1 == i && (gV G u).category == 2) = false := by
      rw [gV_cat]
      by_cases z : j + 1 = i
      · have := gV_cat2 ho h1 z
        simp [this]
      · simp [z]
    show (!(j == i) && !(j + 1 == i && (gV G u).category == 2)) = true
    rw [e1, e2]
    rfl
theorem gL_set2 {G : GT} {ls : Array Slot} {nL i : Nat} {L : List (Option Value)} {v : Value} {l' : List (Nat × Value)} (hl' : (i, gV G v) :: (gL G L).filter (fun q => !(q.1 == i) && (!(q.1 == i + 1) && !(q.1 + 1 == i && q.2.category == 2))) = l') (h : lv_has ls nL l') (ho : okSt L i = true) {L' : List (Option Value)} (hL : (L.set i (some v)).set (i + 1) none = L') : lv_has ls nL (gL G L') := by
  refine ⟨h.1, h.2.1, ?_⟩
  rintro ⟨j, w⟩ hq
  refine h.2.2 (j, w) ?_
  rw [← hl']
  obtain ⟨u, h1, rfl⟩ := gL_in.mp hq
  rw [← hL] at h1
  by_cases e0 : i + 1 = j
  · subst e0
    have hlt := (List.getElem?_eq_some_iff.mp h1).1
    rw [List.getElem?_set_self (by simpa using hlt)] at h1
    cases h1
  rw [List.getElem?_set_ne e0] at h1
  by_cases e : i = j
  · subst e
    have hlt := (List.getElem?_eq_some_iff.mp h1).1
    rw [List.getElem?_set_self (by simpa using hlt)] at h1
    cases h1
    exact List.mem_cons_self
  · rw [List.getElem?_set_ne e] at h1
    refine List.mem_cons_of_mem _ (List.mem_filter.mpr ⟨gL_in.mpr ⟨u, h1, rfl⟩, ?_⟩)
    have e1 : (j == i) = false := by simpa using fun q => e q.symm
    have e3 : (j == i + 1) = false := by simpa using fun q => e0 q.symm
    have e2 : (j + 1 == i && (gV G u).category == 2) = false := by
      rw [gV_cat]
      by_cases z : j + 1 = i
      · have := gV_cat2 ho h1 z
        simp [this]
      · simp [z]
    show (!(j == i) && (!(j == i + 1) && !(j + 1 == i && (gV G u).category == 2))) = true
    rw [e1, e2, e3]
    rfl
/-- the same place with fewer locals, in another writing -/
theorem V.eq {L' : List (Option Value)} {st' : List Value} {pc' n' : Nat} {mi' : MI} {mr' : MR} (h : V K d cl sl Q pc' L' st' n' mi' mr') (h1 : pc' = pc) (h2 : L' = L) (h3 : st' = st) (h4 : n' = n) (h5 : mi' = mi) (h6 : mr' = mr) : V K d cl sl Q pc L st n mi mr := by
  subst h1 h2 h3 h4 h5 h6
  exact h
theorem V.sub {L' : List (Option Value)} (hL : ∀ (i : Nat) (v : Value), L'[i]? = some (some v) → L[i]? = some (some v)) (h : V K d cl sl Q pc L' st n mi mr) : V K d cl sl Q pc L st n mi mr := by
  intro G p l e R s m args below meth c Z mc ms C hR H locs cells slots ls hH hS hc hs hl
  refine h G p l e R s m args below meth c Z mc ms C hR H locs cells slots ls hH hS hc hs ⟨hl.1, hl.2.1, ?_⟩
  rintro ⟨i, v⟩ hq
  obtain ⟨w, h1, rfl⟩ := gL_in.mp hq
  exact hl.2.2 (i, gV G w) (gL_in.mpr ⟨w, hL i w h1, rfl⟩)
theorem V.less {cl' sl' : Nat} (h1 : cl' ≤ cl) (h2 : sl' ≤ sl) (h : V K d cl' sl' Q pc L st n mi mr) : V K d cl sl Q pc L st n mi mr :=
  fun G p l e R s m args below meth c Z mc ms C hR H locs cells slots ls hH hS hc hs hl => h G p l e R s m args below meth c Z mc ms C hR H locs cells slots ls hH hS (by omega) (by omega) hl
theorem V_iconst {i : Int} {v : Int32} (hd : decode K.2.1 pc = .ok (.iconst i, 1)) (hv : Int32.ofInt i = v) (k : V K d cl sl Q (pc + 1) L (.int v :: st) n mi mr) : V K d cl sl Q pc L st n mi mr := by
  intro G p l e R s m args below meth c Z mc ms C hR H locs cells slots ls hH hS hc hs hl
  exact lv_iconst C.1 C.2.1 hd hv (k G p l e R s m args below meth c Z mc ms C hR H locs cells slots ls hH hS hc hs hl)
theorem V_bipush {i : Int} {v : Int32} (hd : decode K.2.1 pc = .ok (.bipush i, 2)) (hv : (Int8.ofInt i).toInt32 = v) (k : V K d cl sl Q (pc + 2) L (.int v :: st) n mi mr) : V K d cl sl Q pc L st n mi mr := by
  intro G p l e R s m args below meth c Z mc ms C hR H locs cells slots ls hH hS hc hs hl
  exact lv_bipush C.1 C.2.1 hd hv (k G p l e R s m args below meth c Z mc ms C hR H locs cells slots ls hH hS hc hs hl)
theorem V_sipush {i : Int} {v : Int32} (hd : decode K.2.1 pc = .ok (.sipush i, 3)) (hv : (Int16.ofInt i).toInt32 = v) (k : V K d cl sl Q (pc + 3) L (.int v :: st) n mi mr) : V K d cl sl Q pc L st n mi mr := by
  intro G p l e R s m args below meth c Z mc ms C hR H locs cells slots ls hH hS hc hs hl
  exact lv_sipush C.1 C.2.1 hd hv (k G p l e R s m args below meth c Z mc ms C hR H locs cells slots ls hH hS hc hs hl)
theorem V_lconst {i : Fin 2} {v : Int64} (hd : decode K.2.1 pc = .ok (.lconst i, 1)) (hv : Int64.ofNat (i : Nat) = v) (k : V K d cl sl Q (pc + 1) L (.long v :: st) n mi mr) : V K d cl sl Q pc L st n mi mr := by
  intro G p l e R s m args below meth c Z mc ms C hR H locs cells slots ls hH hS hc hs hl
  exact lv_lconst C.1 C.2.1 hd hv (k G p l e R s m args below meth c Z mc ms C hR H locs cells slots ls hH hS hc hs hl)
theorem V_ldc {i : Nat} {v : Int32} (hd : decode K.2.1 pc = .ok (.ldc i, 2)) (hw : Jvm.Cond.constant K.1.cls i v ∈ TBL) (k : V K d cl sl Q (pc + 2) L (.int v :: st) n mi mr) : V K d cl sl Q pc L st n mi mr := by
  intro G p l e R s m args below meth c Z mc ms C hR H locs cells slots ls hH hS hc hs hl
  exact lv_ldc C.1 C.2.1 C.2.2.2.1 (C.2.2.2.2.1 _ hw) hd (k G p l e R s m args below meth c Z mc ms C hR H locs cells slots ls hH hS hc hs hl)
theorem V_ldc2 {i : Nat} {v : Int64} (hd : decode K.2.1 pc = .ok (.ldc2_w i, 3)) (hw : Jvm.Cond.constantLong K.1.cls i v ∈ TBL) (k : V K d cl sl Q (pc + 3) L (.long v :: st) n mi mr) : V K d cl sl Q pc L st n mi mr := by
  intro G p l e R s m args below meth c Z mc ms C hR H locs cells slots ls hH hS hc hs hl
  exact lv_ldc2 C.1 C.2.1 C.2.2.2.1 (C.2.2.2.2.1 _ hw) hd (k G p l e R s m args below meth c Z mc ms C hR H locs cells slots ls hH hS hc hs hl)
theorem V_iload_n {i : Fin 4} {x : Int32} (hd : decode K.2.1 pc = .ok (.iload_n i, 1)) (hx : L[(i : Nat)]? = some (some (.int x))) (k : V K d cl sl Q (pc + 1) L (.int x :: st) n mi mr) : V K d cl sl Q pc L st n mi mr := by
  intro G p l e R s m args below meth c Z mc ms C hR H locs cells slots ls hH hS hc hs hl
  exact lv_iload_n C.1 C.2.1 hd rfl (gL_at hl hx) (k G p l e R s m args below meth c Z mc ms C hR H locs cells slots ls hH hS hc hs hl)
theorem V_iload {i : Nat} {x : Int32} (hd : decode K.2.1 pc = .ok (.iload i, 2)) (hx : L[i]? = some (some (.int x))) (k : V K d cl sl Q (pc + 2) L (.int x :: st) n mi mr) : V K d cl sl Q pc L st n mi mr := by
  intro G p l e R s m args below meth c Z mc ms C hR H locs cells slots ls hH hS hc hs hl
  exact lv_iload C.1 C.2.1 hd (gL_at hl hx) (k G p l e R s m args below meth c Z mc ms C hR H locs cells slots ls hH hS hc hs hl)
theorem V_lload_n {i : Fin 4} {x : Int64} (hd : decode K.2.1 pc = .ok (.lload_n i, 1)) (hx : L[(i : Nat)]? = some (some (.long x))) (k : V K d cl sl Q (pc + 1) L (.long x :: st) n mi mr) : V K d cl sl Q pc L st n mi mr := by
  intro G p l e R s m args below meth c Z mc ms C hR H locs cells slots ls hH hS hc hs hl
  exact lv_lload_n C.1 C.2.1 hd rfl (gL_at hl hx) (k G p l e R s m args below meth c Z mc ms C hR H locs cells slots ls hH hS hc hs hl)
theorem V_lload {i : Nat} {x : Int64} (hd : decode K.2.1 pc = .ok (.lload i, 2)) (hx : L[i]? = some (some (.long x))) (k : V K d cl sl Q (pc + 2) L (.long x :: st) n mi mr) : V K d cl sl Q pc L st n mi mr := by
  intro G p l e R s m args below meth c Z mc ms C hR H locs cells slots ls hH hS hc hs hl
  exact lv_lload C.1 C.2.1 hd (gL_at hl hx) (k G p l e R s m args below meth c Z mc ms C hR H locs cells slots ls hH hS hc hs hl)
theorem V_aload_n {i : Fin 4} {x : Nat} (hd : decode K.2.1 pc = .ok (.aload_n i, 1)) (hx : L[(i : Nat)]? = some (some (.ref x))) (k : V K d cl sl Q (pc + 1) L (.ref x :: st) n mi mr) : V K d cl sl Q pc L st n mi mr := by
  intro G p l e R s m args below meth c Z mc ms C hR H locs cells slots ls hH hS hc hs hl
  exact lv_aload_n C.1 C.2.1 hd rfl (gL_at hl hx) (k G p l e R s m args below meth c Z mc ms C hR H locs cells slots ls hH hS hc hs hl)
theorem V_aload {i : Nat} {x : Nat} (hd : decode K.2.1 pc = .ok (.aload i, 2)) (hx : L[i]? = some (some (.ref x))) (k : V K d cl sl Q (pc + 2) L (.ref x :: st) n mi mr) : V K d cl sl Q pc L st n mi mr := by
  intro G p l e R s m args below meth c Z mc ms C hR H locs cells slots ls hH hS hc hs hl
  exact lv_aload C.1 C.2.1 hd (gL_at hl hx) (k G p l e R s m args below meth c Z mc ms C hR H locs cells slots ls hH hS hc hs hl)
theorem V_istore_n {i : Fin 4} {x : Int32} {L' : List (Option Value)} (hd : decode K.2.1 pc = .ok (.istore_n i, 1)) (hi : (i : Nat) < K.2.2.1) (ho : okSt L (i : Nat) = true) (hL : L.set (i : Nat) (some (.int x)) = L') (k : V K d cl sl Q (pc + 1) L' st n mi mr) : V K d cl sl Q pc L ((.int x) :: st) n mi mr := by
  intro G p l e R s m args below meth c Z mc ms C hR H locs cells slots ls hH hS hc hs hl
  exact lv_istore_n C.1 C.2.1 hd rfl hl hi rfl (fun ls' hl' => (k G p l e R s m args below meth c Z mc ms C hR H locs cells slots ls' hH hS hc hs (gL_set1 rfl hl' ho hL)))
theorem V_istore {i : Nat} {x : Int32} {L' : List (Option Value)} (hd : decode K.2.1 pc = .ok (.istore i, 2)) (hi : i < K.2.2.1) (ho : okSt L i = true) (hL : L.set i (some (.int x)) = L') (k : V K d cl sl Q (pc + 2) L' st n mi mr) : V K d cl sl Q pc L ((.int x) :: st) n mi mr := by
  intro G p l e R s m args below meth c Z mc ms C hR H locs cells slots ls hH hS hc hs hl
  exact lv_istore C.1 C.2.1 hd hl hi rfl (fun ls' hl' => (k G p l e R s m args below meth c Z mc ms C hR H locs cells slots ls' hH hS hc hs (gL_set1 rfl hl' ho hL)))
theorem V_lstore_n {i : Fin 4} {x : Int64} {L' : List (Option Value)} (hd : decode K.2.1 pc = .ok (.lstore_n i, 1)) (hi : (i : Nat) + 1 < K.2.2.1) (ho : okSt L (i : Nat) = true) (hL : (L.set (i : Nat) (some (.long x))).set ((i : Nat) + 1) none = L') (k : V K d cl sl Q (pc + 1) L' st n mi mr) : V K d cl sl Q pc L ((.long x) :: st) n mi mr := by
  intro G p l e R s m args below meth c Z mc ms C hR H locs cells slots ls hH hS hc hs hl
  exact lv_lstore_n C.1 C.2.1 hd rfl hl hi rfl (fun ls' hl' => (k G p l e R s m args below meth c Z mc ms C hR H locs cells slots ls' hH hS hc hs (gL_set2 rfl hl' ho hL)))
theorem V_lstore {i : Nat} {x : Int64} {L' : List (Option Value)} (hd : decode K.2.1 pc = .ok (.lstore i, 2)) (hi : i + 1 < K.2.2.1) (ho : okSt L i = true) (hL : (L.set i (some (.long x))).set (i + 1) none = L') (k : V K d cl sl Q (pc + 2) L' st n mi mr) : V K d cl sl Q pc L ((.long x) :: st) n mi mr := by
  intro G p l e R s m args below meth c Z mc ms C hR H locs cells slots ls hH hS hc hs hl
  exact lv_lstore C.1 C.2.1 hd hl hi rfl (fun ls' hl' => (k G p l e R s m args below meth c Z mc ms C hR H locs cells slots ls' hH hS hc hs (gL_set2 rfl hl' ho hL)))
theorem V_astore_n {i : Fin 4} {x : Nat} {L' : List (Option Value)} (hd : decode K.2.1 pc = .ok (.astore_n i, 1)) (hi : (i : Nat) < K.2.2.1) (ho : okSt L (i : Nat) = true) (hL : L.set (i : Nat) (some (.ref x)) = L') (k : V K d cl sl Q (pc + 1) L' st n mi mr) : V K d cl sl Q pc L ((.ref x) :: st) n mi mr := by
  intro G p l e R s m args below meth c Z mc ms C hR H locs cells slots ls hH hS hc hs hl
  exact lv_astore_n C.1 C.2.1 hd rfl hl hi rfl (fun ls' hl' => (k G p l e R s m args below meth c Z mc ms C hR H locs cells slots ls' hH hS hc hs (gL_set1 rfl hl' ho hL)))
theorem V_astore {i : Nat} {x : Nat} {L' : List (Option Value)} (hd : decode K.2.1 pc = .ok (.astore i, 2)) (hi : i < K.2.2.1) (ho : okSt L i = true) (hL : L.set i (some (.ref x)) = L') (k : V K d cl sl Q (pc + 2) L' st n mi mr) : V K d cl sl Q pc L ((.ref x) :: st) n mi mr := by
  intro G p l e R s m args below meth c Z mc ms C hR H locs cells slots ls hH hS hc hs hl
  exact lv_astore C.1 C.2.1 hd hl hi rfl (fun ls' hl' => (k G p l e R s m args below meth c Z mc ms C hR H locs cells slots ls' hH hS hc hs (gL_set1 rfl hl' ho hL)))
theorem V_iinc {i : Nat} {b : Int} {x v : Int32} {L' : List (Option Value)} (hd : decode K.2.1 pc = .ok (.iinc i b, 3)) (hi : i < K.2.2.1) (hx : L[i]? = some (some (.int x))) (hv : x + Int32.ofInt b = v) (ho : okSt L i = true) (hL : L.set i (some (.int v)) = L') (k : V K d cl sl Q (pc + 3) L' st n mi mr) : V K d cl sl Q pc L st n mi mr := by
  intro G p l e R s m args below meth c Z mc ms C hR H locs cells slots ls hH hS hc hs hl
  obtain ⟨j, hj⟩ := List.getElem?_of_mem (gL_in.mpr ⟨_, hx, rfl⟩ : (i, gV G (.int x)) ∈ gL G L)
  exact lv_iinc C.1 C.2.1 hd hl hj hv hi rfl (fun ls' hl' => (k G p l e R s m args below meth c Z mc ms C hR H locs cells slots ls' hH hS hc hs (gL_set1 (v := .int v) rfl hl' ho hL)))
theorem V_iadd {x y : Int32} (hd : decode K.2.1 pc = .ok (.iadd, 1)) (k : V K d cl sl Q (pc + 1) L (.int (x + y) :: st) n mi mr) : V K d cl sl Q pc L (.int y :: .int x :: st) n mi mr := by
  intro G p l e R s m args below meth c Z mc ms C hR H locs cells slots ls hH hS hc hs hl
  exact lv_iadd C.1 C.2.1 hd (k G p l e R s m args below meth c Z mc ms C hR H locs cells slots ls hH hS hc hs hl)
theorem V_isub {x y : Int32} (hd : decode K.2.1 pc = .ok (.isub, 1)) (k : V K d cl sl Q (pc + 1) L (.int (x - y) :: st) n mi mr) : V K d cl sl Q pc L (.int y :: .int x :: st) n mi mr := by
  intro G p l e R s m args below meth c Z mc ms C hR H locs cells slots ls hH hS hc hs hl
  exact lv_isub C.1 C.2.1 hd (k G p l e R s m args below meth c Z mc ms C hR H locs cells slots ls hH hS hc hs hl)
theorem V_imul {x y : Int32} (hd : decode K.2.1 pc = .ok (.imul, 1)) (k : V K d cl sl Q (pc + 1) L (.int (x * y) :: st) n mi mr) : V K d cl sl Q pc L (.int y :: .int x :: st) n mi mr := by
  intro G p l e R s m args below meth c Z mc ms C hR H locs cells slots ls hH hS hc hs hl
  exact lv_imul C.1 C.2.1 hd (k G p l e R s m args below meth c Z mc ms C hR H locs cells slots ls hH hS hc hs hl)
theorem V_iand {x y : Int32} (hd : decode K.2.1 pc = .ok (.iand, 1)) (k : V K d cl sl Q (pc + 1) L (.int (x &&& y) :: st) n mi mr) : V K d cl sl Q pc L (.int y :: .int x :: st) n mi mr := by
  intro G p l e R s m args below meth c Z mc ms C hR H locs cells slots ls hH hS hc hs hl
  exact lv_iand C.1 C.2.1 hd (k G p l e R s m args below meth c Z mc ms C hR H locs cells slots ls hH hS hc hs hl)
theorem V_ior {x y : Int32} (hd : decode K.2.1 pc = .ok (.ior, 1)) (k : V K d cl sl Q (pc + 1) L (.int (x ||| y) :: st) n mi mr) : V K d cl sl Q pc L (.int y :: .int x :: st) n mi mr := by
  intro G p l e R s m args below meth c Z mc ms C hR H locs cells slots ls hH hS hc hs hl
  exact lv_ior C.1 C.2.1 hd (k G p l e R s m args below meth c Z mc ms C hR H locs cells slots ls hH hS hc hs hl)
theorem V_ixor {x y : Int32} (hd : decode K.2.1 pc = .ok (.ixor, 1)) (k : V K d cl sl Q (pc + 1) L (.int (x ^^^ y) :: st) n mi mr) : V K d cl sl Q pc L (.int y :: .int x :: st) n mi mr := by
  intro G p l e R s m args below meth c Z mc ms C hR H locs cells slots ls hH hS hc hs hl
  exact lv_ixor C.1 C.2.1 hd (k G p l e R s m args below meth c Z mc ms C hR H locs cells slots ls hH hS hc hs hl)
theorem V_ishl {x y : Int32} (hd : decode K.2.1 pc = .ok (.ishl, 1)) (k : V K d cl sl Q (pc + 1) L (.int (x <<< (y &&& 31)) :: st) n mi mr) : V K d cl sl Q pc L (.int y :: .int x :: st) n mi mr := by
  intro G p l e R s m args below meth c Z mc ms C hR H locs cells slots ls hH hS hc hs hl
  exact lv_ishl C.1 C.2.1 hd (k G p l e R s m args below meth c Z mc ms C hR H locs cells slots ls hH hS hc hs hl)
theorem V_ishr {x y : Int32} (hd : decode K.2.1 pc = .ok (.ishr, 1)) (k : V K d cl sl Q (pc + 1) L (.int (x >>> (y &&& 31)) :: st) n mi mr) : V K d cl sl Q pc L (.int y :: .int x :: st) n mi mr := by
  intro G p l e R s m args below meth c Z mc ms C hR H locs cells slots ls hH hS hc hs hl
  exact lv_ishr C.1 C.2.1 hd (k G p l e R s m args below meth c Z mc ms C hR H locs cells slots ls hH hS hc hs hl)
theorem V_idiv {x y : Int32} (hd : decode K.2.1 pc = .ok (.idiv, 1)) (hy : ¬ y = 0) (k : V K d cl sl Q (pc + 1) L (.int (x / y) :: st) n mi mr) : V K d cl sl Q pc L (.int y :: .int x :: st) n mi mr := by
  intro G p l e R s m args below meth c Z mc ms C hR H locs cells slots ls hH hS hc hs hl
  exact lv_idiv C.1 C.2.1 hd hy (k G p l e R s m args below meth c Z mc ms C hR H locs cells slots ls hH hS hc hs hl)
theorem V_irem {x y : Int32} (hd : decode K.2.1 pc = .ok (.irem, 1)) (hy : ¬ y = 0) (k : V K d cl sl Q (pc + 1) L (.int (x - x / y * y) :: st) n mi mr) : V K d cl sl Q pc L (.int y :: .int x :: st) n mi mr := by
  intro G p l e R s m args below meth c Z mc ms C hR H locs cells slots ls hH hS hc hs hl
  exact lv_irem C.1 C.2.1 hd hy (k G p l e R s m args below meth c Z mc ms C hR H locs cells slots ls hH hS hc hs hl)
theorem V_ineg {x : Int32} (hd : decode K.2.1 pc = .ok (.ineg, 1)) (k : V K d cl sl Q (pc + 1) L (.int (-x) :: st) n mi mr) : V K d cl sl Q pc L (.int x :: st) n mi mr := by
  intro G p l e R s m args below meth c Z mc ms C hR H locs cells slots ls hH hS hc hs hl
  exact lv_ineg C.1 C.2.1 hd (k G p l e R s m args below meth c Z mc ms C hR H locs cells slots ls hH hS hc hs hl)
theorem V_i2l {x : Int32} (hd : decode K.2.1 pc = .ok (.i2l, 1)) (k : V K d cl sl Q (pc + 1) L (.long x.toInt64 :: st) n mi mr) : V K d cl sl Q pc L (.int x :: st) n mi mr := by
  intro G p l e R s m args below meth c Z mc ms C hR H locs cells slots ls hH hS hc hs hl
  exact lv_i2l C.1 C.2.1 hd rfl (k G p l e R s m args below meth c Z mc ms C hR H locs cells slots ls hH hS hc hs hl)
theorem V_i2c {x : Int32} (hd : decode K.2.1 pc = .ok (.i2c, 1)) (k : V K d cl sl Q (pc + 1) L (.int (x.toUInt32 % 65536).toInt32 :: st) n mi mr) : V K d cl sl Q pc L (.int x :: st) n mi mr := by
  intro G p l e R s m args below meth c Z mc ms C hR H locs cells slots ls hH hS hc hs hl
  exact lv_i2c C.1 C.2.1 hd rfl (k G p l e R s m args below meth c Z mc ms C hR H locs cells slots ls hH hS hc hs hl)
theorem V_ladd {x y : Int64} (hd : decode K.2.1 pc = .ok (.ladd, 1)) (k : V K d cl sl Q (pc + 1) L (.long (x + y) :: st) n mi mr) : V K d cl sl Q pc L (.long y :: .long x :: st) n mi mr := by
  intro G p l e R s m args below meth c Z mc ms C hR H locs cells slots ls hH hS hc hs hl
  exact lv_ladd C.1 C.2.1 hd (k G p l e R s m args below meth c Z mc ms C hR H locs cells slots ls hH hS hc hs hl)
theorem V_ldiv {x y : Int64} (hd : decode K.2.1 pc = .ok (.ldiv, 1)) (hy : ¬ y = 0) (k : V K d cl sl Q (pc + 1) L (.long (x / y) :: st) n mi mr) : V K d cl sl Q pc L (.long y :: .long x :: st) n mi mr := by
  intro G p l e R s m args below meth c Z mc ms C hR H locs cells slots ls hH hS hc hs hl
  exact lv_ldiv C.1 C.2.1 hd hy (k G p l e R s m args below meth c Z mc ms C hR H locs cells slots ls hH hS hc hs hl)
theorem V_lrem {x y : Int64} (hd : decode K.2.1 pc = .ok (.lrem, 1)) (hy : ¬ y = 0) (k : V K d cl sl Q (pc + 1) L (.long (x - x / y * y) :: st) n mi mr) : V K d cl sl Q pc L (.long y :: .long x :: st) n mi mr := by
  intro G p l e R s m args below meth c Z mc ms C hR H locs cells slots ls hH hS hc hs hl
  exact lv_lrem C.1 C.2.1 hd hy (k G p l e R s m args below meth c Z mc ms C hR H locs cells slots ls hH hS hc hs hl)
theorem V_lcmp {x y : Int64} (hd : decode K.2.1 pc = .ok (.lcmp, 1)) (k : V K d cl sl Q (pc + 1) L (.int (lg_cmp x y) :: st) n mi mr) : V K d cl sl Q pc L (.long y :: .long x :: st) n mi mr := by
  intro G p l e R s m args below meth c Z mc ms C hR H locs cells slots ls hH hS hc hs hl
  exact W.lcmp C.1 C.2.1 hd (k G p l e R s m args below meth c Z mc ms C hR H locs cells slots ls hH hS hc hs hl)
theorem V_iushr {x y : Int32} (hd : decode K.2.1 pc = .ok (.iushr, 1)) (k : V K d cl sl Q (pc + 1) L (.int (x.toUInt32 >>> (y.toUInt32 &&& Int32.toUInt32 31)).toInt32 :: st) n mi mr) : V K d cl sl Q pc L (.int y :: .int x :: st) n mi mr := by
  intro G p l e R s m args below meth c Z mc ms C hR H locs cells slots ls hH hS hc hs hl
  exact lv_iushr C.1 C.2.1 hd rfl (k G p l e R s m args below meth c Z mc ms C hR H locs cells slots ls hH hS hc hs hl)
theorem V_dup {a : Value} (hd : decode K.2.1 pc = .ok (.dup, 1)) (ha : a.category = 1) (k : V K d cl sl Q (pc + 1) L (a :: a :: st) n mi mr) : V K d cl sl Q pc L (a :: st) n mi mr := by
  intro G p l e R s m args below meth c Z mc ms C hR H locs cells slots ls hH hS hc hs hl
  exact lv_dup C.1 C.2.1 hd (by rw [gV_cat]; exact ha) (k G p l e R s m args below meth c Z mc ms C hR H locs cells slots ls hH hS hc hs hl)
theorem V_pop {a : Value} (hd : decode K.2.1 pc = .ok (.pop, 1)) (ha : a.category = 1) (k : V K d cl sl Q (pc + 1) L st n mi mr) : V K d cl sl Q pc L (a :: st) n mi mr := by
  intro G p l e R s m args below meth c Z mc ms C hR H locs cells slots ls hH hS hc hs hl
  exact lv_pop C.1 C.2.1 hd (by rw [gV_cat]; exact ha) (k G p l e R s m args below meth c Z mc ms C hR H locs cells slots ls hH hS hc hs hl)
theorem V_dup_x1 {a b : Value} (hd : decode K.2.1 pc = .ok (.dup_x1, 1)) (ha : a.category = 1) (hb : b.category = 1) (k : V K d cl sl Q (pc + 1) L (a :: b :: a :: st) n mi mr) : V K d cl sl Q pc L (a :: b :: st) n mi mr := by
  intro G p l e R s m args below meth c Z mc ms C hR H locs cells slots ls hH hS hc hs hl
  exact lv_dup_x1 C.1 C.2.1 hd (by rw [gV_cat]; exact ha) (by rw [gV_cat]; exact hb) (k G p l e R s m args below meth c Z mc ms C hR H locs cells slots ls hH hS hc hs hl)
theorem V_dup2 {a b : Value} (hd : decode K.2.1 pc = .ok (.dup2, 1)) (ha : a.category = 1) (hb : b.category = 1) (k : V K d cl sl Q (pc + 1) L (a :: b :: a :: b :: st) n mi mr) : V K d cl sl Q pc L (a :: b :: st) n mi mr := by
  intro G p l e R s m args below meth c Z mc ms C hR H locs cells slots ls hH hS hc hs hl
  exact lv_dup2_11 C.1 C.2.1 hd (by rw [gV_cat]; exact ha) (by rw [gV_cat]; exact hb) (k G p l e R s m args below meth c Z mc ms C hR H locs cells slots ls hH hS hc hs hl)
theorem V_icmp_eq {x y : Int32} {off : Int} {tgt : Nat} (hd : decode K.2.1 pc = .ok (.if_icmp .eq off, 3)) (ht : (pc : Int) + off = (tgt : Int)) (kt : x = y → V K d cl sl Q tgt L st n mi mr) (kf : ¬ x = y → V K d cl sl Q (pc + 3) L st n mi mr) : V K d cl sl Q pc L (.int y :: .int x :: st) n mi mr := by
  intro G p l e R s m args below meth c Z mc ms C hR H locs cells slots ls hH hS hc hs hl
  exact lv_icmp_eq C.1 C.2.1 hd ht (fun q => (kt q G p l e R s m args below meth c Z mc ms C hR H locs cells slots ls hH hS hc hs hl)) (fun q => (kf q G p l e R s m args below meth c Z mc ms C hR H locs cells slots ls hH hS hc hs hl))
theorem V_if_eq {x : Int32} {off : Int} {tgt : Nat} (hd : decode K.2.1 pc = .ok (.ifCond .eq off, 3)) (ht : (pc : Int) + off = (tgt : Int)) (kt : x = 0 → V K d cl sl Q tgt L st n mi mr) (kf : ¬ x = 0 → V K d cl sl Q (pc + 3) L st n mi mr) : V K d cl sl Q pc L (.int x :: st) n mi mr := by
  intro G p l e R s m args below meth c Z mc ms C hR H locs cells slots ls hH hS hc hs hl
  exact lv_if_eq C.1 C.2.1 hd ht (fun q => (kt q G p l e R s m args below meth c Z mc ms C hR H locs cells slots ls hH hS hc hs hl)) (fun q => (kf q G p l e R s m args below meth c Z mc ms C hR H locs cells slots ls hH hS hc hs hl))
theorem V_icmp_ne {x y : Int32} {off : Int} {tgt : Nat} (hd : decode K.2.1 pc = .ok (.if_icmp .ne off, 3)) (ht : (pc : Int) + off = (tgt : Int)) (kt : ¬ x = y → V K d cl sl Q tgt L st n mi mr) (kf : x = y → V K d cl sl Q (pc + 3) L st n mi mr) : V K d cl sl Q pc L (.int y :: .int x :: st) n mi mr := by
  intro G p l e R s m args below meth c Z mc ms C hR H locs cells slots ls hH hS hc hs hl
  exact lv_icmp_ne C.1 C.2.1 hd ht (fun q => (kt q G p l e R s m args below meth c Z mc ms C hR H locs cells slots ls hH hS hc hs hl)) (fun q => (kf q G p l e R s m args below meth c Z mc ms C hR H locs cells slots ls hH hS hc hs hl))
theorem V_if_ne {x : Int32} {off : Int} {tgt : Nat} (hd : decode K.2.1 pc = .ok (.ifCond .ne off, 3)) (ht : (pc : Int) + off = (tgt : Int)) (kt : ¬ x = 0 → V K d cl sl Q tgt L st n mi mr) (kf : x = 0 → V K d cl sl Q (pc + 3) L st n mi mr) : V K d cl sl Q pc L (.int x :: st) n mi mr := by
  intro G p l e R s m args below meth c Z mc ms C hR H locs cells slots ls hH hS hc hs hl
  exact lv_if_ne C.1 C.2.1 hd ht (fun q => (kt q G p l e R s m args below meth c Z mc ms C hR H locs cells slots ls hH hS hc hs hl)) (fun q => (kf q G p l e R s m args below meth c Z mc ms C hR H locs cells slots ls hH hS hc hs hl))
theorem V_icmp_lt {x y : Int32} {off : Int} {tgt : Nat} (hd : decode K.2.1 pc = .ok (.if_icmp .lt off, 3)) (ht : (pc : Int) + off = (tgt : Int)) (kt : x < y → V K d cl sl Q tgt L st n mi mr) (kf : ¬ x < y → V K d cl sl Q (pc + 3) L st n mi mr) : V K d cl sl Q pc L (.int y :: .int x :: st) n mi mr := by
  intro G p l e R s m args below meth c Z mc ms C hR H locs cells slots ls hH hS hc hs hl
  exact lv_icmp_lt C.1 C.2.1 hd ht (fun q => (kt q G p l e R s m args below meth c Z mc ms C hR H locs cells slots ls hH hS hc hs hl)) (fun q => (kf q G p l e R s m args below meth c Z mc ms C hR H locs cells slots ls hH hS hc hs hl))
theorem V_if_lt {x : Int32} {off : Int} {tgt : Nat} (hd : decode K.2.1 pc = .ok (.ifCond .lt off, 3)) (ht : (pc : Int) + off = (tgt : Int)) (kt : x < 0 → V K d cl sl Q tgt L st n mi mr) (kf : ¬ x < 0 → V K d cl sl Q (pc + 3) L st n mi mr) : V K d cl sl Q pc L (.int x :: st) n mi mr := by
  intro G p l e R s m args below meth c Z mc ms C hR H locs cells slots ls hH hS hc hs hl
  exact lv_if_lt C.1 C.2.1 hd ht (fun q => (kt q G p l e R s m args below meth c Z mc ms C hR H locs cells slots ls hH hS hc hs hl)) (fun q => (kf q G p l e R s m args below meth c Z mc ms C hR H locs cells slots ls hH hS hc hs hl))
theorem V_icmp_ge {x y : Int32} {off : Int} {tgt : Nat} (hd : decode K.2.1 pc = .ok (.if_icmp .ge off, 3)) (ht : (pc : Int) + off = (tgt : Int)) (kt : y ≤ x → V K d cl sl Q tgt L st n mi mr) (kf : ¬ y ≤ x → V K d cl sl Q (pc + 3) L st n mi mr) : V K d cl sl Q pc L (.int y :: .int x :: st) n mi mr := by
  intro G p l e R s m args below meth c Z mc ms C hR H locs cells slots ls hH hS hc hs hl
  exact lv_icmp_ge C.1 C.2.1 hd ht (fun q => (kt q G p l e R s m args below meth c Z mc ms C hR H locs cells slots ls hH hS hc hs hl)) (fun q => (kf q G p l e R s m args below meth c Z mc ms C hR H locs cells slots ls hH hS hc hs hl))
theorem V_if_ge {x : Int32} {off : Int} {tgt : Nat} (hd : decode K.2.1 pc = .ok (.ifCond .ge off, 3)) (ht : (pc : Int) + off = (tgt : Int)) (kt : 0 ≤ x → V K d cl sl Q tgt L st n mi mr) (kf : ¬ 0 ≤ x → V K d cl sl Q (pc + 3) L st n mi mr) : V K d cl sl Q pc L (.int x :: st) n mi mr := by
  intro G p l e R s m args below meth c Z mc ms C hR H locs cells slots ls hH hS hc hs hl
  exact lv_if_ge C.1 C.2.1 hd ht (fun q => (kt q G p l e R s m args below meth c Z mc ms C hR H locs cells slots ls hH hS hc hs hl)) (fun q => (kf q G p l e R s m args below meth c Z mc ms C hR H locs cells slots ls hH hS hc hs hl))
theorem V_icmp_gt {x y : Int32} {off : Int} {tgt : Nat} (hd : decode K.2.1 pc = .ok (.if_icmp .gt off, 3)) (ht : (pc : Int) + off = (tgt : Int)) (kt : y < x → V K d cl sl Q tgt L st n mi mr) (kf : ¬ y < x → V K d cl sl Q (pc + 3) L st n mi mr) : V K d cl sl Q pc L (.int y :: .int x :: st) n mi mr := by
  intro G p l e R s m args below meth c Z mc ms C hR H locs cells slots ls hH hS hc hs hl
  exact lv_icmp_gt C.1 C.2.1 hd ht (fun q => (kt q G p l e R s m args below meth c Z mc ms C hR H locs cells slots ls hH hS hc hs hl)) (fun q => (kf q G p l e R s m args below meth c Z mc ms C hR H locs cells slots ls hH hS hc hs hl))
theorem V_if_gt {x : Int32} {off : Int} {tgt : Nat} (hd : decode K.2.1 pc = .ok (.ifCond .gt off, 3)) (ht : (pc : Int) + off = (tgt : Int)) (kt : 0 < x → V K d cl sl Q tgt L st n mi mr) (kf : ¬ 0 < x → V K d cl sl Q (pc + 3) L st n mi mr) : V K d cl sl Q pc L (.int x :: st) n mi mr := by
  intro G p l e R s m args below meth c Z mc ms C hR H locs cells slots ls hH hS hc hs hl
  exact lv_if_gt C.1 C.2.1 hd ht (fun q => (kt q G p l e R s m args below meth c Z mc ms C hR H locs cells slots ls hH hS hc hs hl)) (fun q => (kf q G p l e R s m args below meth c Z mc ms C hR H locs cells slots ls hH hS hc hs hl))
theorem V_icmp_le {x y : Int32} {off : Int} {tgt : Nat} (hd : decode K.2.1 pc = .ok (.if_icmp .le off, 3)) (ht : (pc : Int) + off = (tgt : Int)) (kt : x ≤ y → V K d cl sl Q tgt L st n mi mr) (kf : ¬ x ≤ y → V K d cl sl Q (pc + 3) L st n mi mr) : V K d cl sl Q pc L (.int y :: .int x :: st) n mi mr := by
  intro G p l e R s m args below meth c Z mc ms C hR H locs cells slots ls hH hS hc hs hl
  exact lv_icmp_le C.1 C.2.1 hd ht (fun q => (kt q G p l e R s m args below meth c Z mc ms C hR H locs cells slots ls hH hS hc hs hl)) (fun q => (kf q G p l e R s m args below meth c Z mc ms C hR H locs cells slots ls hH hS hc hs hl))
theorem V_if_le {x : Int32} {off : Int} {tgt : Nat} (hd : decode K.2.1 pc = .ok (.ifCond .le off, 3)) (ht : (pc : Int) + off = (tgt : Int)) (kt : x ≤ 0 → V K d cl sl Q tgt L st n mi mr) (kf : ¬ x ≤ 0 → V K d cl sl Q (pc + 3) L st n mi mr) : V K d cl sl Q pc L (.int x :: st) n mi mr := by
  intro G p l e R s m args below meth c Z mc ms C hR H locs cells slots ls hH hS hc hs hl
  exact lv_if_le C.1 C.2.1 hd ht (fun q => (kt q G p l e R s m args below meth c Z mc ms C hR H locs cells slots ls hH hS hc hs hl)) (fun q => (kf q G p l e R s m args below meth c Z mc ms C hR H locs cells slots ls hH hS hc hs hl))
theorem V_goto {off : Int} {tgt : Nat} (hd : decode K.2.1 pc = .ok (.goto off, 3)) (ht : (pc : Int) + off = (tgt : Int)) (k : V K d cl sl Q tgt L st n mi mr) : V K d cl sl Q pc L st n mi mr := by
  intro G p l e R s m args below meth c Z mc ms C hR H locs cells slots ls hH hS hc hs hl
  exact lv_goto C.1 C.2.1 hd ht (k G p l e R s m args below meth c Z mc ms C hR H locs cells slots ls hH hS hc hs hl)
theorem V_tableIn {dflt lo hi : Int} {offs : Array Int} {len : Nat} {x : Int32} {off : Int} {tgt : Nat} (hd : decode K.2.1 pc = .ok (.tableswitch dflt lo hi offs, len)) (h1 : ¬ x.toInt < lo) (h2 : ¬ hi < x.toInt) (ho : offs[(x.toInt - lo).toNat]? = some off) (ht : (pc : Int) + off = (tgt : Int)) (k : V K d cl sl Q tgt L st n mi mr) : V K d cl sl Q pc L (.int x :: st) n mi mr := by
  intro G p l e R s m args below meth c Z mc ms C hR H locs cells slots ls hH hS hc hs hl
  exact lv_tableIn C.1 C.2.1 hd h1 h2 ho ht (k G p l e R s m args below meth c Z mc ms C hR H locs cells slots ls hH hS hc hs hl)
theorem V_tableOut {dflt lo hi : Int} {offs : Array Int} {len : Nat} {x : Int32} {tgt : Nat} (hd : decode K.2.1 pc = .ok (.tableswitch dflt lo hi offs, len)) (h : x.toInt < lo ∨ hi < x.toInt) (ht : (pc : Int) + dflt = (tgt : Int)) (k : V K d cl sl Q tgt L st n mi mr) : V K d cl sl Q pc L (.int x :: st) n mi mr := by
  intro G p l e R s m args below meth c Z mc ms C hR H locs cells slots ls hH hS hc hs hl
  exact lv_tableOut C.1 C.2.1 hd h ht (k G p l e R s m args below meth c Z mc ms C hR H locs cells slots ls hH hS hc hs hl)
theorem V_lookup {dflt : Int} {ps : Array (Int × Int)} {len : Nat} {x : Int32} {off : Int} {tgt : Nat} (hd : decode K.2.1 pc = .ok (.lookupswitch dflt ps, len)) (hp : (ps.toList.zip (ps.toList.drop 1)).all (fun (a, next) => a.1 < next.1) = true) (ho : Op.lookupswitch.offset ps.toList dflt x.toInt = off) (ht : (pc : Int) + off = (tgt : Int)) (k : V K d cl sl Q tgt L st n mi mr) : V K d cl sl Q pc L (.int x :: st) n mi mr := by
  intro G p l e R s m args below meth c Z mc ms C hR H locs cells slots ls hH hS hc hs hl
  exact lv_lookup C.1 C.2.1 hd hp ho ht (k G p l e R s m args below meth c Z mc ms C hR H locs cells slots ls hH hS hc hs hl)
theorem V_iret {x : Int32} {ty : FieldType} (hd : decode K.2.1 pc = .ok (.ireturn, 1)) (hr : K.2.2.2 = some ty) (hn : narrow ty (.int x) = .int x) (hq : Q (some (.int x)) n mi mr) : V K d cl sl Q pc L [.int x] n mi mr := by
  intro G p l e R s m args below meth c Z mc ms C hR H locs cells slots ls hH hS hc hs hl
  exact hR H locs cells slots ls pc n mi mr (some (.int x)) hH hS (by omega) (by omega) hq ⟨hd, ty, hr, hn⟩
theorem V_lret {x : Int64} (hd : decode K.2.1 pc = .ok (.lreturn, 1)) (hr : K.2.2.2 = some .long) (hq : Q (some (.long x)) n mi mr) : V K d cl sl Q pc L [.long x] n mi mr := by
  intro G p l e R s m args below meth c Z mc ms C hR H locs cells slots ls hH hS hc hs hl
  exact hR H locs cells slots ls pc n mi mr (some (.long x)) hH hS (by omega) (by omega) hq ⟨hd, hr⟩
theorem V_ret (hd : decode K.2.1 pc = .ok (.return_, 1)) (hr : K.2.2.2 = none) (hq : Q none n mi mr) : V K d cl sl Q pc L [] n mi mr := by
  intro G p l e R s m args below meth c Z mc ms C hR H locs cells slots ls hH hS hc hs hl
  exact hR H locs cells slots ls pc n mi mr none hH hS (by omega) (by omega) hq ⟨hd, hr⟩
end INS
end
section
/-! heap instructions over V -/
def gT : Nat → u_T := fun k => match k with
  | 0 => TX0
  | 1 => TX1
  | 2 => TX2
  | 3 => TX3
  | 4 => TX4
  | 5 => TX5
  | 6 => TX6
  | 7 => TX7
  | _ => TX8
def gRX : Nat → String := fun k => match k with
  | 0 => RX0
  | 1 => RX1
  | 2 => RX2
  | 3 => RX3
  | 4 => RX4
  | 5 => RX5
  | 6 => RX6
  | 7 => RX7
  | _ => RX8
theorem gCls_at {ci : Nat} (h : ci < 9) : gCls[ci]? = some (gRX ci, gT ci, gN ci) := by
  match ci, h with
  | 0, _ => rfl
  | 1, _ => rfl
  | 2, _ => rfl
  | 3, _ => rfl
  | 4, _ => rfl
  | 5, _ => rfl
  | 6, _ => rfl
  | 7, _ => rfl
  | 8, _ => rfl
theorem gTy_ok {ci : Nat} (h : ci < 9) : ∀ k, k < gN ci → parseFieldDescriptor (gT ci k).2.2.1 = some (gFT ci k) := by
  match ci, h with
  | 0, _ => exact tyX0_ok
  | 1, _ => exact tyX1_ok
  | 2, _ => exact tyX2_ok
  | 3, _ => exact tyX3_ok
  | 4, _ => exact tyX4_ok
  | 5, _ => exact tyX5_ok
  | 6, _ => exact tyX6_ok
  | 7, _ => exact tyX7_ok
  | 8, _ => exact tyX8_ok
theorem gNm_ok {ci : Nat} (h : ci < 9) : ∀ a, a < gN ci → ∀ b, b < gN ci → a ≠ b → (gT ci a).2.1 ≠ (gT ci b).2.1 := by
  match ci, h with
  | 0, _ => exact nmX0
  | 1, _ => exact nmX1
  | 2, _ => exact nmX2
  | 3, _ => exact nmX3
  | 4, _ => exact nmX4
  | 5, _ => exact nmX5
  | 6, _ => exact nmX6
  | 7, _ => exact nmX7
  | 8, _ => exact nmX8
def inB (ci : Nat) : Bool := (u_ws (gRX ci) (gT ci) (gN ci)).all (fun w => goodWord w && lw_tbl.any (fun z => decide (z = w)))
theorem inB_use {ci : Nat} (h : inB ci = true) : ∀ w ∈ u_ws (gRX ci) (gT ci) (gN ci), w ∈ TBL := by
  intro w hw
  have h1 := List.all_eq_true.mp h w hw
  rw [Bool.and_eq_true] at h1
  obtain ⟨z, hz, h2⟩ := List.any_eq_true.mp h1.2
  have e : z = w := of_decide_eq_true h2
  subst e
  exact TBL_of hz h1.1
theorem inB0 : inB 0 = true := by decide +kernel
theorem inB1 : inB 1 = true := by decide +kernel
theorem inB2 : inB 2 = true := by decide +kernel
theorem inB3 : inB 3 = true := by decide +kernel
theorem inB4 : inB 4 = true := by decide +kernel
theorem inB5 : inB 5 = true := by decide +kernel
theorem inB6 : inB 6 = true := by decide +kernel
theorem inB7 : inB 7 = true := by decide +kernel
theorem inB8 : inB 8 = true := by decide +kernel
theorem gIn_ok {ci : Nat} (h : ci < 9) : ∀ w ∈ u_ws (gRX ci) (gT ci) (gN ci), w ∈ TBL := by
  match ci, h with
  | 0, _ => exact inB_use inB0
  | 1, _ => exact inB_use inB1
  | 2, _ => exact inB_use inB2
  | 3, _ => exact inB_use inB3
  | 4, _ => exact inB_use inB4
  | 5, _ => exact inB_use inB5
  | 6, _ => exact inB_use inB6
  | 7, _ => exact inB_use inB7
  | 8, _ => exact inB_use inB8
def gLink (own : String) (index ci k : Nat) : Prop := Cond.fieldLink own index (gT ci k).1 (gT ci k).2.1 (gT ci k).2.2.1 ∈ TBL ∨ ∃ host, Cond.fieldLinkNest own index (gT ci k).1 (gT ci k).2.1 (gT ci k).2.2.1 host ∈ nestL
def up2 {α : Type} (f : Nat → Nat → α) (a k : Nat) (x : α) : Nat → Nat → α := fun i j => if i = a ∧ j = k then x else f i j
theorem up2_s {α : Type} {f : Nat → Nat → α} {a k : Nat} {x : α} : up2 f a k x a k = x := by simp [up2]
theorem up2_a {α : Type} {f : Nat → Nat → α} {a k i : Nat} {x : α} (h : i ≠ a) : up2 f a k x i = f i := by funext j; simp [up2, h]
theorem up2_k {α : Type} {f : Nat → Nat → α} {a k i j : Nat} {x : α} (h : j ≠ k) : up2 f a k x i j = f i j := by simp [up2, h]
theorem gAd_own (G : GT) {i : Nat} (h : 32 ≤ i) : gAd G i = gS0 G + (i - 32) := by unfold gAd; rw [if_neg (by omega)]
theorem gAd_inj (G : GT) {i j : Nat} (hi : 32 ≤ i) (hj : 32 ≤ j) (h : gAd G i = gAd G j) : i = j := by
  rw [gAd_own G hi, gAd_own G hj] at h
  omega
theorem gAd_A (G : GT) {i : Nat} (hi : 32 ≤ i) : gA G (gAd G i) := by
  show gS0 G ≤ gAd G i
  rw [gAd_own G hi]
  omega
def gFs (G : GT) (mi : MI) (mr : MR) (i ci : Nat) : List Value := (List.range (gN ci)).map (fun k => if gRf (gFT ci k) = true then va_rf ((mr i k).map (gAd G)) else .int (mi i k))
theorem gE_obj {G : GT} {mi : MI} {mr : MR} {i ci : Nat} (h : SH i = .inl ci) : gE G mi mr i = .inr (ci, gFs G mi mr i ci) := by unfold gE; rw [h]; rfl
theorem gE_arr {G : GT} {mi : MI} {mr : MR} {i t len : Nat} (h : SH i = .inr (t, len)) (ht : t < 3) : gE G mi mr i = .inl (gC G t, len, .inl (mi i)) := by unfold gE; rw [h]; simp [ht]
theorem gE_arq {G : GT} {mi : MI} {mr : MR} {i t len : Nat} (h : SH i = .inr (t, len)) (ht : ¬ t < 3) : gE G mi mr i = .inl (gC G t, len, .inr (.inr (.inr (.inr (fun j => (mr i j).map (gAd G)))))) := by unfold gE; rw [h]; simp [ht]
theorem gFs_at {G : GT} {mi : MI} {mr : MR} {i ci k : Nat} (hk : k < gN ci) : (gFs G mi mr i ci)[k]? = some (if gRf (gFT ci k) = true then va_rf ((mr i k).map (gAd G)) else .int (mi i k)) := by simp [gFs, hk]
theorem gFs_len {G : GT} {mi : MI} {mr : MR} {i ci : Nat} : (gFs G mi mr i ci).length = gN ci := by simp [gFs]
theorem va_P_one {D : va_G} {cl : List vw_C} {q : Nat × va_E} {H : Heap} (h : va_at D cl q H) : va_P D cl [q] H := by
  intro k x hk
  match k, hk with
  | 0, hk => cases hk; exact h
theorem gH.at {G : GT} {n : Nat} {mi : MI} {mr : MR} {H : Heap} (h : gH G n mi mr H) {a : Nat} (ha : 32 ≤ a ∧ a < n) : va_at (gD G) gCls (gAd G a, gE G mi mr a) H := h.2.2.1 a ha.1 ha.2
theorem gH.put {G : GT} {n : Nat} {mi mi' : MI} {mr mr' : MR} {H H1 : Heap} (h : gH G n mi mr H) {a : Nat} (ha : 32 ≤ a ∧ a < n) (hz : H1.size = H.size) (ho : ∀ q, q ≠ gAd G a → H1[q]? = H[q]?) (he : va_at (gD G) gCls (gAd G a, gE G mi' mr' a) H1) (hs : ∀ i, i ≠ a → mi' i = mi i ∧ mr' i = mr i) : gH G n mi' mr' H1 := by
  refine ⟨h.1, hz.trans h.2.1, fun i h1 h2 => ?_, h.2.2.2.1.trans (hs 0 (by omega)).1.symm, by rw [(hs 0 (by omega)).2]; exact h.2.2.2.2⟩
  by_cases e : i = a
  · subst e
    exact he
  · have e2 : gE G mi' mr' i = gE G mi mr i := by
      unfold gE
      rw [(hs i e).1, (hs i e).2]
    rw [e2]
    exact (h.2.2.1 i h1 h2).kept (ho _ (fun z => e (gAd_inj G h1 ha.1 z)))
section HP
variable {K : KT} {d cl sl : Nat} {Q : QT} {pc : Nat} {L : List (Option Value)} {st : List Value} {n : Nat} {mi : MI} {mr : MR}
theorem V_getv {a ci k index : Nat} {v : Value} (hd : decode K.2.1 pc = .ok (.getfield index, 3)) (hsh : SH a = .inl ci) (ha : 32 ≤ a ∧ a < n) (hci : ci < 9) (hk : k < gN ci) (hw : gLink K.1.cls index ci k) (hv : ∀ G : GT, (gFs G mi mr a ci)[k]? = some (gV G v))
    (kk : V K d cl sl Q (pc + 3) L (v :: st) n mi mr) : V K d cl sl Q pc L (.ref a :: st) n mi mr := by
  intro G p l e R s m args below meth c Z mc ms C hR H locs cells slots ls hH hS hc hs hl
  have hP := va_P_one (hH.at ha)
  rw [gE_obj hsh] at hP
  rcases hw with hw | ⟨host, hw⟩
  · exact va_get (T := gT ci) (N := gN ci) (C := gRX ci) C.1 C.2.1 C.2.2.2.2.1 (gIn_ok hci) C.2.2.2.1 C.2.2.2.2.2.2.2.1.1 hP 0 rfl (gCls_at hci) k hk (C.2.2.2.2.1 _ hw) (fun x h => h) (hv G) hd (kk G p l e R s m args below meth c Z mc ms C hR H locs cells slots ls hH hS hc hs hl)
  · exact va_getN (T := gT ci) (N := gN ci) (C := gRX ci) C.1 C.2.1 C.2.2.2.2.1 (gIn_ok hci) C.2.2.2.1 C.2.2.2.2.2.2.2.1.1 hP 0 rfl (gCls_at hci) k hk (nest_use (nestL_ok _ hw) (C.2.2.2.2.2.2.2.1.2.1 _ hw)) (fun x h => h) (hv G) hd (kk G p l e R s m args below meth c Z mc ms C hR H locs cells slots ls hH hS hc hs hl)
theorem V_geti {a index : Nat} (ci k : Nat) (hd : decode K.2.1 pc = .ok (.getfield index, 3)) (hw : gLink K.1.cls index ci k) (hf : (decide (ci < 9) && decide (k < gN ci) && !gRf (gFT ci k)) = true) (hsh : SH a = .inl ci) (ha : 32 ≤ a ∧ a < n)
    (kk : V K d cl sl Q (pc + 3) L (.int (mi a k) :: st) n mi mr) : V K d cl sl Q pc L (.ref a :: st) n mi mr := by
  simp only [Bool.and_eq_true, decide_eq_true_eq, Bool.not_eq_true'] at hf
  refine V_getv hd hsh ha hf.1.1 hf.1.2 hw (fun G => ?_) kk
  rw [gFs_at hf.1.2, hf.2]
  rfl
theorem V_getr {a b index : Nat} (ci k : Nat) (hd : decode K.2.1 pc = .ok (.getfield index, 3)) (hw : gLink K.1.cls index ci k) (hf : (decide (ci < 9) && decide (k < gN ci) && gRf (gFT ci k)) = true) (hsh : SH a = .inl ci) (ha : 32 ≤ a ∧ a < n) (hb : mr a k = some b)
    (kk : V K d cl sl Q (pc + 3) L (.ref b :: st) n mi mr) : V K d cl sl Q pc L (.ref a :: st) n mi mr := by
  simp only [Bool.and_eq_true, decide_eq_true_eq] at hf
  refine V_getv hd hsh ha hf.1.1 hf.1.2 hw (fun G => ?_) kk
  rw [gFs_at hf.1.2, hf.2, hb]
  rfl
/-- the heap behind a putfield -/
theorem gH.field {G : GT} {U : State} (hK : va_K (gD G) gCls (gTys G) U) {Ts : List Cond} {args : Array Value} (hts : ∀ w ∈ Ts, w.before args U = true) {H H1 : Heap} {a ci k : Nat} {v : Value} {mi' : MI} {mr' : MR} (hci : ci < 9) (hin : ∀ w ∈ u_ws (gRX ci) (gT ci) (gN ci), w ∈ Ts) (hk : k < gN ci) (hsh : SH a = .inl ci) (h : gH G n mi mr H) (ha : 32 ≤ a ∧ a < n)
    {cell : Cell} (q2 : cell.cls = (gD G).1 ci) (q3 : cell.vm = .none) (q4 : ∀ j, j < gN ci → cell.slots[(gD G).2 ci j]? = some (vp_V (gFs G mi mr a ci) j)) (e1 : H1[gAd G a]? = some (cell.setSlot ((gD G).2 ci k) v)) (hz : H1.size = H.size) (ho : ∀ q, q ≠ gAd G a → H1[q]? = H[q]?)
    (hset : (gFs G mi mr a ci).set k v = gFs G mi' mr' a ci) (hs : ∀ i, i ≠ a → mi' i = mi i ∧ mr' i = mr i) : gH G n mi' mr' H1 := by
  have hap := va_apart (own := "") hts hin (gFT ci) (gTy_ok hci) (gNm_ok hci) hK (gCls_at hci)
  refine h.put ha hz ho ?_ hs
  rw [gE_obj hsh, ← hset]
  exact ⟨_, gCls_at hci, t_OB.to (V := updV (vp_V (gFs G mi mr a ci)) k v) ⟨_, e1, q2, q3, t_set q4 hap hk v⟩ (fun j _ => vp_updV_set (by rw [gFs_len]; exact hk) v j)⟩
theorem gFs_seti {G : GT} {a ci k : Nat} {x : Int32} (hk : k < gN ci) (hf : gRf (gFT ci k) = false) : (gFs G mi mr a ci).set k (.int x) = gFs G (up2 mi a k x) mr a ci := by
  apply List.ext_getElem?
  intro j
  by_cases hj : j < gN ci
  · by_cases e : k = j
    · subst e
      rw [List.getElem?_set_self (by rw [gFs_len]; exact hk), gFs_at hk, hf, up2_s]
      rfl
    · rw [List.getElem?_set_ne e, gFs_at hj, gFs_at hj, up2_k (fun z => e z.symm)]
  · rw [List.getElem?_eq_none (by rw [List.length_set, gFs_len]; omega), List.getElem?_eq_none (by rw [gFs_len]; omega)]
theorem gFs_setr {G : GT} {a ci k b : Nat} (hk : k < gN ci) (hf : gRf (gFT ci k) = true) : (gFs G mi mr a ci).set k (.ref (gAd G b)) = gFs G mi (up2 mr a k (some b)) a ci := by
  apply List.ext_getElem?
  intro j
  by_cases hj : j < gN ci
  · by_cases e : k = j
    · subst e
      rw [List.getElem?_set_self (by rw [gFs_len]; exact hk), gFs_at hk, hf, up2_s]
      rfl
    · rw [List.getElem?_set_ne e, gFs_at hj, gFs_at hj, up2_k (fun z => e z.symm)]
  · rw [List.getElem?_eq_none (by rw [List.length_set, gFs_len]; omega), List.getElem?_eq_none (by rw [gFs_len]; omega)]
theorem V_putv {a ci k index : Nat} {v : Value} {mi' : MI} {mr' : MR} (hd : decode K.2.1 pc = .ok (.putfield index, 3)) (hsh : SH a = .inl ci) (ha : 32 ≤ a ∧ a < n) (hci : ci < 9) (hk : k < gN ci) (hw : gLink K.1.cls index ci k) (hfin : (gT ci k).2.2.2 = false ∨ (K.1.name = "<init>" ∧ (gT ci k).1 = K.1.cls ∧ Cond.fieldLink K.1.cls index (gT ci k).1 (gT ci k).2.1 (gT ci k).2.2.1 ∈ TBL))
    (hn : ∀ G : GT, narrow (gFT ci k) (gV G v) = gV G v) (hfit : ∀ G : GT, fits (gFT ci k) (gV G v) = true) (hset : ∀ G : GT, (gFs G mi mr a ci).set k (gV G v) = gFs G mi' mr' a ci) (hs : ∀ i, i ≠ a → mi' i = mi i ∧ mr' i = mr i)
    (kk : V K d cl sl Q (pc + 3) L st n mi' mr') : V K d cl sl Q pc L (v :: .ref a :: st) n mi mr := by
  intro G p l e R s m args below meth c Z mc ms C hR H locs cells slots ls hH hS hc hs' hl
  have hat := hH.at ha
  rw [gE_obj hsh] at hat
  obtain ⟨r, h1, cell, q1, q2, q3, q4⟩ := hat
  have hcl := gCls_at hci
  have hr : r = (gRX ci, gT ci, gN ci) := Option.some.inj (h1.symm.trans hcl)
  subst hr
  have hK := C.2.2.2.2.2.2.2.1.1
  have hts := C.2.2.2.2.1
  have hin := gIn_ok hci
  obtain ⟨hS0, hfc, kC, hkC, hkind⟩ := hK.1 ci _ hcl
  obtain ⟨cf, kf, fi, f, hi, hsl⟩ := hS0 k hk
  have hlay := hts _ (hin _ (u_in_lay hk))
  unfold u_lay at hlay
  have hst := (u_facts hfc hkC (u_lays hts hin hk) hi).1
  have fin : ∀ (H' : Heap), H'[gAd G a]? = some (cell.setSlot f.slot (gV G v)) → H'.size = H.size → (∀ q, q ≠ gAd G a → H'[q]? = H[q]?) → W p l e R s m args below meth c H' (locs ++ [⟨gAd G a, f.slot⟩]) cells slots Z (F0 m (pc + 3) ls (st.map (gV G))) := by
    intro H' e1 e2 e3
    have e1' : H'[gAd G a]? = some (cell.setSlot ((gD G).2 ci k) (gV G v)) := by rw [← hsl]; exact e1
    exact kk G p l e R s m args below meth c Z mc ms C hR H' _ cells slots ls (gH.field hK hts hci hin hk hsh hH ha q2 q3 q4 e1' e2 e3 (hset G) hs) (hS.put e2 e3 (gAd_A G ha.1)) hc hs' hl
  have hhas : f.slot < cell.slots.size := by rw [hsl]; exact k2_hasslot (q4 k hk)
  rcases hfin with hfin | ⟨hnm, hdecl, hwl⟩
  · rw [if_neg (by rw [hfin]; decide)] at hlay
    have h6 := u_store hfc hkC hkind hlay hi (gTy_ok hci k hk) (hn G) (hfit G)
    rcases hw with hw | ⟨host, hw⟩
    · exact W.putK C.1 C.2.1 (f := f) ⟨C.2.2.2.1, hts _ hw, ⟨_, _, _, hi⟩, hst⟩ (by rw [q2]; exact h6) q1 q3 hhas rfl rfl hd fin
    · exact va_WputK C.1 C.2.1 (f := f) C.2.2.2.1 (nest_use (nestL_ok _ hw) (C.2.2.2.2.2.2.2.1.2.1 _ hw)) hi hst (by rw [q2]; exact h6) q1 q3 hhas rfl rfl hd fin
  · by_cases hfb : (gT ci k).2.2.2 = true
    · rw [if_pos hfb] at hlay
      have hcf : m.cls = cf := by
        obtain ⟨_, _, c', _, _, _, -, -, hf', -, -, -, hown2, -⟩ := Cond.laysFinal_spec hlay
        have e1 : c' = cf := by have := hi.symm.trans hf'; simp at this; exact this.1.symm
        rw [hdecl] at hown2
        rw [← e1]; exact Option.some.inj (C.2.2.2.1.symm.trans hown2)
      have h6 := u_fits hfc hkC hkind (Or.inr hlay) hi (gTy_ok hci k hk) (hn G) (hfit G)
      exact W.putFinK C.1 C.2.1 C.2.2.2.1 (hts _ hwl) hi hst hcf (C.2.2.2.2.2.2.1.trans hnm) (by rw [q2]; exact h6) q1 q3 hhas rfl rfl hd fin
    · have hfin : (gT ci k).2.2.2 = false := by simpa using hfb
      rw [if_neg (by rw [hfin]; decide)] at hlay
      have h6 := u_store hfc hkC hkind hlay hi (gTy_ok hci k hk) (hn G) (hfit G)
      exact W.putK C.1 C.2.1 (f := f) ⟨C.2.2.2.1, hts _ hwl, ⟨_, _, _, hi⟩, hst⟩ (by rw [q2]; exact h6) q1 q3 hhas rfl rfl hd fin
/-- an int (or char, or truth) into a field that isn't final -/
theorem V_puti {a index : Nat} {x : Int32} (ci k : Nat) (hd : decode K.2.1 pc = .ok (.putfield index, 3)) (hw : gLink K.1.cls index ci k) (hf : (decide (ci < 9) && decide (k < gN ci) && !gRf (gFT ci k) && !(gT ci k).2.2.2) = true) (hn : narrow (gFT ci k) (.int x) = .int x) (hfit : fits (gFT ci k) (.int x) = true) (hsh : SH a = .inl ci) (ha : 32 ≤ a ∧ a < n)
    (kk : V K d cl sl Q (pc + 3) L st n (up2 mi a k x) mr) : V K d cl sl Q pc L (.int x :: .ref a :: st) n mi mr := by
  simp only [Bool.and_eq_true, decide_eq_true_eq, Bool.not_eq_true'] at hf
  exact V_putv hd hsh ha hf.1.1.1 hf.1.1.2 hw (Or.inl hf.2) (fun G => hn) (fun G => hfit) (fun G => gFs_seti hf.1.1.2 hf.1.2) (fun i h => ⟨up2_a h, rfl⟩) kk
theorem V_putiF {a index : Nat} {x : Int32} (ci k : Nat) (hd : decode K.2.1 pc = .ok (.putfield index, 3)) (hw : Cond.fieldLink K.1.cls index (gT ci k).1 (gT ci k).2.1 (gT ci k).2.2.1 ∈ TBL) (hf : (decide (ci < 9) && decide (k < gN ci) && !gRf (gFT ci k)) = true) (hnm : K.1.name = "<init>" ∧ (gT ci k).1 = K.1.cls) (hn : narrow (gFT ci k) (.int x) = .int x) (hfit : fits (gFT ci k) (.int x) = true) (hsh : SH a = .inl ci) (ha : 32 ≤ a ∧ a < n)
    (kk : V K d cl sl Q (pc + 3) L st n (up2 mi a k x) mr) : V K d cl sl Q pc L (.int x :: .ref a :: st) n mi mr := by
  simp only [Bool.and_eq_true, decide_eq_true_eq, Bool.not_eq_true'] at hf
  exact V_putv hd hsh ha hf.1.1 hf.1.2 (Or.inl hw) (Or.inr ⟨hnm.1, hnm.2, hw⟩) (fun G => hn) (fun G => hfit) (fun G => gFs_seti hf.1.2 hf.2) (fun i h => ⟨up2_a h, rfl⟩) kk
theorem V_putr {a b index : Nat} (ci k : Nat) (hd : decode K.2.1 pc = .ok (.putfield index, 3)) (hw : gLink K.1.cls index ci k) (hf : (decide (ci < 9) && decide (k < gN ci) && gRf (gFT ci k) && !(gT ci k).2.2.2) = true) (hsh : SH a = .inl ci) (ha : 32 ≤ a ∧ a < n)
    (kk : V K d cl sl Q (pc + 3) L st n mi (up2 mr a k (some b))) : V K d cl sl Q pc L (.ref b :: .ref a :: st) n mi mr := by
  simp only [Bool.and_eq_true, decide_eq_true_eq, Bool.not_eq_true'] at hf
  exact V_putv hd hsh ha hf.1.1.1 hf.1.1.2 hw (Or.inl hf.2) (fun G => by have := hf.1.2; cases h : gFT ci k <;> simp_all [gRf, narrow, gV]) (fun G => by have := hf.1.2; cases h : gFT ci k <;> simp_all [gRf, fits, gV]) (fun G => gFs_setr hf.1.1.2 hf.1.2) (fun i h => ⟨rfl, up2_a h⟩) kk
theorem V_putrF {a b index : Nat} (ci k : Nat) (hd : decode K.2.1 pc = .ok (.putfield index, 3)) (hw : Cond.fieldLink K.1.cls index (gT ci k).1 (gT ci k).2.1 (gT ci k).2.2.1 ∈ TBL) (hf : (decide (ci < 9) && decide (k < gN ci) && gRf (gFT ci k)) = true) (hnm : K.1.name = "<init>" ∧ (gT ci k).1 = K.1.cls) (hsh : SH a = .inl ci) (ha : 32 ≤ a ∧ a < n)
    (kk : V K d cl sl Q (pc + 3) L st n mi (up2 mr a k (some b))) : V K d cl sl Q pc L (.ref b :: .ref a :: st) n mi mr := by
  simp only [Bool.and_eq_true, decide_eq_true_eq, Bool.not_eq_true'] at hf
  exact V_putv hd hsh ha hf.1.1 hf.1.2 (Or.inl hw) (Or.inr ⟨hnm.1, hnm.2, hw⟩) (fun G => by have := hf.2; cases h : gFT ci k <;> simp_all [gRf, narrow, gV]) (fun G => by have := hf.2; cases h : gFT ci k <;> simp_all [gRf, fits, gV]) (fun G => gFs_setr hf.1.2 hf.2) (fun i h => ⟨rfl, up2_a h⟩) kk
end HP
end
section
/-! arrays, new cells, Math, arraycopy over V -/
theorem nat_of_toInt {i : Int32} {j : Nat} (h : i.toInt = (j : Int)) : i.toNatClampNeg = j := by
  show i.toInt.toNat = j
  omega
theorem vp_in_j {i : Int32} {j len : Nat} (h : i.toInt = (j : Int)) (hl : j < len) : vp_in i len := vp_in_iff.mpr ⟨by omega, by omega⟩
theorem up2_upd {f : MI} {a j : Nat} {x : Int32} : up2 f a j x a = upd (f a) j x := by funext k; simp [up2, upd]
theorem vp_in_cell {cA : ClassId} {n : Nat} {f : Nat → Value} {i : Int32} (h : vp_in i n) : ¬ (i < 0 ∨ (arrV cA n f).slots.size ≤ i.toNatClampNeg) := by rw [arrV_size]; exact h
def mi0 (mi : MI) (n : Nat) : MI := fun i j => if i = n then 0 else mi i j
def mr0 (mr : MR) (n : Nat) : MR := fun i j => if i = n then none else mr i j
theorem mi0_s {mi : MI} {n j : Nat} : mi0 mi n n j = 0 := by simp [mi0]
theorem mr0_s {mr : MR} {n j : Nat} : mr0 mr n n j = none := by simp [mr0]
theorem mi0_a {mi : MI} {n i : Nat} (h : i ≠ n) : mi0 mi n i = mi i := by funext j; simp [mi0, h]
theorem mr0_a {mr : MR} {n i : Nat} (h : i ≠ n) : mr0 mr n i = mr i := by funext j; simp [mr0, h]
theorem gE_same {G : GT} {mi mi' : MI} {mr mr' : MR} {i : Nat} (h1 : mi' i = mi i) (h2 : mr' i = mr i) : gE G mi' mr' i = gE G mi mr i := by unfold gE; rw [h1, h2]
/-- a new cell -/
theorem gH.push {G : GT} {n : Nat} {mi : MI} {mr : MR} {H H1 : Heap} (h : gH G n mi mr H) (hz : H1.size = H.size + 1) (ho : ∀ q, q < H.size → H1[q]? = H[q]?) (he : va_at (gD G) gCls (H.size, gE G (mi0 mi n) (mr0 mr n) n) H1) : gH G (n + 1) (mi0 mi n) (mr0 mr n) H1 := by
  have h1 := h.1
  have h2 := h.2.1
  refine ⟨by omega, by omega, fun i h3 h4 => ?_, by rw [mi0_a (by omega)]; exact h.2.2.2.1, by rw [mr0_a (by omega)]; exact h.2.2.2.2⟩
  by_cases e : i = n
  · subst e
    rw [gAd_own G h3, ← h2]
    exact he
  · rw [gE_same (mi0_a e) (mr0_a e)]
    refine (h.2.2.1 i h3 (by omega)).kept (ho _ ?_)
    show gAd G i < H.size
    rw [gAd_own G h3]
    omega
theorem va_S.push {A : Nat → Prop} {H0 H H1 : Heap} {locs : List Loc} (h : va_S A H0 H locs) (hz : H.size ≤ H1.size) (ho : ∀ q, q < H.size → H1[q]? = H[q]?) : va_S A H0 H1 locs := ⟨Nat.le_trans h.1 hz, fun q h1 h2 => (ho q (Nat.lt_of_lt_of_le h1 h.1)).trans (h.2.1 q h1 h2), h.2.2⟩
theorem gFs_new {G : GT} {mi : MI} {mr : MR} {n ci : Nat} : ∀ j, j < gN ci → defaultValue (gFT ci j) = vp_V (gFs G (mi0 mi n) (mr0 mr n) n ci) j ∨ gFT ci j = .long ∨ gFT ci j = .float ∨ gFT ci j = .double := by
  intro j hj
  unfold vp_V
  rw [List.getD_eq_getElem?_getD, gFs_at hj, mi0_s, mr0_s]
  cases gFT ci j <;> simp [defaultValue, gRf, va_rf]
theorem gFT_no {ci : Nat} (h : ci < 9) : ∀ j, j < gN ci → gFT ci j ≠ .long ∧ gFT ci j ≠ .float ∧ gFT ci j ≠ .double := by
  match ci, h with
  | 0, _ => decide +kernel
  | 1, _ => decide +kernel
  | 2, _ => decide +kernel
  | 3, _ => decide +kernel
  | 4, _ => decide +kernel
  | 5, _ => decide +kernel
  | 6, _ => decide +kernel
  | 7, _ => decide +kernel
  | 8, _ => decide +kernel
section AR
variable {K : KT} {d cl sl : Nat} {Q : QT} {pc : Nat} {L : List (Option Value)} {st : List Value} {n : Nat} {mi : MI} {mr : MR}
theorem V_iald {a len : Nat} {i : Int32} (j : Nat) (hd : decode K.2.1 pc = .ok (.iaload, 1)) (hsh : SH a = .inr (0, len)) (ha : 32 ≤ a ∧ a < n) (hj : i.toInt = (j : Int)) (hlt : j < len)
    (kk : V K d cl sl Q (pc + 1) L (.int (mi a j) :: st) n mi mr) : V K d cl sl Q pc L (.int i :: .ref a :: st) n mi mr := by
  intro G p l e R s m args below meth c Z mc ms C hR H locs cells slots ls hH hS hc hs hl
  have hP := va_P_one (hH.at ha)
  rw [gE_arr hsh (by decide)] at hP
  have k2 := kk G p l e R s m args below meth c Z mc ms C hR H locs cells slots ls hH hS hc hs hl
  rw [← nat_of_toInt hj] at k2
  exact va_iald C.1 C.2.1 C.2.2.2.2.2.2.2.1.1 hP 0 0 rfl (gTys_at G (by decide)) (vp_in_j hj hlt) hd k2
theorem V_cald {a len : Nat} {i : Int32} (j : Nat) (hd : decode K.2.1 pc = .ok (.caload, 1)) (hsh : SH a = .inr (1, len)) (ha : 32 ≤ a ∧ a < n) (hj : i.toInt = (j : Int)) (hlt : j < len)
    (kk : V K d cl sl Q (pc + 1) L (.int (mi a j) :: st) n mi mr) : V K d cl sl Q pc L (.int i :: .ref a :: st) n mi mr := by
  intro G p l e R s m args below meth c Z mc ms C hR H locs cells slots ls hH hS hc hs hl
  have hP := va_P_one (hH.at ha)
  rw [gE_arr hsh (by decide)] at hP
  have k2 := kk G p l e R s m args below meth c Z mc ms C hR H locs cells slots ls hH hS hc hs hl
  rw [← nat_of_toInt hj] at k2
  exact va_cald C.1 C.2.1 C.2.2.2.2.2.2.2.1.1 hP 0 1 rfl (gTys_at G (by decide)) (vp_in_j hj hlt) hd k2
theorem V_zald {a len : Nat} {i : Int32} (j : Nat) (hd : decode K.2.1 pc = .ok (.baload, 1)) (hsh : SH a = .inr (2, len)) (ha : 32 ≤ a ∧ a < n) (hj : i.toInt = (j : Int)) (hlt : j < len)
    (kk : V K d cl sl Q (pc + 1) L (.int (mi a j) :: st) n mi mr) : V K d cl sl Q pc L (.int i :: .ref a :: st) n mi mr := by
  intro G p l e R s m args below meth c Z mc ms C hR H locs cells slots ls hH hS hc hs hl
  have hP := va_P_one (hH.at ha)
  rw [gE_arr hsh (by decide)] at hP
  have k2 := kk G p l e R s m args below meth c Z mc ms C hR H locs cells slots ls hH hS hc hs hl
  rw [← nat_of_toInt hj] at k2
  exact va_zald C.1 C.2.1 C.2.2.2.2.2.2.2.1.1 hP 0 2 rfl (gTys_at G (by decide)) (vp_in_j hj hlt) hd k2
theorem V_aald {a b len : Nat} {i : Int32} (t j : Nat) (hd : decode K.2.1 pc = .ok (.aaload, 1)) (hsh : SH a = .inr (t, len)) (ht : (decide (3 ≤ t) && decide (t < 6)) = true) (ha : 32 ≤ a ∧ a < n) (hj : i.toInt = (j : Int)) (hlt : j < len) (hb : mr a j = some b)
    (kk : V K d cl sl Q (pc + 1) L (.ref b :: st) n mi mr) : V K d cl sl Q pc L (.int i :: .ref a :: st) n mi mr := by
  intro G p l e R s m args below meth c Z mc ms C hR H locs cells slots ls hH hS hc hs hl
  simp only [Bool.and_eq_true, decide_eq_true_eq] at ht
  have hP := hH.at ha
  rw [gE_arq hsh (by omega)] at hP
  have k2 := kk G p l e R s m args below meth c Z mc ms C hR H locs cells slots ls hH hS hc hs hl
  have e : va_rf ((mr a i.toNatClampNeg).map (gAd G)) = gV G (.ref b) := by rw [nat_of_toInt hj, hb]; rfl
  have hin := vp_in_j hj hlt
  have hl2 : i.toNatClampNeg < len := by rw [nat_of_toInt hj]; exact hlt
  have hty : (gTy t).isReference = true := by
    match t, ht with
    | 3, _ => rfl
    | 4, _ => rfl
    | 5, _ => rfl
  refine W.aald (v := gV G (.ref b)) (ty := gTy t) C.1 C.2.1 hP ((C.2.2.2.2.2.2.2.1.1.2 t _ (gTys_at G ht.2)).1 len (fun j => va_rf ((mr a j).map (gAd G)))) hty (fun q => by cases q) (vp_in_cell (f := fun j => va_rf ((mr a j).map (gAd G))) hin) ?_ rfl rfl hd k2
  show (arrV _ _ _).slots[_]? = _
  rw [arrV_read _ _ hl2, e]
theorem V_alen {a t len : Nat} {v : Int32} (hd : decode K.2.1 pc = .ok (.arraylength, 1)) (hsh : SH a = .inr (t, len)) (ht : t < 6) (ha : 32 ≤ a ∧ a < n) (hv : Int32.ofNat len = v)
    (kk : V K d cl sl Q (pc + 1) L (.int v :: st) n mi mr) : V K d cl sl Q pc L (.ref a :: st) n mi mr := by
  intro G p l e R s m args below meth c Z mc ms C hR H locs cells slots ls hH hS hc hs hl
  have k2 := kk G p l e R s m args below meth c Z mc ms C hR H locs cells slots ls hH hS hc hs hl
  have hP := va_P_one (hH.at ha)
  by_cases h3 : t < 3
  · rw [gE_arr hsh h3] at hP
    exact va_alen C.1 C.2.1 C.2.2.2.2.2.2.2.1.1 hP 0 t rfl (gTys_at G ht) hv hd k2
  · rw [gE_arq hsh h3] at hP
    exact va_alen C.1 C.2.1 C.2.2.2.2.2.2.2.1.1 hP 0 t rfl (gTys_at G ht) hv hd k2
/-- the heap behind a store into an array of numbers -/
theorem gH.elem {G : GT} {H H1 : Heap} {a t len j : Nat} {x : Int32} (h : gH G n mi mr H) (hsh : SH a = .inr (t, len)) (ht : t < 3) (ha : 32 ≤ a ∧ a < n) (hz : H1.size = H.size) (ho : ∀ q, q ≠ gAd G a → H1[q]? = H[q]?) (e : H1[gAd G a]? = some ((vp_cell (gC G t) (len, .inl (mi a))).setSlot j (.int x))) : gH G n (up2 mi a j x) mr H1 := by
  refine h.put ha hz ho ?_ (fun i hi => ⟨up2_a hi, rfl⟩)
  rw [gE_arr hsh ht, up2_upd]
  show H1[gAd G a]? = some (vp_cell _ _)
  rw [e]
  rw [vp_cell_i, vp_cell_i, arrV_store]
  congr 2
  funext q
  by_cases hq : q = j
  · subst hq
    simp [updV, upd]
  · simp [updV, upd, hq]
theorem V_iast {a len : Nat} {i x : Int32} (j : Nat) (hd : decode K.2.1 pc = .ok (.iastore, 1)) (hsh : SH a = .inr (0, len)) (ha : 32 ≤ a ∧ a < n) (hj : i.toInt = (j : Int)) (hlt : j < len)
    (kk : V K d cl sl Q (pc + 1) L st n (up2 mi a j x) mr) : V K d cl sl Q pc L (.int x :: .int i :: .ref a :: st) n mi mr := by
  intro G p l e R s m args below meth c Z mc ms C hR H locs cells slots ls hH hS hc hs hl
  have hP := hH.at ha
  rw [gE_arr hsh (by decide)] at hP
  refine W.iast C.1 C.2.1 hP ((C.2.2.2.2.2.2.2.1.1.2 0 _ (gTys_at G (by decide))).1 len (fun j => .int (mi a j))) (fun q => by cases q) (vp_in_cell (f := fun j => .int (mi a j)) (vp_in_j hj hlt)) rfl rfl hd fun H1 e z oq => ?_
  rw [nat_of_toInt hj] at e ⊢
  exact kk G p l _ R s m args below meth c Z mc ms C hR H1 _ cells slots ls (hH.elem hsh (by decide) ha z oq e) (hS.put z oq (gAd_A G ha.1)) hc hs hl
theorem V_zast {a len : Nat} {i x y : Int32} (j : Nat) (hd : decode K.2.1 pc = .ok (.bastore, 1)) (hsh : SH a = .inr (2, len)) (ha : 32 ≤ a ∧ a < n) (hj : i.toInt = (j : Int)) (hlt : j < len) (hx : narrow .boolean (.int x) = .int y)
    (kk : V K d cl sl Q (pc + 1) L st n (up2 mi a j y) mr) : V K d cl sl Q pc L (.int x :: .int i :: .ref a :: st) n mi mr := by
  intro G p l e R s m args below meth c Z mc ms C hR H locs cells slots ls hH hS hc hs hl
  have hP := hH.at ha
  rw [gE_arr hsh (by decide)] at hP
  refine W.zast C.1 C.2.1 hP ((C.2.2.2.2.2.2.2.1.1.2 2 _ (gTys_at G (by decide))).1 len (fun j => .int (mi a j))) (fun q => by cases q) (vp_in_cell (f := fun j => .int (mi a j)) (vp_in_j hj hlt)) rfl rfl hd fun H1 e z oq => ?_
  rw [nat_of_toInt hj] at e ⊢
  rw [hx] at e
  exact kk G p l _ R s m args below meth c Z mc ms C hR H1 _ cells slots ls (hH.elem hsh (by decide) ha z oq e) (hS.put z oq (gAd_A G ha.1)) hc hs hl
theorem V_cast {a len : Nat} {i x y : Int32} (j : Nat) (hd : decode K.2.1 pc = .ok (.castore, 1)) (hsh : SH a = .inr (1, len)) (ha : 32 ≤ a ∧ a < n) (hj : i.toInt = (j : Int)) (hlt : j < len) (hx : narrow .char (.int x) = .int y)
    (kk : V K d cl sl Q (pc + 1) L st n (up2 mi a j y) mr) : V K d cl sl Q pc L (.int x :: .int i :: .ref a :: st) n mi mr := by
  intro G p l e R s m args below meth c Z mc ms C hR H locs cells slots ls hH hS hc hs hl
  have hP := hH.at ha
  rw [gE_arr hsh (by decide)] at hP
  refine W.cast C.1 C.2.1 hP ((C.2.2.2.2.2.2.2.1.1.2 1 _ (gTys_at G (by decide))).1 len (fun j => .int (mi a j))) (fun q => by cases q) (vp_in_cell (f := fun j => .int (mi a j)) (vp_in_j hj hlt)) rfl rfl hd fun H1 e z oq => ?_
  rw [nat_of_toInt hj] at e ⊢
  rw [hx] at e
  exact kk G p l _ R s m args below meth c Z mc ms C hR H1 _ cells slots ls (hH.elem hsh (by decide) ha z oq e) (hS.put z oq (gAd_A G ha.1)) hc hs hl
/-- an object into an array of objects -/
theorem V_aast {a b ci len : Nat} {i : Int32} (t j : Nat) (hd : decode K.2.1 pc = .ok (.aastore, 1)) (hsh : SH a = .inr (t, len)) (ht : t = 4 ∧ ci = 5 ∨ t = 5 ∧ ci = 1) (ha : 32 ≤ a ∧ a < n) (hb : SH b = .inl ci) (hb2 : 32 ≤ b ∧ b < n) (hj : i.toInt = (j : Int)) (hlt : j < len)
    (kk : V K d cl sl Q (pc + 1) L st n mi (up2 mr a j (some b))) : V K d cl sl Q pc L (.ref b :: .int i :: .ref a :: st) n mi mr := by
  intro G p l e R s m args below meth c Z mc ms C hR H locs cells slots ls hH hS hc hs hl
  have hP := hH.at ha
  rw [gE_arq hsh (by omega)] at hP
  have hB := hH.at hb2
  rw [gE_obj hb] at hB
  have hci : ci < 9 := by omega
  have hty : gTy t = .object (gRX ci) := by rcases ht with ⟨rfl, rfl⟩ | ⟨rfl, rfl⟩ <;> rfl
  have hK := C.2.2.2.2.2.2.2.1.1
  obtain ⟨r', hr', cellV, g1, g2, g3, -⟩ := hB
  have hcls := (hK.1 ci _ (gCls_at hci)).2
  have hk2 := (hK.2 t _ (gTys_at G (by omega))).2
  simp only at hk2
  rw [hty] at hk2
  obtain ⟨kA, comp, k1, k2, k3, -⟩ := hk2
  have hcomp : comp = (gD G).1 ci := Option.some.inj (k3.symm.trans hcls.1)
  subst hcomp
  obtain ⟨kC, hkC, -⟩ := hcls.2
  refine W.aast C.1 C.2.1 hP (fun q h => by cases h) (fun h => by cases h) k1 k2 rfl hkC ⟨fun h => vp_in_j hj hlt (Or.inl h), by show _ < (arrV _ _ _).slots.size; rw [arrV_size, nat_of_toInt hj]; exact hlt⟩ g1 (fun q h => by rw [g3] at h; cases h) (by rw [g2]; exact hkC) (by rw [g2]; exact va_assign hcls) rfl rfl hd fun H1 e z oq => ?_
  rw [nat_of_toInt hj] at e ⊢
  refine kk G p l _ R s m args below meth c Z mc ms C hR H1 _ cells slots ls (hH.put ha z oq ?_ (fun i hi => ⟨rfl, up2_a hi⟩)) (hS.put z oq (gAd_A G ha.1)) hc hs hl
  rw [gE_arq hsh (by omega)]
  show H1[gAd G a]? = some (vp_cell _ _)
  rw [e]
  rw [vp_cell_q, vp_cell_q, arrV_store]
  congr 2
  funext q
  by_cases hq : q = j
  · subst hq
    simp [updV, up2, va_rf]
  · simp [updV, up2, hq]
/-- a new object -/
theorem V_new {ci index : Nat} {cl' sl' : Nat} (hd : decode K.2.1 pc = .ok (.new index, 3)) (hsh : SH n = .inl ci) (hci : ci < 9) (hw : Cond.classLink K.1.cls index (gRX ci) ∈ TBL) (hi : Cond.instantiable (gRX ci) (gN ci) ∈ TBL) (hin : Cond.initialized (gRX ci) ∈ TBL) (hcl : cl = cl' + 1) (hsl : sl = sl' + gN ci)
    (kk : V K d cl' sl' Q (pc + 3) L (.ref n :: st) (n + 1) (mi0 mi n) (mr0 mr n)) : V K d cl sl Q pc L st n mi mr := by
  intro G p l e R s m args below meth c Z mc ms C hR H locs cells slots ls hH hS hc hs hl
  have hKn := C.2.2.2.2.2.2.2.1.1.1 ci _ (gCls_at hci)
  have hts := C.2.2.2.2.1
  have hRm := C.2.2.2.2.2.1
  refine W.newcK C.1 C.2.1 C.2.2.2.1 (hts _ hw) (hts _ hi) (hts _ hin) rfl hd (by omega) (by omega) hKn.2.1 rfl fun H1 kC hkC e1 z1 o1 => ?_
  have hn := gAd_own G hH.1
  rw [← hH.2.1] at hn
  have k2 := kk G p l e R s m args below meth c Z mc ms C hR H1 locs (cells + 1) (slots + gN ci) ls (hH.push z1 o1 ?_) (hS.push (by omega) o1) (by omega) (by omega) hl
  · show W p l e R s m args below meth c H1 locs (cells + 1) (slots + gN ci) Z (F0 m (pc + 3) ls (.ref H.size :: st.map (gV G)))
    rw [← hn]
    exact k2
  · rw [gE_obj hsh]
    refine ⟨_, gCls_at hci, (u_born (gFT ci) hts (gIn_ok hci) hKn hkC e1 (gTy_ok hci)).to (fun j hj => ?_)⟩
    have h9 := gFT_no hci j hj
    rcases gFs_new (G := G) (mi := mi) (mr := mr) (n := n) j hj with h | h | h | h
    · exact h
    · exact absurd h h9.1
    · exact absurd h h9.2.1
    · exact absurd h h9.2.2
/-- a new array of numbers -/
theorem V_newa {t len : Nat} {x : Int32} {cl' sl' : Nat} {atype : ArrayType} (hd : decode K.2.1 pc = .ok (.newarray atype, 2)) (hsh : SH n = .inr (t, len)) (hat : newarray.typeOf atype = gTy t) (ht : t < 3) (hw : Cond.arrayClass (gTy t) ∈ TBL) (hx : x.toInt = (len : Int)) (hb : len * componentBytes (gTy t) ≤ 536870912) (hcl : cl = cl' + 1) (hsl : sl = sl' + len)
    (kk : V K d cl' sl' Q (pc + 2) L (.ref n :: st) (n + 1) (mi0 mi n) (mr0 mr n)) : V K d cl sl Q pc L (.int x :: st) n mi mr := by
  intro G p l e R s m args below meth c Z mc ms C hR H locs cells slots ls hH hS hc hs hl
  have hts := C.2.2.2.2.1
  have hRm := C.2.2.2.2.2.1
  have hx0 : ¬ x < 0 := fun h => by
    rw [Int32.lt_iff_toInt_lt, Int32.toInt_zero] at h
    omega
  refine va_newaK C.1 C.2.1 (by rw [hat]; exact hts _ hw) rfl hd rfl hx0 (nat_of_toInt hx) (by rw [hat]; exact hb) (by omega) (by omega) rfl fun H1 cA e1 z1 o1 hAr hNm => ?_
  have hcA : cA = gC G t := by
    have h1 := (C.2.2.2.2.2.2.2.1.1.2 t _ (gTys_at G (by omega))).2
    rw [hat] at hNm
    match t, ht, h1, hNm with
    | 0, _, h1, hNm => exact Option.some.inj (hNm.symm.trans h1)
    | 1, _, h1, hNm => exact Option.some.inj (hNm.symm.trans h1)
    | 2, _, h1, hNm => exact Option.some.inj (hNm.symm.trans h1)
  have hn := gAd_own G hH.1
  rw [← hH.2.1] at hn
  have k2 := kk G p l e R s m args below meth c Z mc ms C hR H1 locs (cells + 1) (slots + len) ls (hH.push z1 o1 ?_) (hS.push (by omega) o1) (by omega) (by omega) hl
  · show W p l e R s m args below meth c H1 locs (cells + 1) (slots + len) Z (F0 m (pc + 2) ls (.ref H.size :: st.map (gV G)))
    rw [← hn]
    exact k2
  · rw [gE_arr hsh ht]
    show H1[H.size]? = some (vp_cell _ _)
    rw [e1, hat, hcA, vp_cell_i]
    congr 2
    funext j
    rw [mi0_s]
    match t, ht with
    | 0, _ => rfl
    | 1, _ => rfl
    | 2, _ => rfl
end AR
end
section
/-! new rows of objects, grids, Math, arraycopy, calls over V -/
theorem gHA {G : GT} {s : State} (h : gS0 G ≤ s.heap.size) : ∀ q, s.heap.size ≤ q → gA G q := fun q hq => Nat.le_trans h hq
theorem vr_outer (c : ClassId) (N h0 : Nat) : ∀ i : Nat, Jvm.Free.Multi.outerC c N h0 i = arrV c N (fun j => va_rf (if j < i then some (h0 + 1 + j) else none))
  | 0 => by
    show ({ cls := c, slots := Array.replicate N .null, vm := .none } : Cell) = _
    rw [arrV_new]
    refine congrArg (arrV c N) (funext fun j => ?_)
    simp [va_rf]
  | i + 1 => by
    show (Jvm.Free.Multi.outerC c N h0 i).setSlot i (.ref (h0 + 1 + i)) = _
    rw [vr_outer c N h0 i, arrV_store]
    refine congrArg (arrV c N) (funext fun j => ?_)
    by_cases e : j = i
    · subst e
      simp [updV, va_rf]
    · by_cases h : j < i
      · simp [updV, e, h, Nat.lt_succ_of_lt h]
      · simp [updV, e, h, show ¬ j < i + 1 by omega]
section CA
variable {K : KT} {d cl sl : Nat} {Q : QT} {pc : Nat} {L : List (Option Value)} {st : List Value} {n : Nat} {mi : MI} {mr : MR}
theorem V_newq {t len index : Nat} {E : String} {x : Int32} {cl' sl' : Nat} (hd : decode K.2.1 pc = .ok (.anewarray index, 3)) (hsh : SH n = .inr (t, len)) (ht : t = 4 ∧ E = "DrunkByYear$Village" ∨ t = 5 ∧ E = "DrunkByYear$Person") (hw : Cond.classLink K.1.cls index E ∈ TBL) (hx : x.toInt = (len : Int)) (hb : len * 4 ≤ 536870912) (hcl : cl = cl' + 1) (hsl : sl = sl' + len)
    (kk : V K d cl' sl' Q (pc + 3) L (.ref n :: st) (n + 1) (mi0 mi n) (mr0 mr n)) : V K d cl sl Q pc L (.int x :: st) n mi mr := by
  intro G p l e R s m args below meth c Z mc ms C hR H locs cells slots ls hH hS hc hs hl
  have hts := C.2.2.2.2.1
  have hRm := C.2.2.2.2.2.1
  have hx0 : ¬ x < 0 := fun h => by
    rw [Int32.lt_iff_toInt_lt, Int32.toInt_zero] at h
    omega
  have hxn := nat_of_toInt hx
  have hE : gTy t = .object E := by rcases ht with ⟨rfl, rfl⟩ | ⟨rfl, rfl⟩ <;> rfl
  have hov : (Cond.arrayOver (.object E)).before args s = true := by
    rcases ht with ⟨rfl, rfl⟩ | ⟨rfl, rfl⟩
    · exact va_AO.use C.2.2.2.2.2.2.2.1.2.2.1.1
    · exact va_AO.use C.2.2.2.2.2.2.2.1.2.2.1.2.1
  refine W.anew C.1 C.2.1 C.2.2.2.1 (hts _ hw) hov rfl hd rfl hx0 (by rw [hxn]; exact hb) (by omega) (by rw [hxn]; omega) fun cA kA comp f1 f2 f3 f4 => ?_
  rw [hxn]
  generalize hH1 : H.push ({ cls := cA, slots := Array.replicate len .null, vm := .none } : Cell) = H1
  have z1 : H1.size = H.size + 1 := by rw [← hH1, Array.size_push]
  have e1 : H1[H.size]? = some (arrV cA len (fun _ => .null)) := by rw [← hH1, Array.getElem?_push_size, ← arrV_new]
  have o1 : ∀ q : Nat, q < H.size → H1[q]? = H[q]? := fun q hq => by rw [← hH1, Array.getElem?_push, if_neg (Nat.ne_of_lt hq)]
  have hcA : cA = gC G t := by
    have h1 := (C.2.2.2.2.2.2.2.1.1.2 t _ (gTys_at G (by omega))).2
    simp only at h1
    rw [hE] at h1
    obtain ⟨_, _, _, _, _, h4⟩ := h1
    exact Option.some.inj (f1.symm.trans h4)
  have hn := gAd_own G hH.1
  rw [← hH.2.1] at hn
  have k2 := kk G p l e R s m args below meth c Z mc ms C hR H1 locs (cells + 1) (slots + len) ls (hH.push z1 o1 ?_) (hS.push (by omega) o1) (by omega) (by omega) hl
  · show W p l e R s m args below meth c H1 locs (cells + 1) (slots + len) Z (F0 m (pc + 3) ls (.ref H.size :: st.map (gV G)))
    rw [← hn]
    exact k2
  · rw [gE_arq hsh (by omega)]
    show H1[H.size]? = some (vp_cell _ _)
    rw [e1, hcA, vp_cell_q]
    congr 2
    funext j
    rw [mr0_s]
    rfl
def miR (mi : MI) (n k : Nat) : MI := fun i j => if n ≤ i ∧ i < n + k then 0 else mi i j
def mrG (mr : MR) (n k : Nat) : MR := fun i j => if i = n then (if j < k then some (n + 1 + j) else none) else if n ≤ i ∧ i < n + 1 + k then none else mr i j
/-- a new grid of numbers -/
theorem V_multi {N M index : Nat} {x y : Int32} {cl' sl' : Nat} (hd : decode K.2.1 pc = .ok (.multianewarray index 2, 4)) (hsh : SH n = .inr (3, N)) (hsr : ∀ j, j < N → SH (n + 1 + j) = .inr (0, M)) (hw : Cond.classLink K.1.cls index "[[I" ∈ TBL) (hw2 : Cond.arrayClass .int ∈ TBL) (hx : x.toInt = (N : Int)) (hy : y.toInt = (M : Int)) (hN : N ≤ 1000) (hM : M ≤ 1000) (hcl : cl = cl' + (1 + N)) (hsl : sl = sl' + (N + N * M))
    (kk : V K d cl' sl' Q (pc + 4) L (.ref n :: st) (n + 1 + N) (miR mi n (1 + N)) (mrG mr n N)) : V K d cl sl Q pc L (.int y :: .int x :: st) n mi mr := by
  intro G p l e R s m args below meth c Z mc ms C hR H locs cells slots ls hH hS hc hs hl
  have hts := C.2.2.2.2.1
  have hRm := C.2.2.2.2.2.1
  have neg : ∀ {z : Int32} {k : Nat}, z.toInt = (k : Int) → ¬ z < 0 := fun hz h => by
    rw [Int32.lt_iff_toInt_lt, Int32.toInt_zero] at h
    omega
  have hxn := nat_of_toInt hx
  have hyn := nat_of_toInt hy
  have hov := C.2.2.2.2.2.2.2.1.2.2.1.2.2
  have hov' : (Cond.arrayOver (.array .int)).before args s = true := arrayOver_alikeB (Vm.Alike.refl s.vm) hov
  intro T hT Xs
  obtain ⟨vm₁, cA, comp, -, fA, fC, hO, hI, X', step⟩ := Xs.multianewarray2F C.1 (ty := .int) C.2.2.2.1 (hts _ hw) hov' (hts _ hw2) (g := F0 m pc ls (.int y :: .int x :: st.map (gV G))) rfl (by rw [C.2.1]; exact hd) rfl (neg hx) (neg hy) (by rw [hxn]; omega) (by rw [hyn]; show M * 4 ≤ _; omega) (by rw [hyn]; omega) rfl rfl (by rw [hxn]; omega) (by rw [hxn, hyn]; omega)
  rw [hxn, hyn] at X' step
  generalize hF : Jvm.Free.Multi.fill (T.setVm vm₁) cA comp N M (defaultValue .int) N = F at X' step
  have hTh : (T.setVm vm₁).heap = H := hT
  obtain ⟨f1, f2, -, -⟩ := Jvm.Free.Multi.fill_facts (T.setVm vm₁) cA comp N M (defaultValue .int) N
  rw [hF, hTh] at f1 f2
  have hold : ∀ q : Nat, q < H.size → F.heap[q]? = H[q]? := fun q hq => by
    have := Jvm.Free.Multi.fill_old (T.setVm vm₁) cA comp N M (defaultValue .int) (a := q) (by rw [hTh]; exact hq) N
    rw [hF, hTh] at this
    exact this
  have hrow : ∀ j : Nat, j < N → F.heap[H.size + 1 + j]? = some (Jvm.Free.Multi.innerC comp M (defaultValue .int)) := fun j hj => by
    have := Jvm.Free.Multi.fill_inner (T.setVm vm₁) cA comp N M (defaultValue .int) N j hj
    rw [hF, hTh] at this
    exact this
  have c0 : comp = gC G 0 := Option.some.inj (fC.symm.trans (C.2.2.2.2.2.2.2.1.1.2 0 _ (gTys_at G (by decide))).2)
  have c3 : cA = gC G 3 := Option.some.inj (fA.symm.trans (C.2.2.2.2.2.2.2.1.1.2 3 _ (gTys_at G (by decide))).2)
  have hout : Jvm.Free.Multi.outerC cA N H.size N = vp_cell cA (N, .inr (.inr (.inr (.inr (fun i => if i < N then some (H.size + 1 + i) else none))))) := by
    rw [vp_cell_q]
    exact vr_outer cA N H.size N
  rw [hout] at f2
  have h32 := hH.1
  have hsz := hH.2.1
  have hn := gAd_own G hH.1
  rw [← hsz] at hn
  have hGH : gH G (n + 1 + N) (miR mi n (1 + N)) (mrG mr n N) F.heap := by
    refine ⟨by omega, by rw [f1]; omega, fun i h1 h2 => ?_, ?_, ?_⟩
    · by_cases e0 : i < n
      · rw [gE_same (mi := mi) (mr := mr) (by funext j; simp only [miR]; rw [if_neg (by omega)]) (by funext j; simp only [mrG]; rw [if_neg (by omega), if_neg (by omega)])]
        refine (hH.2.2.1 i h1 e0).kept (hold _ ?_)
        show gAd G i < H.size
        rw [gAd_own G h1]
        omega
      · by_cases e1 : i = n
        · subst e1
          rw [gE_arq hsh (by decide), hn]
          show F.heap[H.size]? = some (vp_cell _ _)
          rw [f2, c3]
          congr 7
          funext j
          simp only [mrG, if_pos rfl]
          by_cases hj : j < N
          · rw [if_pos hj, if_pos hj]
            show some _ = some (gAd G (i + 1 + j))
            rw [gAd_own G (by omega), hsz]
            congr 1
            omega
          · rw [if_neg hj, if_neg hj]
            rfl
        · have hj : i - (n + 1) < N := by omega
          have hs2 := hsr _ hj
          rw [show n + 1 + (i - (n + 1)) = i by omega] at hs2
          rw [gE_arr hs2 (by decide), gAd_own G h1]
          show F.heap[gS0 G + (i - 32)]? = some (vp_cell _ _)
          have h9 := hrow _ hj
          rw [show H.size + 1 + (i - (n + 1)) = gS0 G + (i - 32) by omega] at h9
          rw [h9, c0, vp_cell_i]
          show some ({ cls := gC G 0, slots := Array.replicate M (defaultValue .int), vm := .none } : Cell) = _
          rw [arrV_new]
          congr 2
          funext j
          simp only [miR]
          rw [if_pos (by omega)]
          rfl
    · rw [hH.2.2.2.1]
      funext j
      simp only [miR]
      rw [if_neg (by omega)]
    · simp only [mrG]
      rw [if_neg (by omega), if_neg (by omega)]
      exact hH.2.2.2.2
  obtain ⟨t, a1, b1⟩ := kk G p l e R s m args below meth c Z mc ms C hR F.heap locs (cells + 1 + N) (slots + N + N * M) ls hGH (hS.push (by rw [f1]; omega) hold) (by omega) (by omega) hl F rfl X'
  refine ⟨t, step t ?_, b1⟩
  have e : T.heap.size = H.size := by rw [hT]
  rw [e, ← hn]
  exact a1
/-- Math.max, min, abs -/
theorem V_max {index : Nat} {x y : Int32} (hd : decode K.2.1 pc = .ok (.invokestatic index, 3)) (hw : Cond.methodLink K.1.cls index Lib.Math.max.name ∈ TBL) (hw2 : Cond.static Lib.Math.max.name ∈ TBL) (hw3 : Cond.initialized "java/lang/Math" ∈ TBL) (hw4 : Cond.code Lib.Math.max.name Lib.Math.max.code 2 (some .int) ∈ TBL) (hdd : 1 ≤ d) (hst : (st.map fun v => v.category).sum ≤ 40)
    (kk : V K d cl sl Q (pc + 3) L (.int (if x < y then y else x) :: st) n mi mr) : V K d cl sl Q pc L (.int y :: .int x :: st) n mi mr := by
  intro G p l e R s m args below meth c Z mc ms C hR H locs cells slots ls hH hS hc hs hl
  have hts := C.2.2.2.2.1
  have hRm := C.2.2.2.2.2.1
  exact va_mmax C.1 C.2.1 (C.2.2.1.trans hl.1.symm) C.2.2.2.1 (hts _ hw) (hts _ hw2) (hts _ hw3) (hts _ hw4) (by omega) (by rw [List.map_map, show ((fun v : Value => v.category) ∘ gV G) = (fun v : Value => v.category) from funext (gV_cat G)]; omega) (by omega) (by omega) hd (kk G p l e R s m args below meth c Z mc ms C hR H locs cells slots ls hH hS hc hs hl)
theorem V_min {index : Nat} {x y : Int32} (hd : decode K.2.1 pc = .ok (.invokestatic index, 3)) (hw : Cond.methodLink K.1.cls index Lib.Math.min.name ∈ TBL) (hw2 : Cond.static Lib.Math.min.name ∈ TBL) (hw3 : Cond.initialized "java/lang/Math" ∈ TBL) (hw4 : Cond.code Lib.Math.min.name Lib.Math.min.code 2 (some .int) ∈ TBL) (hdd : 1 ≤ d) (hst : (st.map fun v => v.category).sum ≤ 40)
    (kk : V K d cl sl Q (pc + 3) L (.int (if y < x then y else x) :: st) n mi mr) : V K d cl sl Q pc L (.int y :: .int x :: st) n mi mr := by
  intro G p l e R s m args below meth c Z mc ms C hR H locs cells slots ls hH hS hc hs hl
  have hts := C.2.2.2.2.1
  have hRm := C.2.2.2.2.2.1
  exact va_mmin C.1 C.2.1 (C.2.2.1.trans hl.1.symm) C.2.2.2.1 (hts _ hw) (hts _ hw2) (hts _ hw3) (hts _ hw4) (by omega) (by rw [List.map_map, show ((fun v : Value => v.category) ∘ gV G) = (fun v : Value => v.category) from funext (gV_cat G)]; omega) (by omega) (by omega) hd (kk G p l e R s m args below meth c Z mc ms C hR H locs cells slots ls hH hS hc hs hl)
theorem V_abs {index : Nat} {x : Int32} (hd : decode K.2.1 pc = .ok (.invokestatic index, 3)) (hw : Cond.methodLink K.1.cls index Lib.Math.abs.name ∈ TBL) (hw2 : Cond.static Lib.Math.abs.name ∈ TBL) (hw3 : Cond.initialized "java/lang/Math" ∈ TBL) (hw4 : Cond.code Lib.Math.abs.name Lib.Math.abs.code 1 (some .int) ∈ TBL) (hdd : 1 ≤ d) (hst : (st.map fun v => v.category).sum ≤ 40)
    (kk : V K d cl sl Q (pc + 3) L (.int (if 0 ≤ x then x else 0 - x) :: st) n mi mr) : V K d cl sl Q pc L (.int x :: st) n mi mr := by
  intro G p l e R s m args below meth c Z mc ms C hR H locs cells slots ls hH hS hc hs hl
  have hts := C.2.2.2.2.1
  have hRm := C.2.2.2.2.2.1
  exact va_mabs C.1 C.2.1 (C.2.2.1.trans hl.1.symm) C.2.2.2.1 (hts _ hw) (hts _ hw2) (hts _ hw3) (hts _ hw4) (by omega) (by rw [List.map_map, show ((fun v : Value => v.category) ∘ gV G) = (fun v : Value => v.category) from funext (gV_cat G)]; omega) (by omega) (by omega) hd (kk G p l e R s m args below meth c Z mc ms C hR H locs cells slots ls hH hS hc hs hl)
/-- java.lang.Object's constructor -/
theorem V_objInit {index a : Nat} (hd : decode K.2.1 pc = .ok (.invokespecial index, 3)) (hw : Cond.methodLink K.1.cls index Lib.objectInit ∈ TBL) (hw2 : Cond.instanceMethod Lib.objectInit ∈ TBL) (hw3 : Cond.code Lib.objectInit ⟨#[0xb1]⟩ 1 none ∈ TBL) (hdd : 1 ≤ d) (hst : (st.map fun v => v.category).sum ≤ 40)
    (kk : V K d cl sl Q (pc + 3) L st n mi mr) : V K d cl sl Q pc L (.ref a :: st) n mi mr := by
  intro G p l e R s m args below meth c Z mc ms C hR H locs cells slots ls hH hS hc hs hl
  have hts := C.2.2.2.2.1
  have hRm := C.2.2.2.2.2.1
  exact W.objInit C.1 C.2.1 C.2.2.2.1 (hts _ hw) (hts _ hw2) (hts _ hw3) (g := F0 m pc ls (.ref (gAd G a) :: st.map (gV G))) rfl (hl.1.trans C.2.2.1.symm) rfl hd (by omega) (by show 2 * 0 + _ + 12 ≤ _; rw [List.map_map, show ((fun v : Value => v.category) ∘ gV G) = (fun v : Value => v.category) from funext (gV_cat G)]; omega) (kk G p l e R s m args below meth c Z mc ms C hR H locs cells slots ls hH hS hc hs hl)
def cp2 (mi : MI) (src dst len : Nat) : MI := fun i j => if i = dst ∧ j < len then mi src j else mi i j
/-- System.arraycopy of a whole array of numbers -/
theorem V_copy {index a0 a t len : Nat} {x : Int32} (hd : decode K.2.1 pc = .ok (.invokestatic index, 3)) (hw : Cond.methodLink K.1.cls index arraycopyName ∈ TBL) (hw2 : Cond.native arraycopyName ∈ TBL) (hw3 : Cond.static arraycopyName ∈ TBL) (hw4 : Cond.initialized "java/lang/System" ∈ TBL) (hsh0 : SH a0 = .inr (t, len)) (hsh : SH a = .inr (t, len)) (ht : t < 3) (ha0 : 32 ≤ a0 ∧ a0 < n) (ha : 32 ≤ a ∧ a < n) (hx : x.toInt = (len : Int)) (hlen : len < 2 ^ 30) (hfit : ∀ j, j < len → fits (gTy t) (.int (mi a0 j)) = true) (hdd : 1 ≤ d) (hst : (st.map fun v => v.category).sum ≤ 20)
    (kk : V K d cl sl Q (pc + 3) L st n (cp2 mi a0 a len) mr) : V K d cl sl Q pc L (.int x :: .int 0 :: .ref a :: .int 0 :: .ref a0 :: st) n mi mr := by
  intro G p l e R s m args below meth c Z mc ms C hR H locs cells slots ls hH hS hc hs hl
  have hts := C.2.2.2.2.1
  have hRm := C.2.2.2.2.2.1
  have hK := C.2.2.2.2.2.2.2.1.1
  have hc0' := hH.at ha0
  have hc1' := hH.at ha
  rw [gE_arr hsh0 ht] at hc0'
  rw [gE_arr hsh ht] at hc1'
  have hc0 : H[gAd G a0]? = some (vp_cell (gC G t) (len, .inl (mi a0))) := hc0'
  have hc1 : H[gAd G a]? = some (vp_cell (gC G t) (len, .inl (mi a))) := hc1'
  have hxn := nat_of_toInt hx
  have hx0 : ¬ x < 0 := fun h => by
    rw [Int32.lt_iff_toInt_lt, Int32.toInt_zero] at h
    omega
  have h00 : ¬ (0 : Int32) < 0 := by decide
  have hz0 : (0 : Int32).toNatClampNeg = 0 := by decide
  intro T hT X
  obtain ⟨-, k0, hk0, cm0, hkk0⟩ := (hK.2 t _ (gTys_at G (by omega))).1 len (fun j => .int (mi a0 j))
  obtain ⟨-, k1, hk1, cm1, hkk1⟩ := (hK.2 t _ (gTys_at G (by omega))).1 len (fun j => .int (mi a j))
  obtain ⟨vm', X', step⟩ := X.arraycopy C.1 C.2.2.2.1 (hts _ hw) (hts _ hw2) (hts _ hw3) (hts _ hw4) (src := gAd G a0) (dst := gAd G a) (cs := vp_cell (gC G t) (len, .inl (mi a0))) (cd := vp_cell (gC G t) (len, .inl (mi a))) (srcPos := 0) (destPos := 0) (n := x) (by rw [hT]; exact hc0) (by rw [hT]; exact hc1)
    (fun _ h => by cases h) (fun _ h => by cases h) (fun h => by cases h) (fun h => by cases h) hk0 hk1 hkk0 hkk1 (by
      have : refKind (gTy t) = false := by
        match t, ht with
        | 0, _ => rfl
        | 1, _ => rfl
        | 2, _ => rfl
      simp [this]) h00 h00 hx0
    (by rw [hx]; show ¬ (0 : Int) + _ > ((arrV (gC G t) len (fun j => .int (mi a0 j))).slots.size : Int); rw [arrV_size]; omega)
    (by rw [hx]; show ¬ (0 : Int) + _ > ((arrV (gC G t) len (fun j => .int (mi a j))).slots.size : Int); rw [arrV_size]; omega)
    (fun vm₁ _ i hi => by
      rw [hxn] at hi
      have e : (vp_cell (gC G t) (len, .inl (mi a0))).slots.getD ((0 : Int32).toNatClampNeg + i) .null = .int (mi a0 i) := by
        show (arrV (gC G t) len (fun j => .int (mi a0 j))).slots.getD _ _ = _
        rw [hz0, Nat.zero_add, Array.getD_eq_getD_getElem?, arrV_read _ _ (by omega)]
        rfl
      refine ⟨?_, ?_⟩
      · rw [e]
        exact hfit i hi
      · rw [e]
        exact trivial)
    (g := F0 m pc ls (.int x :: .int 0 :: .ref (gAd G a) :: .int 0 :: .ref (gAd G a0) :: st.map (gV G))) rfl (by rw [C.2.2.1, hl.1]) (rest := st.map (gV G)) rfl (by rw [C.2.1]; exact hd) (by omega) (by
      show 2 * 0 + _ + (nativeFrameWords "java/lang/System" "arraycopy" 5 + 11) ≤ _
      rw [List.map_map, show ((fun v : Value => v.category) ∘ gV G) = (fun v : Value => v.category) from funext (gV_cat G), show nativeFrameWords "java/lang/System" "arraycopy" 5 = 7 from rfl]
      omega)
  have e1 : copied (vp_cell (gC G t) (len, .inl (mi a0))) (vp_cell (gC G t) (len, .inl (mi a))) 0 0 x = vp_cell (gC G t) (len, .inl (va_cpy (mi a0) (mi a) (0 : Int32).toNatClampNeg (0 : Int32).toNatClampNeg x.toNatClampNeg)) := va_copied (fun z => .int z) (gC G t) (gC G t) (mi a0) (mi a) (by rw [hz0, hxn]; omega)
  rw [e1, hz0, hxn] at X' step
  have hl1 : gAd G a < H.size := (Array.getElem?_eq_some_iff.mp hc1).1
  have hheap : ((T.setVm vm').setCell (gAd G a) (vp_cell (gC G t) (len, .inl (va_cpy (mi a0) (mi a) 0 0 len)))).heap = H.setIfInBounds (gAd G a) (vp_cell (gC G t) (len, .inl (va_cpy (mi a0) (mi a) 0 0 len))) := by rw [← hT]; rfl
  have oq : ∀ q : Nat, q ≠ gAd G a → (H.setIfInBounds (gAd G a) (vp_cell (gC G t) (len, .inl (va_cpy (mi a0) (mi a) 0 0 len))))[q]? = H[q]? := fun q hq => by simp [Array.getElem?_setIfInBounds, Ne.symm hq]
  have hput : gH G n (cp2 mi a0 a len) mr (H.setIfInBounds (gAd G a) (vp_cell (gC G t) (len, .inl (va_cpy (mi a0) (mi a) 0 0 len)))) := by
    refine hH.put ha (by simp) oq ?_ (fun i hi => ⟨by funext j; simp [cp2, hi], rfl⟩)
    rw [gE_arr hsh ht]
    show (H.setIfInBounds (gAd G a) _)[gAd G a]? = some (vp_cell _ _)
    rw [Array.getElem?_setIfInBounds, if_pos rfl, if_pos hl1]
    congr 4
    funext j
    simp [va_cpy, cp2]
  obtain ⟨t2, a1, b1⟩ := kk G p l e R s m args below meth c Z mc ms C hR _ _ cells slots ls hput ⟨by simp; exact hS.1, fun q g1 g2 => by
      rw [oq q (fun e => g2 (by rw [e]; exact gAd_A G ha.1))]
      exact hS.2.1 q g1 g2, fun q hq => by
      rcases List.mem_append.mp hq with h | h
      · exact hS.2.2 q h
      · obtain ⟨z, -, hz⟩ := List.mem_map.mp h
        rw [← hz]
        exact gAd_A G ha.1⟩ hc hs hl _ hheap X'
  exact ⟨t2, step t2 a1, b1⟩
end CA
end
section
/-! calls over V; old things (texts, static arrays, the script) -/
def okMth (K : KT) : Prop := Cond.code K.1 K.2.1 K.2.2.1 K.2.2.2 ∈ TBL ∧ Cond.initialized K.1.cls ∈ TBL ∧ (K.1.cls ≠ "java/lang/invoke/MethodHandle" ∧ K.1.cls ≠ "java/lang/invoke/VarHandle") ∧ K.2.2.1 ≤ 45
def okInst (K : KT) : Prop := Cond.instanceMethod K.1 ∈ TBL ∧ Cond.selects K.1.cls K.1 K.1 ∈ TBL
theorem gAd_old (G : GT) {i : Nat} (h : i < 32) : gAd G i = G.1 i := if_pos h
theorem gPre_blind (G : GT) (as : List Value) (n : Nat) (mi : MI) (mr : MR) : FrameBlind (va_Pc (as.map (gV G)) (fun U => gH G n mi mr U.heap ∧ gK G U U.heap)) := fun a U g mk q => ⟨q.1, q.2.1, gK.same (s := U) (U := U.calling g mk a) rfl q.2.2⟩
section CB
variable {p : Program} {l : Launch} {e : Env} {R : Room} {s : State} {m : MethodId} {args : Array Value} {below : List Frame} {meth : Method} {c : Code} {H : Heap} {locs : List Loc} {cells slots : Nat} {Z : State → Prop}
theorem W_after {G : GT} {Q' : QT} {a : Array Value} {mc' ms' pc : Nat} {ls : Array Slot} {st : List Value} {st0 : List Value} (hr : va_Run p l e R s m args below meth c H locs cells slots mc' ms' (F0 m pc ls st0) (st.map (gV G)) (gQ G Q' a) (gA G)) (hS : va_S (gA G) s.heap H locs)
    (kk : ∀ (r : Option Value) (n' : Nat) (mi' : MI) (mr' : MR) (H1 : Heap) (locs1 : List Loc), Q' r n' mi' mr' → gH G n' mi' mr' H1 → va_S (gA G) s.heap H1 locs1 → W p l e R s m args below meth c H1 locs1 (cells + mc') (slots + ms') Z (F0 m (pc + 3) ls ((r.toList ++ st).map (gV G)))) : W p l e R s m args below meth c H locs cells slots Z (F0 m pc ls st0) := by
  intro T hT X
  obtain ⟨v, st₀, t, T', L, h0, X', hL, e1, e2, ⟨⟨r, n', mi', mr', hv, hq, hh⟩, hz, hk⟩, st2⟩ := hr T hT X
  have hv : v = r.map (gV G) := by cases hv; rfl
  subst hv
  rw [h0] at hz hk
  obtain ⟨t2, a1, b1⟩ := kk r n' mi' mr' T'.heap (locs ++ L) hq (by rw [e1]; exact hh)
    ⟨Nat.le_trans hS.1 (by rw [e1]; exact hz), fun q h1 h2 => by rw [e1, hk q (Nat.lt_of_lt_of_le h1 hS.1) h2]; exact hS.2.1 q h1 h2, fun q hq => by
      rcases List.mem_append.mp hq with h | h
      · exact hS.2.2 q h
      · exact hL q h⟩ T' rfl X'
  refine ⟨t2, st2 t2 ?_, b1⟩
  have e : (Option.map (gV G) r).toList ++ st.map (gV G) = (r.toList ++ st).map (gV G) := by cases r <;> rfl
  show Steps p.tables _ below (T'.setTop (F0 m (pc + 3) ls ((Option.map (gV G) r).toList ++ st.map (gV G)))) t2
  rw [e]
  exact a1
end CB
section CC
variable {K : KT} {d cl sl : Nat} {Q : QT} {pc : Nat} {L : List (Option Value)} {st : List Value} {n : Nat} {mi : MI} {mr : MR}
theorem gStart {G : GT} {s : State} {p : Program} {R : Room} {m : MethodId} {args : Array Value} {meth : Method} {c : Code} {mc ms : Nat} (C : gX K d mc ms G p R s m args meth c) {H : Heap} {locs : List Loc} (hH : gH G n mi mr H) (hS : va_S (gA G) s.heap H locs) (as : List Value) (U : State) (hU : U.heap = H) (hW : s.WarmedH U.vm) : va_Pc (as.map (gV G)) (fun U => gH G n mi mr U.heap ∧ gK G U U.heap) (as.map (gV G)).toArray U :=
  ⟨rfl, by rw [hU]; exact hH, by rw [hU]; exact (gK.warm hW C.2.2.2.2.2.2.2.1).kept hS.2.1⟩
theorem gRoom {G : GT} {s : State} {p : Program} {R : Room} {m : MethodId} {args : Array Value} {meth : Method} {c : Code} {mc ms : Nat} (C : gX K d mc ms G p R s m args meth c) {K' : KT} (hm : okMth K') {d' mc' ms' : Nat} (hd : d' + 1 ≤ d) : (rmD d' mc' ms').frames + 1 ≤ R.frames ∧ 8 + (K'.2.2.1 + 11) + (rmD d' mc' ms').locals ≤ R.locals := by
  have h1 := C.2.2.2.2.2.1
  have h2 := hm.2.2.2
  exact ⟨by show d' + 1 ≤ _; omega, by show 8 + (K'.2.2.1 + 11) + 64 * d' ≤ _; omega⟩
theorem gCat {G : GT} {m : MethodId} {ls : Array Slot} {st0 : List Value} (h : (st.map fun v => v.category).sum ≤ 8) : 2 * (F0 m pc ls st0).monitorRoom + ((st.map (gV G)).map fun v => v.category).sum ≤ 8 := by
  refine lv_room ?_
  rw [List.map_map, show ((fun v : Value => v.category) ∘ gV G) = (fun v : Value => v.category) from funext (gV_cat G)]
  exact h
theorem gStk {G : GT} {As : List Value} {b : Nat} : ((As.reverse ++ .ref b :: st).map (gV G)) = (As.map (gV G)).reverse ++ .ref (gAd G b) :: st.map (gV G) := by
  rw [List.map_append, List.map_reverse]
  rfl
theorem gStk0 {G : GT} {As : List Value} : ((As.reverse ++ st).map (gV G)) = (As.map (gV G)).reverse ++ st.map (gV G) := by
  rw [List.map_append, List.map_reverse]
theorem V_callV {K' : KT} {index b ci d' mc' ms' cl' sl' : Nat} {As : List Value} {stk : List Value} {Q' : QT} (hCt : Ct K' d' mc' ms' (.ref b :: As) n mi mr Q') (hd : decode K.2.1 pc = .ok (.invokevirtual index, 3)) (hw : Cond.methodLink K.1.cls index K'.1 ∈ TBL) (hm : okMth K') (hi : okInst K') (hC : K'.1.cls = gRX ci) (hsh : SH b = .inl ci) (hb : 32 ≤ b ∧ b < n) (hci : ci < 9) (hstk : stk = As.reverse ++ .ref b :: st) (hn : (parseMethodDescriptor K'.1.desc).map (fun q => q.parameters.length) = some As.length) (hdd : d' + 1 ≤ d) (hst : (st.map fun v => v.category).sum ≤ 8) (hcl : cl = cl' + mc') (hsl : sl = sl' + ms')
    (kk : ∀ (r : Option Value) (n' : Nat) (mi' : MI) (mr' : MR), Q' r n' mi' mr' → V K d cl' sl' Q (pc + 3) L (r.toList ++ st) n' mi' mr') : V K d cl sl Q pc L stk n mi mr := by
  subst hstk
  intro G p l e R s m args below meth c Z mc ms C hR H locs cells slots ls hH hS hc hs hl
  have hts := C.2.2.2.2.1
  have hRm := C.2.2.2.2.2.1
  have hB := va_P_one (hH.at hb)
  rw [gE_obj hsh] at hB
  rw [gStk]
  refine W_after (va_runV (As := As.map (gV G)) (n := As.length) ⟨C.1, C.2.1, C.2.2.1, C.2.2.2.1, hts⟩ (hCt l G) ⟨callB_of As.length hts (TBL_good hm.1) rfl rfl rfl (hts _ hm.2.1) (hts _ hw) ⟨hm.2.2.1.1, hm.2.2.1.2, hn⟩ (gRoom C hm hdd), hts _ hi.1, hts _ hi.2⟩ ⟨gPre_blind G _ n mi mr, ?_, fun U hU hW => gStart C hH hS _ U hU hW⟩ rfl (by simp) hl.1 rfl (gCat hst) hd (by omega)) hS (fun r n' mi' mr' H1 locs1 hq hh hs1 => kk r n' mi' mr' hq G p l e R s m args below meth c Z mc ms C hR H1 locs1 _ _ ls hh hs1 (by omega) (by omega) hl)
  obtain ⟨cell, h1, h2, h3⟩ := va_recv C.2.2.2.2.2.2.2.1.1 hB (gCls_at hci) (q0 := 0) rfl
  exact ⟨cell, h1, h2, by rw [hC]; exact h3⟩
theorem V_callVs {K' : KT} {index k d' mc' ms' cl' sl' : Nat} {As : List Value} {stk : List Value} {Q' : QT} (hCt : Ct K' d' mc' ms' (.ref (4 + k) :: As) n mi mr Q') (hd : decode K.2.1 pc = .ok (.invokevirtual index, 3)) (hw : Cond.methodLink K.1.cls index K'.1 ∈ TBL) (hm : okMth K') (hi : okInst K') (hC : K'.1.cls = "java/lang/String") (hk : k < 8) (hstk : stk = As.reverse ++ .ref (4 + k) :: st) (hn : (parseMethodDescriptor K'.1.desc).map (fun q => q.parameters.length) = some As.length) (hdd : d' + 1 ≤ d) (hst : (st.map fun v => v.category).sum ≤ 8) (hcl : cl = cl' + mc') (hsl : sl = sl' + ms')
    (kk : ∀ (r : Option Value) (n' : Nat) (mi' : MI) (mr' : MR), Q' r n' mi' mr' → V K d cl' sl' Q (pc + 3) L (r.toList ++ st) n' mi' mr') : V K d cl sl Q pc L stk n mi mr := by
  subst hstk
  intro G p l e R s m args below meth c Z mc ms C hR H locs cells slots ls hH hS hc hs hl
  have hts := C.2.2.2.2.1
  have hRm := C.2.2.2.2.2.1
  rw [gStk]
  refine W_after (va_runV (As := As.map (gV G)) (n := As.length) ⟨C.1, C.2.1, C.2.2.1, C.2.2.2.1, hts⟩ (hCt l G) ⟨callB_of As.length hts (TBL_good hm.1) rfl rfl rfl (hts _ hm.2.1) (hts _ hw) ⟨hm.2.2.1.1, hm.2.2.1.2, hn⟩ (gRoom C hm hdd), hts _ hi.1, hts _ hi.2⟩ ⟨gPre_blind G _ n mi mr, ?_, fun U hU hW => gStart C hH hS _ U hU hW⟩ rfl (by simp) hl.1 rfl (gCat hst) hd (by omega)) hS (fun r n' mi' mr' H1 locs1 hq hh hs1 => kk r n' mi' mr' hq G p l e R s m args below meth c Z mc ms C hR H1 locs1 _ _ ls hh hs1 (by omega) (by omega) hl)
  obtain ⟨cell, h1, h2, h3⟩ := vk_recv C.2.2.2.2.2.2.2.1.2.2.2.2.2.2.2.2.2 hk hS
  exact ⟨cell, by rw [gAd_old G (by omega)]; exact h1, h2, by rw [hC]; exact h3⟩
theorem V_callS {K' : KT} {index d' mc' ms' cl' sl' : Nat} {As : List Value} {stk : List Value} {Q' : QT} (hCt : Ct K' d' mc' ms' As n mi mr Q') (hd : decode K.2.1 pc = .ok (.invokestatic index, 3)) (hw : Cond.methodLink K.1.cls index K'.1 ∈ TBL) (hm : okMth K') (hi : Cond.static K'.1 ∈ TBL) (hstk : stk = As.reverse ++ st) (hn : (parseMethodDescriptor K'.1.desc).map (fun q => q.parameters.length) = some As.length) (hdd : d' + 1 ≤ d) (hst : (st.map fun v => v.category).sum ≤ 8) (hcl : cl = cl' + mc') (hsl : sl = sl' + ms')
    (kk : ∀ (r : Option Value) (n' : Nat) (mi' : MI) (mr' : MR), Q' r n' mi' mr' → V K d cl' sl' Q (pc + 3) L (r.toList ++ st) n' mi' mr') : V K d cl sl Q pc L stk n mi mr := by
  subst hstk
  intro G p l e R s m args below meth c Z mc ms C hR H locs cells slots ls hH hS hc hs hl
  have hts := C.2.2.2.2.1
  have hRm := C.2.2.2.2.2.1
  rw [gStk0]
  exact W_after (va_runS (As := As.map (gV G)) (n := As.length) ⟨C.1, C.2.1, C.2.2.1, C.2.2.2.1, hts⟩ (hCt l G) ⟨callB_of As.length hts (TBL_good hm.1) rfl rfl rfl (hts _ hm.2.1) (hts _ hw) ⟨hm.2.2.1.1, hm.2.2.1.2, hn⟩ (gRoom C hm hdd), hts _ hi⟩ ⟨gPre_blind G _ n mi mr, fun U hU hW => gStart C hH hS _ U hU hW⟩ rfl (by simp) hl.1 rfl (gCat hst) hd (by omega)) hS (fun r n' mi' mr' H1 locs1 hq hh hs1 => kk r n' mi' mr' hq G p l e R s m args below meth c Z mc ms C hR H1 locs1 _ _ ls hh hs1 (by omega) (by omega) hl)
theorem V_callI {K' : KT} {index b d' mc' ms' cl' sl' : Nat} {As : List Value} {stk : List Value} {Q' : QT} (hCt : Ct K' d' mc' ms' (.ref b :: As) n mi mr Q') (hd : decode K.2.1 pc = .ok (.invokespecial index, 3)) (hw : Cond.methodLink K.1.cls index K'.1 ∈ TBL) (hm : okMth K') (hi : Cond.instanceMethod K'.1 ∈ TBL) (hnm : K'.1.name = "<init>" ∧ K'.2.2.2 = none) (hstk : stk = As.reverse ++ .ref b :: st) (hn : (parseMethodDescriptor K'.1.desc).map (fun q => q.parameters.length) = some As.length) (hdd : d' + 1 ≤ d) (hst : (st.map fun v => v.category).sum ≤ 8) (hcl : cl = cl' + mc') (hsl : sl = sl' + ms')
    (kk : ∀ (r : Option Value) (n' : Nat) (mi' : MI) (mr' : MR), Q' r n' mi' mr' → V K d cl' sl' Q (pc + 3) L (r.toList ++ st) n' mi' mr') : V K d cl sl Q pc L stk n mi mr := by
  subst hstk
  intro G p l e R s m args below meth c Z mc ms C hR H locs cells slots ls hH hS hc hs hl
  have hts := C.2.2.2.2.1
  have hRm := C.2.2.2.2.2.1
  have hcb := callB_of (ws := WK K') (R := R) (own := K.1.cls) (index := index) (rm := rmD d' mc' ms') (mc := mc') (ms := ms') As.length hts (TBL_good hm.1) rfl rfl rfl (hts _ hm.2.1) (hts _ hw) ⟨hm.2.2.1.1, hm.2.2.1.2, hn⟩ (gRoom C hm hdd)
  rw [hnm.2] at hcb
  rw [gStk]
  exact W_after (va_runI (As := As.map (gV G)) (n := As.length) ⟨C.1, C.2.1, C.2.2.1, C.2.2.2.1, hts⟩ (hCt l G) ⟨hcb, hnm.1, hts _ hi⟩ ⟨gPre_blind G _ n mi mr, fun U hU hW => gStart C hH hS (.ref b :: As) U hU hW⟩ rfl (by simp) hl.1 rfl (gCat hst) hd (by omega)) hS (fun r n' mi' mr' H1 locs1 hq hh hs1 => kk r n' mi' mr' hq G p l e R s m args below meth c Z mc ms C hR H1 locs1 _ _ ls hh hs1 (by omega) (by omega) hl)
theorem gCN {G : GT} {s : State} {p : Program} {R : Room} {m : MethodId} {args : Array Value} {meth : Method} {c : Code} {mc ms : Nat} (C : gX K d mc ms G p R s m args meth c) {K' : KT} {host : String} {index d' mc' ms' k : Nat} (hm : okMth K') (hw : Cond.methodLinkNest K.1.cls index K'.1 host ∈ nestL) (hn : (parseMethodDescriptor K'.1.desc).map (fun q => q.parameters.length) = some k) (hdd : d' + 1 ≤ d) : va_CN R s args K.1.cls index K'.1 host K'.2.1 K'.2.2.1 K'.2.2.2 (WK K') (rmD d' mc' ms') mc' ms' k :=
  va_cnB k C.2.2.2.2.1 (TBL_good hm.1) rfl rfl rfl (C.2.2.2.2.2.2.2.1.2.1 _ hw) (C.2.2.2.2.1 _ hm.2.1) ⟨hm.2.2.1.1, hm.2.2.1.2, hn⟩ (gRoom C hm hdd)
theorem V_callSN {K' : KT} {host : String} {index d' mc' ms' cl' sl' : Nat} {As : List Value} {stk : List Value} {Q' : QT} (hCt : Ct K' d' mc' ms' As n mi mr Q') (hd : decode K.2.1 pc = .ok (.invokestatic index, 3)) (hw : Cond.methodLinkNest K.1.cls index K'.1 host ∈ nestL) (hm : okMth K') (hi : Cond.static K'.1 ∈ TBL) (hstk : stk = As.reverse ++ st) (hn : (parseMethodDescriptor K'.1.desc).map (fun q => q.parameters.length) = some As.length) (hdd : d' + 1 ≤ d) (hst : (st.map fun v => v.category).sum ≤ 8) (hcl : cl = cl' + mc') (hsl : sl = sl' + ms')
    (kk : ∀ (r : Option Value) (n' : Nat) (mi' : MI) (mr' : MR), Q' r n' mi' mr' → V K d cl' sl' Q (pc + 3) L (r.toList ++ st) n' mi' mr') : V K d cl sl Q pc L stk n mi mr := by
  subst hstk
  intro G p l e R s m args below meth c Z mc ms C hR H locs cells slots ls hH hS hc hs hl
  have hts := C.2.2.2.2.1
  have hRm := C.2.2.2.2.2.1
  rw [gStk0]
  exact W_after (va_runSN (As := As.map (gV G)) (n := As.length) ⟨C.1, C.2.1, C.2.2.1, C.2.2.2.1, hts⟩ (hCt l G) ⟨gCN C hm hw hn hdd, hts _ hi, trivial⟩ ⟨gPre_blind G _ n mi mr, fun U hU hW => gStart C hH hS _ U hU hW⟩ rfl (by simp) hl.1 rfl (gCat hst) hd (by omega)) hS (fun r n' mi' mr' H1 locs1 hq hh hs1 => kk r n' mi' mr' hq G p l e R s m args below meth c Z mc ms C hR H1 locs1 _ _ ls hh hs1 (by omega) (by omega) hl)
theorem V_callIN {K' : KT} {host : String} {index b d' mc' ms' cl' sl' : Nat} {As : List Value} {stk : List Value} {Q' : QT} (hCt : Ct K' d' mc' ms' (.ref b :: As) n mi mr Q') (hd : decode K.2.1 pc = .ok (.invokespecial index, 3)) (hw : Cond.methodLinkNest K.1.cls index K'.1 host ∈ nestL) (hm : okMth K') (hi : Cond.instanceMethod K'.1 ∈ TBL) (hnm : K'.1.name = "<init>" ∧ K'.2.2.2 = none) (hstk : stk = As.reverse ++ .ref b :: st) (hn : (parseMethodDescriptor K'.1.desc).map (fun q => q.parameters.length) = some As.length) (hdd : d' + 1 ≤ d) (hst : (st.map fun v => v.category).sum ≤ 8) (hcl : cl = cl' + mc') (hsl : sl = sl' + ms')
    (kk : ∀ (r : Option Value) (n' : Nat) (mi' : MI) (mr' : MR), Q' r n' mi' mr' → V K d cl' sl' Q (pc + 3) L (r.toList ++ st) n' mi' mr') : V K d cl sl Q pc L stk n mi mr := by
  subst hstk
  intro G p l e R s m args below meth c Z mc ms C hR H locs cells slots ls hH hS hc hs hl
  have hts := C.2.2.2.2.1
  have hRm := C.2.2.2.2.2.1
  have hcb := gCN (d' := d') (mc' := mc') (ms' := ms') C hm hw hn hdd
  rw [hnm.2] at hcb
  rw [gStk]
  exact W_after (va_runIN (As := As.map (gV G)) (n := As.length) ⟨C.1, C.2.1, C.2.2.1, C.2.2.2.1, hts⟩ (hCt l G) ⟨hcb, hnm.1, hts _ hi⟩ ⟨gPre_blind G _ n mi mr, fun U hU hW => gStart C hH hS (.ref b :: As) U hU hW⟩ rfl (by simp) hl.1 rfl (gCat hst) hd (by omega)) hS (fun r n' mi' mr' H1 locs1 hq hh hs1 => kk r n' mi' mr' hq G p l e R s m args below meth c Z mc ms C hR H1 locs1 _ _ ls hh hs1 (by omega) (by omega) hl)
-- old things
theorem V_gets {index : Nat} {C0 nm ds : String} {v : Value} (hd : decode K.2.1 pc = .ok (.getstatic index, 3)) (hw : Cond.fieldLink K.1.cls index C0 nm ds ∈ TBL) (hZ : ∀ (G : GT) (U : State) (H : Heap), gO G U H → va_Z C0 nm ds (gV G v) (gA G) U H)
    (kk : V K d cl sl Q (pc + 3) L (v :: st) n mi mr) : V K d cl sl Q pc L st n mi mr := by
  intro G p l e R s m args below meth c Z mc ms C hR H locs cells slots ls hH hS hc hs hl
  exact va_gets (ref := C0) C.1 C.2.1 (hZ G s s.heap C.2.2.2.2.2.2.2.1.2.2.2.2) hS C.2.2.2.1 (C.2.2.2.2.1 _ hw) (fun x h => h) hd (kk G p l e R s m args below meth c Z mc ms C hR H locs cells slots ls hH hS hc hs hl)
theorem V_getsFmt {index : Nat} (hd : decode K.2.1 pc = .ok (.getstatic index, 3)) (hw : Cond.fieldLink K.1.cls index "jdk/internal/util/Preconditions" "SIOOBE_FORMATTER" "Ljava/util/function/BiFunction;" ∈ TBL)
    (kk : ∀ v : Value, v.category = 1 → V K d cl sl Q (pc + 3) L (v :: st) n mi mr) : V K d cl sl Q pc L st n mi mr := by
  intro G p l e R s m args below meth c Z mc ms C hR H locs cells slots ls hH hS hc hs hl
  rcases C.2.2.2.2.2.2.2.1.2.2.2.2.2.2.2.2.1 with h | h
  · exact va_gets (v := .null) C.1 C.2.1 h hS C.2.2.2.1 (C.2.2.2.2.1 _ hw) (fun x h => h) hd (kk .null rfl G p l e R s m args below meth c Z mc ms C hR H locs cells slots ls hH hS hc hs hl)
  · exact va_gets (v := .ref (G.1 3)) C.1 C.2.1 h hS C.2.2.2.1 (C.2.2.2.2.1 _ hw) (fun x h => h) hd (kk (.ref 3) rfl G p l e R s m args below meth c Z mc ms C hR H locs cells slots ls hH hS hc hs hl)
theorem V_ialdO {a len : Nat} {i : Int32} {f : Nat → Int32} (j : Nat) (hd : decode K.2.1 pc = .ok (.iaload, 1)) (ha : a < 32) (hT : ∀ (G : GT) (U : State) (H : Heap), gO G U H → va_T .int (G.1 a) len (fun j => .int (f j)) (gA G) U H) (hj : i.toInt = (j : Int)) (hlt : j < len)
    (kk : V K d cl sl Q (pc + 1) L (.int (f j) :: st) n mi mr) : V K d cl sl Q pc L (.int i :: .ref a :: st) n mi mr := by
  intro G p l e R s m args below meth c Z mc ms C hR H locs cells slots ls hH hS hc hs hl
  have k2 := kk G p l e R s m args below meth c Z mc ms C hR H locs cells slots ls hH hS hc hs hl
  have hT2 := hT G s s.heap C.2.2.2.2.2.2.2.1.2.2.2.2
  rw [← gAd_old G ha] at hT2
  exact va_ti C.1 C.2.1 hT2 hS (vp_in_j hj hlt) (by rw [nat_of_toInt hj]; rfl) hd k2
theorem V_scr {len : Nat} {i : Int32} (j : Nat) (hd : decode K.2.1 pc = .ok (.iaload, 1)) (hlen : mr 0 0 = some len) (hj : i.toInt = (j : Int)) (hlt : j < len)
    (kk : V K d cl sl Q (pc + 1) L (.int (mi 0 j) :: st) n mi mr) : V K d cl sl Q pc L (.int i :: .ref 0 :: st) n mi mr := by
  intro G p l e R s m args below meth c Z mc ms C hR H locs cells slots ls hH hS hc hs hl
  have k2 := kk G p l e R s m args below meth c Z mc ms C hR H locs cells slots ls hH hS hc hs hl
  have hT2 := C.2.2.2.2.2.2.2.1.2.2.2.2.1
  rw [← gAd_old G (show 0 < 32 by omega), hH.2.2.2.1] at hT2
  have hle : gLen G = len := Option.some.inj (hH.2.2.2.2.symm.trans hlen)
  rw [hle] at hT2
  exact va_ti C.1 C.2.1 hT2 hS (vp_in_j hj hlt) (by rw [nat_of_toInt hj]; rfl) hd k2
theorem V_scrLen {len : Nat} (hd : decode K.2.1 pc = .ok (.arraylength, 1)) (hlen : mr 0 0 = some len)
    (kk : V K d cl sl Q (pc + 1) L (.int (Int32.ofNat len) :: st) n mi mr) : V K d cl sl Q pc L (.ref 0 :: st) n mi mr := by
  intro G p l e R s m args below meth c Z mc ms C hR H locs cells slots ls hH hS hc hs hl
  have k2 := kk G p l e R s m args below meth c Z mc ms C hR H locs cells slots ls hH hS hc hs hl
  have hT2 := C.2.2.2.2.2.2.2.1.2.2.2.2.1
  rw [← gAd_old G (show 0 < 32 by omega)] at hT2
  have hle : gLen G = len := Option.some.inj (hH.2.2.2.2.symm.trans hlen)
  rw [hle] at hT2
  exact va_tlen C.1 C.2.1 hT2 hS rfl hd k2
theorem V_ldcs {index k : Nat} {tx : String} (hd : decode K.2.1 pc = .ok (.ldc index, 2)) (hZ : ∀ (G : GT) (U : State), gR G U → vk_R K.1.cls index tx (G.1 (4 + k)) U) (hk : k < 8)
    (kk : V K d cl sl Q (pc + 2) L (.ref (4 + k) :: st) n mi mr) : V K d cl sl Q pc L st n mi mr := by
  intro G p l e R s m args below meth c Z mc ms C hR H locs cells slots ls hH hS hc hs hl
  have k2 := kk G p l e R s m args below meth c Z mc ms C hR H locs cells slots ls hH hS hc hs hl
  have hZ2 := hZ G s C.2.2.2.2.2.2.2.1.2.2.2.1
  rw [← gAd_old G (show 4 + k < 32 by omega)] at hZ2
  exact va_ldcS C.1 C.2.1 C.2.2.2.1 hZ2 hd k2
theorem V_sval {index k : Nat} (hd : decode K.2.1 pc = .ok (.getfield index, 3)) (hw : Cond.fieldLink K.1.cls index "java/lang/String" "value" "[B" ∈ TBL) (hk : k < 8)
    (kk : V K d cl sl Q (pc + 3) L (.ref (16 + k) :: st) n mi mr) : V K d cl sl Q pc L (.ref (4 + k) :: st) n mi mr := by
  intro G p l e R s m args below meth c Z mc ms C hR H locs cells slots ls hH hS hc hs hl
  have k2 := kk G p l e R s m args below meth c Z mc ms C hR H locs cells slots ls hH hS hc hs hl
  have h := (C.2.2.2.2.2.2.2.1.2.2.2.2.2.2.2.2.2.1 k hk).2.2.1
  simp only at h
  rw [← gAd_old G (show 4 + k < 32 by omega), ← gAd_old G (show 16 + k < 32 by omega)] at h
  exact vk_getf C.1 C.2.1 h hS C.2.2.2.1 (C.2.2.2.2.1 _ hw) (fun x h => h) hd k2
theorem V_scod {index k : Nat} (hd : decode K.2.1 pc = .ok (.getfield index, 3)) (hw : Cond.fieldLink K.1.cls index "java/lang/String" "coder" "B" ∈ TBL) (hk : k < 8)
    (kk : V K d cl sl Q (pc + 3) L (.int 0 :: st) n mi mr) : V K d cl sl Q pc L (.ref (4 + k) :: st) n mi mr := by
  intro G p l e R s m args below meth c Z mc ms C hR H locs cells slots ls hH hS hc hs hl
  have k2 := kk G p l e R s m args below meth c Z mc ms C hR H locs cells slots ls hH hS hc hs hl
  have h := (C.2.2.2.2.2.2.2.1.2.2.2.2.2.2.2.2.2.1 k hk).2.1
  simp only at h
  rw [← gAd_old G (show 4 + k < 32 by omega)] at h
  exact vk_getf C.1 C.2.1 h hS C.2.2.2.1 (C.2.2.2.2.1 _ hw) (fun x h => h) hd k2
theorem V_baldO {k : Nat} {i : Int32} (j : Nat) (hd : decode K.2.1 pc = .ok (.baload, 1)) (hk : k < 8) (hj : i.toInt = (j : Int)) (hlt : j < gSL.getD k 0)
    (kk : V K d cl sl Q (pc + 1) L (.int ((gSB.getD k []).getD j 0) :: st) n mi mr) : V K d cl sl Q pc L (.int i :: .ref (16 + k) :: st) n mi mr := by
  intro G p l e R s m args below meth c Z mc ms C hR H locs cells slots ls hH hS hc hs hl
  have k2 := kk G p l e R s m args below meth c Z mc ms C hR H locs cells slots ls hH hS hc hs hl
  have h := (C.2.2.2.2.2.2.2.1.2.2.2.2.2.2.2.2.2.1 k hk).2.2.2
  simp only at h
  rw [← gAd_old G (show 16 + k < 32 by omega)] at h
  exact va_tb C.1 C.2.1 h hS (vp_in_j hj hlt) (by rw [nat_of_toInt hj]; rfl) hd k2
theorem V_alenO {k : Nat} (hd : decode K.2.1 pc = .ok (.arraylength, 1)) (hk : k < 8)
    (kk : V K d cl sl Q (pc + 1) L (.int (Int32.ofNat (gSL.getD k 0)) :: st) n mi mr) : V K d cl sl Q pc L (.ref (16 + k) :: st) n mi mr := by
  intro G p l e R s m args below meth c Z mc ms C hR H locs cells slots ls hH hS hc hs hl
  have k2 := kk G p l e R s m args below meth c Z mc ms C hR H locs cells slots ls hH hS hc hs hl
  have h := (C.2.2.2.2.2.2.2.1.2.2.2.2.2.2.2.2.2.1 k hk).2.2.2
  simp only at h
  rw [← gAd_old G (show 16 + k < 32 by omega)] at h
  exact va_tlen C.1 C.2.1 h hS rfl hd k2
end CC
end
section
theorem i_vc : Claimed_1_1 ∧ Claimed_1_2 := sorry
end
