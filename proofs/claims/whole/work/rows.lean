section
-- ===== PART A: goes FIRST, ahead of the names: the tables' words, and 'selects' of the private methods out of them =====
/-- a private method of a class that the tables say can be made, by its rows of tables_1 -/
def lw_okq (q : MethodName × Nat) : Prop := (q.1.cls ≠ "java/lang/invoke/MethodHandle" ∧ q.1.cls ≠ "java/lang/invoke/VarHandle") ∧ Cond.instantiable q.1.cls q.2 ∈ tables_1 ∧ Cond.privateMethod q.1 ∈ tables_1 ∧ Cond.instanceMethod q.1 ∈ tables_1
theorem lw_p0 : lw_okq (⟨"WhiskedDuchy$Told", "fillWithout", "(II)V"⟩, 2) := ⟨⟨by decide +kernel, by decide +kernel⟩, List.mem_of_getElem? (i := 54) (by decide +kernel), List.mem_of_getElem? (i := 364) (by decide +kernel), List.mem_of_getElem? (i := 365) (by decide +kernel)⟩
theorem lw_p1 : lw_okq (⟨"WhiskedDuchy$DuchyReader", "isClauseNext", "()Z"⟩, 2) := ⟨⟨by decide +kernel, by decide +kernel⟩, List.mem_of_getElem? (i := 48) (by decide +kernel), List.mem_of_getElem? (i := 395) (by decide +kernel), List.mem_of_getElem? (i := 396) (by decide +kernel)⟩
theorem lw_p2 : lw_okq (⟨"WhiskedDuchy$DuchyReader", "isValueNext", "(III)Z"⟩, 2) := ⟨⟨by decide +kernel, by decide +kernel⟩, List.mem_of_getElem? (i := 48) (by decide +kernel), List.mem_of_getElem? (i := 426) (by decide +kernel), List.mem_of_getElem? (i := 427) (by decide +kernel)⟩
theorem lw_p3 : lw_okq (⟨"WhiskedDuchy$Tape", "isDigitHere", "()Z"⟩, 3) := ⟨⟨by decide +kernel, by decide +kernel⟩, List.mem_of_getElem? (i := 31) (by decide +kernel), List.mem_of_getElem? (i := 437) (by decide +kernel), List.mem_of_getElem? (i := 438) (by decide +kernel)⟩
theorem lw_p4 : lw_okq (⟨"WhiskedDuchy$LawReader", "isClauseNext", "()Z"⟩, 3) := ⟨⟨by decide +kernel, by decide +kernel⟩, List.mem_of_getElem? (i := 74) (by decide +kernel), List.mem_of_getElem? (i := 477) (by decide +kernel), List.mem_of_getElem? (i := 478) (by decide +kernel)⟩
theorem lw_p5 : lw_okq (⟨"WhiskedDuchy$LawReader", "isConditionNext", "(I)Z"⟩, 3) := ⟨⟨by decide +kernel, by decide +kernel⟩, List.mem_of_getElem? (i := 74) (by decide +kernel), List.mem_of_getElem? (i := 483) (by decide +kernel), List.mem_of_getElem? (i := 484) (by decide +kernel)⟩
theorem lw_p6 : lw_okq (⟨"WhiskedDuchy$LawReader", "isTruthNext", "(I)Z"⟩, 3) := ⟨⟨by decide +kernel, by decide +kernel⟩, List.mem_of_getElem? (i := 74) (by decide +kernel), List.mem_of_getElem? (i := 487) (by decide +kernel), List.mem_of_getElem? (i := 488) (by decide +kernel)⟩
theorem lw_p7 : lw_okq (⟨"WhiskedDuchy$LawReader", "isUnitNext", "(I)Z"⟩, 3) := ⟨⟨by decide +kernel, by decide +kernel⟩, List.mem_of_getElem? (i := 74) (by decide +kernel), List.mem_of_getElem? (i := 491) (by decide +kernel), List.mem_of_getElem? (i := 492) (by decide +kernel)⟩
theorem lw_p8 : lw_okq (⟨"WhiskedDuchy$LawReader", "isSumNext", "(I)Z"⟩, 3) := ⟨⟨by decide +kernel, by decide +kernel⟩, List.mem_of_getElem? (i := 74) (by decide +kernel), List.mem_of_getElem? (i := 495) (by decide +kernel), List.mem_of_getElem? (i := 496) (by decide +kernel)⟩
theorem lw_p9 : lw_okq (⟨"WhiskedDuchy$LawReader", "isTermNext", "(I)Z"⟩, 3) := ⟨⟨by decide +kernel, by decide +kernel⟩, List.mem_of_getElem? (i := 74) (by decide +kernel), List.mem_of_getElem? (i := 499) (by decide +kernel), List.mem_of_getElem? (i := 500) (by decide +kernel)⟩
theorem lw_p10 : lw_okq (⟨"WhiskedDuchy$LawReader", "isAtomNext", "(I)Z"⟩, 3) := ⟨⟨by decide +kernel, by decide +kernel⟩, List.mem_of_getElem? (i := 74) (by decide +kernel), List.mem_of_getElem? (i := 503) (by decide +kernel), List.mem_of_getElem? (i := 504) (by decide +kernel)⟩
theorem lw_p11 : lw_okq (⟨"WhiskedDuchy$LawReader", "write", "(I)V"⟩, 3) := ⟨⟨by decide +kernel, by decide +kernel⟩, List.mem_of_getElem? (i := 74) (by decide +kernel), List.mem_of_getElem? (i := 509) (by decide +kernel), List.mem_of_getElem? (i := 510) (by decide +kernel)⟩
theorem lw_p12 : lw_okq (⟨"WhiskedDuchy$LawReader", "isComparedNext", "(I)Z"⟩, 3) := ⟨⟨by decide +kernel, by decide +kernel⟩, List.mem_of_getElem? (i := 74) (by decide +kernel), List.mem_of_getElem? (i := 517) (by decide +kernel), List.mem_of_getElem? (i := 518) (by decide +kernel)⟩
theorem lw_p13 : lw_okq (⟨"WhiskedDuchy$LawReader", "areUnitsNext", "(I)Z"⟩, 3) := ⟨⟨by decide +kernel, by decide +kernel⟩, List.mem_of_getElem? (i := 74) (by decide +kernel), List.mem_of_getElem? (i := 524) (by decide +kernel), List.mem_of_getElem? (i := 525) (by decide +kernel)⟩
theorem lw_p14 : lw_okq (⟨"WhiskedDuchy$LawReader", "areTruthsNext", "(I)Z"⟩, 3) := ⟨⟨by decide +kernel, by decide +kernel⟩, List.mem_of_getElem? (i := 74) (by decide +kernel), List.mem_of_getElem? (i := 528) (by decide +kernel), List.mem_of_getElem? (i := 529) (by decide +kernel)⟩
theorem lw_p15 : lw_okq (⟨"WhiskedDuchy$LawReader", "isSumBehindCondition", "()Z"⟩, 3) := ⟨⟨by decide +kernel, by decide +kernel⟩, List.mem_of_getElem? (i := 74) (by decide +kernel), List.mem_of_getElem? (i := 532) (by decide +kernel), List.mem_of_getElem? (i := 533) (by decide +kernel)⟩
def lw_privs_1 : List (MethodName × Nat) := [(⟨"WhiskedDuchy$Told", "fillWithout", "(II)V"⟩, 2), (⟨"WhiskedDuchy$DuchyReader", "isClauseNext", "()Z"⟩, 2), (⟨"WhiskedDuchy$DuchyReader", "isValueNext", "(III)Z"⟩, 2), (⟨"WhiskedDuchy$Tape", "isDigitHere", "()Z"⟩, 3), (⟨"WhiskedDuchy$LawReader", "isClauseNext", "()Z"⟩, 3), (⟨"WhiskedDuchy$LawReader", "isConditionNext", "(I)Z"⟩, 3), (⟨"WhiskedDuchy$LawReader", "isTruthNext", "(I)Z"⟩, 3), (⟨"WhiskedDuchy$LawReader", "isUnitNext", "(I)Z"⟩, 3), (⟨"WhiskedDuchy$LawReader", "isSumNext", "(I)Z"⟩, 3), (⟨"WhiskedDuchy$LawReader", "isTermNext", "(I)Z"⟩, 3), (⟨"WhiskedDuchy$LawReader", "isAtomNext", "(I)Z"⟩, 3), (⟨"WhiskedDuchy$LawReader", "write", "(I)V"⟩, 3), (⟨"WhiskedDuchy$LawReader", "isComparedNext", "(I)Z"⟩, 3), (⟨"WhiskedDuchy$LawReader", "areUnitsNext", "(I)Z"⟩, 3), (⟨"WhiskedDuchy$LawReader", "areTruthsNext", "(I)Z"⟩, 3), (⟨"WhiskedDuchy$LawReader", "isSumBehindCondition", "()Z"⟩, 3)]
theorem lw_r1 : ∀ q ∈ lw_privs_1, lw_okq q := List.forall_mem_cons.mpr ⟨lw_p0, List.forall_mem_cons.mpr ⟨lw_p1, List.forall_mem_cons.mpr ⟨lw_p2, List.forall_mem_cons.mpr ⟨lw_p3, List.forall_mem_cons.mpr ⟨lw_p4, List.forall_mem_cons.mpr ⟨lw_p5, List.forall_mem_cons.mpr ⟨lw_p6, List.forall_mem_cons.mpr ⟨lw_p7, List.forall_mem_cons.mpr ⟨lw_p8, List.forall_mem_cons.mpr ⟨lw_p9, List.forall_mem_cons.mpr ⟨lw_p10, List.forall_mem_cons.mpr ⟨lw_p11, List.forall_mem_cons.mpr ⟨lw_p12, List.forall_mem_cons.mpr ⟨lw_p13, List.forall_mem_cons.mpr ⟨lw_p14, List.forall_mem_cons.mpr ⟨lw_p15, fun _ h => absurd h List.not_mem_nil⟩⟩⟩⟩⟩⟩⟩⟩⟩⟩⟩⟩⟩⟩⟩⟩
theorem lw_p16 : lw_okq (⟨"WhiskedDuchy", "beginDuchy", "()V"⟩, 19) := ⟨⟨by decide +kernel, by decide +kernel⟩, List.mem_of_getElem? (i := 23) (by decide +kernel), List.mem_of_getElem? (i := 541) (by decide +kernel), List.mem_of_getElem? (i := 542) (by decide +kernel)⟩
theorem lw_p17 : lw_okq (⟨"WhiskedDuchy", "hasCook", "(I)Z"⟩, 19) := ⟨⟨by decide +kernel, by decide +kernel⟩, List.mem_of_getElem? (i := 23) (by decide +kernel), List.mem_of_getElem? (i := 622) (by decide +kernel), List.mem_of_getElem? (i := 623) (by decide +kernel)⟩
theorem lw_p18 : lw_okq (⟨"WhiskedDuchy", "refuse", "(I)I"⟩, 19) := ⟨⟨by decide +kernel, by decide +kernel⟩, List.mem_of_getElem? (i := 23) (by decide +kernel), List.mem_of_getElem? (i := 639) (by decide +kernel), List.mem_of_getElem? (i := 640) (by decide +kernel)⟩
theorem lw_p19 : lw_okq (⟨"WhiskedDuchy", "strokesLeft", "(I)I"⟩, 19) := ⟨⟨by decide +kernel, by decide +kernel⟩, List.mem_of_getElem? (i := 23) (by decide +kernel), List.mem_of_getElem? (i := 643) (by decide +kernel), List.mem_of_getElem? (i := 644) (by decide +kernel)⟩
theorem lw_p20 : lw_okq (⟨"WhiskedDuchy", "whisk", "(II)V"⟩, 19) := ⟨⟨by decide +kernel, by decide +kernel⟩, List.mem_of_getElem? (i := 23) (by decide +kernel), List.mem_of_getElem? (i := 658) (by decide +kernel), List.mem_of_getElem? (i := 659) (by decide +kernel)⟩
theorem lw_p21 : lw_okq (⟨"WhiskedDuchy", "whisked", "(IIII)I"⟩, 19) := ⟨⟨by decide +kernel, by decide +kernel⟩, List.mem_of_getElem? (i := 23) (by decide +kernel), List.mem_of_getElem? (i := 662) (by decide +kernel), List.mem_of_getElem? (i := 663) (by decide +kernel)⟩
theorem lw_p22 : lw_okq (⟨"WhiskedDuchy$Laws", "pop", "()I"⟩, 11) := ⟨⟨by decide +kernel, by decide +kernel⟩, List.mem_of_getElem? (i := 90) (by decide +kernel), List.mem_of_getElem? (i := 674) (by decide +kernel), List.mem_of_getElem? (i := 675) (by decide +kernel)⟩
theorem lw_p23 : lw_okq (⟨"WhiskedDuchy$Laws", "push", "(J)V"⟩, 11) := ⟨⟨by decide +kernel, by decide +kernel⟩, List.mem_of_getElem? (i := 90) (by decide +kernel), List.mem_of_getElem? (i := 678) (by decide +kernel), List.mem_of_getElem? (i := 679) (by decide +kernel)⟩
theorem lw_p24 : lw_okq (⟨"WhiskedDuchy$Laws", "apply", "(I)V"⟩, 11) := ⟨⟨by decide +kernel, by decide +kernel⟩, List.mem_of_getElem? (i := 90) (by decide +kernel), List.mem_of_getElem? (i := 690) (by decide +kernel), List.mem_of_getElem? (i := 691) (by decide +kernel)⟩
theorem lw_p25 : lw_okq (⟨"WhiskedDuchy", "hasMinister", "(I)Z"⟩, 19) := ⟨⟨by decide +kernel, by decide +kernel⟩, List.mem_of_getElem? (i := 23) (by decide +kernel), List.mem_of_getElem? (i := 710) (by decide +kernel), List.mem_of_getElem? (i := 711) (by decide +kernel)⟩
theorem lw_p26 : lw_okq (⟨"WhiskedDuchy", "isInside", "(I)Z"⟩, 19) := ⟨⟨by decide +kernel, by decide +kernel⟩, List.mem_of_getElem? (i := 23) (by decide +kernel), List.mem_of_getElem? (i := 714) (by decide +kernel), List.mem_of_getElem? (i := 715) (by decide +kernel)⟩
theorem lw_p27 : lw_okq (⟨"WhiskedDuchy", "canFold", "(I)Z"⟩, 19) := ⟨⟨by decide +kernel, by decide +kernel⟩, List.mem_of_getElem? (i := 23) (by decide +kernel), List.mem_of_getElem? (i := 718) (by decide +kernel), List.mem_of_getElem? (i := 719) (by decide +kernel)⟩
theorem lw_p28 : lw_okq (⟨"WhiskedDuchy", "foldIn", "(I)V"⟩, 19) := ⟨⟨by decide +kernel, by decide +kernel⟩, List.mem_of_getElem? (i := 23) (by decide +kernel), List.mem_of_getElem? (i := 722) (by decide +kernel), List.mem_of_getElem? (i := 723) (by decide +kernel)⟩
theorem lw_p29 : lw_okq (⟨"WhiskedDuchy", "openDoor", "()V"⟩, 19) := ⟨⟨by decide +kernel, by decide +kernel⟩, List.mem_of_getElem? (i := 23) (by decide +kernel), List.mem_of_getElem? (i := 734) (by decide +kernel), List.mem_of_getElem? (i := 735) (by decide +kernel)⟩
theorem lw_p30 : lw_okq (⟨"WhiskedDuchy", "fallIfFlat", "()V"⟩, 19) := ⟨⟨by decide +kernel, by decide +kernel⟩, List.mem_of_getElem? (i := 23) (by decide +kernel), List.mem_of_getElem? (i := 738) (by decide +kernel), List.mem_of_getElem? (i := 739) (by decide +kernel)⟩
theorem lw_p31 : lw_okq (⟨"WhiskedDuchy", "passHour", "()V"⟩, 19) := ⟨⟨by decide +kernel, by decide +kernel⟩, List.mem_of_getElem? (i := 23) (by decide +kernel), List.mem_of_getElem? (i := 746) (by decide +kernel), List.mem_of_getElem? (i := 747) (by decide +kernel)⟩
def lw_privs_2 : List (MethodName × Nat) := [(⟨"WhiskedDuchy", "beginDuchy", "()V"⟩, 19), (⟨"WhiskedDuchy", "hasCook", "(I)Z"⟩, 19), (⟨"WhiskedDuchy", "refuse", "(I)I"⟩, 19), (⟨"WhiskedDuchy", "strokesLeft", "(I)I"⟩, 19), (⟨"WhiskedDuchy", "whisk", "(II)V"⟩, 19), (⟨"WhiskedDuchy", "whisked", "(IIII)I"⟩, 19), (⟨"WhiskedDuchy$Laws", "pop", "()I"⟩, 11), (⟨"WhiskedDuchy$Laws", "push", "(J)V"⟩, 11), (⟨"WhiskedDuchy$Laws", "apply", "(I)V"⟩, 11), (⟨"WhiskedDuchy", "hasMinister", "(I)Z"⟩, 19), (⟨"WhiskedDuchy", "isInside", "(I)Z"⟩, 19), (⟨"WhiskedDuchy", "canFold", "(I)Z"⟩, 19), (⟨"WhiskedDuchy", "foldIn", "(I)V"⟩, 19), (⟨"WhiskedDuchy", "openDoor", "()V"⟩, 19), (⟨"WhiskedDuchy", "fallIfFlat", "()V"⟩, 19), (⟨"WhiskedDuchy", "passHour", "()V"⟩, 19)]
theorem lw_r2 : ∀ q ∈ lw_privs_2, lw_okq q := List.forall_mem_cons.mpr ⟨lw_p16, List.forall_mem_cons.mpr ⟨lw_p17, List.forall_mem_cons.mpr ⟨lw_p18, List.forall_mem_cons.mpr ⟨lw_p19, List.forall_mem_cons.mpr ⟨lw_p20, List.forall_mem_cons.mpr ⟨lw_p21, List.forall_mem_cons.mpr ⟨lw_p22, List.forall_mem_cons.mpr ⟨lw_p23, List.forall_mem_cons.mpr ⟨lw_p24, List.forall_mem_cons.mpr ⟨lw_p25, List.forall_mem_cons.mpr ⟨lw_p26, List.forall_mem_cons.mpr ⟨lw_p27, List.forall_mem_cons.mpr ⟨lw_p28, List.forall_mem_cons.mpr ⟨lw_p29, List.forall_mem_cons.mpr ⟨lw_p30, List.forall_mem_cons.mpr ⟨lw_p31, fun _ h => absurd h List.not_mem_nil⟩⟩⟩⟩⟩⟩⟩⟩⟩⟩⟩⟩⟩⟩⟩⟩
theorem lw_p32 : lw_okq (⟨"WhiskedDuchy", "sinksBy", "()I"⟩, 19) := ⟨⟨by decide +kernel, by decide +kernel⟩, List.mem_of_getElem? (i := 23) (by decide +kernel), List.mem_of_getElem? (i := 750) (by decide +kernel), List.mem_of_getElem? (i := 751) (by decide +kernel)⟩
theorem lw_p33 : lw_okq (⟨"WhiskedDuchy", "sumInside", "(I)I"⟩, 19) := ⟨⟨by decide +kernel, by decide +kernel⟩, List.mem_of_getElem? (i := 23) (by decide +kernel), List.mem_of_getElem? (i := 754) (by decide +kernel), List.mem_of_getElem? (i := 755) (by decide +kernel)⟩
theorem lw_p34 : lw_okq (⟨"WhiskedDuchy", "passDay", "()V"⟩, 19) := ⟨⟨by decide +kernel, by decide +kernel⟩, List.mem_of_getElem? (i := 23) (by decide +kernel), List.mem_of_getElem? (i := 781) (by decide +kernel), List.mem_of_getElem? (i := 782) (by decide +kernel)⟩
theorem lw_p35 : lw_okq (⟨"WhiskedDuchy", "passDrawnDay", "()V"⟩, 19) := ⟨⟨by decide +kernel, by decide +kernel⟩, List.mem_of_getElem? (i := 23) (by decide +kernel), List.mem_of_getElem? (i := 808) (by decide +kernel), List.mem_of_getElem? (i := 809) (by decide +kernel)⟩
theorem lw_p36 : lw_okq (⟨"WhiskedDuchy", "logSize", "()I"⟩, 19) := ⟨⟨by decide +kernel, by decide +kernel⟩, List.mem_of_getElem? (i := 23) (by decide +kernel), List.mem_of_getElem? (i := 838) (by decide +kernel), List.mem_of_getElem? (i := 839) (by decide +kernel)⟩
theorem lw_p37 : lw_okq (⟨"WhiskedDuchy", "whiskedOften", "(IIIII)I"⟩, 19) := ⟨⟨by decide +kernel, by decide +kernel⟩, List.mem_of_getElem? (i := 23) (by decide +kernel), List.mem_of_getElem? (i := 850) (by decide +kernel), List.mem_of_getElem? (i := 851) (by decide +kernel)⟩
theorem lw_p38 : lw_okq (⟨"WhiskedDuchy", "soonestOf", "(II)I"⟩, 19) := ⟨⟨by decide +kernel, by decide +kernel⟩, List.mem_of_getElem? (i := 23) (by decide +kernel), List.mem_of_getElem? (i := 861) (by decide +kernel), List.mem_of_getElem? (i := 862) (by decide +kernel)⟩
theorem lw_p39 : lw_okq (⟨"WhiskedDuchy", "hasTwoCooks", "(II)Z"⟩, 19) := ⟨⟨by decide +kernel, by decide +kernel⟩, List.mem_of_getElem? (i := 23) (by decide +kernel), List.mem_of_getElem? (i := 877) (by decide +kernel), List.mem_of_getElem? (i := 878) (by decide +kernel)⟩
theorem lw_p40 : lw_okq (⟨"WhiskedDuchy$Rows", "leastRowTo", "(I)I"⟩, 5) := ⟨⟨by decide +kernel, by decide +kernel⟩, List.mem_of_getElem? (i := 236) (by decide +kernel), List.mem_of_getElem? (i := 896) (by decide +kernel), List.mem_of_getElem? (i := 897) (by decide +kernel)⟩
theorem lw_p41 : lw_okq (⟨"WhiskedDuchy$Rows", "canEnd", "(II)Z"⟩, 5) := ⟨⟨by decide +kernel, by decide +kernel⟩, List.mem_of_getElem? (i := 236) (by decide +kernel), List.mem_of_getElem? (i := 900) (by decide +kernel), List.mem_of_getElem? (i := 901) (by decide +kernel)⟩
theorem lw_p42 : lw_okq (⟨"WhiskedDuchy$Rows", "isBetter", "(II)Z"⟩, 5) := ⟨⟨by decide +kernel, by decide +kernel⟩, List.mem_of_getElem? (i := 236) (by decide +kernel), List.mem_of_getElem? (i := 913) (by decide +kernel), List.mem_of_getElem? (i := 914) (by decide +kernel)⟩
theorem lw_p43 : lw_okq (⟨"WhiskedDuchy", "fittingYolks", "()I"⟩, 19) := ⟨⟨by decide +kernel, by decide +kernel⟩, List.mem_of_getElem? (i := 23) (by decide +kernel), List.mem_of_getElem? (i := 958) (by decide +kernel), List.mem_of_getElem? (i := 959) (by decide +kernel)⟩
theorem lw_p44 : lw_okq (⟨"WhiskedDuchy", "isFitting", "(I)Z"⟩, 19) := ⟨⟨by decide +kernel, by decide +kernel⟩, List.mem_of_getElem? (i := 23) (by decide +kernel), List.mem_of_getElem? (i := 962) (by decide +kernel), List.mem_of_getElem? (i := 963) (by decide +kernel)⟩
theorem lw_p45 : lw_okq (⟨"WhiskedDuchy", "whiskAllYolks", "(IIII)I"⟩, 19) := ⟨⟨by decide +kernel, by decide +kernel⟩, List.mem_of_getElem? (i := 23) (by decide +kernel), List.mem_of_getElem? (i := 984) (by decide +kernel), List.mem_of_getElem? (i := 985) (by decide +kernel)⟩
theorem lw_p46 : lw_okq (⟨"WhiskedDuchy", "playAll", "(II)V"⟩, 19) := ⟨⟨by decide +kernel, by decide +kernel⟩, List.mem_of_getElem? (i := 23) (by decide +kernel), List.mem_of_getElem? (i := 1000) (by decide +kernel), List.mem_of_getElem? (i := 1001) (by decide +kernel)⟩
theorem lw_p47 : lw_okq (⟨"WhiskedDuchy", "isRest", "(II)Z"⟩, 19) := ⟨⟨by decide +kernel, by decide +kernel⟩, List.mem_of_getElem? (i := 23) (by decide +kernel), List.mem_of_getElem? (i := 1004) (by decide +kernel), List.mem_of_getElem? (i := 1005) (by decide +kernel)⟩
def lw_privs_3 : List (MethodName × Nat) := [(⟨"WhiskedDuchy", "sinksBy", "()I"⟩, 19), (⟨"WhiskedDuchy", "sumInside", "(I)I"⟩, 19), (⟨"WhiskedDuchy", "passDay", "()V"⟩, 19), (⟨"WhiskedDuchy", "passDrawnDay", "()V"⟩, 19), (⟨"WhiskedDuchy", "logSize", "()I"⟩, 19), (⟨"WhiskedDuchy", "whiskedOften", "(IIIII)I"⟩, 19), (⟨"WhiskedDuchy", "soonestOf", "(II)I"⟩, 19), (⟨"WhiskedDuchy", "hasTwoCooks", "(II)Z"⟩, 19), (⟨"WhiskedDuchy$Rows", "leastRowTo", "(I)I"⟩, 5), (⟨"WhiskedDuchy$Rows", "canEnd", "(II)Z"⟩, 5), (⟨"WhiskedDuchy$Rows", "isBetter", "(II)Z"⟩, 5), (⟨"WhiskedDuchy", "fittingYolks", "()I"⟩, 19), (⟨"WhiskedDuchy", "isFitting", "(I)Z"⟩, 19), (⟨"WhiskedDuchy", "whiskAllYolks", "(IIII)I"⟩, 19), (⟨"WhiskedDuchy", "playAll", "(II)V"⟩, 19), (⟨"WhiskedDuchy", "isRest", "(II)Z"⟩, 19)]
theorem lw_r3 : ∀ q ∈ lw_privs_3, lw_okq q := List.forall_mem_cons.mpr ⟨lw_p32, List.forall_mem_cons.mpr ⟨lw_p33, List.forall_mem_cons.mpr ⟨lw_p34, List.forall_mem_cons.mpr ⟨lw_p35, List.forall_mem_cons.mpr ⟨lw_p36, List.forall_mem_cons.mpr ⟨lw_p37, List.forall_mem_cons.mpr ⟨lw_p38, List.forall_mem_cons.mpr ⟨lw_p39, List.forall_mem_cons.mpr ⟨lw_p40, List.forall_mem_cons.mpr ⟨lw_p41, List.forall_mem_cons.mpr ⟨lw_p42, List.forall_mem_cons.mpr ⟨lw_p43, List.forall_mem_cons.mpr ⟨lw_p44, List.forall_mem_cons.mpr ⟨lw_p45, List.forall_mem_cons.mpr ⟨lw_p46, List.forall_mem_cons.mpr ⟨lw_p47, fun _ h => absurd h List.not_mem_nil⟩⟩⟩⟩⟩⟩⟩⟩⟩⟩⟩⟩⟩⟩⟩⟩
theorem lw_p48 : lw_okq (⟨"WhiskedDuchy", "quarterOf", "(II)I"⟩, 19) := ⟨⟨by decide +kernel, by decide +kernel⟩, List.mem_of_getElem? (i := 23) (by decide +kernel), List.mem_of_getElem? (i := 1008) (by decide +kernel), List.mem_of_getElem? (i := 1009) (by decide +kernel)⟩
theorem lw_p49 : lw_okq (⟨"WhiskedDuchy", "firstMinisterByMost", "(I)I"⟩, 19) := ⟨⟨by decide +kernel, by decide +kernel⟩, List.mem_of_getElem? (i := 23) (by decide +kernel), List.mem_of_getElem? (i := 1029) (by decide +kernel), List.mem_of_getElem? (i := 1030) (by decide +kernel)⟩
theorem lw_p50 : lw_okq (⟨"WhiskedDuchy", "strongestCook", "()I"⟩, 19) := ⟨⟨by decide +kernel, by decide +kernel⟩, List.mem_of_getElem? (i := 23) (by decide +kernel), List.mem_of_getElem? (i := 1033) (by decide +kernel), List.mem_of_getElem? (i := 1034) (by decide +kernel)⟩
theorem lw_p51 : lw_okq (⟨"WhiskedDuchy", "freshestCook", "()I"⟩, 19) := ⟨⟨by decide +kernel, by decide +kernel⟩, List.mem_of_getElem? (i := 23) (by decide +kernel), List.mem_of_getElem? (i := 1037) (by decide +kernel), List.mem_of_getElem? (i := 1038) (by decide +kernel)⟩
theorem lw_p52 : lw_okq (⟨"WhiskedDuchy", "couldFold", "()I"⟩, 19) := ⟨⟨by decide +kernel, by decide +kernel⟩, List.mem_of_getElem? (i := 23) (by decide +kernel), List.mem_of_getElem? (i := 1041) (by decide +kernel), List.mem_of_getElem? (i := 1042) (by decide +kernel)⟩
theorem lw_p53 : lw_okq (⟨"WhiskedDuchy", "doorsToFlat", "()I"⟩, 19) := ⟨⟨by decide +kernel, by decide +kernel⟩, List.mem_of_getElem? (i := 23) (by decide +kernel), List.mem_of_getElem? (i := 1045) (by decide +kernel), List.mem_of_getElem? (i := 1046) (by decide +kernel)⟩
theorem lw_p54 : lw_okq (⟨"java/lang/Throwable", "fillInStackTrace", "(I)Ljava/lang/Throwable;"⟩, 6) := ⟨⟨by decide +kernel, by decide +kernel⟩, List.mem_of_getElem? (i := 1119) (by decide +kernel), List.mem_of_getElem? (i := 1117) (by decide +kernel), List.mem_of_getElem? (i := 1118) (by decide +kernel)⟩
theorem lw_p55 : lw_okq (⟨"WhiskedDuchyModel", "readDuchy", "()I"⟩, 46) := ⟨⟨by decide +kernel, by decide +kernel⟩, List.mem_of_getElem? (i := 1149) (by decide +kernel), List.mem_of_getElem? (i := 1313) (by decide +kernel), List.mem_of_getElem? (i := 1314) (by decide +kernel)⟩
theorem lw_p56 : lw_okq (⟨"WhiskedDuchyModel", "look", "()I"⟩, 46) := ⟨⟨by decide +kernel, by decide +kernel⟩, List.mem_of_getElem? (i := 1149) (by decide +kernel), List.mem_of_getElem? (i := 1320) (by decide +kernel), List.mem_of_getElem? (i := 1321) (by decide +kernel)⟩
theorem lw_p57 : lw_okq (⟨"WhiskedDuchyModel", "here", "()I"⟩, 46) := ⟨⟨by decide +kernel, by decide +kernel⟩, List.mem_of_getElem? (i := 1149) (by decide +kernel), List.mem_of_getElem? (i := 1324) (by decide +kernel), List.mem_of_getElem? (i := 1325) (by decide +kernel)⟩
theorem lw_p58 : lw_okq (⟨"WhiskedDuchyModel", "items", "(I[III)V"⟩, 46) := ⟨⟨by decide +kernel, by decide +kernel⟩, List.mem_of_getElem? (i := 1149) (by decide +kernel), List.mem_of_getElem? (i := 1328) (by decide +kernel), List.mem_of_getElem? (i := 1329) (by decide +kernel)⟩
theorem lw_p59 : lw_okq (⟨"WhiskedDuchyModel", "number", "(II)I"⟩, 46) := ⟨⟨by decide +kernel, by decide +kernel⟩, List.mem_of_getElem? (i := 1149) (by decide +kernel), List.mem_of_getElem? (i := 1341) (by decide +kernel), List.mem_of_getElem? (i := 1342) (by decide +kernel)⟩
theorem lw_p60 : lw_okq (⟨"WhiskedDuchyModel", "bad", "()V"⟩, 46) := ⟨⟨by decide +kernel, by decide +kernel⟩, List.mem_of_getElem? (i := 1149) (by decide +kernel), List.mem_of_getElem? (i := 1348) (by decide +kernel), List.mem_of_getElem? (i := 1349) (by decide +kernel)⟩
theorem lw_p61 : lw_okq (⟨"WhiskedDuchyModel", "readLaw", "(I)I"⟩, 46) := ⟨⟨by decide +kernel, by decide +kernel⟩, List.mem_of_getElem? (i := 1149) (by decide +kernel), List.mem_of_getElem? (i := 1355) (by decide +kernel), List.mem_of_getElem? (i := 1356) (by decide +kernel)⟩
theorem lw_p62 : lw_okq (⟨"WhiskedDuchyModel", "open", "(I)V"⟩, 46) := ⟨⟨by decide +kernel, by decide +kernel⟩, List.mem_of_getElem? (i := 1149) (by decide +kernel), List.mem_of_getElem? (i := 1359) (by decide +kernel), List.mem_of_getElem? (i := 1360) (by decide +kernel)⟩
theorem lw_p63 : lw_okq (⟨"WhiskedDuchyModel", "clause", "()V"⟩, 46) := ⟨⟨by decide +kernel, by decide +kernel⟩, List.mem_of_getElem? (i := 1149) (by decide +kernel), List.mem_of_getElem? (i := 1363) (by decide +kernel), List.mem_of_getElem? (i := 1364) (by decide +kernel)⟩
def lw_privs_4 : List (MethodName × Nat) := [(⟨"WhiskedDuchy", "quarterOf", "(II)I"⟩, 19), (⟨"WhiskedDuchy", "firstMinisterByMost", "(I)I"⟩, 19), (⟨"WhiskedDuchy", "strongestCook", "()I"⟩, 19), (⟨"WhiskedDuchy", "freshestCook", "()I"⟩, 19), (⟨"WhiskedDuchy", "couldFold", "()I"⟩, 19), (⟨"WhiskedDuchy", "doorsToFlat", "()I"⟩, 19), (⟨"java/lang/Throwable", "fillInStackTrace", "(I)Ljava/lang/Throwable;"⟩, 6), (⟨"WhiskedDuchyModel", "readDuchy", "()I"⟩, 46), (⟨"WhiskedDuchyModel", "look", "()I"⟩, 46), (⟨"WhiskedDuchyModel", "here", "()I"⟩, 46), (⟨"WhiskedDuchyModel", "items", "(I[III)V"⟩, 46), (⟨"WhiskedDuchyModel", "number", "(II)I"⟩, 46), (⟨"WhiskedDuchyModel", "bad", "()V"⟩, 46), (⟨"WhiskedDuchyModel", "readLaw", "(I)I"⟩, 46), (⟨"WhiskedDuchyModel", "open", "(I)V"⟩, 46), (⟨"WhiskedDuchyModel", "clause", "()V"⟩, 46)]
theorem lw_r4 : ∀ q ∈ lw_privs_4, lw_okq q := List.forall_mem_cons.mpr ⟨lw_p48, List.forall_mem_cons.mpr ⟨lw_p49, List.forall_mem_cons.mpr ⟨lw_p50, List.forall_mem_cons.mpr ⟨lw_p51, List.forall_mem_cons.mpr ⟨lw_p52, List.forall_mem_cons.mpr ⟨lw_p53, List.forall_mem_cons.mpr ⟨lw_p54, List.forall_mem_cons.mpr ⟨lw_p55, List.forall_mem_cons.mpr ⟨lw_p56, List.forall_mem_cons.mpr ⟨lw_p57, List.forall_mem_cons.mpr ⟨lw_p58, List.forall_mem_cons.mpr ⟨lw_p59, List.forall_mem_cons.mpr ⟨lw_p60, List.forall_mem_cons.mpr ⟨lw_p61, List.forall_mem_cons.mpr ⟨lw_p62, List.forall_mem_cons.mpr ⟨lw_p63, fun _ h => absurd h List.not_mem_nil⟩⟩⟩⟩⟩⟩⟩⟩⟩⟩⟩⟩⟩⟩⟩⟩
theorem lw_p64 : lw_okq (⟨"WhiskedDuchyModel", "condition", "()V"⟩, 46) := ⟨⟨by decide +kernel, by decide +kernel⟩, List.mem_of_getElem? (i := 1149) (by decide +kernel), List.mem_of_getElem? (i := 1367) (by decide +kernel), List.mem_of_getElem? (i := 1368) (by decide +kernel)⟩
theorem lw_p65 : lw_okq (⟨"WhiskedDuchyModel", "unit", "()V"⟩, 46) := ⟨⟨by decide +kernel, by decide +kernel⟩, List.mem_of_getElem? (i := 1149) (by decide +kernel), List.mem_of_getElem? (i := 1371) (by decide +kernel), List.mem_of_getElem? (i := 1372) (by decide +kernel)⟩
theorem lw_p66 : lw_okq (⟨"WhiskedDuchyModel", "opens", "()V"⟩, 46) := ⟨⟨by decide +kernel, by decide +kernel⟩, List.mem_of_getElem? (i := 1149) (by decide +kernel), List.mem_of_getElem? (i := 1375) (by decide +kernel), List.mem_of_getElem? (i := 1376) (by decide +kernel)⟩
theorem lw_p67 : lw_okq (⟨"WhiskedDuchyModel", "put", "(II)V"⟩, 46) := ⟨⟨by decide +kernel, by decide +kernel⟩, List.mem_of_getElem? (i := 1149) (by decide +kernel), List.mem_of_getElem? (i := 1379) (by decide +kernel), List.mem_of_getElem? (i := 1380) (by decide +kernel)⟩
theorem lw_p68 : lw_okq (⟨"WhiskedDuchyModel", "closes", "(I)V"⟩, 46) := ⟨⟨by decide +kernel, by decide +kernel⟩, List.mem_of_getElem? (i := 1149) (by decide +kernel), List.mem_of_getElem? (i := 1383) (by decide +kernel), List.mem_of_getElem? (i := 1384) (by decide +kernel)⟩
theorem lw_p69 : lw_okq (⟨"WhiskedDuchyModel", "sum", "()V"⟩, 46) := ⟨⟨by decide +kernel, by decide +kernel⟩, List.mem_of_getElem? (i := 1149) (by decide +kernel), List.mem_of_getElem? (i := 1387) (by decide +kernel), List.mem_of_getElem? (i := 1388) (by decide +kernel)⟩
theorem lw_p70 : lw_okq (⟨"WhiskedDuchyModel", "term", "()V"⟩, 46) := ⟨⟨by decide +kernel, by decide +kernel⟩, List.mem_of_getElem? (i := 1149) (by decide +kernel), List.mem_of_getElem? (i := 1391) (by decide +kernel), List.mem_of_getElem? (i := 1392) (by decide +kernel)⟩
theorem lw_p71 : lw_okq (⟨"WhiskedDuchyModel", "atom", "()V"⟩, 46) := ⟨⟨by decide +kernel, by decide +kernel⟩, List.mem_of_getElem? (i := 1149) (by decide +kernel), List.mem_of_getElem? (i := 1395) (by decide +kernel), List.mem_of_getElem? (i := 1396) (by decide +kernel)⟩
theorem lw_p72 : lw_okq (⟨"WhiskedDuchyModel", "plainNumber", "()I"⟩, 46) := ⟨⟨by decide +kernel, by decide +kernel⟩, List.mem_of_getElem? (i := 1149) (by decide +kernel), List.mem_of_getElem? (i := 1399) (by decide +kernel), List.mem_of_getElem? (i := 1400) (by decide +kernel)⟩
theorem lw_p73 : lw_okq (⟨"WhiskedDuchyModel", "compare", "()V"⟩, 46) := ⟨⟨by decide +kernel, by decide +kernel⟩, List.mem_of_getElem? (i := 1149) (by decide +kernel), List.mem_of_getElem? (i := 1406) (by decide +kernel), List.mem_of_getElem? (i := 1407) (by decide +kernel)⟩
theorem lw_p74 : lw_okq (⟨"WhiskedDuchyModel", "goOnAnd", "()V"⟩, 46) := ⟨⟨by decide +kernel, by decide +kernel⟩, List.mem_of_getElem? (i := 1149) (by decide +kernel), List.mem_of_getElem? (i := 1413) (by decide +kernel), List.mem_of_getElem? (i := 1414) (by decide +kernel)⟩
theorem lw_p75 : lw_okq (⟨"WhiskedDuchyModel", "goOnOr", "()V"⟩, 46) := ⟨⟨by decide +kernel, by decide +kernel⟩, List.mem_of_getElem? (i := 1149) (by decide +kernel), List.mem_of_getElem? (i := 1417) (by decide +kernel), List.mem_of_getElem? (i := 1418) (by decide +kernel)⟩
theorem lw_p76 : lw_okq (⟨"WhiskedDuchyModel", "atEnd", "()I"⟩, 46) := ⟨⟨by decide +kernel, by decide +kernel⟩, List.mem_of_getElem? (i := 1149) (by decide +kernel), List.mem_of_getElem? (i := 1421) (by decide +kernel), List.mem_of_getElem? (i := 1422) (by decide +kernel)⟩
theorem lw_p77 : lw_okq (⟨"WhiskedDuchyModel", "takeDuchy", "()I"⟩, 46) := ⟨⟨by decide +kernel, by decide +kernel⟩, List.mem_of_getElem? (i := 1149) (by decide +kernel), List.mem_of_getElem? (i := 1429) (by decide +kernel), List.mem_of_getElem? (i := 1430) (by decide +kernel)⟩
theorem lw_p78 : lw_okq (⟨"WhiskedDuchyModel", "isCook", "(I)Z"⟩, 46) := ⟨⟨by decide +kernel, by decide +kernel⟩, List.mem_of_getElem? (i := 1149) (by decide +kernel), List.mem_of_getElem? (i := 1441) (by decide +kernel), List.mem_of_getElem? (i := 1442) (by decide +kernel)⟩
theorem lw_p79 : lw_okq (⟨"WhiskedDuchyModel", "isMinister", "(I)Z"⟩, 46) := ⟨⟨by decide +kernel, by decide +kernel⟩, List.mem_of_getElem? (i := 1149) (by decide +kernel), List.mem_of_getElem? (i := 1449) (by decide +kernel), List.mem_of_getElem? (i := 1450) (by decide +kernel)⟩
def lw_privs_5 : List (MethodName × Nat) := [(⟨"WhiskedDuchyModel", "condition", "()V"⟩, 46), (⟨"WhiskedDuchyModel", "unit", "()V"⟩, 46), (⟨"WhiskedDuchyModel", "opens", "()V"⟩, 46), (⟨"WhiskedDuchyModel", "put", "(II)V"⟩, 46), (⟨"WhiskedDuchyModel", "closes", "(I)V"⟩, 46), (⟨"WhiskedDuchyModel", "sum", "()V"⟩, 46), (⟨"WhiskedDuchyModel", "term", "()V"⟩, 46), (⟨"WhiskedDuchyModel", "atom", "()V"⟩, 46), (⟨"WhiskedDuchyModel", "plainNumber", "()I"⟩, 46), (⟨"WhiskedDuchyModel", "compare", "()V"⟩, 46), (⟨"WhiskedDuchyModel", "goOnAnd", "()V"⟩, 46), (⟨"WhiskedDuchyModel", "goOnOr", "()V"⟩, 46), (⟨"WhiskedDuchyModel", "atEnd", "()I"⟩, 46), (⟨"WhiskedDuchyModel", "takeDuchy", "()I"⟩, 46), (⟨"WhiskedDuchyModel", "isCook", "(I)Z"⟩, 46), (⟨"WhiskedDuchyModel", "isMinister", "(I)Z"⟩, 46)]
theorem lw_r5 : ∀ q ∈ lw_privs_5, lw_okq q := List.forall_mem_cons.mpr ⟨lw_p64, List.forall_mem_cons.mpr ⟨lw_p65, List.forall_mem_cons.mpr ⟨lw_p66, List.forall_mem_cons.mpr ⟨lw_p67, List.forall_mem_cons.mpr ⟨lw_p68, List.forall_mem_cons.mpr ⟨lw_p69, List.forall_mem_cons.mpr ⟨lw_p70, List.forall_mem_cons.mpr ⟨lw_p71, List.forall_mem_cons.mpr ⟨lw_p72, List.forall_mem_cons.mpr ⟨lw_p73, List.forall_mem_cons.mpr ⟨lw_p74, List.forall_mem_cons.mpr ⟨lw_p75, List.forall_mem_cons.mpr ⟨lw_p76, List.forall_mem_cons.mpr ⟨lw_p77, List.forall_mem_cons.mpr ⟨lw_p78, List.forall_mem_cons.mpr ⟨lw_p79, fun _ h => absurd h List.not_mem_nil⟩⟩⟩⟩⟩⟩⟩⟩⟩⟩⟩⟩⟩⟩⟩⟩
theorem lw_p80 : lw_okq (⟨"WhiskedDuchyModel", "of", "(II)I"⟩, 46) := ⟨⟨by decide +kernel, by decide +kernel⟩, List.mem_of_getElem? (i := 1149) (by decide +kernel), List.mem_of_getElem? (i := 1453) (by decide +kernel), List.mem_of_getElem? (i := 1454) (by decide +kernel)⟩
theorem lw_p81 : lw_okq (⟨"WhiskedDuchyModel", "leftOf", "(I)I"⟩, 46) := ⟨⟨by decide +kernel, by decide +kernel⟩, List.mem_of_getElem? (i := 1149) (by decide +kernel), List.mem_of_getElem? (i := 1465) (by decide +kernel), List.mem_of_getElem? (i := 1466) (by decide +kernel)⟩
theorem lw_p82 : lw_okq (⟨"WhiskedDuchyModel", "isRefused", "(I)Z"⟩, 46) := ⟨⟨by decide +kernel, by decide +kernel⟩, List.mem_of_getElem? (i := 1149) (by decide +kernel), List.mem_of_getElem? (i := 1469) (by decide +kernel), List.mem_of_getElem? (i := 1470) (by decide +kernel)⟩
theorem lw_p83 : lw_okq (⟨"WhiskedDuchyModel", "keep", "()V"⟩, 46) := ⟨⟨by decide +kernel, by decide +kernel⟩, List.mem_of_getElem? (i := 1149) (by decide +kernel), List.mem_of_getElem? (i := 1473) (by decide +kernel), List.mem_of_getElem? (i := 1474) (by decide +kernel)⟩
theorem lw_p84 : lw_okq (⟨"WhiskedDuchyModel", "strokesNow", "(II)V"⟩, 46) := ⟨⟨by decide +kernel, by decide +kernel⟩, List.mem_of_getElem? (i := 1149) (by decide +kernel), List.mem_of_getElem? (i := 1477) (by decide +kernel), List.mem_of_getElem? (i := 1478) (by decide +kernel)⟩
theorem lw_p85 : lw_okq (⟨"WhiskedDuchyModel", "strokeNow", "(I)V"⟩, 46) := ⟨⟨by decide +kernel, by decide +kernel⟩, List.mem_of_getElem? (i := 1149) (by decide +kernel), List.mem_of_getElem? (i := 1481) (by decide +kernel), List.mem_of_getElem? (i := 1482) (by decide +kernel)⟩
theorem lw_p86 : lw_okq (⟨"WhiskedDuchyModel", "strokeBy", "(IIII)I"⟩, 46) := ⟨⟨by decide +kernel, by decide +kernel⟩, List.mem_of_getElem? (i := 1149) (by decide +kernel), List.mem_of_getElem? (i := 1485) (by decide +kernel), List.mem_of_getElem? (i := 1486) (by decide +kernel)⟩
theorem lw_p87 : lw_okq (⟨"WhiskedDuchyModel", "worthOf", "(I)I"⟩, 46) := ⟨⟨by decide +kernel, by decide +kernel⟩, List.mem_of_getElem? (i := 1149) (by decide +kernel), List.mem_of_getElem? (i := 1489) (by decide +kernel), List.mem_of_getElem? (i := 1490) (by decide +kernel)⟩
theorem lw_p88 : lw_okq (⟨"WhiskedDuchyModel", "workOut", "(III)I"⟩, 46) := ⟨⟨by decide +kernel, by decide +kernel⟩, List.mem_of_getElem? (i := 1149) (by decide +kernel), List.mem_of_getElem? (i := 1493) (by decide +kernel), List.mem_of_getElem? (i := 1494) (by decide +kernel)⟩
theorem lw_p89 : lw_okq (⟨"WhiskedDuchyModel", "canFold", "(I)Z"⟩, 46) := ⟨⟨by decide +kernel, by decide +kernel⟩, List.mem_of_getElem? (i := 1149) (by decide +kernel), List.mem_of_getElem? (i := 1516) (by decide +kernel), List.mem_of_getElem? (i := 1517) (by decide +kernel)⟩
theorem lw_p90 : lw_okq (⟨"WhiskedDuchyModel", "foldNow", "(I)V"⟩, 46) := ⟨⟨by decide +kernel, by decide +kernel⟩, List.mem_of_getElem? (i := 1149) (by decide +kernel), List.mem_of_getElem? (i := 1520) (by decide +kernel), List.mem_of_getElem? (i := 1521) (by decide +kernel)⟩
theorem lw_p91 : lw_okq (⟨"WhiskedDuchyModel", "doorNow", "()V"⟩, 46) := ⟨⟨by decide +kernel, by decide +kernel⟩, List.mem_of_getElem? (i := 1149) (by decide +kernel), List.mem_of_getElem? (i := 1532) (by decide +kernel), List.mem_of_getElem? (i := 1533) (by decide +kernel)⟩
theorem lw_p92 : lw_okq (⟨"WhiskedDuchyModel", "mayFall", "()V"⟩, 46) := ⟨⟨by decide +kernel, by decide +kernel⟩, List.mem_of_getElem? (i := 1149) (by decide +kernel), List.mem_of_getElem? (i := 1536) (by decide +kernel), List.mem_of_getElem? (i := 1537) (by decide +kernel)⟩
theorem lw_p93 : lw_okq (⟨"WhiskedDuchyModel", "hourNow", "()V"⟩, 46) := ⟨⟨by decide +kernel, by decide +kernel⟩, List.mem_of_getElem? (i := 1149) (by decide +kernel), List.mem_of_getElem? (i := 1544) (by decide +kernel), List.mem_of_getElem? (i := 1545) (by decide +kernel)⟩
theorem lw_p94 : lw_okq (⟨"WhiskedDuchyModel", "sinks", "()I"⟩, 46) := ⟨⟨by decide +kernel, by decide +kernel⟩, List.mem_of_getElem? (i := 1149) (by decide +kernel), List.mem_of_getElem? (i := 1548) (by decide +kernel), List.mem_of_getElem? (i := 1549) (by decide +kernel)⟩
theorem lw_p95 : lw_okq (⟨"WhiskedDuchyModel", "weightIn", "()I"⟩, 46) := ⟨⟨by decide +kernel, by decide +kernel⟩, List.mem_of_getElem? (i := 1149) (by decide +kernel), List.mem_of_getElem? (i := 1552) (by decide +kernel), List.mem_of_getElem? (i := 1553) (by decide +kernel)⟩
def lw_privs_6 : List (MethodName × Nat) := [(⟨"WhiskedDuchyModel", "of", "(II)I"⟩, 46), (⟨"WhiskedDuchyModel", "leftOf", "(I)I"⟩, 46), (⟨"WhiskedDuchyModel", "isRefused", "(I)Z"⟩, 46), (⟨"WhiskedDuchyModel", "keep", "()V"⟩, 46), (⟨"WhiskedDuchyModel", "strokesNow", "(II)V"⟩, 46), (⟨"WhiskedDuchyModel", "strokeNow", "(I)V"⟩, 46), (⟨"WhiskedDuchyModel", "strokeBy", "(IIII)I"⟩, 46), (⟨"WhiskedDuchyModel", "worthOf", "(I)I"⟩, 46), (⟨"WhiskedDuchyModel", "workOut", "(III)I"⟩, 46), (⟨"WhiskedDuchyModel", "canFold", "(I)Z"⟩, 46), (⟨"WhiskedDuchyModel", "foldNow", "(I)V"⟩, 46), (⟨"WhiskedDuchyModel", "doorNow", "()V"⟩, 46), (⟨"WhiskedDuchyModel", "mayFall", "()V"⟩, 46), (⟨"WhiskedDuchyModel", "hourNow", "()V"⟩, 46), (⟨"WhiskedDuchyModel", "sinks", "()I"⟩, 46), (⟨"WhiskedDuchyModel", "weightIn", "()I"⟩, 46)]
theorem lw_r6 : ∀ q ∈ lw_privs_6, lw_okq q := List.forall_mem_cons.mpr ⟨lw_p80, List.forall_mem_cons.mpr ⟨lw_p81, List.forall_mem_cons.mpr ⟨lw_p82, List.forall_mem_cons.mpr ⟨lw_p83, List.forall_mem_cons.mpr ⟨lw_p84, List.forall_mem_cons.mpr ⟨lw_p85, List.forall_mem_cons.mpr ⟨lw_p86, List.forall_mem_cons.mpr ⟨lw_p87, List.forall_mem_cons.mpr ⟨lw_p88, List.forall_mem_cons.mpr ⟨lw_p89, List.forall_mem_cons.mpr ⟨lw_p90, List.forall_mem_cons.mpr ⟨lw_p91, List.forall_mem_cons.mpr ⟨lw_p92, List.forall_mem_cons.mpr ⟨lw_p93, List.forall_mem_cons.mpr ⟨lw_p94, List.forall_mem_cons.mpr ⟨lw_p95, fun _ h => absurd h List.not_mem_nil⟩⟩⟩⟩⟩⟩⟩⟩⟩⟩⟩⟩⟩⟩⟩⟩
theorem lw_p96 : lw_okq (⟨"WhiskedDuchyModel", "areDays", "(I)Z"⟩, 46) := ⟨⟨by decide +kernel, by decide +kernel⟩, List.mem_of_getElem? (i := 1149) (by decide +kernel), List.mem_of_getElem? (i := 1572) (by decide +kernel), List.mem_of_getElem? (i := 1573) (by decide +kernel)⟩
theorem lw_p97 : lw_okq (⟨"WhiskedDuchyModel", "passDay", "()V"⟩, 46) := ⟨⟨by decide +kernel, by decide +kernel⟩, List.mem_of_getElem? (i := 1149) (by decide +kernel), List.mem_of_getElem? (i := 1576) (by decide +kernel), List.mem_of_getElem? (i := 1577) (by decide +kernel)⟩
theorem lw_p98 : lw_okq (⟨"WhiskedDuchyModel", "worthIn", "()I"⟩, 46) := ⟨⟨by decide +kernel, by decide +kernel⟩, List.mem_of_getElem? (i := 1149) (by decide +kernel), List.mem_of_getElem? (i := 1580) (by decide +kernel), List.mem_of_getElem? (i := 1581) (by decide +kernel)⟩
theorem lw_p99 : lw_okq (⟨"WhiskedDuchyModel", "drawDay", "()V"⟩, 46) := ⟨⟨by decide +kernel, by decide +kernel⟩, List.mem_of_getElem? (i := 1149) (by decide +kernel), List.mem_of_getElem? (i := 1592) (by decide +kernel), List.mem_of_getElem? (i := 1593) (by decide +kernel)⟩
theorem lw_p100 : lw_okq (⟨"WhiskedDuchyModel", "draw", "(I)I"⟩, 46) := ⟨⟨by decide +kernel, by decide +kernel⟩, List.mem_of_getElem? (i := 1149) (by decide +kernel), List.mem_of_getElem? (i := 1596) (by decide +kernel), List.mem_of_getElem? (i := 1597) (by decide +kernel)⟩
theorem lw_p101 : lw_okq (⟨"WhiskedDuchyModel", "standsBehind", "(II)I"⟩, 46) := ⟨⟨by decide +kernel, by decide +kernel⟩, List.mem_of_getElem? (i := 1149) (by decide +kernel), List.mem_of_getElem? (i := 1618) (by decide +kernel), List.mem_of_getElem? (i := 1619) (by decide +kernel)⟩
theorem lw_p102 : lw_okq (⟨"WhiskedDuchyModel", "putAside", "(I)V"⟩, 46) := ⟨⟨by decide +kernel, by decide +kernel⟩, List.mem_of_getElem? (i := 1149) (by decide +kernel), List.mem_of_getElem? (i := 1622) (by decide +kernel), List.mem_of_getElem? (i := 1623) (by decide +kernel)⟩
theorem lw_p103 : lw_okq (⟨"WhiskedDuchyModel", "takeBack", "(I)V"⟩, 46) := ⟨⟨by decide +kernel, by decide +kernel⟩, List.mem_of_getElem? (i := 1149) (by decide +kernel), List.mem_of_getElem? (i := 1626) (by decide +kernel), List.mem_of_getElem? (i := 1627) (by decide +kernel)⟩
theorem lw_p104 : lw_okq (⟨"WhiskedDuchyModel", "soonestOf", "(II)I"⟩, 46) := ⟨⟨by decide +kernel, by decide +kernel⟩, List.mem_of_getElem? (i := 1149) (by decide +kernel), List.mem_of_getElem? (i := 1634) (by decide +kernel), List.mem_of_getElem? (i := 1635) (by decide +kernel)⟩
theorem lw_p105 : lw_okq (⟨"WhiskedDuchyModel", "areTwo", "(II)Z"⟩, 46) := ⟨⟨by decide +kernel, by decide +kernel⟩, List.mem_of_getElem? (i := 1149) (by decide +kernel), List.mem_of_getElem? (i := 1650) (by decide +kernel), List.mem_of_getElem? (i := 1651) (by decide +kernel)⟩
theorem lw_p106 : lw_okq (⟨"WhiskedDuchyModel", "nextOf", "(II)I"⟩, 46) := ⟨⟨by decide +kernel, by decide +kernel⟩, List.mem_of_getElem? (i := 1149) (by decide +kernel), List.mem_of_getElem? (i := 1654) (by decide +kernel), List.mem_of_getElem? (i := 1655) (by decide +kernel)⟩
theorem lw_p107 : lw_okq (⟨"WhiskedDuchyModel", "tryRow", "(III)V"⟩, 46) := ⟨⟨by decide +kernel, by decide +kernel⟩, List.mem_of_getElem? (i := 1149) (by decide +kernel), List.mem_of_getElem? (i := 1662) (by decide +kernel), List.mem_of_getElem? (i := 1663) (by decide +kernel)⟩
theorem lw_p108 : lw_okq (⟨"WhiskedDuchyModel", "isUp", "(II)Z"⟩, 46) := ⟨⟨by decide +kernel, by decide +kernel⟩, List.mem_of_getElem? (i := 1149) (by decide +kernel), List.mem_of_getElem? (i := 1674) (by decide +kernel), List.mem_of_getElem? (i := 1675) (by decide +kernel)⟩
theorem lw_p109 : lw_okq (⟨"WhiskedDuchyModel", "isYolk", "(I)Z"⟩, 46) := ⟨⟨by decide +kernel, by decide +kernel⟩, List.mem_of_getElem? (i := 1149) (by decide +kernel), List.mem_of_getElem? (i := 1686) (by decide +kernel), List.mem_of_getElem? (i := 1687) (by decide +kernel)⟩
theorem lw_p110 : lw_okq (⟨"WhiskedDuchyModel", "morning", "(III)I"⟩, 46) := ⟨⟨by decide +kernel, by decide +kernel⟩, List.mem_of_getElem? (i := 1149) (by decide +kernel), List.mem_of_getElem? (i := 1690) (by decide +kernel), List.mem_of_getElem? (i := 1691) (by decide +kernel)⟩
theorem lw_p111 : lw_okq (⟨"WhiskedDuchyModel", "gameOf", "(IIIII)I"⟩, 46) := ⟨⟨by decide +kernel, by decide +kernel⟩, List.mem_of_getElem? (i := 1149) (by decide +kernel), List.mem_of_getElem? (i := 1705) (by decide +kernel), List.mem_of_getElem? (i := 1706) (by decide +kernel)⟩
def lw_privs_7 : List (MethodName × Nat) := [(⟨"WhiskedDuchyModel", "areDays", "(I)Z"⟩, 46), (⟨"WhiskedDuchyModel", "passDay", "()V"⟩, 46), (⟨"WhiskedDuchyModel", "worthIn", "()I"⟩, 46), (⟨"WhiskedDuchyModel", "drawDay", "()V"⟩, 46), (⟨"WhiskedDuchyModel", "draw", "(I)I"⟩, 46), (⟨"WhiskedDuchyModel", "standsBehind", "(II)I"⟩, 46), (⟨"WhiskedDuchyModel", "putAside", "(I)V"⟩, 46), (⟨"WhiskedDuchyModel", "takeBack", "(I)V"⟩, 46), (⟨"WhiskedDuchyModel", "soonestOf", "(II)I"⟩, 46), (⟨"WhiskedDuchyModel", "areTwo", "(II)Z"⟩, 46), (⟨"WhiskedDuchyModel", "nextOf", "(II)I"⟩, 46), (⟨"WhiskedDuchyModel", "tryRow", "(III)V"⟩, 46), (⟨"WhiskedDuchyModel", "isUp", "(II)Z"⟩, 46), (⟨"WhiskedDuchyModel", "isYolk", "(I)Z"⟩, 46), (⟨"WhiskedDuchyModel", "morning", "(III)I"⟩, 46), (⟨"WhiskedDuchyModel", "gameOf", "(IIIII)I"⟩, 46)]
theorem lw_r7 : ∀ q ∈ lw_privs_7, lw_okq q := List.forall_mem_cons.mpr ⟨lw_p96, List.forall_mem_cons.mpr ⟨lw_p97, List.forall_mem_cons.mpr ⟨lw_p98, List.forall_mem_cons.mpr ⟨lw_p99, List.forall_mem_cons.mpr ⟨lw_p100, List.forall_mem_cons.mpr ⟨lw_p101, List.forall_mem_cons.mpr ⟨lw_p102, List.forall_mem_cons.mpr ⟨lw_p103, List.forall_mem_cons.mpr ⟨lw_p104, List.forall_mem_cons.mpr ⟨lw_p105, List.forall_mem_cons.mpr ⟨lw_p106, List.forall_mem_cons.mpr ⟨lw_p107, List.forall_mem_cons.mpr ⟨lw_p108, List.forall_mem_cons.mpr ⟨lw_p109, List.forall_mem_cons.mpr ⟨lw_p110, List.forall_mem_cons.mpr ⟨lw_p111, fun _ h => absurd h List.not_mem_nil⟩⟩⟩⟩⟩⟩⟩⟩⟩⟩⟩⟩⟩⟩⟩⟩
theorem lw_p112 : lw_okq (⟨"WhiskedDuchyModel", "isRest", "(IIII)Z"⟩, 46) := ⟨⟨by decide +kernel, by decide +kernel⟩, List.mem_of_getElem? (i := 1149) (by decide +kernel), List.mem_of_getElem? (i := 1713) (by decide +kernel), List.mem_of_getElem? (i := 1714) (by decide +kernel)⟩
theorem lw_p113 : lw_okq (⟨"WhiskedDuchyModel", "oddsFrom", "(IIIII)I"⟩, 46) := ⟨⟨by decide +kernel, by decide +kernel⟩, List.mem_of_getElem? (i := 1149) (by decide +kernel), List.mem_of_getElem? (i := 1722) (by decide +kernel), List.mem_of_getElem? (i := 1723) (by decide +kernel)⟩
theorem lw_p114 : lw_okq (⟨"WhiskedDuchyModel", "topMinister", "(I)I"⟩, 46) := ⟨⟨by decide +kernel, by decide +kernel⟩, List.mem_of_getElem? (i := 1149) (by decide +kernel), List.mem_of_getElem? (i := 1735) (by decide +kernel), List.mem_of_getElem? (i := 1736) (by decide +kernel)⟩
theorem lw_p115 : lw_okq (⟨"WhiskedDuchyModel", "topCook", "(Z)I"⟩, 46) := ⟨⟨by decide +kernel, by decide +kernel⟩, List.mem_of_getElem? (i := 1149) (by decide +kernel), List.mem_of_getElem? (i := 1739) (by decide +kernel), List.mem_of_getElem? (i := 1740) (by decide +kernel)⟩
theorem lw_p116 : lw_okq (⟨"WhiskedDuchyModel", "could", "()I"⟩, 46) := ⟨⟨by decide +kernel, by decide +kernel⟩, List.mem_of_getElem? (i := 1149) (by decide +kernel), List.mem_of_getElem? (i := 1743) (by decide +kernel), List.mem_of_getElem? (i := 1744) (by decide +kernel)⟩
theorem lw_p117 : lw_okq (⟨"WhiskedDuchyModel", "doors", "()I"⟩, 46) := ⟨⟨by decide +kernel, by decide +kernel⟩, List.mem_of_getElem? (i := 1149) (by decide +kernel), List.mem_of_getElem? (i := 1747) (by decide +kernel), List.mem_of_getElem? (i := 1748) (by decide +kernel)⟩
def lw_privs_8 : List (MethodName × Nat) := [(⟨"WhiskedDuchyModel", "isRest", "(IIII)Z"⟩, 46), (⟨"WhiskedDuchyModel", "oddsFrom", "(IIIII)I"⟩, 46), (⟨"WhiskedDuchyModel", "topMinister", "(I)I"⟩, 46), (⟨"WhiskedDuchyModel", "topCook", "(Z)I"⟩, 46), (⟨"WhiskedDuchyModel", "could", "()I"⟩, 46), (⟨"WhiskedDuchyModel", "doors", "()I"⟩, 46)]
theorem lw_r8 : ∀ q ∈ lw_privs_8, lw_okq q := List.forall_mem_cons.mpr ⟨lw_p112, List.forall_mem_cons.mpr ⟨lw_p113, List.forall_mem_cons.mpr ⟨lw_p114, List.forall_mem_cons.mpr ⟨lw_p115, List.forall_mem_cons.mpr ⟨lw_p116, List.forall_mem_cons.mpr ⟨lw_p117, fun _ h => absurd h List.not_mem_nil⟩⟩⟩⟩⟩⟩
def lw_privs : List (MethodName × Nat) := lw_privs_1 ++ (lw_privs_2 ++ (lw_privs_3 ++ (lw_privs_4 ++ (lw_privs_5 ++ (lw_privs_6 ++ (lw_privs_7 ++ (lw_privs_8)))))))
def lw_tbl : List Cond := k2_sels lw_privs ++ tables_1
theorem lw_privs_ok : ∀ q ∈ lw_privs, lw_okq q := by
  show ∀ q ∈ lw_privs_1 ++ (lw_privs_2 ++ (lw_privs_3 ++ (lw_privs_4 ++ (lw_privs_5 ++ (lw_privs_6 ++ (lw_privs_7 ++ (lw_privs_8))))))), lw_okq q
  exact List.forall_mem_append.mpr ⟨lw_r1, List.forall_mem_append.mpr ⟨lw_r2, List.forall_mem_append.mpr ⟨lw_r3, List.forall_mem_append.mpr ⟨lw_r4, List.forall_mem_append.mpr ⟨lw_r5, List.forall_mem_append.mpr ⟨lw_r6, List.forall_mem_append.mpr ⟨lw_r7, lw_r8⟩⟩⟩⟩⟩⟩⟩
-- ===== end of PART A; then your names; then what follows =====
/-! THE CLAIM OUT OF ONE WALK OF THE LAW'S BODY. Your part is whole_start (and what it stands on); all else here is the same for every law, but numbers. -/
def R_law : String := "WhiskedDuchyLaw"
def lw_P (b : Addr) (xs : List Int32) (args : Array Value) (s : State) : Prop := args = #[.ref b] ∧ s.IntsAt b xs ∧ xs.length ≤ 3072 ∧ (Jvm.Cond.and given_1 narrow_1).before args s = true
def lw_Q (_ : Array Value) (s : State) (o : Outcome) (t : State) : Prop := o = .returned (some (.int 1)) ∧ Framed s o t [] 601024 7293033
def lw_Z (below : List Frame) (a : Array Value) (s : State) : State → Prop := fun t => ∃ o, t.status = .running ∧ Ended t below o ∧ lw_Q a s o t
/-- the law's own end, with 1 on the stack, nothing written that was there before, its room as the claim has it -/
theorem lw_ret {p : Program} {l : Launch} {e : Env} {s : State} {m : MethodId} {below : List Frame} {meth : Method} {c : Code} {b : Nat} (hx : p.tables.exec = Jvm.exec) (hb : c.code = code) (hr : meth.sig.returnType = ret) (hlocks : meth.locks = false) {pc : Nat} {H : Heap} {ls : Array Slot} (hdg : decode code pc = .ok (.ireturn, 1)) : W p l e room_1 s m #[Value.ref b] below meth c H [] 601024 7293033 (lw_Z below #[Value.ref b] s) (F0 m pc ls [.int 1]) := by
  intro T hT X
  obtain ⟨fs, hret, hrun, hended, hW, hframe⟩ := X.leave (v := some (.int 1)) (hlocks := hlocks) (fun h => by rw [hr] at h; cases h)
  have hmeth' : T.vm.method? m = some meth := X.method'
  refine ⟨T.setFrames fs, ?_, .returned (some (.int 1)), hrun, hended, rfl, ⟨_, rfl⟩, hW, hframe⟩
  jvm_step X.here [X.here.top, hx, hb, hdg, hmeth', hr, ret, narrow_b1]
  (try refine ⟨rfl, ?_⟩); (try refine ⟨rfl, ?_⟩)
  first | (intro acts; rw [hret _ acts rfl rfl rfl]) | rw [hret _ _ rfl rfl rfl]
  exact Steps.refl _
/-- what holds at the law's entry: the machine, the code, the tables' words (any of lw_tbl by 'hts w (by decide +kernel)'), the script of L ints xs at the cell b, what the Statement gives of the start (any of its parts by flat_of_before) -/
def lw_At (p : Program) (s : State) (m : MethodId) (meth : Method) (c : Code) (b L : Nat) (xs : Nat → Int32) : Prop :=
  p.tables.exec = Jvm.exec ∧ c.code = code ∧ meth.sig.returnType = ret ∧ c.maxLocals = 7 ∧ s.vm.findClass R_law = some m.cls ∧ (∀ w ∈ lw_tbl, w.before #[Value.ref b] s = true) ∧ va_X b L xs s s.heap ∧ b < s.heap.size ∧ meth.locks = false ∧ (Jvm.Cond.and given_1 narrow_1).before #[Value.ref b] s = true
end
section
def RX0 : String := "WhiskedDuchy$Bowl"
def TX0 : u_T := fun k => match k with
  | 0 => ("WhiskedDuchy$Bowl", "stands", "I", false)
  | 1 => ("WhiskedDuchy$Bowl", "strokes", "I", false)
  | 2 => ("WhiskedDuchy$Bowl", "inside", "I", false)
  | 3 => ("WhiskedDuchy$Bowl", "sugar", "I", false)
  | 4 => ("WhiskedDuchy$Bowl", "yolk", "I", false)
  | 5 => ("WhiskedDuchy$Bowl", "purse", "I", false)
  | 6 => ("WhiskedDuchy$Bowl", "glory", "I", false)
  | 7 => ("WhiskedDuchy$Bowl", "fallen", "I", false)
  | 8 => ("WhiskedDuchy$Bowl", "day", "I", false)
  | 9 => ("WhiskedDuchy$Bowl", "tired", "[I", true)
  | _ => ("WhiskedDuchy$Bowl", "wrists", "[I", true)
def tyX0 : Nat → FieldType := fun k => match k with
  | 0 => .int
  | 1 => .int
  | 2 => .int
  | 3 => .int
  | 4 => .int
  | 5 => .int
  | 6 => .int
  | 7 => .int
  | 8 => .int
  | 9 => .array .int
  | _ => .array .int
abbrev wsX00 : List Cond := u_ws RX0 TX0 11
theorem nmX0 : ∀ a, a < 11 → ∀ b, b < 11 → a ≠ b → (TX0 a).2.1 ≠ (TX0 b).2.1 := by decide +kernel
theorem tyX0_ok : ∀ k, k < 11 → parseFieldDescriptor (TX0 k).2.2.1 = some (tyX0 k) := by decide +kernel
abbrev cX0_init : ByteArray := prog_2_method_1_code
def yX0_init : MethodName := ⟨RX0, "<init>", "()V"⟩
abbrev cX0_begin : ByteArray := prog_2_method_2_code
def yX0_begin : MethodName := ⟨RX0, "begin", "(LWhiskedDuchy$Told;)V"⟩
abbrev cX0_beginMorning : ByteArray := prog_2_method_3_code
def yX0_beginMorning : MethodName := ⟨RX0, "beginMorning", "()V"⟩
abbrev cX0_copyFrom : ByteArray := prog_2_method_4_code
def yX0_copyFrom : MethodName := ⟨RX0, "copyFrom", "(LWhiskedDuchy$Bowl;)V"⟩
abbrev cX0_tiredOf : ByteArray := prog_2_method_5_code
def yX0_tiredOf : MethodName := ⟨RX0, "tiredOf", "(I)I"⟩
abbrev cX0_wristOf : ByteArray := prog_2_method_6_code
def yX0_wristOf : MethodName := ⟨RX0, "wristOf", "(I)I"⟩
abbrev cX0_tire : ByteArray := prog_2_method_7_code
def yX0_tire : MethodName := ⟨RX0, "tire", "(II)V"⟩
abbrev cX0_strengthen : ByteArray := prog_2_method_8_code
def yX0_strengthen : MethodName := ⟨RX0, "strengthen", "(I)V"⟩
def RX1 : String := "WhiskedDuchy$Draws"
def TX1 : u_T := fun k => match k with
  | _ => ("WhiskedDuchy$Draws", "x", "J", false)
def tyX1 : Nat → FieldType := fun k => match k with
  | _ => .long
abbrev wsX10 : List Cond := u_ws RX1 TX1 1
theorem nmX1 : ∀ a, a < 1 → ∀ b, b < 1 → a ≠ b → (TX1 a).2.1 ≠ (TX1 b).2.1 := by decide +kernel
theorem tyX1_ok : ∀ k, k < 1 → parseFieldDescriptor (TX1 k).2.2.1 = some (tyX1 k) := by decide +kernel
abbrev cX1_init : ByteArray := prog_3_method_1_code
def yX1_init : MethodName := ⟨RX1, "<init>", "()V"⟩
abbrev cX1_begin : ByteArray := prog_3_method_2_code
def yX1_begin : MethodName := ⟨RX1, "begin", "(J)V"⟩
abbrev cX1_below : ByteArray := prog_3_method_3_code
def yX1_below : MethodName := ⟨RX1, "below", "(I)I"⟩
def RX2 : String := "WhiskedDuchy$DuchyReader"
def TX2 : u_T := fun k => match k with
  | 0 => ("WhiskedDuchy$DuchyReader", "tape", "LWhiskedDuchy$Tape;", true)
  | _ => ("WhiskedDuchy$DuchyReader", "read", "LWhiskedDuchy$Told;", true)
def tyX2 : Nat → FieldType := fun k => match k with
  | 0 => .object "WhiskedDuchy$Tape"
  | _ => .object "WhiskedDuchy$Told"
abbrev wsX20 : List Cond := u_ws RX2 TX2 2
theorem nmX2 : ∀ a, a < 2 → ∀ b, b < 2 → a ≠ b → (TX2 a).2.1 ≠ (TX2 b).2.1 := by decide +kernel
theorem tyX2_ok : ∀ k, k < 2 → parseFieldDescriptor (TX2 k).2.2.1 = some (tyX2 k) := by decide +kernel
abbrev cX2_init : ByteArray := prog_4_method_1_code
def yX2_init : MethodName := ⟨RX2, "<init>", "(LWhiskedDuchy$Tape;)V"⟩
abbrev cX2_read : ByteArray := prog_4_method_2_code
def yX2_read : MethodName := ⟨RX2, "read", "()LWhiskedDuchy$Told;"⟩
abbrev cX2_firstFault : ByteArray := prog_4_method_3_code
def yX2_firstFault : MethodName := ⟨RX2, "firstFault", "()I"⟩
abbrev cX2_isClauseNext : ByteArray := prog_4_method_4_code
def yX2_isClauseNext : MethodName := ⟨RX2, "isClauseNext", "()Z"⟩
abbrev cX2_isValueNext : ByteArray := prog_4_method_5_code
def yX2_isValueNext : MethodName := ⟨RX2, "isValueNext", "(III)Z"⟩
def RX3 : String := "WhiskedDuchy$LawReader"
def TX3 : u_T := fun k => match k with
  | 0 => ("WhiskedDuchy$LawReader", "tape", "LWhiskedDuchy$Tape;", true)
  | 1 => ("WhiskedDuchy$LawReader", "written", "[I", true)
  | _ => ("WhiskedDuchy$LawReader", "size", "I", false)
def tyX3 : Nat → FieldType := fun k => match k with
  | 0 => .object "WhiskedDuchy$Tape"
  | 1 => .array .int
  | _ => .int
abbrev wsX30 : List Cond := u_ws RX3 TX3 3
theorem nmX3 : ∀ a, a < 3 → ∀ b, b < 3 → a ≠ b → (TX3 a).2.1 ≠ (TX3 b).2.1 := by decide +kernel
theorem tyX3_ok : ∀ k, k < 3 → parseFieldDescriptor (TX3 k).2.2.1 = some (tyX3 k) := by decide +kernel
abbrev cX3_init : ByteArray := prog_5_method_1_code
def yX3_init : MethodName := ⟨RX3, "<init>", "(LWhiskedDuchy$Tape;)V"⟩
abbrev cX3_code : ByteArray := prog_5_method_2_code
def yX3_code : MethodName := ⟨RX3, "code", "()[I"⟩
abbrev cX3_write : ByteArray := prog_5_method_3_code
def yX3_write : MethodName := ⟨RX3, "write", "(I)V"⟩
abbrev cX3_firstFault : ByteArray := prog_5_method_4_code
def yX3_firstFault : MethodName := ⟨RX3, "firstFault", "()I"⟩
abbrev cX3_isClauseNext : ByteArray := prog_5_method_5_code
def yX3_isClauseNext : MethodName := ⟨RX3, "isClauseNext", "()Z"⟩
abbrev cX3_isSumBehindCondition : ByteArray := prog_5_method_6_code
def yX3_isSumBehindCondition : MethodName := ⟨RX3, "isSumBehindCondition", "()Z"⟩
abbrev cX3_isConditionNext : ByteArray := prog_5_method_7_code
def yX3_isConditionNext : MethodName := ⟨RX3, "isConditionNext", "(I)Z"⟩
abbrev cX3_areTruthsNext : ByteArray := prog_5_method_8_code
def yX3_areTruthsNext : MethodName := ⟨RX3, "areTruthsNext", "(I)Z"⟩
abbrev cX3_isTruthNext : ByteArray := prog_5_method_9_code
def yX3_isTruthNext : MethodName := ⟨RX3, "isTruthNext", "(I)Z"⟩
abbrev cX3_areUnitsNext : ByteArray := prog_5_method_10_code
def yX3_areUnitsNext : MethodName := ⟨RX3, "areUnitsNext", "(I)Z"⟩
abbrev cX3_isUnitNext : ByteArray := prog_5_method_11_code
def yX3_isUnitNext : MethodName := ⟨RX3, "isUnitNext", "(I)Z"⟩
abbrev cX3_isComparedNext : ByteArray := prog_5_method_12_code
def yX3_isComparedNext : MethodName := ⟨RX3, "isComparedNext", "(I)Z"⟩
abbrev cX3_isComparison : ByteArray := prog_5_method_13_code
def yX3_isComparison : MethodName := ⟨RX3, "isComparison", "(I)Z"⟩
abbrev cX3_isSumNext : ByteArray := prog_5_method_14_code
def yX3_isSumNext : MethodName := ⟨RX3, "isSumNext", "(I)Z"⟩
abbrev cX3_isTermNext : ByteArray := prog_5_method_15_code
def yX3_isTermNext : MethodName := ⟨RX3, "isTermNext", "(I)Z"⟩
abbrev cX3_isAtomNext : ByteArray := prog_5_method_16_code
def yX3_isAtomNext : MethodName := ⟨RX3, "isAtomNext", "(I)Z"⟩
abbrev cX3_isLetter : ByteArray := prog_5_method_17_code
def yX3_isLetter : MethodName := ⟨RX3, "isLetter", "(I)Z"⟩
def RX4 : String := "WhiskedDuchy$Laws"
def TX4 : u_T := fun k => match k with
  | 0 => ("WhiskedDuchy$Laws", "codes", "[[I", true)
  | 1 => ("WhiskedDuchy$Laws", "size", "I", false)
  | 2 => ("WhiskedDuchy$Laws", "chosen", "I", false)
  | 3 => ("WhiskedDuchy$Laws", "pile", "[I", true)
  | 4 => ("WhiskedDuchy$Laws", "top", "I", false)
  | 5 => ("WhiskedDuchy$Laws", "wrist", "I", false)
  | 6 => ("WhiskedDuchy$Laws", "stands", "I", false)
  | 7 => ("WhiskedDuchy$Laws", "strokes", "I", false)
  | 8 => ("WhiskedDuchy$Laws", "yolk", "I", false)
  | 9 => ("WhiskedDuchy$Laws", "age", "I", false)
  | _ => ("WhiskedDuchy$Laws", "copper", "I", false)
def tyX4 : Nat → FieldType := fun k => match k with
  | 0 => .array (.array .int)
  | 1 => .int
  | 2 => .int
  | 3 => .array .int
  | 4 => .int
  | 5 => .int
  | 6 => .int
  | 7 => .int
  | 8 => .int
  | 9 => .int
  | _ => .int
abbrev wsX40 : List Cond := u_ws RX4 TX4 11
theorem nmX4 : ∀ a, a < 11 → ∀ b, b < 11 → a ≠ b → (TX4 a).2.1 ≠ (TX4 b).2.1 := by decide +kernel
theorem tyX4_ok : ∀ k, k < 11 → parseFieldDescriptor (TX4 k).2.2.1 = some (tyX4 k) := by decide +kernel
abbrev cX4_init : ByteArray := prog_6_method_1_code
def yX4_init : MethodName := ⟨RX4, "<init>", "()V"⟩
abbrev cX4_size : ByteArray := prog_6_method_2_code
def yX4_size : MethodName := ⟨RX4, "size", "()I"⟩
abbrev cX4_isFull : ByteArray := prog_6_method_3_code
def yX4_isFull : MethodName := ⟨RX4, "isFull", "()Z"⟩
abbrev cX4_chosen : ByteArray := prog_6_method_4_code
def yX4_chosen : MethodName := ⟨RX4, "chosen", "()I"⟩
abbrev cX4_add : ByteArray := prog_6_method_5_code
def yX4_add : MethodName := ⟨RX4, "add", "([I)I"⟩
abbrev cX4_choose : ByteArray := prog_6_method_6_code
def yX4_choose : MethodName := ⟨RX4, "choose", "(I)Z"⟩
abbrev cX4_worth : ByteArray := prog_6_method_7_code
def yX4_worth : MethodName := ⟨RX4, "worth", "(IIIIII)I"⟩
abbrev cX4_push : ByteArray := prog_6_method_8_code
def yX4_push : MethodName := ⟨RX4, "push", "(J)V"⟩
abbrev cX4_pop : ByteArray := prog_6_method_9_code
def yX4_pop : MethodName := ⟨RX4, "pop", "()I"⟩
abbrev cX4_apply : ByteArray := prog_6_method_10_code
def yX4_apply : MethodName := ⟨RX4, "apply", "(I)V"⟩
abbrev cX4_joined : ByteArray := prog_6_method_11_code
def yX4_joined : MethodName := ⟨RX4, "joined", "(IJJ)J"⟩
def RX5 : String := "WhiskedDuchy$Log"
def TX5 : u_T := fun k => match k with
  | _ => ("WhiskedDuchy$Log", "ends", "[I", true)
def tyX5 : Nat → FieldType := fun k => match k with
  | _ => .array .int
abbrev wsX50 : List Cond := u_ws RX5 TX5 1
theorem nmX5 : ∀ a, a < 1 → ∀ b, b < 1 → a ≠ b → (TX5 a).2.1 ≠ (TX5 b).2.1 := by decide +kernel
theorem tyX5_ok : ∀ k, k < 1 → parseFieldDescriptor (TX5 k).2.2.1 = some (tyX5 k) := by decide +kernel
abbrev cX5_init : ByteArray := prog_7_method_1_code
def yX5_init : MethodName := ⟨RX5, "<init>", "()V"⟩
abbrev cX5_write : ByteArray := prog_7_method_2_code
def yX5_write : MethodName := ⟨RX5, "write", "(IIII)V"⟩
abbrev cX5_read : ByteArray := prog_7_method_3_code
def yX5_read : MethodName := ⟨RX5, "read", "(II)I"⟩
abbrev cX5_copyFrom : ByteArray := prog_7_method_4_code
def yX5_copyFrom : MethodName := ⟨RX5, "copyFrom", "(LWhiskedDuchy$Log;)V"⟩
abbrev cX5_placeOf : ByteArray := prog_7_method_5_code
def yX5_placeOf : MethodName := ⟨RX5, "placeOf", "(I)I"⟩
def RX6 : String := "WhiskedDuchy$Past"
def TX6 : u_T := fun k => match k with
  | 0 => ("WhiskedDuchy$Past", "kept", "[LWhiskedDuchy$Bowl;", true)
  | 1 => ("WhiskedDuchy$Past", "size", "I", false)
  | _ => ("WhiskedDuchy$Past", "next", "I", false)
def tyX6 : Nat → FieldType := fun k => match k with
  | 0 => .array (.object "WhiskedDuchy$Bowl")
  | 1 => .int
  | _ => .int
abbrev wsX60 : List Cond := u_ws RX6 TX6 3
theorem nmX6 : ∀ a, a < 3 → ∀ b, b < 3 → a ≠ b → (TX6 a).2.1 ≠ (TX6 b).2.1 := by decide +kernel
theorem tyX6_ok : ∀ k, k < 3 → parseFieldDescriptor (TX6 k).2.2.1 = some (tyX6 k) := by decide +kernel
abbrev cX6_init : ByteArray := prog_8_method_1_code
def yX6_init : MethodName := ⟨RX6, "<init>", "()V"⟩
abbrev cX6_size : ByteArray := prog_8_method_2_code
def yX6_size : MethodName := ⟨RX6, "size", "()I"⟩
abbrev cX6_clear : ByteArray := prog_8_method_3_code
def yX6_clear : MethodName := ⟨RX6, "clear", "()V"⟩
abbrev cX6_keep : ByteArray := prog_8_method_4_code
def yX6_keep : MethodName := ⟨RX6, "keep", "(LWhiskedDuchy$Bowl;)V"⟩
abbrev cX6_takeBack : ByteArray := prog_8_method_5_code
def yX6_takeBack : MethodName := ⟨RX6, "takeBack", "(LWhiskedDuchy$Bowl;)Z"⟩
def RX7 : String := "WhiskedDuchy$Rows"
def TX7 : u_T := fun k => match k with
  | 0 => ("WhiskedDuchy$Rows", "told", "LWhiskedDuchy$Told;", true)
  | 1 => ("WhiskedDuchy$Rows", "bowl", "LWhiskedDuchy$Bowl;", true)
  | 2 => ("WhiskedDuchy$Rows", "least", "[I", true)
  | 3 => ("WhiskedDuchy$Rows", "losses", "[I", true)
  | _ => ("WhiskedDuchy$Rows", "values", "[I", true)
def tyX7 : Nat → FieldType := fun k => match k with
  | 0 => .object "WhiskedDuchy$Told"
  | 1 => .object "WhiskedDuchy$Bowl"
  | 2 => .array .int
  | 3 => .array .int
  | _ => .array .int
abbrev wsX70 : List Cond := u_ws RX7 TX7 5
theorem nmX7 : ∀ a, a < 5 → ∀ b, b < 5 → a ≠ b → (TX7 a).2.1 ≠ (TX7 b).2.1 := by decide +kernel
theorem tyX7_ok : ∀ k, k < 5 → parseFieldDescriptor (TX7 k).2.2.1 = some (tyX7 k) := by decide +kernel
abbrev cX7_init : ByteArray := prog_9_method_1_code
def yX7_init : MethodName := ⟨RX7, "<init>", "(LWhiskedDuchy$Told;LWhiskedDuchy$Bowl;)V"⟩
abbrev cX7_bestSet : ByteArray := prog_9_method_2_code
def yX7_bestSet : MethodName := ⟨RX7, "bestSet", "()I"⟩
abbrev cX7_leastRowOf : ByteArray := prog_9_method_3_code
def yX7_leastRowOf : MethodName := ⟨RX7, "leastRowOf", "(I)I"⟩
abbrev cX7_valueOf : ByteArray := prog_9_method_4_code
def yX7_valueOf : MethodName := ⟨RX7, "valueOf", "(I)I"⟩
abbrev cX7_standsBehind : ByteArray := prog_9_method_5_code
def yX7_standsBehind : MethodName := ⟨RX7, "standsBehind", "(I)I"⟩
abbrev cX7_leastRowTo : ByteArray := prog_9_method_6_code
def yX7_leastRowTo : MethodName := ⟨RX7, "leastRowTo", "(I)I"⟩
abbrev cX7_canEnd : ByteArray := prog_9_method_7_code
def yX7_canEnd : MethodName := ⟨RX7, "canEnd", "(II)Z"⟩
abbrev cX7_isBetter : ByteArray := prog_9_method_8_code
def yX7_isBetter : MethodName := ⟨RX7, "isBetter", "(II)Z"⟩
def RX8 : String := "WhiskedDuchy$Sightings"
def TX8 : u_T := fun k => match k with
  | 0 => ("WhiskedDuchy$Sightings", "cooks", "[I", true)
  | 1 => ("WhiskedDuchy$Sightings", "strokes", "[I", true)
  | 2 => ("WhiskedDuchy$Sightings", "marks", "[I", true)
  | 3 => ("WhiskedDuchy$Sightings", "reached", "[Z", true)
  | _ => ("WhiskedDuchy$Sightings", "size", "I", false)
def tyX8 : Nat → FieldType := fun k => match k with
  | 0 => .array .int
  | 1 => .array .int
  | 2 => .array .int
  | 3 => .array .boolean
  | _ => .int
abbrev wsX80 : List Cond := u_ws RX8 TX8 5
theorem nmX8 : ∀ a, a < 5 → ∀ b, b < 5 → a ≠ b → (TX8 a).2.1 ≠ (TX8 b).2.1 := by decide +kernel
theorem tyX8_ok : ∀ k, k < 5 → parseFieldDescriptor (TX8 k).2.2.1 = some (tyX8 k) := by decide +kernel
abbrev cX8_init : ByteArray := prog_10_method_1_code
def yX8_init : MethodName := ⟨RX8, "<init>", "()V"⟩
abbrev cX8_size : ByteArray := prog_10_method_2_code
def yX8_size : MethodName := ⟨RX8, "size", "()I"⟩
abbrev cX8_isFull : ByteArray := prog_10_method_3_code
def yX8_isFull : MethodName := ⟨RX8, "isFull", "()Z"⟩
abbrev cX8_clear : ByteArray := prog_10_method_4_code
def yX8_clear : MethodName := ⟨RX8, "clear", "()V"⟩
abbrev cX8_add : ByteArray := prog_10_method_5_code
def yX8_add : MethodName := ⟨RX8, "add", "(IIIZ)V"⟩
abbrev cX8_furthestOf : ByteArray := prog_10_method_6_code
def yX8_furthestOf : MethodName := ⟨RX8, "furthestOf", "(I)I"⟩
abbrev cX8_isAgainst : ByteArray := prog_10_method_7_code
def yX8_isAgainst : MethodName := ⟨RX8, "isAgainst", "(III)Z"⟩
def RX9 : String := "WhiskedDuchy$Tape"
def TX9 : u_T := fun k => match k with
  | 0 => ("WhiskedDuchy$Tape", "bytes", "[I", true)
  | 1 => ("WhiskedDuchy$Tape", "size", "I", false)
  | _ => ("WhiskedDuchy$Tape", "at", "I", false)
def tyX9 : Nat → FieldType := fun k => match k with
  | 0 => .array .int
  | 1 => .int
  | _ => .int
abbrev wsX90 : List Cond := u_ws RX9 TX9 3
theorem nmX9 : ∀ a, a < 3 → ∀ b, b < 3 → a ≠ b → (TX9 a).2.1 ≠ (TX9 b).2.1 := by decide +kernel
theorem tyX9_ok : ∀ k, k < 3 → parseFieldDescriptor (TX9 k).2.2.1 = some (tyX9 k) := by decide +kernel
abbrev cX9_init : ByteArray := prog_11_method_1_code
def yX9_init : MethodName := ⟨RX9, "<init>", "()V"⟩
abbrev cX9_size : ByteArray := prog_11_method_2_code
def yX9_size : MethodName := ⟨RX9, "size", "()I"⟩
abbrev cX9_signsIn : ByteArray := prog_11_method_3_code
def yX9_signsIn : MethodName := ⟨RX9, "signsIn", "(I)I"⟩
abbrev cX9_put : ByteArray := prog_11_method_4_code
def yX9_put : MethodName := ⟨RX9, "put", "(I)V"⟩
abbrev cX9_cutBehind : ByteArray := prog_11_method_5_code
def yX9_cutBehind : MethodName := ⟨RX9, "cutBehind", "(I)Z"⟩
abbrev cX9_rewind : ByteArray := prog_11_method_6_code
def yX9_rewind : MethodName := ⟨RX9, "rewind", "()V"⟩
abbrev cX9_at : ByteArray := prog_11_method_7_code
def yX9_at : MethodName := ⟨RX9, "at", "()I"⟩
abbrev cX9_look : ByteArray := prog_11_method_8_code
def yX9_look : MethodName := ⟨RX9, "look", "()I"⟩
abbrev cX9_step : ByteArray := prog_11_method_9_code
def yX9_step : MethodName := ⟨RX9, "step", "()V"⟩
abbrev cX9_stepBack : ByteArray := prog_11_method_10_code
def yX9_stepBack : MethodName := ⟨RX9, "stepBack", "()V"⟩
abbrev cX9_take : ByteArray := prog_11_method_11_code
def yX9_take : MethodName := ⟨RX9, "take", "(C)Z"⟩
abbrev cX9_number : ByteArray := prog_11_method_12_code
def yX9_number : MethodName := ⟨RX9, "number", "(I)I"⟩
abbrev cX9_isDigitHere : ByteArray := prog_11_method_13_code
def yX9_isDigitHere : MethodName := ⟨RX9, "isDigitHere", "()Z"⟩
abbrev cX9_isDigit : ByteArray := prog_11_method_14_code
def yX9_isDigit : MethodName := ⟨RX9, "isDigit", "(I)Z"⟩
def RX10 : String := "WhiskedDuchy$Told"
def TX10 : u_T := fun k => match k with
  | 0 => ("WhiskedDuchy$Told", "values", "[I", true)
  | _ => ("WhiskedDuchy$Told", "many", "[I", true)
def tyX10 : Nat → FieldType := fun k => match k with
  | 0 => .array .int
  | _ => .array .int
abbrev wsX100 : List Cond := u_ws RX10 TX10 2
theorem nmX10 : ∀ a, a < 2 → ∀ b, b < 2 → a ≠ b → (TX10 a).2.1 ≠ (TX10 b).2.1 := by decide +kernel
theorem tyX10_ok : ∀ k, k < 2 → parseFieldDescriptor (TX10 k).2.2.1 = some (tyX10 k) := by decide +kernel
abbrev cX10_init : ByteArray := prog_12_method_1_code
def yX10_init : MethodName := ⟨RX10, "<init>", "()V"⟩
abbrev cX10_clear : ByteArray := prog_12_method_2_code
def yX10_clear : MethodName := ⟨RX10, "clear", "()V"⟩
abbrev cX10_copyFrom : ByteArray := prog_12_method_3_code
def yX10_copyFrom : MethodName := ⟨RX10, "copyFrom", "(LWhiskedDuchy$Told;)V"⟩
abbrev cX10_howMany : ByteArray := prog_12_method_4_code
def yX10_howMany : MethodName := ⟨RX10, "howMany", "(I)I"⟩
abbrev cX10_isFull : ByteArray := prog_12_method_5_code
def yX10_isFull : MethodName := ⟨RX10, "isFull", "(I)Z"⟩
abbrev cX10_kindBy : ByteArray := prog_12_method_6_code
def yX10_kindBy : MethodName := ⟨RX10, "kindBy", "(I)I"⟩
abbrev cX10_itemBy : ByteArray := prog_12_method_7_code
def yX10_itemBy : MethodName := ⟨RX10, "itemBy", "(II)I"⟩
abbrev cX10_isAllowed : ByteArray := prog_12_method_8_code
def yX10_isAllowed : MethodName := ⟨RX10, "isAllowed", "(III)Z"⟩
abbrev cX10_add : ByteArray := prog_12_method_9_code
def yX10_add : MethodName := ⟨RX10, "add", "(I)I"⟩
abbrev cX10_fillWithout : ByteArray := prog_12_method_10_code
def yX10_fillWithout : MethodName := ⟨RX10, "fillWithout", "(II)V"⟩
abbrev cX10_set : ByteArray := prog_12_method_11_code
def yX10_set : MethodName := ⟨RX10, "set", "(IIII)V"⟩
abbrev cX10_item : ByteArray := prog_12_method_12_code
def yX10_item : MethodName := ⟨RX10, "item", "(III)I"⟩
abbrev cX10_isKind : ByteArray := prog_12_method_13_code
def yX10_isKind : MethodName := ⟨RX10, "isKind", "(I)Z"⟩
abbrev cX10_lineOf : ByteArray := prog_12_method_14_code
def yX10_lineOf : MethodName := ⟨RX10, "lineOf", "(II)I"⟩
abbrev cX10_placeOf : ByteArray := prog_12_method_15_code
def yX10_placeOf : MethodName := ⟨RX10, "placeOf", "(III)I"⟩
def RX11 : String := "WhiskedDuchy"
def TX11 : u_T := fun k => match k with
  | 0 => ("WhiskedDuchy", "tape", "LWhiskedDuchy$Tape;", true)
  | 1 => ("WhiskedDuchy", "duchyReader", "LWhiskedDuchy$DuchyReader;", true)
  | 2 => ("WhiskedDuchy", "lawReader", "LWhiskedDuchy$LawReader;", true)
  | 3 => ("WhiskedDuchy", "laws", "LWhiskedDuchy$Laws;", true)
  | 4 => ("WhiskedDuchy", "told", "LWhiskedDuchy$Told;", true)
  | 5 => ("WhiskedDuchy", "now", "LWhiskedDuchy$Bowl;", true)
  | 6 => ("WhiskedDuchy", "past", "LWhiskedDuchy$Past;", true)
  | 7 => ("WhiskedDuchy", "diary", "LWhiskedDuchy$Log;", true)
  | 8 => ("WhiskedDuchy", "imageBowl", "LWhiskedDuchy$Bowl;", true)
  | 9 => ("WhiskedDuchy", "imageDiary", "LWhiskedDuchy$Log;", true)
  | 10 => ("WhiskedDuchy", "sightings", "LWhiskedDuchy$Sightings;", true)
  | 11 => ("WhiskedDuchy", "rows", "LWhiskedDuchy$Rows;", true)
  | 12 => ("WhiskedDuchy", "draws", "LWhiskedDuchy$Draws;", true)
  | 13 => ("WhiskedDuchy", "refused", "[I", true)
  | 14 => ("WhiskedDuchy", "stoodBy", "[I", true)
  | 15 => ("WhiskedDuchy", "stoodInGame", "[I", true)
  | 16 => ("WhiskedDuchy", "isDuchy", "Z", false)
  | 17 => ("WhiskedDuchy", "isImage", "Z", false)
  | _ => ("WhiskedDuchy", "draughty", "I", false)
def tyX11 : Nat → FieldType := fun k => match k with
  | 0 => .object "WhiskedDuchy$Tape"
  | 1 => .object "WhiskedDuchy$DuchyReader"
  | 2 => .object "WhiskedDuchy$LawReader"
  | 3 => .object "WhiskedDuchy$Laws"
  | 4 => .object "WhiskedDuchy$Told"
  | 5 => .object "WhiskedDuchy$Bowl"
  | 6 => .object "WhiskedDuchy$Past"
  | 7 => .object "WhiskedDuchy$Log"
  | 8 => .object "WhiskedDuchy$Bowl"
  | 9 => .object "WhiskedDuchy$Log"
  | 10 => .object "WhiskedDuchy$Sightings"
  | 11 => .object "WhiskedDuchy$Rows"
  | 12 => .object "WhiskedDuchy$Draws"
  | 13 => .array .int
  | 14 => .array .int
  | 15 => .array .int
  | 16 => .boolean
  | 17 => .boolean
  | _ => .int
abbrev wsX110 : List Cond := u_ws RX11 TX11 19
theorem nmX11 : ∀ a, a < 19 → ∀ b, b < 19 → a ≠ b → (TX11 a).2.1 ≠ (TX11 b).2.1 := by decide +kernel
theorem tyX11_ok : ∀ k, k < 19 → parseFieldDescriptor (TX11 k).2.2.1 = some (tyX11 k) := by decide +kernel
abbrev cX11_init : ByteArray := prog_1_method_1_code
def yX11_init : MethodName := ⟨RX11, "<init>", "()V"⟩
abbrev cX11_feed : ByteArray := prog_1_method_2_code
def yX11_feed : MethodName := ⟨RX11, "feed", "(IIIII)I"⟩
abbrev cX11_end : ByteArray := prog_1_method_3_code
def yX11_end : MethodName := ⟨RX11, "end", "(I)Z"⟩
abbrev cX11_fault : ByteArray := prog_1_method_4_code
def yX11_fault : MethodName := ⟨RX11, "fault", "(I)I"⟩
abbrev cX11_text : ByteArray := prog_1_method_5_code
def yX11_text : MethodName := ⟨RX11, "text", "(I)I"⟩
abbrev cX11_beginDuchy : ByteArray := prog_1_method_6_code
def yX11_beginDuchy : MethodName := ⟨RX11, "beginDuchy", "()V"⟩
abbrev cX11_law : ByteArray := prog_1_method_7_code
def yX11_law : MethodName := ⟨RX11, "law", "(I)Z"⟩
abbrev cX11_rule : ByteArray := prog_1_method_8_code
def yX11_rule : MethodName := ⟨RX11, "rule", "(I)I"⟩
abbrev cX11_cook : ByteArray := prog_1_method_9_code
def yX11_cook : MethodName := ⟨RX11, "cook", "(II)I"⟩
abbrev cX11_minister : ByteArray := prog_1_method_10_code
def yX11_minister : MethodName := ⟨RX11, "minister", "(II)I"⟩
abbrev cX11_hasCook : ByteArray := prog_1_method_11_code
def yX11_hasCook : MethodName := ⟨RX11, "hasCook", "(I)Z"⟩
abbrev cX11_hasTwoCooks : ByteArray := prog_1_method_12_code
def yX11_hasTwoCooks : MethodName := ⟨RX11, "hasTwoCooks", "(II)Z"⟩
abbrev cX11_hasMinister : ByteArray := prog_1_method_13_code
def yX11_hasMinister : MethodName := ⟨RX11, "hasMinister", "(I)Z"⟩
abbrev cX11_isInside : ByteArray := prog_1_method_14_code
def yX11_isInside : MethodName := ⟨RX11, "isInside", "(I)Z"⟩
abbrev cX11_sumInside : ByteArray := prog_1_method_15_code
def yX11_sumInside : MethodName := ⟨RX11, "sumInside", "(I)I"⟩
abbrev cX11_strokesLeft : ByteArray := prog_1_method_16_code
def yX11_strokesLeft : MethodName := ⟨RX11, "strokesLeft", "(I)I"⟩
abbrev cX11_canFold : ByteArray := prog_1_method_17_code
def yX11_canFold : MethodName := ⟨RX11, "canFold", "(I)Z"⟩
abbrev cX11_couldFold : ByteArray := prog_1_method_18_code
def yX11_couldFold : MethodName := ⟨RX11, "couldFold", "()I"⟩
abbrev cX11_whisked : ByteArray := prog_1_method_19_code
def yX11_whisked : MethodName := ⟨RX11, "whisked", "(IIII)I"⟩
abbrev cX11_whisk : ByteArray := prog_1_method_20_code
def yX11_whisk : MethodName := ⟨RX11, "whisk", "(II)V"⟩
abbrev cX11_foldIn : ByteArray := prog_1_method_21_code
def yX11_foldIn : MethodName := ⟨RX11, "foldIn", "(I)V"⟩
abbrev cX11_openDoor : ByteArray := prog_1_method_22_code
def yX11_openDoor : MethodName := ⟨RX11, "openDoor", "()V"⟩
abbrev cX11_passHour : ByteArray := prog_1_method_23_code
def yX11_passHour : MethodName := ⟨RX11, "passHour", "()V"⟩
abbrev cX11_sinksBy : ByteArray := prog_1_method_24_code
def yX11_sinksBy : MethodName := ⟨RX11, "sinksBy", "()I"⟩
abbrev cX11_sunk : ByteArray := prog_1_method_25_code
def yX11_sunk : MethodName := ⟨RX11, "sunk", "(II)I"⟩
abbrev cX11_fallIfFlat : ByteArray := prog_1_method_26_code
def yX11_fallIfFlat : MethodName := ⟨RX11, "fallIfFlat", "()V"⟩
abbrev cX11_passDay : ByteArray := prog_1_method_27_code
def yX11_passDay : MethodName := ⟨RX11, "passDay", "()V"⟩
abbrev cX11_passDrawnDay : ByteArray := prog_1_method_28_code
def yX11_passDrawnDay : MethodName := ⟨RX11, "passDrawnDay", "()V"⟩
abbrev cX11_refuse : ByteArray := prog_1_method_29_code
def yX11_refuse : MethodName := ⟨RX11, "refuse", "(I)I"⟩
abbrev cX11_strokes : ByteArray := prog_1_method_30_code
def yX11_strokes : MethodName := ⟨RX11, "strokes", "(II)I"⟩
abbrev cX11_fold : ByteArray := prog_1_method_31_code
def yX11_fold : MethodName := ⟨RX11, "fold", "(I)I"⟩
abbrev cX11_sugar : ByteArray := prog_1_method_32_code
def yX11_sugar : MethodName := ⟨RX11, "sugar", "()I"⟩
abbrev cX11_door : ByteArray := prog_1_method_33_code
def yX11_door : MethodName := ⟨RX11, "door", "()I"⟩
abbrev cX11_hours : ByteArray := prog_1_method_34_code
def yX11_hours : MethodName := ⟨RX11, "hours", "(I)I"⟩
abbrev cX11_practise : ByteArray := prog_1_method_35_code
def yX11_practise : MethodName := ⟨RX11, "practise", "(I)I"⟩
abbrev cX11_yolk : ByteArray := prog_1_method_36_code
def yX11_yolk : MethodName := ⟨RX11, "yolk", "()I"⟩
abbrev cX11_give : ByteArray := prog_1_method_37_code
def yX11_give : MethodName := ⟨RX11, "give", "(I)I"⟩
abbrev cX11_days : ByteArray := prog_1_method_38_code
def yX11_days : MethodName := ⟨RX11, "days", "(I)I"⟩
abbrev cX11_draught : ByteArray := prog_1_method_39_code
def yX11_draught : MethodName := ⟨RX11, "draught", "(I)Z"⟩
abbrev cX11_years : ByteArray := prog_1_method_40_code
def yX11_years : MethodName := ⟨RX11, "years", "(IJ)I"⟩
abbrev cX11_status : ByteArray := prog_1_method_41_code
def yX11_status : MethodName := ⟨RX11, "status", "(I)I"⟩
abbrev cX11_undo : ByteArray := prog_1_method_42_code
def yX11_undo : MethodName := ⟨RX11, "undo", "()I"⟩
abbrev cX11_log : ByteArray := prog_1_method_43_code
def yX11_log : MethodName := ⟨RX11, "log", "(II)I"⟩
abbrev cX11_logSize : ByteArray := prog_1_method_44_code
def yX11_logSize : MethodName := ⟨RX11, "logSize", "()I"⟩
abbrev cX11_behind : ByteArray := prog_1_method_45_code
def yX11_behind : MethodName := ⟨RX11, "behind", "(II)I"⟩
abbrev cX11_whiskedOften : ByteArray := prog_1_method_46_code
def yX11_whiskedOften : MethodName := ⟨RX11, "whiskedOften", "(IIIII)I"⟩
abbrev cX11_soonest : ByteArray := prog_1_method_47_code
def yX11_soonest : MethodName := ⟨RX11, "soonest", "(II)I"⟩
abbrev cX11_soonestOf : ByteArray := prog_1_method_48_code
def yX11_soonestOf : MethodName := ⟨RX11, "soonestOf", "(II)I"⟩
abbrev cX11_stop : ByteArray := prog_1_method_49_code
def yX11_stop : MethodName := ⟨RX11, "stop", "(II)I"⟩
abbrev cX11_best : ByteArray := prog_1_method_50_code
def yX11_best : MethodName := ⟨RX11, "best", "(I)I"⟩
abbrev cX11_byTurns : ByteArray := prog_1_method_51_code
def yX11_byTurns : MethodName := ⟨RX11, "byTurns", "(III)I"⟩
abbrev cX11_row : ByteArray := prog_1_method_52_code
def yX11_row : MethodName := ⟨RX11, "row", "(I)I"⟩
abbrev cX11_lasts : ByteArray := prog_1_method_53_code
def yX11_lasts : MethodName := ⟨RX11, "lasts", "()I"⟩
abbrev cX11_holds : ByteArray := prog_1_method_54_code
def yX11_holds : MethodName := ⟨RX11, "holds", "(I)I"⟩
abbrev cX11_seen : ByteArray := prog_1_method_55_code
def yX11_seen : MethodName := ⟨RX11, "seen", "(IIIZ)I"⟩
abbrev cX11_fits : ByteArray := prog_1_method_56_code
def yX11_fits : MethodName := ⟨RX11, "fits", "(I)I"⟩
abbrev cX11_placeOfBit : ByteArray := prog_1_method_57_code
def yX11_placeOfBit : MethodName := ⟨RX11, "placeOfBit", "(II)I"⟩
abbrev cX11_fittingYolks : ByteArray := prog_1_method_58_code
def yX11_fittingYolks : MethodName := ⟨RX11, "fittingYolks", "()I"⟩
abbrev cX11_isFitting : ByteArray := prog_1_method_59_code
def yX11_isFitting : MethodName := ⟨RX11, "isFitting", "(I)Z"⟩
abbrev cX11_probe : ByteArray := prog_1_method_60_code
def yX11_probe : MethodName := ⟨RX11, "probe", "(II)I"⟩
abbrev cX11_whiskAllYolks : ByteArray := prog_1_method_61_code
def yX11_whiskAllYolks : MethodName := ⟨RX11, "whiskAllYolks", "(IIII)I"⟩
abbrev cX11_game : ByteArray := prog_1_method_62_code
def yX11_game : MethodName := ⟨RX11, "game", "(IIIII)I"⟩
abbrev cX11_rests : ByteArray := prog_1_method_63_code
def yX11_rests : MethodName := ⟨RX11, "rests", "(III)I"⟩
abbrev cX11_playAll : ByteArray := prog_1_method_64_code
def yX11_playAll : MethodName := ⟨RX11, "playAll", "(II)V"⟩
abbrev cX11_quarterOf : ByteArray := prog_1_method_65_code
def yX11_quarterOf : MethodName := ⟨RX11, "quarterOf", "(II)I"⟩
abbrev cX11_isRest : ByteArray := prog_1_method_66_code
def yX11_isRest : MethodName := ⟨RX11, "isRest", "(II)Z"⟩
abbrev cX11_odds : ByteArray := prog_1_method_67_code
def yX11_odds : MethodName := ⟨RX11, "odds", "(III)I"⟩
abbrev cX11_partsAt : ByteArray := prog_1_method_68_code
def yX11_partsAt : MethodName := ⟨RX11, "partsAt", "(IJIIII)J"⟩
abbrev cX11_shares : ByteArray := prog_1_method_69_code
def yX11_shares : MethodName := ⟨RX11, "shares", "(II)I"⟩
abbrev cX11_most : ByteArray := prog_1_method_70_code
def yX11_most : MethodName := ⟨RX11, "most", "(I)I"⟩
abbrev cX11_firstMinisterByMost : ByteArray := prog_1_method_71_code
def yX11_firstMinisterByMost : MethodName := ⟨RX11, "firstMinisterByMost", "(I)I"⟩
abbrev cX11_strongestCook : ByteArray := prog_1_method_72_code
def yX11_strongestCook : MethodName := ⟨RX11, "strongestCook", "()I"⟩
abbrev cX11_freshestCook : ByteArray := prog_1_method_73_code
def yX11_freshestCook : MethodName := ⟨RX11, "freshestCook", "()I"⟩
abbrev cX11_doorsToFlat : ByteArray := prog_1_method_74_code
def yX11_doorsToFlat : MethodName := ⟨RX11, "doorsToFlat", "()I"⟩
abbrev cX11_ahead : ByteArray := prog_1_method_75_code
def yX11_ahead : MethodName := ⟨RX11, "ahead", "(I)I"⟩
abbrev cX11_image : ByteArray := prog_1_method_76_code
def yX11_image : MethodName := ⟨RX11, "image", "()I"⟩
abbrev cX11_back : ByteArray := prog_1_method_77_code
def yX11_back : MethodName := ⟨RX11, "back", "()I"⟩
abbrev cX11_count : ByteArray := prog_1_method_78_code
def yX11_count : MethodName := ⟨RX11, "count", "(I)I"⟩
abbrev cX11_isWithin : ByteArray := prog_1_method_79_code
def yX11_isWithin : MethodName := ⟨RX11, "isWithin", "(III)Z"⟩
abbrev cX11_isStand : ByteArray := prog_1_method_80_code
def yX11_isStand : MethodName := ⟨RX11, "isStand", "(I)Z"⟩
abbrev cX11_within : ByteArray := prog_1_method_81_code
def yX11_within : MethodName := ⟨RX11, "within", "(III)I"⟩
def RX12 : String := "WhiskedDuchyModel"
def TX12 : u_T := fun k => match k with
  | 0 => ("WhiskedDuchyModel", "thrown", "I", false)
  | 1 => ("WhiskedDuchyModel", "tape", "[I", true)
  | 2 => ("WhiskedDuchyModel", "size", "I", false)
  | 3 => ("WhiskedDuchyModel", "at", "I", false)
  | 4 => ("WhiskedDuchyModel", "wrong", "I", false)
  | 5 => ("WhiskedDuchyModel", "deep", "I", false)
  | 6 => ("WhiskedDuchyModel", "code", "[I", true)
  | 7 => ("WhiskedDuchyModel", "value", "[I", true)
  | 8 => ("WhiskedDuchyModel", "codes", "[I", true)
  | 9 => ("WhiskedDuchyModel", "clauses", "[I", true)
  | 10 => ("WhiskedDuchyModel", "testFrom", "[I", true)
  | 11 => ("WhiskedDuchyModel", "sumFrom", "[I", true)
  | 12 => ("WhiskedDuchyModel", "sumTo", "[I", true)
  | 13 => ("WhiskedDuchyModel", "laws", "I", false)
  | 14 => ("WhiskedDuchyModel", "text", "I", false)
  | 15 => ("WhiskedDuchyModel", "letters", "[I", true)
  | 16 => ("WhiskedDuchyModel", "stack", "[I", true)
  | 17 => ("WhiskedDuchyModel", "readRule", "[I", true)
  | 18 => ("WhiskedDuchyModel", "readCook", "[I", true)
  | 19 => ("WhiskedDuchyModel", "readMinister", "[I", true)
  | 20 => ("WhiskedDuchyModel", "readCooks", "I", false)
  | 21 => ("WhiskedDuchyModel", "readMinisters", "I", false)
  | 22 => ("WhiskedDuchyModel", "rule", "[I", true)
  | 23 => ("WhiskedDuchyModel", "cook", "[I", true)
  | 24 => ("WhiskedDuchyModel", "minister", "[I", true)
  | 25 => ("WhiskedDuchyModel", "cooks", "I", false)
  | 26 => ("WhiskedDuchyModel", "ministers", "I", false)
  | 27 => ("WhiskedDuchyModel", "now", "[I", true)
  | 28 => ("WhiskedDuchyModel", "refused", "[I", true)
  | 29 => ("WhiskedDuchyModel", "holding", "I", false)
  | 30 => ("WhiskedDuchyModel", "drafty", "I", false)
  | 31 => ("WhiskedDuchyModel", "kept", "[I", true)
  | 32 => ("WhiskedDuchyModel", "acts", "I", false)
  | 33 => ("WhiskedDuchyModel", "draws", "J", false)
  | 34 => ("WhiskedDuchyModel", "aside", "[I", true)
  | 35 => ("WhiskedDuchyModel", "bestRow", "I", false)
  | 36 => ("WhiskedDuchyModel", "bestWorth", "I", false)
  | 37 => ("WhiskedDuchyModel", "bestStands", "I", false)
  | 38 => ("WhiskedDuchyModel", "bestLong", "I", false)
  | 39 => ("WhiskedDuchyModel", "noteCook", "[I", true)
  | 40 => ("WhiskedDuchyModel", "noteMany", "[I", true)
  | 41 => ("WhiskedDuchyModel", "noteStands", "[I", true)
  | 42 => ("WhiskedDuchyModel", "noteIs", "[Z", true)
  | 43 => ("WhiskedDuchyModel", "noted", "I", false)
  | 44 => ("WhiskedDuchyModel", "image", "[I", true)
  | _ => ("WhiskedDuchyModel", "hasImage", "Z", false)
def tyX12 : Nat → FieldType := fun k => match k with
  | 0 => .int
  | 1 => .array .int
  | 2 => .int
  | 3 => .int
  | 4 => .int
  | 5 => .int
  | 6 => .array .int
  | 7 => .array .int
  | 8 => .array .int
  | 9 => .array .int
  | 10 => .array .int
  | 11 => .array .int
  | 12 => .array .int
  | 13 => .int
  | 14 => .int
  | 15 => .array .int
  | 16 => .array .int
  | 17 => .array .int
  | 18 => .array .int
  | 19 => .array .int
  | 20 => .int
  | 21 => .int
  | 22 => .array .int
  | 23 => .array .int
  | 24 => .array .int
  | 25 => .int
  | 26 => .int
  | 27 => .array .int
  | 28 => .array .int
  | 29 => .int
  | 30 => .int
  | 31 => .array .int
  | 32 => .int
  | 33 => .long
  | 34 => .array .int
  | 35 => .int
  | 36 => .int
  | 37 => .int
  | 38 => .int
  | 39 => .array .int
  | 40 => .array .int
  | 41 => .array .int
  | 42 => .array .boolean
  | 43 => .int
  | 44 => .array .int
  | _ => .boolean
abbrev wsX120 : List Cond := u_ws RX12 TX12 46
theorem nmX12 : ∀ a, a < 46 → ∀ b, b < 46 → a ≠ b → (TX12 a).2.1 ≠ (TX12 b).2.1 := by decide +kernel
theorem tyX12_ok : ∀ k, k < 46 → parseFieldDescriptor (TX12 k).2.2.1 = some (tyX12 k) := by decide +kernel
abbrev cX12_in : ByteArray := prog_14_method_1_code
def yX12_in : MethodName := ⟨RX12, "in", "(III)Z"⟩
abbrev cX12_has : ByteArray := prog_14_method_2_code
def yX12_has : MethodName := ⟨RX12, "has", "(II)Z"⟩
abbrev cX12_init : ByteArray := prog_14_method_3_code
def yX12_init : MethodName := ⟨RX12, "<init>", "()V"⟩
abbrev cX12_thrown : ByteArray := prog_14_method_4_code
def yX12_thrown : MethodName := ⟨RX12, "thrown", "()I"⟩
abbrev cX12_byteOf : ByteArray := prog_14_method_5_code
def yX12_byteOf : MethodName := ⟨RX12, "byteOf", "(IIIIII)I"⟩
abbrev cX12_feed : ByteArray := prog_14_method_6_code
def yX12_feed : MethodName := ⟨RX12, "feed", "(IIIII)I"⟩
abbrev cX12_end : ByteArray := prog_14_method_7_code
def yX12_end : MethodName := ⟨RX12, "end", "(I)Z"⟩
abbrev cX12_here : ByteArray := prog_14_method_8_code
def yX12_here : MethodName := ⟨RX12, "here", "()I"⟩
abbrev cX12_look : ByteArray := prog_14_method_9_code
def yX12_look : MethodName := ⟨RX12, "look", "()I"⟩
abbrev cX12_bad : ByteArray := prog_14_method_10_code
def yX12_bad : MethodName := ⟨RX12, "bad", "()V"⟩
abbrev cX12_isDigit : ByteArray := prog_14_method_11_code
def yX12_isDigit : MethodName := ⟨RX12, "isDigit", "(I)Z"⟩
abbrev cX12_put : ByteArray := prog_14_method_12_code
def yX12_put : MethodName := ⟨RX12, "put", "(II)V"⟩
abbrev cX12_letterOf : ByteArray := prog_14_method_13_code
def yX12_letterOf : MethodName := ⟨RX12, "letterOf", "(I)I"⟩
abbrev cX12_opens : ByteArray := prog_14_method_14_code
def yX12_opens : MethodName := ⟨RX12, "opens", "()V"⟩
abbrev cX12_closes : ByteArray := prog_14_method_15_code
def yX12_closes : MethodName := ⟨RX12, "closes", "(I)V"⟩
abbrev cX12_plainNumber : ByteArray := prog_14_method_16_code
def yX12_plainNumber : MethodName := ⟨RX12, "plainNumber", "()I"⟩
abbrev cX12_atom : ByteArray := prog_14_method_17_code
def yX12_atom : MethodName := ⟨RX12, "atom", "()V"⟩
abbrev cX12_term : ByteArray := prog_14_method_18_code
def yX12_term : MethodName := ⟨RX12, "term", "()V"⟩
abbrev cX12_sum : ByteArray := prog_14_method_19_code
def yX12_sum : MethodName := ⟨RX12, "sum", "()V"⟩
abbrev cX12_isSign : ByteArray := prog_14_method_20_code
def yX12_isSign : MethodName := ⟨RX12, "isSign", "(I)Z"⟩
abbrev cX12_compare : ByteArray := prog_14_method_21_code
def yX12_compare : MethodName := ⟨RX12, "compare", "()V"⟩
abbrev cX12_unit : ByteArray := prog_14_method_22_code
def yX12_unit : MethodName := ⟨RX12, "unit", "()V"⟩
abbrev cX12_goOnAnd : ByteArray := prog_14_method_23_code
def yX12_goOnAnd : MethodName := ⟨RX12, "goOnAnd", "()V"⟩
abbrev cX12_goOnOr : ByteArray := prog_14_method_24_code
def yX12_goOnOr : MethodName := ⟨RX12, "goOnOr", "()V"⟩
abbrev cX12_condition : ByteArray := prog_14_method_25_code
def yX12_condition : MethodName := ⟨RX12, "condition", "()V"⟩
abbrev cX12_clause : ByteArray := prog_14_method_26_code
def yX12_clause : MethodName := ⟨RX12, "clause", "()V"⟩
abbrev cX12_open : ByteArray := prog_14_method_27_code
def yX12_open : MethodName := ⟨RX12, "open", "(I)V"⟩
abbrev cX12_atEnd : ByteArray := prog_14_method_28_code
def yX12_atEnd : MethodName := ⟨RX12, "atEnd", "()I"⟩
abbrev cX12_readLaw : ByteArray := prog_14_method_29_code
def yX12_readLaw : MethodName := ⟨RX12, "readLaw", "(I)I"⟩
abbrev cX12_bounded : ByteArray := prog_14_method_30_code
def yX12_bounded : MethodName := ⟨RX12, "bounded", "(J)I"⟩
abbrev cX12_worked : ByteArray := prog_14_method_31_code
def yX12_worked : MethodName := ⟨RX12, "worked", "(IJJ)I"⟩
abbrev cX12_workOut : ByteArray := prog_14_method_32_code
def yX12_workOut : MethodName := ⟨RX12, "workOut", "(III)I"⟩
abbrev cX12_worthOf : ByteArray := prog_14_method_33_code
def yX12_worthOf : MethodName := ⟨RX12, "worthOf", "(I)I"⟩
abbrev cX12_number : ByteArray := prog_14_method_34_code
def yX12_number : MethodName := ⟨RX12, "number", "(II)I"⟩
abbrev cX12_itemOf : ByteArray := prog_14_method_35_code
def yX12_itemOf : MethodName := ⟨RX12, "itemOf", "(II)I"⟩
abbrev cX12_highest : ByteArray := prog_14_method_36_code
def yX12_highest : MethodName := ⟨RX12, "highest", "(II)I"⟩
abbrev cX12_usual : ByteArray := prog_14_method_37_code
def yX12_usual : MethodName := ⟨RX12, "usual", "(II)I"⟩
abbrev cX12_items : ByteArray := prog_14_method_38_code
def yX12_items : MethodName := ⟨RX12, "items", "(I[III)V"⟩
abbrev cX12_readDuchy : ByteArray := prog_14_method_39_code
def yX12_readDuchy : MethodName := ⟨RX12, "readDuchy", "()I"⟩
abbrev cX12_fault : ByteArray := prog_14_method_40_code
def yX12_fault : MethodName := ⟨RX12, "fault", "(I)I"⟩
abbrev cX12_takeDuchy : ByteArray := prog_14_method_41_code
def yX12_takeDuchy : MethodName := ⟨RX12, "takeDuchy", "()I"⟩
abbrev cX12_text : ByteArray := prog_14_method_42_code
def yX12_text : MethodName := ⟨RX12, "text", "(I)I"⟩
abbrev cX12_of : ByteArray := prog_14_method_43_code
def yX12_of : MethodName := ⟨RX12, "of", "(II)I"⟩
abbrev cX12_isCook : ByteArray := prog_14_method_44_code
def yX12_isCook : MethodName := ⟨RX12, "isCook", "(I)Z"⟩
abbrev cX12_isMinister : ByteArray := prog_14_method_45_code
def yX12_isMinister : MethodName := ⟨RX12, "isMinister", "(I)Z"⟩
abbrev cX12_leftOf : ByteArray := prog_14_method_46_code
def yX12_leftOf : MethodName := ⟨RX12, "leftOf", "(I)I"⟩
abbrev cX12_held : ByteArray := prog_14_method_47_code
def yX12_held : MethodName := ⟨RX12, "held", "(I)I"⟩
abbrev cX12_strokeBy : ByteArray := prog_14_method_48_code
def yX12_strokeBy : MethodName := ⟨RX12, "strokeBy", "(IIII)I"⟩
abbrev cX12_strokeNow : ByteArray := prog_14_method_49_code
def yX12_strokeNow : MethodName := ⟨RX12, "strokeNow", "(I)V"⟩
abbrev cX12_strokesNow : ByteArray := prog_14_method_50_code
def yX12_strokesNow : MethodName := ⟨RX12, "strokesNow", "(II)V"⟩
abbrev cX12_weightIn : ByteArray := prog_14_method_51_code
def yX12_weightIn : MethodName := ⟨RX12, "weightIn", "()I"⟩
abbrev cX12_worthIn : ByteArray := prog_14_method_52_code
def yX12_worthIn : MethodName := ⟨RX12, "worthIn", "()I"⟩
abbrev cX12_sinks : ByteArray := prog_14_method_53_code
def yX12_sinks : MethodName := ⟨RX12, "sinks", "()I"⟩
abbrev cX12_mayFall : ByteArray := prog_14_method_54_code
def yX12_mayFall : MethodName := ⟨RX12, "mayFall", "()V"⟩
abbrev cX12_doorNow : ByteArray := prog_14_method_55_code
def yX12_doorNow : MethodName := ⟨RX12, "doorNow", "()V"⟩
abbrev cX12_hourNow : ByteArray := prog_14_method_56_code
def yX12_hourNow : MethodName := ⟨RX12, "hourNow", "()V"⟩
abbrev cX12_canFold : ByteArray := prog_14_method_57_code
def yX12_canFold : MethodName := ⟨RX12, "canFold", "(I)Z"⟩
abbrev cX12_foldNow : ByteArray := prog_14_method_58_code
def yX12_foldNow : MethodName := ⟨RX12, "foldNow", "(I)V"⟩
abbrev cX12_rule : ByteArray := prog_14_method_59_code
def yX12_rule : MethodName := ⟨RX12, "rule", "(I)I"⟩
abbrev cX12_cook : ByteArray := prog_14_method_60_code
def yX12_cook : MethodName := ⟨RX12, "cook", "(II)I"⟩
abbrev cX12_minister : ByteArray := prog_14_method_61_code
def yX12_minister : MethodName := ⟨RX12, "minister", "(II)I"⟩
abbrev cX12_law : ByteArray := prog_14_method_62_code
def yX12_law : MethodName := ⟨RX12, "law", "(I)Z"⟩
abbrev cX12_keep : ByteArray := prog_14_method_63_code
def yX12_keep : MethodName := ⟨RX12, "keep", "()V"⟩
abbrev cX12_isRefused : ByteArray := prog_14_method_64_code
def yX12_isRefused : MethodName := ⟨RX12, "isRefused", "(I)Z"⟩
abbrev cX12_strokes : ByteArray := prog_14_method_65_code
def yX12_strokes : MethodName := ⟨RX12, "strokes", "(II)I"⟩
abbrev cX12_fold : ByteArray := prog_14_method_66_code
def yX12_fold : MethodName := ⟨RX12, "fold", "(I)I"⟩
abbrev cX12_sugar : ByteArray := prog_14_method_67_code
def yX12_sugar : MethodName := ⟨RX12, "sugar", "()I"⟩
abbrev cX12_door : ByteArray := prog_14_method_68_code
def yX12_door : MethodName := ⟨RX12, "door", "()I"⟩
abbrev cX12_hours : ByteArray := prog_14_method_69_code
def yX12_hours : MethodName := ⟨RX12, "hours", "(I)I"⟩
abbrev cX12_practise : ByteArray := prog_14_method_70_code
def yX12_practise : MethodName := ⟨RX12, "practise", "(I)I"⟩
abbrev cX12_yolk : ByteArray := prog_14_method_71_code
def yX12_yolk : MethodName := ⟨RX12, "yolk", "()I"⟩
abbrev cX12_give : ByteArray := prog_14_method_72_code
def yX12_give : MethodName := ⟨RX12, "give", "(I)I"⟩
abbrev cX12_passDay : ByteArray := prog_14_method_73_code
def yX12_passDay : MethodName := ⟨RX12, "passDay", "()V"⟩
abbrev cX12_areDays : ByteArray := prog_14_method_74_code
def yX12_areDays : MethodName := ⟨RX12, "areDays", "(I)Z"⟩
abbrev cX12_days : ByteArray := prog_14_method_75_code
def yX12_days : MethodName := ⟨RX12, "days", "(I)I"⟩
abbrev cX12_draught : ByteArray := prog_14_method_76_code
def yX12_draught : MethodName := ⟨RX12, "draught", "(I)Z"⟩
abbrev cX12_draw : ByteArray := prog_14_method_77_code
def yX12_draw : MethodName := ⟨RX12, "draw", "(I)I"⟩
abbrev cX12_drawDay : ByteArray := prog_14_method_78_code
def yX12_drawDay : MethodName := ⟨RX12, "drawDay", "()V"⟩
abbrev cX12_years : ByteArray := prog_14_method_79_code
def yX12_years : MethodName := ⟨RX12, "years", "(IJ)I"⟩
abbrev cX12_status : ByteArray := prog_14_method_80_code
def yX12_status : MethodName := ⟨RX12, "status", "(I)I"⟩
abbrev cX12_undo : ByteArray := prog_14_method_81_code
def yX12_undo : MethodName := ⟨RX12, "undo", "()I"⟩
abbrev cX12_log : ByteArray := prog_14_method_82_code
def yX12_log : MethodName := ⟨RX12, "log", "(II)I"⟩
abbrev cX12_putAside : ByteArray := prog_14_method_83_code
def yX12_putAside : MethodName := ⟨RX12, "putAside", "(I)V"⟩
abbrev cX12_takeBack : ByteArray := prog_14_method_84_code
def yX12_takeBack : MethodName := ⟨RX12, "takeBack", "(I)V"⟩
abbrev cX12_standsBehind : ByteArray := prog_14_method_85_code
def yX12_standsBehind : MethodName := ⟨RX12, "standsBehind", "(II)I"⟩
abbrev cX12_behind : ByteArray := prog_14_method_86_code
def yX12_behind : MethodName := ⟨RX12, "behind", "(II)I"⟩
abbrev cX12_soonestOf : ByteArray := prog_14_method_87_code
def yX12_soonestOf : MethodName := ⟨RX12, "soonestOf", "(II)I"⟩
abbrev cX12_soonest : ByteArray := prog_14_method_88_code
def yX12_soonest : MethodName := ⟨RX12, "soonest", "(II)I"⟩
abbrev cX12_stop : ByteArray := prog_14_method_89_code
def yX12_stop : MethodName := ⟨RX12, "stop", "(II)I"⟩
abbrev cX12_best : ByteArray := prog_14_method_90_code
def yX12_best : MethodName := ⟨RX12, "best", "(I)I"⟩
abbrev cX12_nextOf : ByteArray := prog_14_method_91_code
def yX12_nextOf : MethodName := ⟨RX12, "nextOf", "(II)I"⟩
abbrev cX12_byTurns : ByteArray := prog_14_method_92_code
def yX12_byTurns : MethodName := ⟨RX12, "byTurns", "(III)I"⟩
abbrev cX12_tryRow : ByteArray := prog_14_method_93_code
def yX12_tryRow : MethodName := ⟨RX12, "tryRow", "(III)V"⟩
abbrev cX12_row : ByteArray := prog_14_method_94_code
def yX12_row : MethodName := ⟨RX12, "row", "(I)I"⟩
abbrev cX12_lasts : ByteArray := prog_14_method_95_code
def yX12_lasts : MethodName := ⟨RX12, "lasts", "()I"⟩
abbrev cX12_isUp : ByteArray := prog_14_method_96_code
def yX12_isUp : MethodName := ⟨RX12, "isUp", "(II)Z"⟩
abbrev cX12_holds : ByteArray := prog_14_method_97_code
def yX12_holds : MethodName := ⟨RX12, "holds", "(I)I"⟩
abbrev cX12_seen : ByteArray := prog_14_method_98_code
def yX12_seen : MethodName := ⟨RX12, "seen", "(IIIZ)I"⟩
abbrev cX12_morning : ByteArray := prog_14_method_99_code
def yX12_morning : MethodName := ⟨RX12, "morning", "(III)I"⟩
abbrev cX12_isYolk : ByteArray := prog_14_method_100_code
def yX12_isYolk : MethodName := ⟨RX12, "isYolk", "(I)Z"⟩
abbrev cX12_fits : ByteArray := prog_14_method_101_code
def yX12_fits : MethodName := ⟨RX12, "fits", "(I)I"⟩
abbrev cX12_probe : ByteArray := prog_14_method_102_code
def yX12_probe : MethodName := ⟨RX12, "probe", "(II)I"⟩
abbrev cX12_gameOf : ByteArray := prog_14_method_103_code
def yX12_gameOf : MethodName := ⟨RX12, "gameOf", "(IIIII)I"⟩
abbrev cX12_areTwo : ByteArray := prog_14_method_104_code
def yX12_areTwo : MethodName := ⟨RX12, "areTwo", "(II)Z"⟩
abbrev cX12_game : ByteArray := prog_14_method_105_code
def yX12_game : MethodName := ⟨RX12, "game", "(IIIII)I"⟩
abbrev cX12_isRest : ByteArray := prog_14_method_106_code
def yX12_isRest : MethodName := ⟨RX12, "isRest", "(IIII)Z"⟩
abbrev cX12_rests : ByteArray := prog_14_method_107_code
def yX12_rests : MethodName := ⟨RX12, "rests", "(III)I"⟩
abbrev cX12_oddsFrom : ByteArray := prog_14_method_108_code
def yX12_oddsFrom : MethodName := ⟨RX12, "oddsFrom", "(IIIII)I"⟩
abbrev cX12_odds : ByteArray := prog_14_method_109_code
def yX12_odds : MethodName := ⟨RX12, "odds", "(III)I"⟩
abbrev cX12_shares : ByteArray := prog_14_method_110_code
def yX12_shares : MethodName := ⟨RX12, "shares", "(II)I"⟩
abbrev cX12_topMinister : ByteArray := prog_14_method_111_code
def yX12_topMinister : MethodName := ⟨RX12, "topMinister", "(I)I"⟩
abbrev cX12_topCook : ByteArray := prog_14_method_112_code
def yX12_topCook : MethodName := ⟨RX12, "topCook", "(Z)I"⟩
abbrev cX12_could : ByteArray := prog_14_method_113_code
def yX12_could : MethodName := ⟨RX12, "could", "()I"⟩
abbrev cX12_doors : ByteArray := prog_14_method_114_code
def yX12_doors : MethodName := ⟨RX12, "doors", "()I"⟩
abbrev cX12_most : ByteArray := prog_14_method_115_code
def yX12_most : MethodName := ⟨RX12, "most", "(I)I"⟩
abbrev cX12_ahead : ByteArray := prog_14_method_116_code
def yX12_ahead : MethodName := ⟨RX12, "ahead", "(I)I"⟩
abbrev cX12_image : ByteArray := prog_14_method_117_code
def yX12_image : MethodName := ⟨RX12, "image", "()I"⟩
abbrev cX12_back : ByteArray := prog_14_method_118_code
def yX12_back : MethodName := ⟨RX12, "back", "()I"⟩
abbrev cX12_count : ByteArray := prog_14_method_119_code
def yX12_count : MethodName := ⟨RX12, "count", "(I)I"⟩
def RJ6 : String := "java/lang/Integer"
def TJ6 : u_T := fun k => match k with
  | _ => ("", "", "", false)
def tyJ6 : Nat → FieldType := fun k => match k with
  | _ => .int
abbrev wsJ60 : List Cond := u_ws RJ6 TJ6 0
theorem nmJ6 : ∀ a, a < 0 → ∀ b, b < 0 → a ≠ b → (TJ6 a).2.1 ≠ (TJ6 b).2.1 := by decide +kernel
theorem tyJ6_ok : ∀ k, k < 0 → parseFieldDescriptor (TJ6 k).2.2.1 = some (tyJ6 k) := by decide +kernel
abbrev cJ6_numberOfTrailingZeros_0f7a4 : ByteArray := prog_18_method_48_code
def yJ6_numberOfTrailingZeros_0f7a4 : MethodName := ⟨RJ6, "numberOfTrailingZeros", "(I)I"⟩
abbrev cJ6_bitCount_0f7a4 : ByteArray := prog_18_method_49_code
def yJ6_bitCount_0f7a4 : MethodName := ⟨RJ6, "bitCount", "(I)I"⟩
def RJ9 : String := "java/lang/Math"
def TJ9 : u_T := fun k => match k with
  | _ => ("", "", "", false)
def tyJ9 : Nat → FieldType := fun k => match k with
  | _ => .int
abbrev wsJ90 : List Cond := u_ws RJ9 TJ9 0
theorem nmJ9 : ∀ a, a < 0 → ∀ b, b < 0 → a ≠ b → (TJ9 a).2.1 ≠ (TJ9 b).2.1 := by decide +kernel
theorem tyJ9_ok : ∀ k, k < 0 → parseFieldDescriptor (TJ9 k).2.2.1 = some (tyJ9 k) := by decide +kernel
abbrev cJ9_floorMod_7cf53 : ByteArray := prog_19_method_50_code
def yJ9_floorMod_7cf53 : MethodName := ⟨RJ9, "floorMod", "(II)I"⟩
abbrev cJ9_abs_0f7a4 : ByteArray := prog_19_method_59_code
def yJ9_abs_0f7a4 : MethodName := ⟨RJ9, "abs", "(I)I"⟩
abbrev cJ9_max_7cf53 : ByteArray := prog_19_method_65_code
def yJ9_max_7cf53 : MethodName := ⟨RJ9, "max", "(II)I"⟩
abbrev cJ9_max_f86c9 : ByteArray := prog_19_method_66_code
def yJ9_max_f86c9 : MethodName := ⟨RJ9, "max", "(JJ)J"⟩
abbrev cJ9_min_7cf53 : ByteArray := prog_19_method_69_code
def yJ9_min_7cf53 : MethodName := ⟨RJ9, "min", "(II)I"⟩
abbrev cJ9_min_f86c9 : ByteArray := prog_19_method_70_code
def yJ9_min_f86c9 : MethodName := ⟨RJ9, "min", "(JJ)J"⟩
def RJ0 : String := "java/lang/String"
def TJ0 : u_T := fun k => match k with
  | _ => ("", "", "", false)
def tyJ0 : Nat → FieldType := fun k => match k with
  | _ => .int
abbrev wsJ00 : List Cond := u_ws RJ0 TJ0 0
theorem nmJ0 : ∀ a, a < 0 → ∀ b, b < 0 → a ≠ b → (TJ0 a).2.1 ≠ (TJ0 b).2.1 := by decide +kernel
theorem tyJ0_ok : ∀ k, k < 0 → parseFieldDescriptor (TJ0 k).2.2.1 = some (tyJ0 k) := by decide +kernel
def RJ10 : String := "java/lang/System"
def TJ10 : u_T := fun k => match k with
  | _ => ("", "", "", false)
def tyJ10 : Nat → FieldType := fun k => match k with
  | _ => .int
abbrev wsJ100 : List Cond := u_ws RJ10 TJ10 0
theorem nmJ10 : ∀ a, a < 0 → ∀ b, b < 0 → a ≠ b → (TJ10 a).2.1 ≠ (TJ10 b).2.1 := by decide +kernel
theorem tyJ10_ok : ∀ k, k < 0 → parseFieldDescriptor (TJ10 k).2.2.1 = some (tyJ10 k) := by decide +kernel
def RJ7 : String := "java/util/Arrays"
def TJ7 : u_T := fun k => match k with
  | _ => ("", "", "", false)
def tyJ7 : Nat → FieldType := fun k => match k with
  | _ => .int
abbrev wsJ70 : List Cond := u_ws RJ7 TJ7 0
theorem nmJ7 : ∀ a, a < 0 → ∀ b, b < 0 → a ≠ b → (TJ7 a).2.1 ≠ (TJ7 b).2.1 := by decide +kernel
theorem tyJ7_ok : ∀ k, k < 0 → parseFieldDescriptor (TJ7 k).2.2.1 = some (tyJ7 k) := by decide +kernel
abbrev cJ7_fill_53178 : ByteArray := prog_24_method_103_code
def yJ7_fill_53178 : MethodName := ⟨RJ7, "fill", "([II)V"⟩
abbrev cJ7_copyOf_59c91 : ByteArray := prog_24_method_123_code
def yJ7_copyOf_59c91 : MethodName := ⟨RJ7, "copyOf", "([II)[I"⟩
end
section
/-! A small machine over a memory of plain functions: what it runs, the real one runs (04). Shapes: an object of class ci, or an array (type, length). -/
abbrev mmSh : Type := Nat ⊕ (Nat × Nat)
/-- shapes, how many cells, how many slots, ints, longs, references -/
abbrev mmM : Type := (Nat → mmSh) × Nat × Nat × (Nat → Nat → Int32) × (Nat → Nat → Int64) × (Nat → Nat → Option Nat)
abbrev mmL : Type := List (Option Value)
abbrev mmR : Type := Option Value × mmM
/-- pc, instruction, length, three numbers, a constant, a switch's keys -/
abbrev mmE : Type := Nat × Instr × Nat × Nat × Nat × Nat × Value × List (Int32 × Nat)
def mm_up {α : Type} (f : Nat → Nat → α) (a k : Nat) (v : α) : Nat → Nat → α := fun b j => if b = a then (if j = k then v else f b j) else f b j
def mm_row {α : Type} (f : Nat → Nat → α) (a : Nat) (r : Nat → α) : Nat → Nat → α := fun b => if b = a then r else f b
def mm_ups (f : Nat → mmSh) (a : Nat) (v : mmSh) : Nat → mmSh := fun b => if b = a then v else f b
abbrev mm_sh (M : mmM) : Nat → mmSh := M.1
abbrev mm_n (M : mmM) : Nat := M.2.1
abbrev mm_z (M : mmM) : Nat := M.2.2.1
abbrev mm_I (M : mmM) : Nat → Nat → Int32 := M.2.2.2.1
abbrev mm_J (M : mmM) : Nat → Nat → Int64 := M.2.2.2.2.1
abbrev mm_P (M : mmM) : Nat → Nat → Option Nat := M.2.2.2.2.2
abbrev mm_wI (M : mmM) (a k : Nat) (v : Int32) : mmM := (M.1, M.2.1, M.2.2.1, mm_up M.2.2.2.1 a k v, M.2.2.2.2.1, M.2.2.2.2.2)
abbrev mm_wJ (M : mmM) (a k : Nat) (v : Int64) : mmM := (M.1, M.2.1, M.2.2.1, M.2.2.2.1, mm_up M.2.2.2.2.1 a k v, M.2.2.2.2.2)
abbrev mm_wP (M : mmM) (a k : Nat) (v : Option Nat) : mmM := (M.1, M.2.1, M.2.2.1, M.2.2.2.1, M.2.2.2.2.1, mm_up M.2.2.2.2.2 a k v)
abbrev mm_wR (M : mmM) (a : Nat) (r : Nat → Int32) : mmM := (M.1, M.2.1, M.2.2.1, mm_row M.2.2.2.1 a r, M.2.2.2.2.1, M.2.2.2.2.2)
/-- a new cell of a shape and so many slots, all 0 -/
abbrev mm_new (M : mmM) (s : mmSh) (w : Nat) : mmM := (mm_ups M.1 M.2.1 s, M.2.1 + 1, M.2.2.1 + w, mm_row M.2.2.2.1 M.2.1 (fun _ => 0), mm_row M.2.2.2.2.1 M.2.1 (fun _ => 0), mm_row M.2.2.2.2.2 M.2.1 (fun _ => none))
def mm_rv (r : Option Nat) : Value := match r with
  | some a => .ref a
  | none => .null
def mm_obj (s : mmSh) (ci : Nat) : Bool := match s with
  | .inl c => Nat.beq c ci
  | .inr _ => false
def mm_arr (s : mmSh) (ty : Nat) : Option Nat := match s with
  | .inl _ => none
  | .inr q => cond (Nat.beq q.1 ty) (some q.2) none
def mm_inb (i : Int32) (n : Nat) : Bool := cond (decide (i < 0)) false (Nat.blt i.toNatClampNeg n)
def mm_pI (K : List Value) (f : Int32 → List Value → Option mmR) : Option mmR := match K with
  | .int x :: r => f x r
  | _ => none
def mm_pII (K : List Value) (f : Int32 → Int32 → List Value → Option mmR) : Option mmR := match K with
  | .int y :: .int x :: r => f x y r
  | _ => none
def mm_pJ (K : List Value) (f : Int64 → List Value → Option mmR) : Option mmR := match K with
  | .long x :: r => f x r
  | _ => none
def mm_pJJ (K : List Value) (f : Int64 → Int64 → List Value → Option mmR) : Option mmR := match K with
  | .long y :: .long x :: r => f x y r
  | _ => none
def mm_pJI (K : List Value) (f : Int64 → Int32 → List Value → Option mmR) : Option mmR := match K with
  | .int y :: .long x :: r => f x y r
  | _ => none
def mm_asR (v : Value) (f : Nat → Option mmR) : Option mmR := match v with
  | .ref a => f a
  | _ => none
def mm_asN (v : Value) (f : Option Nat → Option mmR) : Option mmR := match v with
  | .ref a => f (some a)
  | .null => f none
  | _ => none
def mm_pR (K : List Value) (f : Nat → List Value → Option mmR) : Option mmR := match K with
  | v :: r => mm_asR v fun a => f a r
  | _ => none
def mm_pRI (K : List Value) (f : Nat → Int32 → List Value → Option mmR) : Option mmR := match K with
  | .int i :: v :: r => mm_asR v fun a => f a i r
  | _ => none
def mm_pRII (K : List Value) (f : Nat → Int32 → Int32 → List Value → Option mmR) : Option mmR := match K with
  | .int x :: .int i :: v :: r => mm_asR v fun a => f a i x r
  | _ => none
def mm_pRIJ (K : List Value) (f : Nat → Int32 → Int64 → List Value → Option mmR) : Option mmR := match K with
  | .long x :: .int i :: v :: r => mm_asR v fun a => f a i x r
  | _ => none
def mm_pRIR (K : List Value) (f : Nat → Int32 → Nat → List Value → Option mmR) : Option mmR := match K with
  | w :: .int i :: v :: r => mm_asR v fun a => mm_asR w fun x => f a i x r
  | _ => none
def mm_pN (K : List Value) (f : Option Nat → List Value → Option mmR) : Option mmR := match K with
  | v :: r => mm_asN v fun x => f x r
  | _ => none
def mm_c1 (v : Value) : Bool := match v with
  | .int _ => true
  | .ref _ => true
  | .null => true
  | _ => false
def mm_p1 (K : List Value) (f : Value → List Value → Option mmR) : Option mmR := match K with
  | v :: r => cond (mm_c1 v) (f v r) none
  | _ => none
def mm_p11 (K : List Value) (f : Value → Value → List Value → Option mmR) : Option mmR := match K with
  | w :: v :: r => cond (mm_c1 w && mm_c1 v) (f v w r) none
  | _ => none
def mm_ld (L : mmL) (i : Nat) (f : Value → Option mmR) : Option mmR := match L[i]? with
  | some (some v) => f v
  | _ => none
def mm_isI (v : Value) (f : Option mmR) : Option mmR := match v with
  | .int _ => f
  | _ => none
def mm_isJ (v : Value) (f : Option mmR) : Option mmR := match v with
  | .long _ => f
  | _ => none
def mm_isA (v : Value) (f : Option mmR) : Option mmR := match v with
  | .ref _ => f
  | .null => f
  | _ => none
/-- the place ahead of i forgets a long -/
def mm_clr (L : mmL) (i : Nat) : mmL := match i with
  | 0 => L
  | j + 1 => match L[j]? with
    | some (some (.long _)) => L.set j none
    | some (some (.double _)) => L.set j none
    | _ => L
def mm_st1 (L : mmL) (i : Nat) (v : Value) : mmL := (mm_clr L i).set i (some v)
def mm_st2 (L : mmL) (i : Nat) (v : Value) : mmL := ((mm_clr L i).set i (some v)).set (i + 1) none
/-- n values off the stack, the deepest first -/
noncomputable def mm_pop (n : Nat) : List Value → List Value → Option (List Value × List Value) :=
  Nat.rec (fun K acc => some (acc, K)) (fun _ ih K acc => match K with
    | v :: r => ih r (v :: acc)
    | [] => none) n
def mm_cat (K : List Value) : Nat := (K.map fun v => v.category).sum
def mm_aV (q : Option mmR) : Option mmM := q.bind fun p => match p.1 with
  | none => some p.2
  | _ => none
def mm_aI (q : Option mmR) : Option (Int32 × mmM) := q.bind fun p => match p.1 with
  | some (.int x) => some (x, p.2)
  | _ => none
def mm_aJ (q : Option mmR) : Option (Int64 × mmM) := q.bind fun p => match p.1 with
  | some (.long x) => some (x, p.2)
  | _ => none
def mm_aR (q : Option mmR) : Option (Nat × mmM) := q.bind fun p => match p.1 with
  | some (.ref x) => some (x, p.2)
  | _ => none
abbrev mmC : Type := Nat → List Value → mmM → Option mmR
abbrev mmK : Type := mmL → List Value → mmM → Option mmR
abbrev mmG : Type := Nat → mmK
/-- what is fixed of the memory: up to which cell, their shapes, their references that never change, and the tables' (cells 0 to 15) numbers -/
abbrev mmY : Type := Nat × (Nat → mmSh) × (Nat → Nat → Option (Option Nat)) × (Nat → Nat → Int32)
def mm_s (Y : mmY) (M : mmM) (a : Nat) : mmSh := cond (Nat.blt a Y.1) (Y.2.1 a) (M.1 a)
def mm_fx (Y : mmY) (a k : Nat) : Option (Option Nat) := cond (Nat.blt a Y.1) (Y.2.2.1 a k) none
def mm_p (Y : mmY) (M : mmM) (a k : Nat) : Option Nat := match mm_fx Y a k with
  | some r => r
  | none => M.2.2.2.2.2 a k
def mm_free (Y : mmY) (a k : Nat) : Bool := match mm_fx Y a k with
  | some _ => false
  | none => true
def mm_i (Y : mmY) (M : mmM) (a k : Nat) : Int32 := cond (Nat.blt a 16) (Y.2.2.2 a k) (M.2.2.2.1 a k)
/-- what an answer of kind c does: 0 nothing, 1 an int, 2 a long, 3 a reference -/
def mm_ans (c : Nat) (q : Option mmR) (L : mmL) (r : List Value) (k : mmK) : Option mmR := match c with
  | 0 => (mm_aV q).bind fun m => k L r m
  | 1 => (mm_aI q).bind fun p => k L (.int p.1 :: r) p.2
  | 2 => (mm_aJ q).bind fun p => k L (.long p.1 :: r) p.2
  | _ => (mm_aR q).bind fun p => k L (.ref p.1 :: r) p.2
/-- a method of its own object: n arguments and it -/
noncomputable def mm_inv (Y : mmY) (call : mmC) (j n c ci : Nat) (L : mmL) (K : List Value) (M : mmM) (k : mmK) : Option mmR :=
  (mm_pop n K []).bind fun p => mm_pR p.2 fun o r => cond (mm_obj (mm_s Y M o) ci && Nat.ble (mm_cat r) 8) (mm_ans c (call j (.ref o :: p.1) M) L r k) none
noncomputable def mm_invS (call : mmC) (j n c : Nat) (L : mmL) (K : List Value) (M : mmM) (k : mmK) : Option mmR :=
  (mm_pop n K []).bind fun p => cond (Nat.ble (mm_cat p.2) 8) (mm_ans c (call j p.1 M) L p.2 k) none
/-- System.arraycopy of ints (type ty: 0 ints) -/
def mm_copy (Y : mmY) (M : mmM) (K : List Value) (f : mmM → List Value → Option mmR) : Option mmR := match K with
  | .int n :: .int dp :: v :: .int sp :: w :: r => mm_asR v fun a => mm_asR w fun b =>
    (mm_arr (mm_s Y M b) 0).bind fun nb => (mm_arr (mm_s Y M a) 0).bind fun na =>
      cond (Nat.ble (mm_cat r) 8 && (Nat.ble 16 b && (Nat.ble 16 a && (!decide (n < 0) && (!decide (dp < 0) && (!decide (sp < 0) && (Nat.ble (sp.toNatClampNeg + n.toNatClampNeg) nb && Nat.ble (dp.toNatClampNeg + n.toNatClampNeg) na)))))))
        (f (mm_wR M a (va_cpy (M.2.2.2.1 b) (M.2.2.2.1 a) sp.toNatClampNeg dp.toNatClampNeg n.toNatClampNeg)) r) none
  | _ => none
/-- the sizes of the classes' objects -/
def mm_size : List Nat := [11, 1, 2, 3, 11, 1, 3, 5, 5, 3, 2, 19, 46]
def mm_br (c : ClassFile.Cond) (x y : Int32) (t f : Option mmR) : Option mmR := match c with
  | .eq => if x = y then t else f
  | .ne => if x = y then f else t
  | .lt => if x < y then t else f
  | .ge => if y ≤ x then t else f
  | .gt => if y < x then t else f
  | .le => if x ≤ y then t else f
/-- a switch: keys and targets one by one -/
noncomputable def mm_sw (x : Int32) (d : Nat) (g : Nat → Option mmR) (l : List (Int32 × Nat)) : Option mmR :=
  List.rec (g d) (fun q _ ih => if x = q.1 then g q.2 else ih) l
/-- what one instruction does: k goes on behind it, g goes elsewhere -/
noncomputable def mm_sem (Y : mmY) (call : mmC) (i : Instr) (a b c : Nat) (v : Value) (w : List (Int32 × Nat)) (L : mmL) (K : List Value) (M : mmM) (k : mmK) (g : mmG) : Option mmR := match i with
  | .iconst _ => k L (v :: K) M
  | .bipush _ => k L (v :: K) M
  | .sipush _ => k L (v :: K) M
  | .lconst _ => k L (v :: K) M
  | .ldc _ => k L (v :: K) M
  | .ldc_w _ => k L (v :: K) M
  | .ldc2_w _ => k L (v :: K) M
  | .iload_n _ => mm_ld L a fun x => mm_isI x (k L (x :: K) M)
  | .iload _ => mm_ld L a fun x => mm_isI x (k L (x :: K) M)
  | .lload_n _ => mm_ld L a fun x => mm_isJ x (k L (x :: K) M)
  | .lload _ => mm_ld L a fun x => mm_isJ x (k L (x :: K) M)
  | .aload_n _ => mm_ld L a fun x => mm_isA x (k L (x :: K) M)
  | .aload _ => mm_ld L a fun x => mm_isA x (k L (x :: K) M)
  | .istore_n _ => mm_pI K fun x r => k (mm_st1 L a (.int x)) r M
  | .istore _ => mm_pI K fun x r => k (mm_st1 L a (.int x)) r M
  | .lstore_n _ => mm_pJ K fun x r => k (mm_st2 L a (.long x)) r M
  | .lstore _ => mm_pJ K fun x r => k (mm_st2 L a (.long x)) r M
  | .astore_n _ => mm_pN K fun x r => k (mm_st1 L a (mm_rv x)) r M
  | .astore _ => mm_pN K fun x r => k (mm_st1 L a (mm_rv x)) r M
  | .iinc _ _ => mm_ld L a fun x => mm_pI [x] fun y _ => mm_pI [v] fun n _ => k (mm_st1 L a (.int (y + n))) K M
  | .iadd => mm_pII K fun x y r => k L (.int (x + y) :: r) M
  | .isub => mm_pII K fun x y r => k L (.int (x - y) :: r) M
  | .imul => mm_pII K fun x y r => k L (.int (x * y) :: r) M
  | .iand => mm_pII K fun x y r => k L (.int (x &&& y) :: r) M
  | .ior => mm_pII K fun x y r => k L (.int (x ||| y) :: r) M
  | .ixor => mm_pII K fun x y r => k L (.int (x ^^^ y) :: r) M
  | .idiv => mm_pII K fun x y r => if y = 0 then none else k L (.int (x / y) :: r) M
  | .irem => mm_pII K fun x y r => if y = 0 then none else k L (.int (x - x / y * y) :: r) M
  | .ineg => mm_pI K fun x r => k L (.int (-x) :: r) M
  | .ishl => mm_pII K fun x y r => k L (.int (x <<< (y &&& 31)) :: r) M
  | .ishr => mm_pII K fun x y r => k L (.int (x >>> (y &&& 31)) :: r) M
  | .iushr => mm_pII K fun x y r => k L (.int (x.toUInt32 >>> (y.toUInt32 &&& Int32.toUInt32 31)).toInt32 :: r) M
  | .ladd => mm_pJJ K fun x y r => k L (.long (x + y) :: r) M
  | .lsub => mm_pJJ K fun x y r => k L (.long (x - y) :: r) M
  | .lmul => mm_pJJ K fun x y r => k L (.long (x * y) :: r) M
  | .land => mm_pJJ K fun x y r => k L (.long (x &&& y) :: r) M
  | .lor => mm_pJJ K fun x y r => k L (.long (x ||| y) :: r) M
  | .ldiv => mm_pJJ K fun x y r => if y = 0 then none else k L (.long (x / y) :: r) M
  | .lrem => mm_pJJ K fun x y r => if y = 0 then none else k L (.long (x - x / y * y) :: r) M
  | .lcmp => mm_pJJ K fun x y r => k L (.int (lg_cmp x y) :: r) M
  | .lshl => mm_pJI K fun x y r => k L (.long (x <<< (y.toInt64 &&& 63)) :: r) M
  | .lushr => mm_pJI K fun x y r => k L (.long (x.toUInt64 >>> (y.toInt64.toUInt64 &&& Int64.toUInt64 63)).toInt64 :: r) M
  | .i2l => mm_pI K fun x r => k L (.long x.toInt64 :: r) M
  | .l2i => mm_pJ K fun x r => k L (.int x.toInt32 :: r) M
  | .dup => mm_p1 K fun x r => k L (x :: x :: r) M
  | .pop => mm_p1 K fun _ r => k L r M
  | .dup2 => mm_p11 K fun x y r => k L (y :: x :: y :: x :: r) M
  | .goto _ => g a L K M
  | .ifCond q _ => mm_pI K fun x r => mm_br q x 0 (g a L r M) (k L r M)
  | .if_icmp q _ => mm_pII K fun x y r => mm_br q x y (g a L r M) (k L r M)
  | .ifnull _ => mm_pN K fun x r => match x with
    | none => g a L r M
    | some _ => k L r M
  | .ifnonnull _ => mm_pN K fun x r => match x with
    | none => k L r M
    | some _ => g a L r M
  | .tableswitch _ _ _ _ => mm_pI K fun x r => mm_sw x a (fun t => g t L r M) w
  | .lookupswitch _ _ => mm_pI K fun x r => mm_sw x a (fun t => g t L r M) w
  | .ireturn => mm_pI K fun x r => match r with
    | [] => match b with
      | 0 => some (some (.int x), M)
      | _ => if x = 0 then some (some (.int 0), M) else if x = 1 then some (some (.int 1), M) else none
    | _ => none
  | .lreturn => mm_pJ K fun x r => match r with
    | [] => some (some (.long x), M)
    | _ => none
  | .areturn => mm_pR K fun x r => match r with
    | [] => some (some (.ref x), M)
    | _ => none
  | .return_ => match K with
    | [] => some (none, M)
    | _ => none
  | .getfield _ => mm_pR K fun o r => cond (mm_obj (mm_s Y M o) a) (match c % 4 with
    | 0 => k L (.int (M.2.2.2.1 o b) :: r) M
    | 3 => k L (.int (M.2.2.2.1 o b) :: r) M
    | 1 => k L (.long (M.2.2.2.2.1 o b) :: r) M
    | _ => k L (mm_rv (mm_p Y M o b) :: r) M) none
  | .putfield _ => match c % 4 with
    | 0 => mm_pI K fun x q => mm_pR q fun o r => cond (mm_obj (mm_s Y M o) a) (k L r (mm_wI M o b x)) none
    | 3 => mm_pI K fun x q => mm_pR q fun o r => cond (mm_obj (mm_s Y M o) a) (if x = 0 then k L r (mm_wI M o b 0) else if x = 1 then k L r (mm_wI M o b 1) else none) none
    | 1 => mm_pJ K fun x q => mm_pR q fun o r => cond (mm_obj (mm_s Y M o) a) (k L r (mm_wJ M o b x)) none
    | _ => mm_pR K fun x q => mm_pR q fun o r => cond (mm_obj (mm_s Y M o) a && mm_free Y o b) (k L r (mm_wP M o b (some x))) none
  | .getstatic _ => k L (.ref a :: K) M
  | .arraylength => mm_pR K fun o r => match mm_s Y M o with
    | .inl _ => none
    | .inr q => cond (Nat.ble (q.1 + 1) 6 && (!Nat.beq q.1 2 || Nat.blt o 16)) (k L (.int (Int32.ofNat q.2) :: r) M) none
  | .iaload => mm_pRI K fun o i r => (mm_arr (mm_s Y M o) 0).bind fun n => cond (mm_inb i n) (k L (.int (mm_i Y M o i.toNatClampNeg) :: r) M) none
  | .baload => mm_pRI K fun o i r => (mm_arr (mm_s Y M o) 1).bind fun n => cond (mm_inb i n) (k L (.int (mm_i Y M o i.toNatClampNeg) :: r) M) none
  | .caload => mm_pRI K fun o i r => (mm_arr (mm_s Y M o) 2).bind fun n => cond (mm_inb i n && Nat.blt o 16) (k L (.int (mm_i Y M o i.toNatClampNeg) :: r) M) none
  | .laload => mm_pRI K fun o i r => (mm_arr (mm_s Y M o) 3).bind fun n => cond (mm_inb i n && Nat.ble 16 o) (k L (.long (M.2.2.2.2.1 o i.toNatClampNeg) :: r) M) none
  | .aaload => mm_pRI K fun o i r => (mm_arr (mm_s Y M o) (4 + a)).bind fun n => cond (mm_inb i n && Nat.ble 16 o) (k L (mm_rv (mm_p Y M o i.toNatClampNeg) :: r) M) none
  | .iastore => mm_pRII K fun o i x r => (mm_arr (mm_s Y M o) 0).bind fun n => cond (mm_inb i n && Nat.ble 16 o) (k L r (mm_wI M o i.toNatClampNeg x)) none
  | .bastore => mm_pRII K fun o i x r => (mm_arr (mm_s Y M o) 1).bind fun n => cond (mm_inb i n && Nat.ble 16 o) (k L r (mm_wI M o i.toNatClampNeg (vp_nar .boolean x))) none
  | .lastore => mm_pRIJ K fun o i x r => (mm_arr (mm_s Y M o) 3).bind fun n => cond (mm_inb i n && Nat.ble 16 o) (k L r (mm_wJ M o i.toNatClampNeg x)) none
  | .aastore => mm_pRIR K fun o i x r => (mm_arr (mm_s Y M o) (4 + a)).bind fun n => cond (mm_inb i n && (Nat.ble 16 o && (Nat.ble 16 x && mm_free Y o i.toNatClampNeg) && match a with
    | 0 => mm_obj (mm_s Y M x) 0
    | _ => match mm_arr (mm_s Y M x) 0 with
      | some _ => true
      | none => false)) (k L r (mm_wP M o i.toNatClampNeg (some x))) none
  | .newarray _ => mm_pI K fun x r => cond (Nat.ble Y.1 M.2.1 && (!decide (x < 0) && Nat.ble x.toNatClampNeg 65536)) (k L (.ref M.2.1 :: r) (mm_new M (.inr (a, x.toNatClampNeg)) x.toNatClampNeg)) none
  | .anewarray _ => mm_pI K fun x r => cond (Nat.ble Y.1 M.2.1 && (!decide (x < 0) && Nat.ble x.toNatClampNeg 65536)) (k L (.ref M.2.1 :: r) (mm_new M (.inr (4, x.toNatClampNeg)) x.toNatClampNeg)) none
  | .new _ => match mm_size[a]? with
    | some z => cond (Nat.ble Y.1 M.2.1) (k L (.ref M.2.1 :: K) (mm_new M (.inl a) z)) none
    | none => none
  | .invokevirtual _ => mm_inv Y call a b (c % 4) (c / 16) L K M k
  | .invokestatic _ => match (c / 4) % 4 with
    | 2 => mm_copy Y M K fun m r => k L r m
    | _ => mm_invS call a b (c % 4) L K M k
  | .invokespecial _ => match (c / 4) % 4 with
    | 2 => mm_pR K fun _ r => cond (Nat.ble (mm_cat r) 8) (k L r M) none
    | _ => mm_inv Y call a b 0 (c / 16) L K M k
  | _ => none
noncomputable def mm_msk (m : List Bool) (L : mmL) : mmL := List.rec (fun _ => []) (fun b _ ih L => match L with
  | x :: r => cond b x none :: ih r
  | [] => []) m L
/-- the places where it stops and goes on by name: the loops' heads and some joins, with the locals that live there -/
noncomputable def mm_cut (cs : List (Nat × List Bool)) (t : Nat) : Option (List Bool) := List.rec none (fun q _ ih => cond (Nat.beq q.1 t) (some q.2) ih) cs
noncomputable def mm_at (t : Nat) (es : List mmE) : List mmE := List.rec [] (fun e r ih => cond (Nat.beq e.1 t) (e :: r) ih) es
/-- onwards, within the code behind; jumps to a cut, or back, by j -/
noncomputable def mm_ex (Y : mmY) (call : mmC) (cs : List (Nat × List Bool)) (j : mmG) (pf : Nat) : List mmE → mmK :=
  Nat.rec (fun _ _ _ _ => none) (fun _ ih es L K M => match es with
    | [] => none
    | e :: r => mm_sem Y call e.2.1 e.2.2.2.1 e.2.2.2.2.1 e.2.2.2.2.2.1 e.2.2.2.2.2.2.1 e.2.2.2.2.2.2.2 L K M
        (fun L K M => match mm_cut cs (e.1 + e.2.2.1) with
          | some m => j (e.1 + e.2.2.1) (mm_msk m L) K M
          | none => ih (mm_at (e.1 + e.2.2.1) r) L K M)
        (fun t L K M => match mm_cut cs t with
          | some m => j t (mm_msk m L) K M
          | none => ih (mm_at t r) L K M)) pf
/-- from a cut on, with so many cuts left -/
noncomputable def mm_lp (Y : mmY) (call : mmC) (code : List mmE) (cs : List (Nat × List Bool)) (N : Nat) : mmG :=
  Nat.rec (fun _ _ _ _ => none) (fun _ ih t L K M => mm_ex Y call cs ih 1200 (mm_at t code) L K M) N
/-- a method: its code, its cuts, its locals -/
abbrev mmP : Type := List mmE × List (Nat × List Bool) × Nat
def mm_fl (args : List Value) : mmL := match args with
  | [] => []
  | v :: r => match v with
    | .long _ => some v :: none :: mm_fl r
    | .double _ => some v :: none :: mm_fl r
    | _ => some v :: mm_fl r
def mm_ent (n : Nat) (args : List Value) : mmL := mm_fl args ++ List.replicate (n - (mm_fl args).length) none
noncomputable def mm_run (Y : mmY) (prog : List mmP) (N : Nat) (call : mmC) : mmC := fun i args M => match prog[i]? with
  | some q => cond (Nat.ble (mm_cat args) q.2.2) (mm_ex Y call q.2.1 (mm_lp Y call q.1 q.2.1 N) 1200 q.1 (mm_ent q.2.2 args) [] M) none
  | none => none
/-- calls nest at most d deep, each goes by at most N cuts -/
noncomputable def mm_ev (Y : mmY) (prog : List mmP) (N : Nat) (d : Nat) : mmC := Nat.rec (fun _ _ _ => none) (fun _ ih => mm_run Y prog N ih) d
end
section
/-! The small machine's world in the real heap. -/
abbrev mm_cl : List vw_C := [(RX0, TX0, 11), (RX1, TX1, 1), (RX2, TX2, 2), (RX3, TX3, 3), (RX4, TX4, 11), (RX5, TX5, 1), (RX6, TX6, 3), (RX7, TX7, 5), (RX8, TX8, 5), (RX9, TX9, 3), (RX10, TX10, 2), (RX11, TX11, 19), (RX12, TX12, 46)]
abbrev mm_tys0 : List (Nat → FieldType) := [tyX0, tyX1, tyX2, tyX3, tyX4, tyX5, tyX6, tyX7, tyX8, tyX9, tyX10, tyX11, tyX12]
def mm_tyOf (ci : Nat) : Nat → FieldType := mm_tys0.getD ci (fun _ => .int)
noncomputable def mm_gw : List Cond := lw_tbl.filter goodWord
def mm_tk (t : FieldType) : Nat := match t with
  | .int => 0
  | .long => 1
  | .object _ => 2
  | .array _ => 2
  | .boolean => 3
  | _ => 9
theorem mm_tyk : (List.range 13).all (fun ci => (List.range (mm_size.getD ci 0)).all fun k => decide (mm_tk (mm_tyOf ci k) < 4)) = true := by decide +kernel
theorem mm_cl_ok (ci : Nat) (q : vw_C) (h : mm_cl[ci]? = some q) : mm_size[ci]? = some q.2.2 ∧ (∀ k, k < q.2.2 → parseFieldDescriptor (q.2.1 k).2.2.1 = some (mm_tyOf ci k)) ∧ (∀ a, a < q.2.2 → ∀ b, b < q.2.2 → a ≠ b → (q.2.1 a).2.1 ≠ (q.2.1 b).2.1) := by
  have hlt : ci < 13 := (List.getElem?_eq_some_iff.mp h).1
  rcases ci with _ | _ | _ | _ | _ | _ | _ | _ | _ | _ | _ | _ | _ | ci
  · cases h; exact ⟨rfl, tyX0_ok, nmX0⟩
  · cases h; exact ⟨rfl, tyX1_ok, nmX1⟩
  · cases h; exact ⟨rfl, tyX2_ok, nmX2⟩
  · cases h; exact ⟨rfl, tyX3_ok, nmX3⟩
  · cases h; exact ⟨rfl, tyX4_ok, nmX4⟩
  · cases h; exact ⟨rfl, tyX5_ok, nmX5⟩
  · cases h; exact ⟨rfl, tyX6_ok, nmX6⟩
  · cases h; exact ⟨rfl, tyX7_ok, nmX7⟩
  · cases h; exact ⟨rfl, tyX8_ok, nmX8⟩
  · cases h; exact ⟨rfl, tyX9_ok, nmX9⟩
  · cases h; exact ⟨rfl, tyX10_ok, nmX10⟩
  · cases h; exact ⟨rfl, tyX11_ok, nmX11⟩
  · cases h; exact ⟨rfl, tyX12_ok, nmX12⟩
  · omega
def mm_fv (ρ : Nat → Nat) (Y : mmY) (M : mmM) (a : Nat) (t : FieldType) (k : Nat) : Value := match t with
  | .int => .int (M.2.2.2.1 a k)
  | .boolean => .int (M.2.2.2.1 a k)
  | .long => .long (M.2.2.2.2.1 a k)
  | _ => va_rf ((mm_p Y M a k).map ρ)
def mm_fs (ρ : Nat → Nat) (Y : mmY) (M : mmM) (a ci : Nat) : List Value := (List.range (mm_size.getD ci 0)).map fun k => mm_fv ρ Y M a (mm_tyOf ci k) k
def mm_ct (ρ : Nat → Nat) (Y : mmY) (M : mmM) (a ty : Nat) : (Nat → Int32) ⊕ (Nat → Int64) ⊕ (Nat → UInt32) ⊕ (Nat → UInt64) ⊕ (Nat → Option Nat) := match ty with
  | 0 => .inl (M.2.2.2.1 a)
  | 1 => .inl (M.2.2.2.1 a)
  | 2 => .inl (M.2.2.2.1 a)
  | 3 => .inr (.inl (M.2.2.2.2.1 a))
  | _ => .inr (.inr (.inr (.inr fun k => (mm_p Y M a k).map ρ)))
def mm_cell (cA : Nat → ClassId) (ρ : Nat → Nat) (Y : mmY) (M : mmM) (a : Nat) : va_E := match mm_s Y M a with
  | .inl ci => .inr (ci, mm_fs ρ Y M a ci)
  | .inr q => .inl (cA q.1, q.2, mm_ct ρ Y M a q.1)
/-- the cells from 16 on, at their addresses -/
def mm_enc (cA : Nat → ClassId) (ρ : Nat → Nat) (Y : mmY) (M : mmM) : va_W := (List.range (M.2.1 - 16)).map fun j => (ρ (16 + j), mm_cell cA ρ Y M (16 + j))
theorem mm_enc_at {cA : Nat → ClassId} {ρ : Nat → Nat} {Y : mmY} {M : mmM} {a : Nat} (h1 : 16 ≤ a) (h2 : a < M.2.1) : (mm_enc cA ρ Y M)[a - 16]? = some (ρ a, mm_cell cA ρ Y M a) := by
  unfold mm_enc
  rw [List.getElem?_map, List.getElem?_range (by omega)]
  simp only [Option.map_some]
  rw [show 16 + (a - 16) = a by omega]
theorem mm_enc_ext {cA : Nat → ClassId} {ρ ρ' : Nat → Nat} {Y : mmY} {M M' : mmM} (hn : M'.2.1 = M.2.1) (hr : ∀ b, b < M.2.1 → ρ' b = ρ b) (hc : ∀ b, 16 ≤ b → b < M.2.1 → mm_cell cA ρ' Y M' b = mm_cell cA ρ Y M b) : mm_enc cA ρ' Y M' = mm_enc cA ρ Y M := by
  unfold mm_enc
  rw [hn]
  apply List.map_congr_left
  intro j hj
  have := List.mem_range.mp hj
  rw [hr _ (by omega), hc _ (by omega) (by omega)]
theorem mm_enc_set {cA : Nat → ClassId} {ρ : Nat → Nat} {Y : mmY} {M M' : mmM} {a : Nat} {x : va_E} (h1 : 16 ≤ a) (h2 : a < M.2.1) (hn : M'.2.1 = M.2.1) (hx : mm_cell cA ρ Y M' a = x) (hc : ∀ b, 16 ≤ b → b < M.2.1 → b ≠ a → mm_cell cA ρ Y M' b = mm_cell cA ρ Y M b) : (mm_enc cA ρ Y M).set (a - 16) (ρ a, x) = mm_enc cA ρ Y M' := by
  unfold mm_enc
  rw [hn]
  apply List.ext_getElem?
  intro j
  rw [List.getElem?_set, List.getElem?_map, List.length_map, List.length_range]
  by_cases hj : j < M.2.1 - 16
  · rw [List.getElem?_map, List.getElem?_range hj]
    by_cases e : a - 16 = j
    · subst e
      simp only [if_true, hj]
      simp only [Option.map_some]
      rw [show 16 + (a - 16) = a by omega, hx]
    · rw [if_neg e]
      simp only [Option.map_some]
      rw [hc _ (by omega) (by omega) (by omega)]
  · rw [List.getElem?_map, List.getElem?_eq_none (by simp; omega)]
    by_cases e : a - 16 = j
    · omega
    · rw [if_neg e]
      rfl
theorem mm_enc_push {cA : Nat → ClassId} {ρ ρ' : Nat → Nat} {Y : mmY} {M M' : mmM} (h1 : 16 ≤ M.2.1) (hn : M'.2.1 = M.2.1 + 1) (hr : ∀ b, b < M.2.1 → ρ' b = ρ b) (hc : ∀ b, 16 ≤ b → b < M.2.1 → mm_cell cA ρ' Y M' b = mm_cell cA ρ Y M b) : mm_enc cA ρ' Y M' = mm_enc cA ρ Y M ++ [(ρ' M.2.1, mm_cell cA ρ' Y M' M.2.1)] := by
  unfold mm_enc
  rw [hn, show M.2.1 + 1 - 16 = (M.2.1 - 16) + 1 by omega, List.range_succ, List.map_append]
  congr 1
  · apply List.map_congr_left
    intro j hj
    have := List.mem_range.mp hj
    rw [hr _ (by omega), hc _ (by omega) (by omega)]
  · simp only [List.map_cons, List.map_nil]
    rw [show 16 + (M.2.1 - 16) = M.2.1 by omega]
def mm_tr (ρ : Nat → Nat) (v : Value) : Value := match v with
  | .ref a => .ref (ρ a)
  | v => v
def mm_okv (n : Nat) (v : Value) : Prop := match v with
  | .ref a => a < n
  | _ => True
theorem mm_tr_rv {ρ : Nat → Nat} (r : Option Nat) : mm_tr ρ (mm_rv r) = va_rf (r.map ρ) := by cases r <;> rfl
theorem mm_tr_eq {ρ ρ' : Nat → Nat} {n : Nat} {v : Value} (h : mm_okv n v) (hr : ∀ b, b < n → ρ' b = ρ b) : mm_tr ρ' v = mm_tr ρ v := by
  cases v with
  | ref a => simp only [mm_tr]; rw [hr a h]
  | _ => rfl
theorem mm_okv_le {n n' : Nat} {v : Value} (h : mm_okv n v) (hn : n ≤ n') : mm_okv n' v := by
  cases v with
  | ref a => exact Nat.lt_of_lt_of_le h hn
  | _ => trivial
theorem mm_okv_rv {n : Nat} {r : Option Nat} (h : ∀ b, r = some b → b < n) : mm_okv n (mm_rv r) := by
  cases r with
  | none => trivial
  | some a => exact h a rfl
/-- the locals -/
def mm_lc (ρ : Nat → Nat) (n : Nat) (L : mmL) (ls : Array Slot) (nL : Nat) : Prop := ls.size = nL ∧ lv_wf ls ∧ L.length ≤ nL ∧ ∀ (i : Nat) (v : Value), L[i]? = some (some v) → ls[i]? = some (.val (mm_tr ρ v)) ∧ mm_okv n v
def mm_ks (n : Nat) (K : List Value) : Prop := ∀ v ∈ K, mm_okv n v
theorem mm_lc_le {ρ ρ' : Nat → Nat} {n n' : Nat} {L : mmL} {ls : Array Slot} {nL : Nat} (h : mm_lc ρ n L ls nL) (hn : n ≤ n') (hr : ∀ b, b < n → ρ' b = ρ b) : mm_lc ρ' n' L ls nL :=
  ⟨h.1, h.2.1, h.2.2.1, fun i v hv => by
    obtain ⟨h1, h2⟩ := h.2.2.2 i v hv
    exact ⟨by rw [mm_tr_eq h2 hr]; exact h1, mm_okv_le h2 hn⟩⟩
theorem mm_ks_le {n n' : Nat} {K : List Value} (h : mm_ks n K) (hn : n ≤ n') : mm_ks n' K := fun v hv => mm_okv_le (h v hv) hn
theorem mm_ks_tr {ρ ρ' : Nat → Nat} {n : Nat} {K : List Value} (h : mm_ks n K) (hr : ∀ b, b < n → ρ' b = ρ b) : K.map (mm_tr ρ') = K.map (mm_tr ρ) := List.map_congr_left fun v hv => mm_tr_eq (h v hv) hr
/-- as a list of places, for the kit's rows -/
def mm_al (ρ : Nat → Nat) (L : mmL) : List (Nat × Value) := (List.range L.length).filterMap fun i => match L[i]? with
  | some (some v) => some (i, mm_tr ρ v)
  | _ => none
theorem mm_al_mem {ρ : Nat → Nat} {L : mmL} {i : Nat} {w : Value} : (i, w) ∈ mm_al ρ L ↔ ∃ v, L[i]? = some (some v) ∧ w = mm_tr ρ v := by
  unfold mm_al
  rw [List.mem_filterMap]
  constructor
  · rintro ⟨j, hj, h⟩
    split at h
    · next v hv =>
      cases h
      exact ⟨v, hv, rfl⟩
    · cases h
  · rintro ⟨v, hv, rfl⟩
    refine ⟨i, List.mem_range.mpr (List.getElem?_eq_some_iff.mp hv).1, ?_⟩
    rw [hv]
theorem mm_lc_has {ρ : Nat → Nat} {n : Nat} {L : mmL} {ls : Array Slot} {nL : Nat} (h : mm_lc ρ n L ls nL) : lv_has ls nL (mm_al ρ L) := by
  refine ⟨h.1, h.2.1, ?_⟩
  rintro ⟨i, w⟩ hq
  obtain ⟨v, hv, rfl⟩ := mm_al_mem.mp hq
  exact (h.2.2.2 i v hv).1
theorem mm_clr_len (L : mmL) (i : Nat) : (mm_clr L i).length = L.length := by
  unfold mm_clr
  split
  · rfl
  · split <;> simp
theorem mm_clr_at {L : mmL} {i j : Nat} {v : Value} (h : (mm_clr L i)[j]? = some (some v)) : L[j]? = some (some v) ∧ ¬ (j + 1 = i ∧ v.category = 2) := by
  unfold mm_clr at h
  split at h
  · exact ⟨h, fun q => by omega⟩
  · next k =>
    split at h
    · next x hx =>
      rw [List.getElem?_set] at h
      by_cases e : k = j
      · rw [if_pos e] at h
        split at h <;> cases h
      · rw [if_neg e] at h
        exact ⟨h, fun q => e (by omega)⟩
    · next x hx =>
      rw [List.getElem?_set] at h
      by_cases e : k = j
      · rw [if_pos e] at h
        split at h <;> cases h
      · rw [if_neg e] at h
        exact ⟨h, fun q => e (by omega)⟩
    · next h1 h2 =>
      refine ⟨h, fun q => ?_⟩
      have e : k = j := by omega
      subst e
      cases v with
      | long x => exact h1 x h
      | double x => exact h2 x h
      | _ => simp [Value.category] at q
theorem mm_st1_ok {ρ : Nat → Nat} {n : Nat} {L : mmL} {ls ls' : Array Slot} {nL i : Nat} {v : Value} (h : mm_lc ρ n L ls nL) (hv : mm_okv n v) (hl : lv_has ls' nL ((i, mm_tr ρ v) :: (mm_al ρ L).filter (fun q => !(q.1 == i) && !(q.1 + 1 == i && q.2.category == 2)))) : mm_lc ρ n (mm_st1 L i v) ls' nL := by
  refine ⟨hl.1, hl.2.1, by unfold mm_st1; rw [List.length_set, mm_clr_len]; exact h.2.2.1, ?_⟩
  intro j w hw
  unfold mm_st1 at hw
  rw [List.getElem?_set] at hw
  by_cases e : i = j
  · subst e
    rw [if_pos rfl] at hw
    split at hw
    · cases hw
      exact ⟨hl.2.2 (i, mm_tr ρ v) List.mem_cons_self, hv⟩
    · cases hw
  · rw [if_neg e] at hw
    obtain ⟨h1, h2⟩ := mm_clr_at hw
    refine ⟨hl.2.2 (j, mm_tr ρ w) (List.mem_cons_of_mem _ (List.mem_filter.mpr ⟨mm_al_mem.mpr ⟨w, h1, rfl⟩, ?_⟩)), (h.2.2.2 j w h1).2⟩
    have hc : (mm_tr ρ w).category = w.category := by cases w <;> rfl
    simp only [hc, Bool.and_eq_true, Bool.not_eq_true', beq_eq_false_iff_ne, ne_eq, Bool.and_eq_false_iff]
    refine ⟨fun q => e q.symm, ?_⟩
    by_cases q : j + 1 = i
    · exact Or.inr fun z => h2 ⟨q, z⟩
    · exact Or.inl q
theorem mm_st2_ok {ρ : Nat → Nat} {n : Nat} {L : mmL} {ls ls' : Array Slot} {nL i : Nat} {v : Value} (h : mm_lc ρ n L ls nL) (hv : mm_okv n v) (hl : lv_has ls' nL ((i, mm_tr ρ v) :: (mm_al ρ L).filter (fun q => !(q.1 == i) && (!(q.1 == i + 1) && !(q.1 + 1 == i && q.2.category == 2))))) : mm_lc ρ n (mm_st2 L i v) ls' nL := by
  refine ⟨hl.1, hl.2.1, by unfold mm_st2; rw [List.length_set, List.length_set, mm_clr_len]; exact h.2.2.1, ?_⟩
  intro j w hw
  unfold mm_st2 at hw
  rw [List.getElem?_set] at hw
  by_cases e2 : i + 1 = j
  · subst e2
    rw [if_pos rfl] at hw
    split at hw <;> cases hw
  · rw [if_neg e2, List.getElem?_set] at hw
    by_cases e : i = j
    · subst e
      rw [if_pos rfl] at hw
      split at hw
      · cases hw
        exact ⟨hl.2.2 (i, mm_tr ρ v) List.mem_cons_self, hv⟩
      · cases hw
    · rw [if_neg e] at hw
      obtain ⟨h1, h2⟩ := mm_clr_at hw
      refine ⟨hl.2.2 (j, mm_tr ρ w) (List.mem_cons_of_mem _ (List.mem_filter.mpr ⟨mm_al_mem.mpr ⟨w, h1, rfl⟩, ?_⟩)), (h.2.2.2 j w h1).2⟩
      have hc : (mm_tr ρ w).category = w.category := by cases w <;> rfl
      simp only [hc, Bool.and_eq_true, Bool.not_eq_true', beq_eq_false_iff_ne, ne_eq, Bool.and_eq_false_iff]
      refine ⟨fun q => e q.symm, fun q => e2 q.symm, ?_⟩
      by_cases q : j + 1 = i
      · exact Or.inr fun z => h2 ⟨q, z⟩
      · exact Or.inl q
theorem mm_msk_at : ∀ (m : List Bool) (L : mmL) (i : Nat) (v : Value), (mm_msk m L)[i]? = some (some v) → L[i]? = some (some v)
  | [], _, _, _, h => by cases h
  | _ :: _, [], _, _, h => by cases h
  | b :: m, x :: L, 0, v, h => by
    change (cond b x none :: mm_msk m L)[0]? = _ at h
    cases b
    · cases h
    · exact h
  | b :: m, x :: L, i + 1, v, h => by
    change (cond b x none :: mm_msk m L)[i + 1]? = _ at h
    rw [List.getElem?_cons_succ] at h ⊢
    exact mm_msk_at m L i v h
theorem mm_msk_len : ∀ (m : List Bool) (L : mmL), (mm_msk m L).length ≤ L.length
  | [], L => Nat.zero_le _
  | _ :: _, [] => Nat.zero_le _
  | b :: m, x :: L => Nat.succ_le_succ (mm_msk_len m L)
theorem mm_msk_ok {ρ : Nat → Nat} {n : Nat} {L : mmL} {ls : Array Slot} {nL : Nat} (m : List Bool) (h : mm_lc ρ n L ls nL) : mm_lc ρ n (mm_msk m L) ls nL :=
  ⟨h.1, h.2.1, Nat.le_trans (mm_msk_len m L) h.2.2.1, fun i v hv => h.2.2.2 i v (mm_msk_at m L i v hv)⟩
end
section
/-- constants: the tables, the statics that hold them, the nest's words, the arrays' words -/
def mm_fty (ty : Nat) : FieldType := match ty with
  | 0 => .int
  | 1 => .boolean
  | 2 => .char
  | 3 => .long
  | 4 => .object RX0
  | _ => .array .int
def mm_stat : List (String × String) := [("ITEMS", "[I"), ("MOST_CLAUSES", "[I"), ("FIRST_ITEM", "[I"), ("LEAST", "[I"), ("MOST", "[I"), ("WITHOUT", "[I"), ("FIRST_VALUE", "[I"), ("CLAUSE_SIGNS", "[C"), ("SIGNS", "[C")]
def mm_tysA (cA : Nat → ClassId) : List (ClassId × FieldType) := [(cA 0, .int), (cA 1, .boolean), (cA 0, .int), (cA 3, .long), (cA 4, .object RX0), (cA 5, .array .int)]
def mm_cnT (Y : mmY) (ρ : Nat → Nat) (A : Nat → Prop) (U : State) (H : Heap) : Prop := ∀ (t ty len : Nat), t < 16 → Y.2.1 t = .inr (ty, len) → va_T (mm_fty ty) (ρ t) len (fun j => .int (Y.2.2.2 t j)) A U H
def mm_cnZ (ρ : Nat → Nat) (A : Nat → Prop) (U : State) (H : Heap) : Prop := ∀ (t : Nat) (q : String × String), mm_stat[t]? = some q → va_Z RX10 q.1 q.2 (.ref (ρ t)) A U H
def mm_cnN (nest : List Cond) (U : State) : Prop := ∀ w ∈ nest, va_Nw w U
def mm_wfY (Y : mmY) : Prop := 16 ≤ Y.1 ∧ ∀ (t ci : Nat), t < 16 → Y.2.1 t = .inl ci → mm_cl[ci]? = none
def mm_wf (Y : mmY) (M : mmM) : Prop := Y.1 ≤ M.2.1 ∧ ∀ (a k b : Nat), 16 ≤ a → a < M.2.1 → mm_p Y M a k = some b → b < M.2.1
def mm_lk (n : Nat) (L : mmL) : Prop := ∀ (i : Nat) (v : Value), L[i]? = some (some v) → mm_okv n v
/-- from here on it comes to the end that Mf and Q tell -/
def mm_Gd (p : Program) (l : Launch) (e : Env) (R : Room) (s : State) (m : MethodId) (args : Array Value) (below : List Frame) (meth : Method) (c : Code) (Q : State → Prop) (D : va_G) (cA : Nat → ClassId) (Y : mmY) (A : Nat → Prop) (nL n0 z0 : Nat) (ρ0 : Nat → Nat) (Mf : mmM) (pc : Nat) (L : mmL) (K : List Value) (M : mmM) : Prop :=
  mm_wf Y M → n0 ≤ M.2.1 → z0 ≤ M.2.2.1 → mm_ks M.2.1 K → mm_lk M.2.1 L →
  (mm_wf Y Mf ∧ M.2.1 ≤ Mf.2.1 ∧ M.2.2.1 ≤ Mf.2.2.1) ∧ ∀ (ρ : Nat → Nat) (H : Heap) (locs : List Loc) (ls : Array Slot), (∀ b, b < n0 → ρ b = ρ0 b) → va_P D mm_cl (mm_enc cA ρ Y M) H → va_D A (mm_enc cA ρ Y M) → va_S A s.heap H locs → mm_lc ρ M.2.1 L ls nL →
    W p l e R s m args below meth c H locs (M.2.1 - n0) (M.2.2.1 - z0) Q (F0 m pc ls (K.map (mm_tr ρ)))
theorem mm_ks_cons {n : Nat} {v : Value} {K : List Value} (h : mm_okv n v) (hk : mm_ks n K) : mm_ks n (v :: K) := fun w hw => by
  rcases List.mem_cons.mp hw with rfl | h2
  · exact h
  · exact hk w h2
theorem mm_ks_tail {n : Nat} {v : Value} {K : List Value} (hk : mm_ks n (v :: K)) : mm_ks n K := fun w hw => hk w (List.mem_cons_of_mem _ hw)
theorem mm_ks_head {n : Nat} {v : Value} {K : List Value} (hk : mm_ks n (v :: K)) : mm_okv n v := hk v List.mem_cons_self
theorem mm_st1_lk {n : Nat} {L : mmL} {i : Nat} {v : Value} (h : mm_lk n L) (hv : mm_okv n v) : mm_lk n (mm_st1 L i v) := by
  intro j w hw
  unfold mm_st1 at hw
  rw [List.getElem?_set] at hw
  by_cases e : i = j
  · rw [if_pos e] at hw
    split at hw
    · cases hw; exact hv
    · cases hw
  · rw [if_neg e] at hw
    exact h j w (mm_clr_at hw).1
theorem mm_st2_lk {n : Nat} {L : mmL} {i : Nat} {v : Value} (h : mm_lk n L) (hv : mm_okv n v) : mm_lk n (mm_st2 L i v) := by
  intro j w hw
  unfold mm_st2 at hw
  rw [List.getElem?_set] at hw
  by_cases e2 : i + 1 = j
  · rw [if_pos e2] at hw
    split at hw <;> cases hw
  · rw [if_neg e2, List.getElem?_set] at hw
    by_cases e : i = j
    · rw [if_pos e] at hw
      split at hw
      · cases hw; exact hv
      · cases hw
    · rw [if_neg e] at hw
      exact h j w (mm_clr_at hw).1
theorem mm_msk_lk {n : Nat} {L : mmL} (k : List Bool) (h : mm_lk n L) : mm_lk n (mm_msk k L) := fun i v hv => h i v (mm_msk_at k L i v hv)
section GS
variable {p : Program} {l : Launch} {e : Env} {R : Room} {s : State} {m : MethodId} {args : Array Value} {below : List Frame} {meth : Method} {c : Code} {Q : State → Prop} {D : va_G} {cA : Nat → ClassId} {Y : mmY} {A : Nat → Prop} {nL n0 z0 : Nat} {ρ0 : Nat → Nat} {Mf : mmM} {cc : ByteArray} {pc : Nat} {L : mmL} {K r : List Value} {M : mmM}

theorem gs_iconst (hx : p.tables.exec = Jvm.exec) (hb : c.code = cc) {z : Int} {x : Int32} (hv : Int32.ofInt z = x) (hd : decode cc pc = .ok (.iconst z, 1)) (hk : mm_Gd p l e R s m args below meth c Q D cA Y A nL n0 z0 ρ0 Mf (pc + 1) L (.int x :: K) M) : mm_Gd p l e R s m args below meth c Q D cA Y A nL n0 z0 ρ0 Mf pc L K M := by
  intro hw0 hn0 hz0 hk0 hl0
  obtain ⟨h1, h2⟩ := hk hw0 hn0 hz0 (mm_ks_cons trivial hk0) hl0
  refine ⟨h1, fun ρ H locs ls hr hP hD hS hl => ?_⟩
  exact lv_iconst hx hb hd hv (h2 ρ H locs ls hr hP hD hS hl)
theorem gs_bipush (hx : p.tables.exec = Jvm.exec) (hb : c.code = cc) {z : Int} {x : Int32} (hv : (Int8.ofInt z).toInt32 = x) (hd : decode cc pc = .ok (.bipush z, 2)) (hk : mm_Gd p l e R s m args below meth c Q D cA Y A nL n0 z0 ρ0 Mf (pc + 2) L (.int x :: K) M) : mm_Gd p l e R s m args below meth c Q D cA Y A nL n0 z0 ρ0 Mf pc L K M := by
  intro hw0 hn0 hz0 hk0 hl0
  obtain ⟨h1, h2⟩ := hk hw0 hn0 hz0 (mm_ks_cons trivial hk0) hl0
  refine ⟨h1, fun ρ H locs ls hr hP hD hS hl => ?_⟩
  exact lv_bipush hx hb hd hv (h2 ρ H locs ls hr hP hD hS hl)
theorem gs_sipush (hx : p.tables.exec = Jvm.exec) (hb : c.code = cc) {z : Int} {x : Int32} (hv : (Int16.ofInt z).toInt32 = x) (hd : decode cc pc = .ok (.sipush z, 3)) (hk : mm_Gd p l e R s m args below meth c Q D cA Y A nL n0 z0 ρ0 Mf (pc + 3) L (.int x :: K) M) : mm_Gd p l e R s m args below meth c Q D cA Y A nL n0 z0 ρ0 Mf pc L K M := by
  intro hw0 hn0 hz0 hk0 hl0
  obtain ⟨h1, h2⟩ := hk hw0 hn0 hz0 (mm_ks_cons trivial hk0) hl0
  refine ⟨h1, fun ρ H locs ls hr hP hD hS hl => ?_⟩
  exact lv_sipush hx hb hd hv (h2 ρ H locs ls hr hP hD hS hl)
theorem gs_lconst (hx : p.tables.exec = Jvm.exec) (hb : c.code = cc) {z : Fin 2} {x : Int64} (hv : Int64.ofNat (z : Nat) = x) (hd : decode cc pc = .ok (.lconst z, 1)) (hk : mm_Gd p l e R s m args below meth c Q D cA Y A nL n0 z0 ρ0 Mf (pc + 1) L (.long x :: K) M) : mm_Gd p l e R s m args below meth c Q D cA Y A nL n0 z0 ρ0 Mf pc L K M := by
  intro hw0 hn0 hz0 hk0 hl0
  obtain ⟨h1, h2⟩ := hk hw0 hn0 hz0 (mm_ks_cons trivial hk0) hl0
  refine ⟨h1, fun ρ H locs ls hr hP hD hS hl => ?_⟩
  exact lv_lconst hx hb hd hv (h2 ρ H locs ls hr hP hD hS hl)
theorem gs_ldc (hx : p.tables.exec = Jvm.exec) (hb : c.code = cc) {own : String} {index : Nat} (hown : s.vm.findClass own = some m.cls) {x : Int32} (hc : (Jvm.Cond.constant own index x).before args s = true) (hd : decode cc pc = .ok (.ldc index, 2)) (hk : mm_Gd p l e R s m args below meth c Q D cA Y A nL n0 z0 ρ0 Mf (pc + 2) L (.int x :: K) M) : mm_Gd p l e R s m args below meth c Q D cA Y A nL n0 z0 ρ0 Mf pc L K M := by
  intro hw0 hn0 hz0 hk0 hl0
  obtain ⟨h1, h2⟩ := hk hw0 hn0 hz0 (mm_ks_cons trivial hk0) hl0
  refine ⟨h1, fun ρ H locs ls hr hP hD hS hl => ?_⟩
  exact lv_ldc hx hb hown hc hd (h2 ρ H locs ls hr hP hD hS hl)
theorem gs_ldcw (hx : p.tables.exec = Jvm.exec) (hb : c.code = cc) {own : String} {index : Nat} (hown : s.vm.findClass own = some m.cls) {x : Int32} (hc : (Jvm.Cond.constant own index x).before args s = true) (hd : decode cc pc = .ok (.ldc_w index, 3)) (hk : mm_Gd p l e R s m args below meth c Q D cA Y A nL n0 z0 ρ0 Mf (pc + 3) L (.int x :: K) M) : mm_Gd p l e R s m args below meth c Q D cA Y A nL n0 z0 ρ0 Mf pc L K M := by
  intro hw0 hn0 hz0 hk0 hl0
  obtain ⟨h1, h2⟩ := hk hw0 hn0 hz0 (mm_ks_cons trivial hk0) hl0
  refine ⟨h1, fun ρ H locs ls hr hP hD hS hl => ?_⟩
  exact lv_ldcw hx hb hown hc hd (h2 ρ H locs ls hr hP hD hS hl)
theorem gs_ldc2 (hx : p.tables.exec = Jvm.exec) (hb : c.code = cc) {own : String} {index : Nat} (hown : s.vm.findClass own = some m.cls) {x : Int64} (hc : (Jvm.Cond.constantLong own index x).before args s = true) (hd : decode cc pc = .ok (.ldc2_w index, 3)) (hk : mm_Gd p l e R s m args below meth c Q D cA Y A nL n0 z0 ρ0 Mf (pc + 3) L (.long x :: K) M) : mm_Gd p l e R s m args below meth c Q D cA Y A nL n0 z0 ρ0 Mf pc L K M := by
  intro hw0 hn0 hz0 hk0 hl0
  obtain ⟨h1, h2⟩ := hk hw0 hn0 hz0 (mm_ks_cons trivial hk0) hl0
  refine ⟨h1, fun ρ H locs ls hr hP hD hS hl => ?_⟩
  exact lv_ldc2 hx hb hown hc hd (h2 ρ H locs ls hr hP hD hS hl)
theorem gs_iload_n (hx : p.tables.exec = Jvm.exec) (hb : c.code = cc) {k : Fin 4} {i : Nat} {x : Int32} (hi : (k : Nat) = i) (hv : L[i]? = some (some (.int x))) (hd : decode cc pc = .ok (.iload_n k, 1)) (hk : mm_Gd p l e R s m args below meth c Q D cA Y A nL n0 z0 ρ0 Mf (pc + 1) L (.int x :: K) M) : mm_Gd p l e R s m args below meth c Q D cA Y A nL n0 z0 ρ0 Mf pc L K M := by
  intro hw0 hn0 hz0 hk0 hl0
  obtain ⟨h1, h2⟩ := hk hw0 hn0 hz0 (mm_ks_cons trivial hk0) hl0
  refine ⟨h1, fun ρ H locs ls hr hP hD hS hl => ?_⟩
  exact lv_iload_n hx hb hd hi (hl.2.2.2 i _ hv).1 (h2 ρ H locs ls hr hP hD hS hl)
theorem gs_iload (hx : p.tables.exec = Jvm.exec) (hb : c.code = cc) {i : Nat} {x : Int32} (hv : L[i]? = some (some (.int x))) (hd : decode cc pc = .ok (.iload i, 2)) (hk : mm_Gd p l e R s m args below meth c Q D cA Y A nL n0 z0 ρ0 Mf (pc + 2) L (.int x :: K) M) : mm_Gd p l e R s m args below meth c Q D cA Y A nL n0 z0 ρ0 Mf pc L K M := by
  intro hw0 hn0 hz0 hk0 hl0
  obtain ⟨h1, h2⟩ := hk hw0 hn0 hz0 (mm_ks_cons trivial hk0) hl0
  refine ⟨h1, fun ρ H locs ls hr hP hD hS hl => ?_⟩
  exact lv_iload hx hb hd (hl.2.2.2 i _ hv).1 (h2 ρ H locs ls hr hP hD hS hl)
theorem gs_lload_n (hx : p.tables.exec = Jvm.exec) (hb : c.code = cc) {k : Fin 4} {i : Nat} {x : Int64} (hi : (k : Nat) = i) (hv : L[i]? = some (some (.long x))) (hd : decode cc pc = .ok (.lload_n k, 1)) (hk : mm_Gd p l e R s m args below meth c Q D cA Y A nL n0 z0 ρ0 Mf (pc + 1) L (.long x :: K) M) : mm_Gd p l e R s m args below meth c Q D cA Y A nL n0 z0 ρ0 Mf pc L K M := by
  intro hw0 hn0 hz0 hk0 hl0
  obtain ⟨h1, h2⟩ := hk hw0 hn0 hz0 (mm_ks_cons trivial hk0) hl0
  refine ⟨h1, fun ρ H locs ls hr hP hD hS hl => ?_⟩
  exact lv_lload_n hx hb hd hi (hl.2.2.2 i _ hv).1 (h2 ρ H locs ls hr hP hD hS hl)
theorem gs_lload (hx : p.tables.exec = Jvm.exec) (hb : c.code = cc) {i : Nat} {x : Int64} (hv : L[i]? = some (some (.long x))) (hd : decode cc pc = .ok (.lload i, 2)) (hk : mm_Gd p l e R s m args below meth c Q D cA Y A nL n0 z0 ρ0 Mf (pc + 2) L (.long x :: K) M) : mm_Gd p l e R s m args below meth c Q D cA Y A nL n0 z0 ρ0 Mf pc L K M := by
  intro hw0 hn0 hz0 hk0 hl0
  obtain ⟨h1, h2⟩ := hk hw0 hn0 hz0 (mm_ks_cons trivial hk0) hl0
  refine ⟨h1, fun ρ H locs ls hr hP hD hS hl => ?_⟩
  exact lv_lload hx hb hd (hl.2.2.2 i _ hv).1 (h2 ρ H locs ls hr hP hD hS hl)
theorem gs_aload_n (hx : p.tables.exec = Jvm.exec) (hb : c.code = cc) {k : Fin 4} {i : Nat} {x : Nat} (hi : (k : Nat) = i) (hv : L[i]? = some (some (.ref x))) (hd : decode cc pc = .ok (.aload_n k, 1)) (hk : mm_Gd p l e R s m args below meth c Q D cA Y A nL n0 z0 ρ0 Mf (pc + 1) L (.ref x :: K) M) : mm_Gd p l e R s m args below meth c Q D cA Y A nL n0 z0 ρ0 Mf pc L K M := by
  intro hw0 hn0 hz0 hk0 hl0
  obtain ⟨h1, h2⟩ := hk hw0 hn0 hz0 (mm_ks_cons (hl0 i _ hv) hk0) hl0
  refine ⟨h1, fun ρ H locs ls hr hP hD hS hl => ?_⟩
  exact lv_aload_n hx hb hd hi (hl.2.2.2 i _ hv).1 (h2 ρ H locs ls hr hP hD hS hl)
theorem gs_aload (hx : p.tables.exec = Jvm.exec) (hb : c.code = cc) {i : Nat} {x : Nat} (hv : L[i]? = some (some (.ref x))) (hd : decode cc pc = .ok (.aload i, 2)) (hk : mm_Gd p l e R s m args below meth c Q D cA Y A nL n0 z0 ρ0 Mf (pc + 2) L (.ref x :: K) M) : mm_Gd p l e R s m args below meth c Q D cA Y A nL n0 z0 ρ0 Mf pc L K M := by
  intro hw0 hn0 hz0 hk0 hl0
  obtain ⟨h1, h2⟩ := hk hw0 hn0 hz0 (mm_ks_cons (hl0 i _ hv) hk0) hl0
  refine ⟨h1, fun ρ H locs ls hr hP hD hS hl => ?_⟩
  exact lv_aload hx hb hd (hl.2.2.2 i _ hv).1 (h2 ρ H locs ls hr hP hD hS hl)
theorem gs_aload_nN (hx : p.tables.exec = Jvm.exec) (hb : c.code = cc) {k : Fin 4} {i : Nat} (hi : (k : Nat) = i) (hv : L[i]? = some (some .null)) (hd : decode cc pc = .ok (.aload_n k, 1)) (hk : mm_Gd p l e R s m args below meth c Q D cA Y A nL n0 z0 ρ0 Mf (pc + 1) L (.null :: K) M) : mm_Gd p l e R s m args below meth c Q D cA Y A nL n0 z0 ρ0 Mf pc L K M := by
  intro hw0 hn0 hz0 hk0 hl0
  obtain ⟨h1, h2⟩ := hk hw0 hn0 hz0 (mm_ks_cons trivial hk0) hl0
  refine ⟨h1, fun ρ H locs ls hr hP hD hS hl => ?_⟩
  exact lv_aload_nN hx hb hd hi (hl.2.2.2 i _ hv).1 (h2 ρ H locs ls hr hP hD hS hl)
theorem gs_aloadN (hx : p.tables.exec = Jvm.exec) (hb : c.code = cc) {i : Nat} (hv : L[i]? = some (some .null)) (hd : decode cc pc = .ok (.aload i, 2)) (hk : mm_Gd p l e R s m args below meth c Q D cA Y A nL n0 z0 ρ0 Mf (pc + 2) L (.null :: K) M) : mm_Gd p l e R s m args below meth c Q D cA Y A nL n0 z0 ρ0 Mf pc L K M := by
  intro hw0 hn0 hz0 hk0 hl0
  obtain ⟨h1, h2⟩ := hk hw0 hn0 hz0 (mm_ks_cons trivial hk0) hl0
  refine ⟨h1, fun ρ H locs ls hr hP hD hS hl => ?_⟩
  exact lv_aloadN hx hb hd (hl.2.2.2 i _ hv).1 (h2 ρ H locs ls hr hP hD hS hl)
theorem gs_istore_n (hx : p.tables.exec = Jvm.exec) (hb : c.code = cc) {k : Fin 4} {i : Nat} {x : Int32} (hi : (k : Nat) = i) (hn : i < nL) (hd : decode cc pc = .ok (.istore_n k, 1)) (hk : mm_Gd p l e R s m args below meth c Q D cA Y A nL n0 z0 ρ0 Mf (pc + 1) (mm_st1 L i (.int x)) r M) : mm_Gd p l e R s m args below meth c Q D cA Y A nL n0 z0 ρ0 Mf pc L (.int x :: r) M := by
  intro hw0 hn0 hz0 hk0 hl0
  obtain ⟨h1, h2⟩ := hk hw0 hn0 hz0 (mm_ks_tail hk0) (mm_st1_lk hl0 trivial)
  refine ⟨h1, fun ρ H locs ls hr hP hD hS hl => ?_⟩
  exact lv_istore_n hx hb hd hi (mm_lc_has hl) hn rfl (fun ls hl1 => h2 ρ H locs ls hr hP hD hS (mm_st1_ok hl trivial hl1))
theorem gs_istore (hx : p.tables.exec = Jvm.exec) (hb : c.code = cc) {i : Nat} {x : Int32} (hn : i < nL) (hd : decode cc pc = .ok (.istore i, 2)) (hk : mm_Gd p l e R s m args below meth c Q D cA Y A nL n0 z0 ρ0 Mf (pc + 2) (mm_st1 L i (.int x)) r M) : mm_Gd p l e R s m args below meth c Q D cA Y A nL n0 z0 ρ0 Mf pc L (.int x :: r) M := by
  intro hw0 hn0 hz0 hk0 hl0
  obtain ⟨h1, h2⟩ := hk hw0 hn0 hz0 (mm_ks_tail hk0) (mm_st1_lk hl0 trivial)
  refine ⟨h1, fun ρ H locs ls hr hP hD hS hl => ?_⟩
  exact lv_istore hx hb hd (mm_lc_has hl) hn rfl (fun ls hl1 => h2 ρ H locs ls hr hP hD hS (mm_st1_ok hl trivial hl1))
theorem gs_lstore_n (hx : p.tables.exec = Jvm.exec) (hb : c.code = cc) {k : Fin 4} {i : Nat} {x : Int64} (hi : (k : Nat) = i) (hn : i + 1 < nL) (hd : decode cc pc = .ok (.lstore_n k, 1)) (hk : mm_Gd p l e R s m args below meth c Q D cA Y A nL n0 z0 ρ0 Mf (pc + 1) (mm_st2 L i (.long x)) r M) : mm_Gd p l e R s m args below meth c Q D cA Y A nL n0 z0 ρ0 Mf pc L (.long x :: r) M := by
  intro hw0 hn0 hz0 hk0 hl0
  obtain ⟨h1, h2⟩ := hk hw0 hn0 hz0 (mm_ks_tail hk0) (mm_st2_lk hl0 trivial)
  refine ⟨h1, fun ρ H locs ls hr hP hD hS hl => ?_⟩
  exact lv_lstore_n hx hb hd hi (mm_lc_has hl) hn rfl (fun ls hl1 => h2 ρ H locs ls hr hP hD hS (mm_st2_ok hl trivial hl1))
theorem gs_lstore (hx : p.tables.exec = Jvm.exec) (hb : c.code = cc) {i : Nat} {x : Int64} (hn : i + 1 < nL) (hd : decode cc pc = .ok (.lstore i, 2)) (hk : mm_Gd p l e R s m args below meth c Q D cA Y A nL n0 z0 ρ0 Mf (pc + 2) (mm_st2 L i (.long x)) r M) : mm_Gd p l e R s m args below meth c Q D cA Y A nL n0 z0 ρ0 Mf pc L (.long x :: r) M := by
  intro hw0 hn0 hz0 hk0 hl0
  obtain ⟨h1, h2⟩ := hk hw0 hn0 hz0 (mm_ks_tail hk0) (mm_st2_lk hl0 trivial)
  refine ⟨h1, fun ρ H locs ls hr hP hD hS hl => ?_⟩
  exact lv_lstore hx hb hd (mm_lc_has hl) hn rfl (fun ls hl1 => h2 ρ H locs ls hr hP hD hS (mm_st2_ok hl trivial hl1))
theorem gs_astore_n (hx : p.tables.exec = Jvm.exec) (hb : c.code = cc) {k : Fin 4} {i : Nat} {x : Nat} (hi : (k : Nat) = i) (hn : i < nL) (hd : decode cc pc = .ok (.astore_n k, 1)) (hk : mm_Gd p l e R s m args below meth c Q D cA Y A nL n0 z0 ρ0 Mf (pc + 1) (mm_st1 L i (.ref x)) r M) : mm_Gd p l e R s m args below meth c Q D cA Y A nL n0 z0 ρ0 Mf pc L (.ref x :: r) M := by
  intro hw0 hn0 hz0 hk0 hl0
  obtain ⟨h1, h2⟩ := hk hw0 hn0 hz0 (mm_ks_tail hk0) (mm_st1_lk hl0 (mm_ks_head hk0))
  refine ⟨h1, fun ρ H locs ls hr hP hD hS hl => ?_⟩
  exact lv_astore_n hx hb hd hi (mm_lc_has hl) hn rfl (fun ls hl1 => h2 ρ H locs ls hr hP hD hS (mm_st1_ok hl (v := .ref x) (mm_ks_head hk0) hl1))
theorem gs_astore (hx : p.tables.exec = Jvm.exec) (hb : c.code = cc) {i : Nat} {x : Nat} (hn : i < nL) (hd : decode cc pc = .ok (.astore i, 2)) (hk : mm_Gd p l e R s m args below meth c Q D cA Y A nL n0 z0 ρ0 Mf (pc + 2) (mm_st1 L i (.ref x)) r M) : mm_Gd p l e R s m args below meth c Q D cA Y A nL n0 z0 ρ0 Mf pc L (.ref x :: r) M := by
  intro hw0 hn0 hz0 hk0 hl0
  obtain ⟨h1, h2⟩ := hk hw0 hn0 hz0 (mm_ks_tail hk0) (mm_st1_lk hl0 (mm_ks_head hk0))
  refine ⟨h1, fun ρ H locs ls hr hP hD hS hl => ?_⟩
  exact lv_astore hx hb hd (mm_lc_has hl) hn rfl (fun ls hl1 => h2 ρ H locs ls hr hP hD hS (mm_st1_ok hl (v := .ref x) (mm_ks_head hk0) hl1))
theorem gs_astore_nN (hx : p.tables.exec = Jvm.exec) (hb : c.code = cc) {k : Fin 4} {i : Nat} (hi : (k : Nat) = i) (hn : i < nL) (hd : decode cc pc = .ok (.astore_n k, 1)) (hk : mm_Gd p l e R s m args below meth c Q D cA Y A nL n0 z0 ρ0 Mf (pc + 1) (mm_st1 L i .null) r M) : mm_Gd p l e R s m args below meth c Q D cA Y A nL n0 z0 ρ0 Mf pc L (.null :: r) M := by
  intro hw0 hn0 hz0 hk0 hl0
  obtain ⟨h1, h2⟩ := hk hw0 hn0 hz0 (mm_ks_tail hk0) (mm_st1_lk hl0 trivial)
  refine ⟨h1, fun ρ H locs ls hr hP hD hS hl => ?_⟩
  exact lv_astore_nN hx hb hd hi (mm_lc_has hl) hn rfl (fun ls hl1 => h2 ρ H locs ls hr hP hD hS (mm_st1_ok hl (v := .null) trivial hl1))
theorem gs_astoreN (hx : p.tables.exec = Jvm.exec) (hb : c.code = cc) {i : Nat} (hn : i < nL) (hd : decode cc pc = .ok (.astore i, 2)) (hk : mm_Gd p l e R s m args below meth c Q D cA Y A nL n0 z0 ρ0 Mf (pc + 2) (mm_st1 L i .null) r M) : mm_Gd p l e R s m args below meth c Q D cA Y A nL n0 z0 ρ0 Mf pc L (.null :: r) M := by
  intro hw0 hn0 hz0 hk0 hl0
  obtain ⟨h1, h2⟩ := hk hw0 hn0 hz0 (mm_ks_tail hk0) (mm_st1_lk hl0 trivial)
  refine ⟨h1, fun ρ H locs ls hr hP hD hS hl => ?_⟩
  exact lv_astoreN hx hb hd (mm_lc_has hl) hn rfl (fun ls hl1 => h2 ρ H locs ls hr hP hD hS (mm_st1_ok hl (v := .null) trivial hl1))
theorem gs_iinc (hx : p.tables.exec = Jvm.exec) (hb : c.code = cc) {i : Nat} {z : Int} {x y : Int32} (hv : L[i]? = some (some (.int x))) (hz : Int32.ofInt z = y) (hn : i < nL) (hd : decode cc pc = .ok (.iinc i z, 3)) (hk : mm_Gd p l e R s m args below meth c Q D cA Y A nL n0 z0 ρ0 Mf (pc + 3) (mm_st1 L i (.int (x + y))) K M) : mm_Gd p l e R s m args below meth c Q D cA Y A nL n0 z0 ρ0 Mf pc L K M := by
  intro hw0 hn0 hz0 hk0 hl0
  obtain ⟨h1, h2⟩ := hk hw0 hn0 hz0 hk0 (mm_st1_lk hl0 trivial)
  refine ⟨h1, fun ρ H locs ls hr hP hD hS hl => ?_⟩
  obtain ⟨k, hk2⟩ := List.mem_iff_getElem?.mp (mm_al_mem.mpr ⟨.int x, hv, rfl⟩ : (i, Value.int x) ∈ mm_al ρ L)
  exact lv_iinc hx hb hd (mm_lc_has hl) hk2 (by rw [hz]) hn rfl (fun ls hl1 => h2 ρ H locs ls hr hP hD hS (mm_st1_ok hl (v := .int (x + y)) trivial hl1))
theorem gs_iadd (hx : p.tables.exec = Jvm.exec) (hb : c.code = cc) {x y : Int32}  (hd : decode cc pc = .ok (.iadd, 1)) (hk : mm_Gd p l e R s m args below meth c Q D cA Y A nL n0 z0 ρ0 Mf (pc + 1) L (.int (x + y) :: r) M) : mm_Gd p l e R s m args below meth c Q D cA Y A nL n0 z0 ρ0 Mf pc L (.int y :: .int x :: r) M := by
  intro hw0 hn0 hz0 hk0 hl0
  obtain ⟨h1, h2⟩ := hk hw0 hn0 hz0 (mm_ks_cons trivial (mm_ks_tail (mm_ks_tail hk0))) hl0
  refine ⟨h1, fun ρ H locs ls hr hP hD hS hl => ?_⟩
  exact lv_iadd hx hb hd  (h2 ρ H locs ls hr hP hD hS hl)
theorem gs_isub (hx : p.tables.exec = Jvm.exec) (hb : c.code = cc) {x y : Int32}  (hd : decode cc pc = .ok (.isub, 1)) (hk : mm_Gd p l e R s m args below meth c Q D cA Y A nL n0 z0 ρ0 Mf (pc + 1) L (.int (x - y) :: r) M) : mm_Gd p l e R s m args below meth c Q D cA Y A nL n0 z0 ρ0 Mf pc L (.int y :: .int x :: r) M := by
  intro hw0 hn0 hz0 hk0 hl0
  obtain ⟨h1, h2⟩ := hk hw0 hn0 hz0 (mm_ks_cons trivial (mm_ks_tail (mm_ks_tail hk0))) hl0
  refine ⟨h1, fun ρ H locs ls hr hP hD hS hl => ?_⟩
  exact lv_isub hx hb hd  (h2 ρ H locs ls hr hP hD hS hl)
theorem gs_imul (hx : p.tables.exec = Jvm.exec) (hb : c.code = cc) {x y : Int32}  (hd : decode cc pc = .ok (.imul, 1)) (hk : mm_Gd p l e R s m args below meth c Q D cA Y A nL n0 z0 ρ0 Mf (pc + 1) L (.int (x * y) :: r) M) : mm_Gd p l e R s m args below meth c Q D cA Y A nL n0 z0 ρ0 Mf pc L (.int y :: .int x :: r) M := by
  intro hw0 hn0 hz0 hk0 hl0
  obtain ⟨h1, h2⟩ := hk hw0 hn0 hz0 (mm_ks_cons trivial (mm_ks_tail (mm_ks_tail hk0))) hl0
  refine ⟨h1, fun ρ H locs ls hr hP hD hS hl => ?_⟩
  exact lv_imul hx hb hd  (h2 ρ H locs ls hr hP hD hS hl)
theorem gs_iand (hx : p.tables.exec = Jvm.exec) (hb : c.code = cc) {x y : Int32}  (hd : decode cc pc = .ok (.iand, 1)) (hk : mm_Gd p l e R s m args below meth c Q D cA Y A nL n0 z0 ρ0 Mf (pc + 1) L (.int (x &&& y) :: r) M) : mm_Gd p l e R s m args below meth c Q D cA Y A nL n0 z0 ρ0 Mf pc L (.int y :: .int x :: r) M := by
  intro hw0 hn0 hz0 hk0 hl0
  obtain ⟨h1, h2⟩ := hk hw0 hn0 hz0 (mm_ks_cons trivial (mm_ks_tail (mm_ks_tail hk0))) hl0
  refine ⟨h1, fun ρ H locs ls hr hP hD hS hl => ?_⟩
  exact lv_iand hx hb hd  (h2 ρ H locs ls hr hP hD hS hl)
theorem gs_ior (hx : p.tables.exec = Jvm.exec) (hb : c.code = cc) {x y : Int32}  (hd : decode cc pc = .ok (.ior, 1)) (hk : mm_Gd p l e R s m args below meth c Q D cA Y A nL n0 z0 ρ0 Mf (pc + 1) L (.int (x ||| y) :: r) M) : mm_Gd p l e R s m args below meth c Q D cA Y A nL n0 z0 ρ0 Mf pc L (.int y :: .int x :: r) M := by
  intro hw0 hn0 hz0 hk0 hl0
  obtain ⟨h1, h2⟩ := hk hw0 hn0 hz0 (mm_ks_cons trivial (mm_ks_tail (mm_ks_tail hk0))) hl0
  refine ⟨h1, fun ρ H locs ls hr hP hD hS hl => ?_⟩
  exact lv_ior hx hb hd  (h2 ρ H locs ls hr hP hD hS hl)
theorem gs_ixor (hx : p.tables.exec = Jvm.exec) (hb : c.code = cc) {x y : Int32}  (hd : decode cc pc = .ok (.ixor, 1)) (hk : mm_Gd p l e R s m args below meth c Q D cA Y A nL n0 z0 ρ0 Mf (pc + 1) L (.int (x ^^^ y) :: r) M) : mm_Gd p l e R s m args below meth c Q D cA Y A nL n0 z0 ρ0 Mf pc L (.int y :: .int x :: r) M := by
  intro hw0 hn0 hz0 hk0 hl0
  obtain ⟨h1, h2⟩ := hk hw0 hn0 hz0 (mm_ks_cons trivial (mm_ks_tail (mm_ks_tail hk0))) hl0
  refine ⟨h1, fun ρ H locs ls hr hP hD hS hl => ?_⟩
  exact lv_ixor hx hb hd  (h2 ρ H locs ls hr hP hD hS hl)
theorem gs_ladd (hx : p.tables.exec = Jvm.exec) (hb : c.code = cc) {x y : Int64}  (hd : decode cc pc = .ok (.ladd, 1)) (hk : mm_Gd p l e R s m args below meth c Q D cA Y A nL n0 z0 ρ0 Mf (pc + 1) L (.long (x + y) :: r) M) : mm_Gd p l e R s m args below meth c Q D cA Y A nL n0 z0 ρ0 Mf pc L (.long y :: .long x :: r) M := by
  intro hw0 hn0 hz0 hk0 hl0
  obtain ⟨h1, h2⟩ := hk hw0 hn0 hz0 (mm_ks_cons trivial (mm_ks_tail (mm_ks_tail hk0))) hl0
  refine ⟨h1, fun ρ H locs ls hr hP hD hS hl => ?_⟩
  exact lv_ladd hx hb hd  (h2 ρ H locs ls hr hP hD hS hl)
theorem gs_lsub (hx : p.tables.exec = Jvm.exec) (hb : c.code = cc) {x y : Int64}  (hd : decode cc pc = .ok (.lsub, 1)) (hk : mm_Gd p l e R s m args below meth c Q D cA Y A nL n0 z0 ρ0 Mf (pc + 1) L (.long (x - y) :: r) M) : mm_Gd p l e R s m args below meth c Q D cA Y A nL n0 z0 ρ0 Mf pc L (.long y :: .long x :: r) M := by
  intro hw0 hn0 hz0 hk0 hl0
  obtain ⟨h1, h2⟩ := hk hw0 hn0 hz0 (mm_ks_cons trivial (mm_ks_tail (mm_ks_tail hk0))) hl0
  refine ⟨h1, fun ρ H locs ls hr hP hD hS hl => ?_⟩
  exact lv_lsub hx hb hd  (h2 ρ H locs ls hr hP hD hS hl)
theorem gs_lmul (hx : p.tables.exec = Jvm.exec) (hb : c.code = cc) {x y : Int64}  (hd : decode cc pc = .ok (.lmul, 1)) (hk : mm_Gd p l e R s m args below meth c Q D cA Y A nL n0 z0 ρ0 Mf (pc + 1) L (.long (x * y) :: r) M) : mm_Gd p l e R s m args below meth c Q D cA Y A nL n0 z0 ρ0 Mf pc L (.long y :: .long x :: r) M := by
  intro hw0 hn0 hz0 hk0 hl0
  obtain ⟨h1, h2⟩ := hk hw0 hn0 hz0 (mm_ks_cons trivial (mm_ks_tail (mm_ks_tail hk0))) hl0
  refine ⟨h1, fun ρ H locs ls hr hP hD hS hl => ?_⟩
  exact lv_lmul hx hb hd  (h2 ρ H locs ls hr hP hD hS hl)
theorem gs_land (hx : p.tables.exec = Jvm.exec) (hb : c.code = cc) {x y : Int64}  (hd : decode cc pc = .ok (.land, 1)) (hk : mm_Gd p l e R s m args below meth c Q D cA Y A nL n0 z0 ρ0 Mf (pc + 1) L (.long (x &&& y) :: r) M) : mm_Gd p l e R s m args below meth c Q D cA Y A nL n0 z0 ρ0 Mf pc L (.long y :: .long x :: r) M := by
  intro hw0 hn0 hz0 hk0 hl0
  obtain ⟨h1, h2⟩ := hk hw0 hn0 hz0 (mm_ks_cons trivial (mm_ks_tail (mm_ks_tail hk0))) hl0
  refine ⟨h1, fun ρ H locs ls hr hP hD hS hl => ?_⟩
  exact lv_land hx hb hd  (h2 ρ H locs ls hr hP hD hS hl)
theorem gs_lor (hx : p.tables.exec = Jvm.exec) (hb : c.code = cc) {x y : Int64}  (hd : decode cc pc = .ok (.lor, 1)) (hk : mm_Gd p l e R s m args below meth c Q D cA Y A nL n0 z0 ρ0 Mf (pc + 1) L (.long (x ||| y) :: r) M) : mm_Gd p l e R s m args below meth c Q D cA Y A nL n0 z0 ρ0 Mf pc L (.long y :: .long x :: r) M := by
  intro hw0 hn0 hz0 hk0 hl0
  obtain ⟨h1, h2⟩ := hk hw0 hn0 hz0 (mm_ks_cons trivial (mm_ks_tail (mm_ks_tail hk0))) hl0
  refine ⟨h1, fun ρ H locs ls hr hP hD hS hl => ?_⟩
  exact lv_lor hx hb hd  (h2 ρ H locs ls hr hP hD hS hl)
theorem gs_idiv (hx : p.tables.exec = Jvm.exec) (hb : c.code = cc) {x y : Int32} (hne : ¬ y = 0) (hd : decode cc pc = .ok (.idiv, 1)) (hk : mm_Gd p l e R s m args below meth c Q D cA Y A nL n0 z0 ρ0 Mf (pc + 1) L (.int (x / y) :: r) M) : mm_Gd p l e R s m args below meth c Q D cA Y A nL n0 z0 ρ0 Mf pc L (.int y :: .int x :: r) M := by
  intro hw0 hn0 hz0 hk0 hl0
  obtain ⟨h1, h2⟩ := hk hw0 hn0 hz0 (mm_ks_cons trivial (mm_ks_tail (mm_ks_tail hk0))) hl0
  refine ⟨h1, fun ρ H locs ls hr hP hD hS hl => ?_⟩
  exact lv_idiv hx hb hd hne (h2 ρ H locs ls hr hP hD hS hl)
theorem gs_irem (hx : p.tables.exec = Jvm.exec) (hb : c.code = cc) {x y : Int32} (hne : ¬ y = 0) (hd : decode cc pc = .ok (.irem, 1)) (hk : mm_Gd p l e R s m args below meth c Q D cA Y A nL n0 z0 ρ0 Mf (pc + 1) L (.int (x - x / y * y) :: r) M) : mm_Gd p l e R s m args below meth c Q D cA Y A nL n0 z0 ρ0 Mf pc L (.int y :: .int x :: r) M := by
  intro hw0 hn0 hz0 hk0 hl0
  obtain ⟨h1, h2⟩ := hk hw0 hn0 hz0 (mm_ks_cons trivial (mm_ks_tail (mm_ks_tail hk0))) hl0
  refine ⟨h1, fun ρ H locs ls hr hP hD hS hl => ?_⟩
  exact lv_irem hx hb hd hne (h2 ρ H locs ls hr hP hD hS hl)
theorem gs_ldiv (hx : p.tables.exec = Jvm.exec) (hb : c.code = cc) {x y : Int64} (hne : ¬ y = 0) (hd : decode cc pc = .ok (.ldiv, 1)) (hk : mm_Gd p l e R s m args below meth c Q D cA Y A nL n0 z0 ρ0 Mf (pc + 1) L (.long (x / y) :: r) M) : mm_Gd p l e R s m args below meth c Q D cA Y A nL n0 z0 ρ0 Mf pc L (.long y :: .long x :: r) M := by
  intro hw0 hn0 hz0 hk0 hl0
  obtain ⟨h1, h2⟩ := hk hw0 hn0 hz0 (mm_ks_cons trivial (mm_ks_tail (mm_ks_tail hk0))) hl0
  refine ⟨h1, fun ρ H locs ls hr hP hD hS hl => ?_⟩
  exact lv_ldiv hx hb hd hne (h2 ρ H locs ls hr hP hD hS hl)
theorem gs_lrem (hx : p.tables.exec = Jvm.exec) (hb : c.code = cc) {x y : Int64} (hne : ¬ y = 0) (hd : decode cc pc = .ok (.lrem, 1)) (hk : mm_Gd p l e R s m args below meth c Q D cA Y A nL n0 z0 ρ0 Mf (pc + 1) L (.long (x - x / y * y) :: r) M) : mm_Gd p l e R s m args below meth c Q D cA Y A nL n0 z0 ρ0 Mf pc L (.long y :: .long x :: r) M := by
  intro hw0 hn0 hz0 hk0 hl0
  obtain ⟨h1, h2⟩ := hk hw0 hn0 hz0 (mm_ks_cons trivial (mm_ks_tail (mm_ks_tail hk0))) hl0
  refine ⟨h1, fun ρ H locs ls hr hP hD hS hl => ?_⟩
  exact lv_lrem hx hb hd hne (h2 ρ H locs ls hr hP hD hS hl)
theorem gs_ishl (hx : p.tables.exec = Jvm.exec) (hb : c.code = cc) {x y : Int32}  (hd : decode cc pc = .ok (.ishl, 1)) (hk : mm_Gd p l e R s m args below meth c Q D cA Y A nL n0 z0 ρ0 Mf (pc + 1) L (.int (x <<< (y &&& 31)) :: r) M) : mm_Gd p l e R s m args below meth c Q D cA Y A nL n0 z0 ρ0 Mf pc L (.int y :: .int x :: r) M := by
  intro hw0 hn0 hz0 hk0 hl0
  obtain ⟨h1, h2⟩ := hk hw0 hn0 hz0 (mm_ks_cons trivial (mm_ks_tail (mm_ks_tail hk0))) hl0
  refine ⟨h1, fun ρ H locs ls hr hP hD hS hl => ?_⟩
  exact lv_ishl hx hb hd  (h2 ρ H locs ls hr hP hD hS hl)
theorem gs_ishr (hx : p.tables.exec = Jvm.exec) (hb : c.code = cc) {x y : Int32}  (hd : decode cc pc = .ok (.ishr, 1)) (hk : mm_Gd p l e R s m args below meth c Q D cA Y A nL n0 z0 ρ0 Mf (pc + 1) L (.int (x >>> (y &&& 31)) :: r) M) : mm_Gd p l e R s m args below meth c Q D cA Y A nL n0 z0 ρ0 Mf pc L (.int y :: .int x :: r) M := by
  intro hw0 hn0 hz0 hk0 hl0
  obtain ⟨h1, h2⟩ := hk hw0 hn0 hz0 (mm_ks_cons trivial (mm_ks_tail (mm_ks_tail hk0))) hl0
  refine ⟨h1, fun ρ H locs ls hr hP hD hS hl => ?_⟩
  exact lv_ishr hx hb hd  (h2 ρ H locs ls hr hP hD hS hl)
theorem gs_iushr (hx : p.tables.exec = Jvm.exec) (hb : c.code = cc) {x y : Int32}  (hd : decode cc pc = .ok (.iushr, 1)) (hk : mm_Gd p l e R s m args below meth c Q D cA Y A nL n0 z0 ρ0 Mf (pc + 1) L (.int ((x.toUInt32 >>> (y.toUInt32 &&& Int32.toUInt32 31)).toInt32) :: r) M) : mm_Gd p l e R s m args below meth c Q D cA Y A nL n0 z0 ρ0 Mf pc L (.int y :: .int x :: r) M := by
  intro hw0 hn0 hz0 hk0 hl0
  obtain ⟨h1, h2⟩ := hk hw0 hn0 hz0 (mm_ks_cons trivial (mm_ks_tail (mm_ks_tail hk0))) hl0
  refine ⟨h1, fun ρ H locs ls hr hP hD hS hl => ?_⟩
  exact lv_iushr hx hb hd rfl (h2 ρ H locs ls hr hP hD hS hl)
theorem gs_ineg (hx : p.tables.exec = Jvm.exec) (hb : c.code = cc) {x : Int32} (hd : decode cc pc = .ok (.ineg, 1)) (hk : mm_Gd p l e R s m args below meth c Q D cA Y A nL n0 z0 ρ0 Mf (pc + 1) L (.int (-x) :: r) M) : mm_Gd p l e R s m args below meth c Q D cA Y A nL n0 z0 ρ0 Mf pc L (.int x :: r) M := by
  intro hw0 hn0 hz0 hk0 hl0
  obtain ⟨h1, h2⟩ := hk hw0 hn0 hz0 (mm_ks_cons trivial (mm_ks_tail hk0)) hl0
  refine ⟨h1, fun ρ H locs ls hr hP hD hS hl => ?_⟩
  exact lv_ineg hx hb hd (h2 ρ H locs ls hr hP hD hS hl)
theorem gs_lcmp (hx : p.tables.exec = Jvm.exec) (hb : c.code = cc) {x y : Int64} (hd : decode cc pc = .ok (.lcmp, 1)) (hk : mm_Gd p l e R s m args below meth c Q D cA Y A nL n0 z0 ρ0 Mf (pc + 1) L (.int (lg_cmp x y) :: r) M) : mm_Gd p l e R s m args below meth c Q D cA Y A nL n0 z0 ρ0 Mf pc L (.long y :: .long x :: r) M := by
  intro hw0 hn0 hz0 hk0 hl0
  obtain ⟨h1, h2⟩ := hk hw0 hn0 hz0 (mm_ks_cons trivial (mm_ks_tail (mm_ks_tail hk0))) hl0
  refine ⟨h1, fun ρ H locs ls hr hP hD hS hl => ?_⟩
  exact W.lcmp hx hb hd (h2 ρ H locs ls hr hP hD hS hl)
theorem gs_lshl (hx : p.tables.exec = Jvm.exec) (hb : c.code = cc) {x : Int64} {y : Int32} (hd : decode cc pc = .ok (.lshl, 1)) (hk : mm_Gd p l e R s m args below meth c Q D cA Y A nL n0 z0 ρ0 Mf (pc + 1) L (.long (x <<< (y.toInt64 &&& 63)) :: r) M) : mm_Gd p l e R s m args below meth c Q D cA Y A nL n0 z0 ρ0 Mf pc L (.int y :: .long x :: r) M := by
  intro hw0 hn0 hz0 hk0 hl0
  obtain ⟨h1, h2⟩ := hk hw0 hn0 hz0 (mm_ks_cons trivial (mm_ks_tail (mm_ks_tail hk0))) hl0
  refine ⟨h1, fun ρ H locs ls hr hP hD hS hl => ?_⟩
  exact lv_lshl hx hb hd rfl (h2 ρ H locs ls hr hP hD hS hl)
theorem gs_lushr (hx : p.tables.exec = Jvm.exec) (hb : c.code = cc) {x : Int64} {y : Int32} (hd : decode cc pc = .ok (.lushr, 1)) (hk : mm_Gd p l e R s m args below meth c Q D cA Y A nL n0 z0 ρ0 Mf (pc + 1) L (.long (x.toUInt64 >>> (y.toInt64.toUInt64 &&& Int64.toUInt64 63)).toInt64 :: r) M) : mm_Gd p l e R s m args below meth c Q D cA Y A nL n0 z0 ρ0 Mf pc L (.int y :: .long x :: r) M := by
  intro hw0 hn0 hz0 hk0 hl0
  obtain ⟨h1, h2⟩ := hk hw0 hn0 hz0 (mm_ks_cons trivial (mm_ks_tail (mm_ks_tail hk0))) hl0
  refine ⟨h1, fun ρ H locs ls hr hP hD hS hl => ?_⟩
  exact lv_lushr hx hb hd rfl (h2 ρ H locs ls hr hP hD hS hl)
theorem gs_i2l (hx : p.tables.exec = Jvm.exec) (hb : c.code = cc) {x : Int32} (hd : decode cc pc = .ok (.i2l, 1)) (hk : mm_Gd p l e R s m args below meth c Q D cA Y A nL n0 z0 ρ0 Mf (pc + 1) L (.long x.toInt64 :: r) M) : mm_Gd p l e R s m args below meth c Q D cA Y A nL n0 z0 ρ0 Mf pc L (.int x :: r) M := by
  intro hw0 hn0 hz0 hk0 hl0
  obtain ⟨h1, h2⟩ := hk hw0 hn0 hz0 (mm_ks_cons trivial (mm_ks_tail hk0)) hl0
  refine ⟨h1, fun ρ H locs ls hr hP hD hS hl => ?_⟩
  exact lv_i2l hx hb hd rfl (h2 ρ H locs ls hr hP hD hS hl)
theorem gs_l2i (hx : p.tables.exec = Jvm.exec) (hb : c.code = cc) {x : Int64} (hd : decode cc pc = .ok (.l2i, 1)) (hk : mm_Gd p l e R s m args below meth c Q D cA Y A nL n0 z0 ρ0 Mf (pc + 1) L (.int x.toInt32 :: r) M) : mm_Gd p l e R s m args below meth c Q D cA Y A nL n0 z0 ρ0 Mf pc L (.long x :: r) M := by
  intro hw0 hn0 hz0 hk0 hl0
  obtain ⟨h1, h2⟩ := hk hw0 hn0 hz0 (mm_ks_cons trivial (mm_ks_tail hk0)) hl0
  refine ⟨h1, fun ρ H locs ls hr hP hD hS hl => ?_⟩
  exact lv_l2i hx hb hd rfl (h2 ρ H locs ls hr hP hD hS hl)
theorem mm_c1_cat {ρ : Nat → Nat} {v : Value} (h : mm_c1 v = true) : (mm_tr ρ v).category = 1 := by
  cases v <;> first | rfl | cases h
theorem gs_dup (hx : p.tables.exec = Jvm.exec) (hb : c.code = cc) {v : Value} (hv : mm_c1 v = true) (hd : decode cc pc = .ok (.dup, 1)) (hk : mm_Gd p l e R s m args below meth c Q D cA Y A nL n0 z0 ρ0 Mf (pc + 1) L (v :: v :: r) M) : mm_Gd p l e R s m args below meth c Q D cA Y A nL n0 z0 ρ0 Mf pc L (v :: r) M := by
  intro hw0 hn0 hz0 hk0 hl0
  obtain ⟨h1, h2⟩ := hk hw0 hn0 hz0 (mm_ks_cons (mm_ks_head hk0) hk0) hl0
  refine ⟨h1, fun ρ H locs ls hr hP hD hS hl => ?_⟩
  exact lv_dup hx hb hd (mm_c1_cat hv) (h2 ρ H locs ls hr hP hD hS hl)
theorem gs_pop (hx : p.tables.exec = Jvm.exec) (hb : c.code = cc) {v : Value} (hv : mm_c1 v = true) (hd : decode cc pc = .ok (.pop, 1)) (hk : mm_Gd p l e R s m args below meth c Q D cA Y A nL n0 z0 ρ0 Mf (pc + 1) L r M) : mm_Gd p l e R s m args below meth c Q D cA Y A nL n0 z0 ρ0 Mf pc L (v :: r) M := by
  intro hw0 hn0 hz0 hk0 hl0
  obtain ⟨h1, h2⟩ := hk hw0 hn0 hz0 (mm_ks_tail hk0) hl0
  refine ⟨h1, fun ρ H locs ls hr hP hD hS hl => ?_⟩
  exact lv_pop hx hb hd (mm_c1_cat hv) (h2 ρ H locs ls hr hP hD hS hl)
theorem gs_dup2 (hx : p.tables.exec = Jvm.exec) (hb : c.code = cc) {v w : Value} (hv : mm_c1 v = true) (hw : mm_c1 w = true) (hd : decode cc pc = .ok (.dup2, 1)) (hk : mm_Gd p l e R s m args below meth c Q D cA Y A nL n0 z0 ρ0 Mf (pc + 1) L (w :: v :: w :: v :: r) M) : mm_Gd p l e R s m args below meth c Q D cA Y A nL n0 z0 ρ0 Mf pc L (w :: v :: r) M := by
  intro hw0 hn0 hz0 hk0 hl0
  obtain ⟨h1, h2⟩ := hk hw0 hn0 hz0 (mm_ks_cons (mm_ks_head hk0) (mm_ks_cons (mm_ks_head (mm_ks_tail hk0)) hk0)) hl0
  refine ⟨h1, fun ρ H locs ls hr hP hD hS hl => ?_⟩
  exact lv_dup2_11 hx hb hd (mm_c1_cat hw) (mm_c1_cat hv) (h2 ρ H locs ls hr hP hD hS hl)
theorem gs_goto (hx : p.tables.exec = Jvm.exec) (hb : c.code = cc) {off : Int} {tgt : Nat} (hd : decode cc pc = .ok (.goto off, 3)) (ht : (pc : Int) + off = (tgt : Int)) (hk : mm_Gd p l e R s m args below meth c Q D cA Y A nL n0 z0 ρ0 Mf tgt L K M) : mm_Gd p l e R s m args below meth c Q D cA Y A nL n0 z0 ρ0 Mf pc L K M := by
  intro hw0 hn0 hz0 hk0 hl0
  obtain ⟨h1, h2⟩ := hk hw0 hn0 hz0 hk0 hl0
  exact ⟨h1, fun ρ H locs ls hr hP hD hS hl => lv_goto hx hb hd ht (h2 ρ H locs ls hr hP hD hS hl)⟩
theorem gs_icmp_eq (hx : p.tables.exec = Jvm.exec) (hb : c.code = cc) {x y : Int32} {off : Int} {tgt : Nat} (hd : decode cc pc = .ok (.if_icmp .eq off, 3)) (ht : (pc : Int) + off = (tgt : Int)) (kt : x = y → mm_Gd p l e R s m args below meth c Q D cA Y A nL n0 z0 ρ0 Mf tgt L r M) (kf : ¬ x = y → mm_Gd p l e R s m args below meth c Q D cA Y A nL n0 z0 ρ0 Mf (pc + 3) L r M) : mm_Gd p l e R s m args below meth c Q D cA Y A nL n0 z0 ρ0 Mf pc L (.int y :: .int x :: r) M := by
  intro hw0 hn0 hz0 hk0 hl0
  refine ⟨?_, fun ρ H locs ls hr hP hD hS hl => lv_icmp_eq hx hb hd ht (fun q => (kt q hw0 hn0 hz0 (mm_ks_tail (mm_ks_tail hk0)) hl0).2 ρ H locs ls hr hP hD hS hl) (fun q => (kf q hw0 hn0 hz0 (mm_ks_tail (mm_ks_tail hk0)) hl0).2 ρ H locs ls hr hP hD hS hl)⟩
  by_cases q : x = y
  · exact (kt q hw0 hn0 hz0 (mm_ks_tail (mm_ks_tail hk0)) hl0).1
  · exact (kf q hw0 hn0 hz0 (mm_ks_tail (mm_ks_tail hk0)) hl0).1
theorem gs_if_eq (hx : p.tables.exec = Jvm.exec) (hb : c.code = cc) {x : Int32} {off : Int} {tgt : Nat} (hd : decode cc pc = .ok (.ifCond .eq off, 3)) (ht : (pc : Int) + off = (tgt : Int)) (kt : x = 0 → mm_Gd p l e R s m args below meth c Q D cA Y A nL n0 z0 ρ0 Mf tgt L r M) (kf : ¬ x = 0 → mm_Gd p l e R s m args below meth c Q D cA Y A nL n0 z0 ρ0 Mf (pc + 3) L r M) : mm_Gd p l e R s m args below meth c Q D cA Y A nL n0 z0 ρ0 Mf pc L (.int x :: r) M := by
  intro hw0 hn0 hz0 hk0 hl0
  refine ⟨?_, fun ρ H locs ls hr hP hD hS hl => lv_if_eq hx hb hd ht (fun q => (kt q hw0 hn0 hz0 (mm_ks_tail hk0) hl0).2 ρ H locs ls hr hP hD hS hl) (fun q => (kf q hw0 hn0 hz0 (mm_ks_tail hk0) hl0).2 ρ H locs ls hr hP hD hS hl)⟩
  by_cases q : x = 0
  · exact (kt q hw0 hn0 hz0 (mm_ks_tail hk0) hl0).1
  · exact (kf q hw0 hn0 hz0 (mm_ks_tail hk0) hl0).1
theorem gs_icmp_ne (hx : p.tables.exec = Jvm.exec) (hb : c.code = cc) {x y : Int32} {off : Int} {tgt : Nat} (hd : decode cc pc = .ok (.if_icmp .ne off, 3)) (ht : (pc : Int) + off = (tgt : Int)) (kt : ¬ x = y → mm_Gd p l e R s m args below meth c Q D cA Y A nL n0 z0 ρ0 Mf tgt L r M) (kf : x = y → mm_Gd p l e R s m args below meth c Q D cA Y A nL n0 z0 ρ0 Mf (pc + 3) L r M) : mm_Gd p l e R s m args below meth c Q D cA Y A nL n0 z0 ρ0 Mf pc L (.int y :: .int x :: r) M := by
  intro hw0 hn0 hz0 hk0 hl0
  refine ⟨?_, fun ρ H locs ls hr hP hD hS hl => lv_icmp_ne hx hb hd ht (fun q => (kt q hw0 hn0 hz0 (mm_ks_tail (mm_ks_tail hk0)) hl0).2 ρ H locs ls hr hP hD hS hl) (fun q => (kf q hw0 hn0 hz0 (mm_ks_tail (mm_ks_tail hk0)) hl0).2 ρ H locs ls hr hP hD hS hl)⟩
  by_cases q : ¬ x = y
  · exact (kt q hw0 hn0 hz0 (mm_ks_tail (mm_ks_tail hk0)) hl0).1
  · exact (kf (Decidable.of_not_not q) hw0 hn0 hz0 (mm_ks_tail (mm_ks_tail hk0)) hl0).1
theorem gs_if_ne (hx : p.tables.exec = Jvm.exec) (hb : c.code = cc) {x : Int32} {off : Int} {tgt : Nat} (hd : decode cc pc = .ok (.ifCond .ne off, 3)) (ht : (pc : Int) + off = (tgt : Int)) (kt : ¬ x = 0 → mm_Gd p l e R s m args below meth c Q D cA Y A nL n0 z0 ρ0 Mf tgt L r M) (kf : x = 0 → mm_Gd p l e R s m args below meth c Q D cA Y A nL n0 z0 ρ0 Mf (pc + 3) L r M) : mm_Gd p l e R s m args below meth c Q D cA Y A nL n0 z0 ρ0 Mf pc L (.int x :: r) M := by
  intro hw0 hn0 hz0 hk0 hl0
  refine ⟨?_, fun ρ H locs ls hr hP hD hS hl => lv_if_ne hx hb hd ht (fun q => (kt q hw0 hn0 hz0 (mm_ks_tail hk0) hl0).2 ρ H locs ls hr hP hD hS hl) (fun q => (kf q hw0 hn0 hz0 (mm_ks_tail hk0) hl0).2 ρ H locs ls hr hP hD hS hl)⟩
  by_cases q : ¬ x = 0
  · exact (kt q hw0 hn0 hz0 (mm_ks_tail hk0) hl0).1
  · exact (kf (Decidable.of_not_not q) hw0 hn0 hz0 (mm_ks_tail hk0) hl0).1
theorem gs_icmp_lt (hx : p.tables.exec = Jvm.exec) (hb : c.code = cc) {x y : Int32} {off : Int} {tgt : Nat} (hd : decode cc pc = .ok (.if_icmp .lt off, 3)) (ht : (pc : Int) + off = (tgt : Int)) (kt : x < y → mm_Gd p l e R s m args below meth c Q D cA Y A nL n0 z0 ρ0 Mf tgt L r M) (kf : ¬ x < y → mm_Gd p l e R s m args below meth c Q D cA Y A nL n0 z0 ρ0 Mf (pc + 3) L r M) : mm_Gd p l e R s m args below meth c Q D cA Y A nL n0 z0 ρ0 Mf pc L (.int y :: .int x :: r) M := by
  intro hw0 hn0 hz0 hk0 hl0
  refine ⟨?_, fun ρ H locs ls hr hP hD hS hl => lv_icmp_lt hx hb hd ht (fun q => (kt q hw0 hn0 hz0 (mm_ks_tail (mm_ks_tail hk0)) hl0).2 ρ H locs ls hr hP hD hS hl) (fun q => (kf q hw0 hn0 hz0 (mm_ks_tail (mm_ks_tail hk0)) hl0).2 ρ H locs ls hr hP hD hS hl)⟩
  by_cases q : x < y
  · exact (kt q hw0 hn0 hz0 (mm_ks_tail (mm_ks_tail hk0)) hl0).1
  · exact (kf q hw0 hn0 hz0 (mm_ks_tail (mm_ks_tail hk0)) hl0).1
theorem gs_if_lt (hx : p.tables.exec = Jvm.exec) (hb : c.code = cc) {x : Int32} {off : Int} {tgt : Nat} (hd : decode cc pc = .ok (.ifCond .lt off, 3)) (ht : (pc : Int) + off = (tgt : Int)) (kt : x < 0 → mm_Gd p l e R s m args below meth c Q D cA Y A nL n0 z0 ρ0 Mf tgt L r M) (kf : ¬ x < 0 → mm_Gd p l e R s m args below meth c Q D cA Y A nL n0 z0 ρ0 Mf (pc + 3) L r M) : mm_Gd p l e R s m args below meth c Q D cA Y A nL n0 z0 ρ0 Mf pc L (.int x :: r) M := by
  intro hw0 hn0 hz0 hk0 hl0
  refine ⟨?_, fun ρ H locs ls hr hP hD hS hl => lv_if_lt hx hb hd ht (fun q => (kt q hw0 hn0 hz0 (mm_ks_tail hk0) hl0).2 ρ H locs ls hr hP hD hS hl) (fun q => (kf q hw0 hn0 hz0 (mm_ks_tail hk0) hl0).2 ρ H locs ls hr hP hD hS hl)⟩
  by_cases q : x < 0
  · exact (kt q hw0 hn0 hz0 (mm_ks_tail hk0) hl0).1
  · exact (kf q hw0 hn0 hz0 (mm_ks_tail hk0) hl0).1
theorem gs_icmp_ge (hx : p.tables.exec = Jvm.exec) (hb : c.code = cc) {x y : Int32} {off : Int} {tgt : Nat} (hd : decode cc pc = .ok (.if_icmp .ge off, 3)) (ht : (pc : Int) + off = (tgt : Int)) (kt : y ≤ x → mm_Gd p l e R s m args below meth c Q D cA Y A nL n0 z0 ρ0 Mf tgt L r M) (kf : ¬ y ≤ x → mm_Gd p l e R s m args below meth c Q D cA Y A nL n0 z0 ρ0 Mf (pc + 3) L r M) : mm_Gd p l e R s m args below meth c Q D cA Y A nL n0 z0 ρ0 Mf pc L (.int y :: .int x :: r) M := by
  intro hw0 hn0 hz0 hk0 hl0
  refine ⟨?_, fun ρ H locs ls hr hP hD hS hl => lv_icmp_ge hx hb hd ht (fun q => (kt q hw0 hn0 hz0 (mm_ks_tail (mm_ks_tail hk0)) hl0).2 ρ H locs ls hr hP hD hS hl) (fun q => (kf q hw0 hn0 hz0 (mm_ks_tail (mm_ks_tail hk0)) hl0).2 ρ H locs ls hr hP hD hS hl)⟩
  by_cases q : y ≤ x
  · exact (kt q hw0 hn0 hz0 (mm_ks_tail (mm_ks_tail hk0)) hl0).1
  · exact (kf q hw0 hn0 hz0 (mm_ks_tail (mm_ks_tail hk0)) hl0).1
theorem gs_if_ge (hx : p.tables.exec = Jvm.exec) (hb : c.code = cc) {x : Int32} {off : Int} {tgt : Nat} (hd : decode cc pc = .ok (.ifCond .ge off, 3)) (ht : (pc : Int) + off = (tgt : Int)) (kt : 0 ≤ x → mm_Gd p l e R s m args below meth c Q D cA Y A nL n0 z0 ρ0 Mf tgt L r M) (kf : ¬ 0 ≤ x → mm_Gd p l e R s m args below meth c Q D cA Y A nL n0 z0 ρ0 Mf (pc + 3) L r M) : mm_Gd p l e R s m args below meth c Q D cA Y A nL n0 z0 ρ0 Mf pc L (.int x :: r) M := by
  intro hw0 hn0 hz0 hk0 hl0
  refine ⟨?_, fun ρ H locs ls hr hP hD hS hl => lv_if_ge hx hb hd ht (fun q => (kt q hw0 hn0 hz0 (mm_ks_tail hk0) hl0).2 ρ H locs ls hr hP hD hS hl) (fun q => (kf q hw0 hn0 hz0 (mm_ks_tail hk0) hl0).2 ρ H locs ls hr hP hD hS hl)⟩
  by_cases q : 0 ≤ x
  · exact (kt q hw0 hn0 hz0 (mm_ks_tail hk0) hl0).1
  · exact (kf q hw0 hn0 hz0 (mm_ks_tail hk0) hl0).1
theorem gs_icmp_gt (hx : p.tables.exec = Jvm.exec) (hb : c.code = cc) {x y : Int32} {off : Int} {tgt : Nat} (hd : decode cc pc = .ok (.if_icmp .gt off, 3)) (ht : (pc : Int) + off = (tgt : Int)) (kt : y < x → mm_Gd p l e R s m args below meth c Q D cA Y A nL n0 z0 ρ0 Mf tgt L r M) (kf : ¬ y < x → mm_Gd p l e R s m args below meth c Q D cA Y A nL n0 z0 ρ0 Mf (pc + 3) L r M) : mm_Gd p l e R s m args below meth c Q D cA Y A nL n0 z0 ρ0 Mf pc L (.int y :: .int x :: r) M := by
  intro hw0 hn0 hz0 hk0 hl0
  refine ⟨?_, fun ρ H locs ls hr hP hD hS hl => lv_icmp_gt hx hb hd ht (fun q => (kt q hw0 hn0 hz0 (mm_ks_tail (mm_ks_tail hk0)) hl0).2 ρ H locs ls hr hP hD hS hl) (fun q => (kf q hw0 hn0 hz0 (mm_ks_tail (mm_ks_tail hk0)) hl0).2 ρ H locs ls hr hP hD hS hl)⟩
  by_cases q : y < x
  · exact (kt q hw0 hn0 hz0 (mm_ks_tail (mm_ks_tail hk0)) hl0).1
  · exact (kf q hw0 hn0 hz0 (mm_ks_tail (mm_ks_tail hk0)) hl0).1
theorem gs_if_gt (hx : p.tables.exec = Jvm.exec) (hb : c.code = cc) {x : Int32} {off : Int} {tgt : Nat} (hd : decode cc pc = .ok (.ifCond .gt off, 3)) (ht : (pc : Int) + off = (tgt : Int)) (kt : 0 < x → mm_Gd p l e R s m args below meth c Q D cA Y A nL n0 z0 ρ0 Mf tgt L r M) (kf : ¬ 0 < x → mm_Gd p l e R s m args below meth c Q D cA Y A nL n0 z0 ρ0 Mf (pc + 3) L r M) : mm_Gd p l e R s m args below meth c Q D cA Y A nL n0 z0 ρ0 Mf pc L (.int x :: r) M := by
  intro hw0 hn0 hz0 hk0 hl0
  refine ⟨?_, fun ρ H locs ls hr hP hD hS hl => lv_if_gt hx hb hd ht (fun q => (kt q hw0 hn0 hz0 (mm_ks_tail hk0) hl0).2 ρ H locs ls hr hP hD hS hl) (fun q => (kf q hw0 hn0 hz0 (mm_ks_tail hk0) hl0).2 ρ H locs ls hr hP hD hS hl)⟩
  by_cases q : 0 < x
  · exact (kt q hw0 hn0 hz0 (mm_ks_tail hk0) hl0).1
  · exact (kf q hw0 hn0 hz0 (mm_ks_tail hk0) hl0).1
theorem gs_icmp_le (hx : p.tables.exec = Jvm.exec) (hb : c.code = cc) {x y : Int32} {off : Int} {tgt : Nat} (hd : decode cc pc = .ok (.if_icmp .le off, 3)) (ht : (pc : Int) + off = (tgt : Int)) (kt : x ≤ y → mm_Gd p l e R s m args below meth c Q D cA Y A nL n0 z0 ρ0 Mf tgt L r M) (kf : ¬ x ≤ y → mm_Gd p l e R s m args below meth c Q D cA Y A nL n0 z0 ρ0 Mf (pc + 3) L r M) : mm_Gd p l e R s m args below meth c Q D cA Y A nL n0 z0 ρ0 Mf pc L (.int y :: .int x :: r) M := by
  intro hw0 hn0 hz0 hk0 hl0
  refine ⟨?_, fun ρ H locs ls hr hP hD hS hl => lv_icmp_le hx hb hd ht (fun q => (kt q hw0 hn0 hz0 (mm_ks_tail (mm_ks_tail hk0)) hl0).2 ρ H locs ls hr hP hD hS hl) (fun q => (kf q hw0 hn0 hz0 (mm_ks_tail (mm_ks_tail hk0)) hl0).2 ρ H locs ls hr hP hD hS hl)⟩
  by_cases q : x ≤ y
  · exact (kt q hw0 hn0 hz0 (mm_ks_tail (mm_ks_tail hk0)) hl0).1
  · exact (kf q hw0 hn0 hz0 (mm_ks_tail (mm_ks_tail hk0)) hl0).1
theorem gs_if_le (hx : p.tables.exec = Jvm.exec) (hb : c.code = cc) {x : Int32} {off : Int} {tgt : Nat} (hd : decode cc pc = .ok (.ifCond .le off, 3)) (ht : (pc : Int) + off = (tgt : Int)) (kt : x ≤ 0 → mm_Gd p l e R s m args below meth c Q D cA Y A nL n0 z0 ρ0 Mf tgt L r M) (kf : ¬ x ≤ 0 → mm_Gd p l e R s m args below meth c Q D cA Y A nL n0 z0 ρ0 Mf (pc + 3) L r M) : mm_Gd p l e R s m args below meth c Q D cA Y A nL n0 z0 ρ0 Mf pc L (.int x :: r) M := by
  intro hw0 hn0 hz0 hk0 hl0
  refine ⟨?_, fun ρ H locs ls hr hP hD hS hl => lv_if_le hx hb hd ht (fun q => (kt q hw0 hn0 hz0 (mm_ks_tail hk0) hl0).2 ρ H locs ls hr hP hD hS hl) (fun q => (kf q hw0 hn0 hz0 (mm_ks_tail hk0) hl0).2 ρ H locs ls hr hP hD hS hl)⟩
  by_cases q : x ≤ 0
  · exact (kt q hw0 hn0 hz0 (mm_ks_tail hk0) hl0).1
  · exact (kf q hw0 hn0 hz0 (mm_ks_tail hk0) hl0).1
theorem gs_ifnull_r (hx : p.tables.exec = Jvm.exec) (hb : c.code = cc) {x : Nat} {off : Int} {tgt : Nat} (hd : decode cc pc = .ok (.ifnull off, 3)) (ht : (pc : Int) + off = (tgt : Int)) (hk : mm_Gd p l e R s m args below meth c Q D cA Y A nL n0 z0 ρ0 Mf (pc + 3) L r M) : mm_Gd p l e R s m args below meth c Q D cA Y A nL n0 z0 ρ0 Mf pc L (.ref x :: r) M := by
  intro hw0 hn0 hz0 hk0 hl0
  obtain ⟨h1, h2⟩ := hk hw0 hn0 hz0 (mm_ks_tail hk0) hl0
  exact ⟨h1, fun ρ H locs ls hr hP hD hS hl => lv_ifnull hx hb hd (h2 ρ H locs ls hr hP hD hS hl)⟩
theorem gs_ifnull_n (hx : p.tables.exec = Jvm.exec) (hb : c.code = cc) {x : Nat} {off : Int} {tgt : Nat} (hd : decode cc pc = .ok (.ifnull off, 3)) (ht : (pc : Int) + off = (tgt : Int)) (hk : mm_Gd p l e R s m args below meth c Q D cA Y A nL n0 z0 ρ0 Mf tgt L r M) : mm_Gd p l e R s m args below meth c Q D cA Y A nL n0 z0 ρ0 Mf pc L (.null :: r) M := by
  intro hw0 hn0 hz0 hk0 hl0
  obtain ⟨h1, h2⟩ := hk hw0 hn0 hz0 (mm_ks_tail hk0) hl0
  exact ⟨h1, fun ρ H locs ls hr hP hD hS hl => lv_ifnullN hx hb hd ht (h2 ρ H locs ls hr hP hD hS hl)⟩
theorem gs_ifnonnull_r (hx : p.tables.exec = Jvm.exec) (hb : c.code = cc) {x : Nat} {off : Int} {tgt : Nat} (hd : decode cc pc = .ok (.ifnonnull off, 3)) (ht : (pc : Int) + off = (tgt : Int)) (hk : mm_Gd p l e R s m args below meth c Q D cA Y A nL n0 z0 ρ0 Mf tgt L r M) : mm_Gd p l e R s m args below meth c Q D cA Y A nL n0 z0 ρ0 Mf pc L (.ref x :: r) M := by
  intro hw0 hn0 hz0 hk0 hl0
  obtain ⟨h1, h2⟩ := hk hw0 hn0 hz0 (mm_ks_tail hk0) hl0
  exact ⟨h1, fun ρ H locs ls hr hP hD hS hl => lv_ifnonnull hx hb hd ht (h2 ρ H locs ls hr hP hD hS hl)⟩
theorem gs_ifnonnull_n (hx : p.tables.exec = Jvm.exec) (hb : c.code = cc) {x : Nat} {off : Int} {tgt : Nat} (hd : decode cc pc = .ok (.ifnonnull off, 3)) (ht : (pc : Int) + off = (tgt : Int)) (hk : mm_Gd p l e R s m args below meth c Q D cA Y A nL n0 z0 ρ0 Mf (pc + 3) L r M) : mm_Gd p l e R s m args below meth c Q D cA Y A nL n0 z0 ρ0 Mf pc L (.null :: r) M := by
  intro hw0 hn0 hz0 hk0 hl0
  obtain ⟨h1, h2⟩ := hk hw0 hn0 hz0 (mm_ks_tail hk0) hl0
  exact ⟨h1, fun ρ H locs ls hr hP hD hS hl => lv_ifnonnullN hx hb hd (h2 ρ H locs ls hr hP hD hS hl)⟩
end GS
end
section
/-! cells: what a write does to them -/
theorem mm_up_same {α : Type} (f : Nat → Nat → α) (a k : Nat) (v : α) : mm_up f a k v a k = v := by simp [mm_up]
theorem mm_up_ne {α : Type} (f : Nat → Nat → α) {a b : Nat} (k : Nat) (v : α) (h : b ≠ a) : mm_up f a k v b = f b := by
  funext j
  simp [mm_up, h]
theorem mm_up_nk {α : Type} (f : Nat → Nat → α) (a : Nat) {k j : Nat} (v : α) (h : j ≠ k) : mm_up f a k v a j = f a j := by simp [mm_up, h]
theorem mm_up_upd (f : Nat → Nat → Int32) (a k : Nat) (v : Int32) : mm_up f a k v a = upd (f a) k v := by
  funext j
  simp [mm_up, upd]
theorem mm_up_updL (f : Nat → Nat → Int64) (a k : Nat) (v : Int64) : mm_up f a k v a = vp_updL (f a) k v := by
  funext j
  simp [mm_up, vp_updL]
theorem mm_row_same {α : Type} (f : Nat → Nat → α) (a : Nat) (r : Nat → α) : mm_row f a r a = r := by simp [mm_row]
theorem mm_row_ne {α : Type} (f : Nat → Nat → α) {a b : Nat} (r : Nat → α) (h : b ≠ a) : mm_row f a r b = f b := by simp [mm_row, h]
theorem mm_p_wP {Y : mmY} {M : mmM} {a b k : Nat} {v : Option Nat} (h : b ≠ a) (j : Nat) : mm_p Y (mm_wP M a k v) b j = mm_p Y M b j := by
  unfold mm_p
  cases mm_fx Y b j with
  | some r => rfl
  | none => simp only [mm_up_ne _ _ _ h]
theorem mm_p_wP_same {Y : mmY} {M : mmM} {a k : Nat} {v : Option Nat} (hf : mm_free Y a k = true) : mm_p Y (mm_wP M a k v) a k = v := by
  unfold mm_free at hf
  unfold mm_p
  cases h : mm_fx Y a k with
  | some r => rw [h] at hf; cases hf
  | none => simp only [mm_up_same]
theorem mm_p_wP_nk {Y : mmY} {M : mmM} {a k j : Nat} {v : Option Nat} (h : j ≠ k) : mm_p Y (mm_wP M a k v) a j = mm_p Y M a j := by
  unfold mm_p
  cases mm_fx Y a j with
  | some r => rfl
  | none => simp only [mm_up_nk _ _ _ h]
theorem mm_cell_congr {cA : Nat → ClassId} {ρ ρ' : Nat → Nat} {Y : mmY} {M M' : mmM} {b : Nat} (hs : mm_s Y M' b = mm_s Y M b) (hI : M'.2.2.2.1 b = M.2.2.2.1 b) (hJ : M'.2.2.2.2.1 b = M.2.2.2.2.1 b) (hP : ∀ k, (mm_p Y M' b k).map ρ' = (mm_p Y M b k).map ρ) : mm_cell cA ρ' Y M' b = mm_cell cA ρ Y M b := by
  have hfv : ∀ t k, mm_fv ρ' Y M' b t k = mm_fv ρ Y M b t k := by
    intro t k
    unfold mm_fv
    rw [hI, hJ, hP]
  have hct : ∀ ty, mm_ct ρ' Y M' b ty = mm_ct ρ Y M b ty := by
    intro ty
    unfold mm_ct
    rw [hI, hJ]
    simp only [hP]
  unfold mm_cell
  rw [hs]
  simp only [mm_fs, hfv, hct]
theorem mm_cell_wI {cA : Nat → ClassId} {ρ : Nat → Nat} {Y : mmY} {M : mmM} {a b k : Nat} {v : Int32} (h : b ≠ a) : mm_cell cA ρ Y (mm_wI M a k v) b = mm_cell cA ρ Y M b := mm_cell_congr rfl (mm_up_ne _ _ _ h) rfl (fun _ => rfl)
theorem mm_cell_wJ {cA : Nat → ClassId} {ρ : Nat → Nat} {Y : mmY} {M : mmM} {a b k : Nat} {v : Int64} (h : b ≠ a) : mm_cell cA ρ Y (mm_wJ M a k v) b = mm_cell cA ρ Y M b := mm_cell_congr rfl rfl (mm_up_ne _ _ _ h) (fun _ => rfl)
theorem mm_cell_wP {cA : Nat → ClassId} {ρ : Nat → Nat} {Y : mmY} {M : mmM} {a b k : Nat} {v : Option Nat} (h : b ≠ a) : mm_cell cA ρ Y (mm_wP M a k v) b = mm_cell cA ρ Y M b := mm_cell_congr rfl rfl rfl (fun _ => by rw [mm_p_wP h])
theorem mm_cell_wR {cA : Nat → ClassId} {ρ : Nat → Nat} {Y : mmY} {M : mmM} {a b : Nat} {g : Nat → Int32} (h : b ≠ a) : mm_cell cA ρ Y (mm_wR M a g) b = mm_cell cA ρ Y M b := mm_cell_congr rfl (mm_row_ne _ _ h) rfl (fun _ => rfl)
theorem mm_fs_at {ρ : Nat → Nat} {Y : mmY} {M : mmM} {a ci k : Nat} (hk : k < mm_size.getD ci 0) : (mm_fs ρ Y M a ci)[k]? = some (mm_fv ρ Y M a (mm_tyOf ci k) k) := by
  unfold mm_fs
  rw [List.getElem?_map, List.getElem?_range hk]
  rfl
theorem mm_fs_len {ρ : Nat → Nat} {Y : mmY} {M : mmM} {a ci : Nat} : (mm_fs ρ Y M a ci).length = mm_size.getD ci 0 := by simp [mm_fs]
theorem mm_fs_set {ρ : Nat → Nat} {Y : mmY} {M M' : mmM} {a ci k : Nat} {v : Value} (hv : mm_fv ρ Y M' a (mm_tyOf ci k) k = v) (ho : ∀ j, j ≠ k → ∀ t, mm_fv ρ Y M' a t j = mm_fv ρ Y M a t j) : mm_fs ρ Y M' a ci = (mm_fs ρ Y M a ci).set k v := by
  unfold mm_fs
  apply List.ext_getElem?
  intro j
  rw [List.getElem?_set, List.getElem?_map, List.length_map, List.length_range]
  by_cases hj : j < mm_size.getD ci 0
  · rw [List.getElem?_map, List.getElem?_range hj]
    by_cases e : k = j
    · subst e
      simp only [if_true, hj, Option.map_some, hv]
    · rw [if_neg e]
      simp only [Option.map_some]
      rw [ho j (fun q => e q.symm)]
  · rw [List.getElem?_map, List.getElem?_eq_none (by rw [List.length_range]; omega)]
    by_cases e : k = j
    · rw [if_pos e, if_neg (by omega)]; rfl
    · rw [if_neg e]; rfl
theorem mm_cell_obj {cA : Nat → ClassId} {ρ : Nat → Nat} {Y : mmY} {M : mmM} {a ci : Nat} (h : mm_s Y M a = .inl ci) : mm_cell cA ρ Y M a = .inr (ci, mm_fs ρ Y M a ci) := by
  unfold mm_cell
  rw [h]
theorem mm_cell_arr {cA : Nat → ClassId} {ρ : Nat → Nat} {Y : mmY} {M : mmM} {a ty n : Nat} (h : mm_s Y M a = .inr (ty, n)) : mm_cell cA ρ Y M a = .inl (cA ty, n, mm_ct ρ Y M a ty) := by
  unfold mm_cell
  rw [h]
theorem mm_obj_eq {s : mmSh} {ci : Nat} (h : mm_obj s ci = true) : s = .inl ci := by
  cases s with
  | inl c => simp only [mm_obj] at h; rw [Nat.eq_of_beq_eq_true h]
  | inr q => cases h
theorem mm_arr_eq {s : mmSh} {ty n : Nat} (h : mm_arr s ty = some n) : s = .inr (ty, n) := by
  cases s with
  | inl c => cases h
  | inr q =>
    obtain ⟨t, k⟩ := q
    simp only [mm_arr] at h
    cases hb : Nat.beq t ty with
    | false => rw [hb] at h; cases h
    | true =>
      rw [hb] at h
      cases h
      rw [Nat.eq_of_beq_eq_true hb]
theorem mm_inb_in {i : Int32} {n : Nat} (h : mm_inb i n = true) : vp_in i n := by
  unfold mm_inb at h
  by_cases h0 : i < 0
  · simp [h0] at h
  · simp [h0] at h
    rintro (q | q)
    · exact h0 q
    · have := (Nat.blt_eq).mp (by simpa using h : Nat.blt i.toNatClampNeg n = true)
      omega
theorem mm_s_lt {Y : mmY} {M : mmM} {o : Nat} (hY : mm_wfY Y) {ci : Nat} (h : mm_s Y M o = .inl ci) {q : vw_C} (hc : mm_cl[ci]? = some q) : 16 ≤ o := by
  by_cases h16 : 16 ≤ o
  · exact h16
  · exfalso
    have hlt : o < 16 := by omega
    unfold mm_s at h
    have hb : Nat.blt o Y.1 = true := Nat.blt_eq.mpr (Nat.lt_of_lt_of_le hlt hY.1)
    rw [hb] at h
    have := hY.2 o ci hlt h
    rw [this] at hc
    cases hc
theorem mm_s_tab {Y : mmY} {M : mmM} {o : Nat} (hY : mm_wfY Y) (h : ¬ 16 ≤ o) : mm_s Y M o = Y.2.1 o := by
  unfold mm_s
  rw [show Nat.blt o Y.1 = true from Nat.blt_eq.mpr (Nat.lt_of_lt_of_le (by omega) hY.1)]
  rfl
theorem mm_i_tab {Y : mmY} {M : mmM} {o k : Nat} (h : ¬ 16 ≤ o) : mm_i Y M o k = Y.2.2.2 o k := by
  unfold mm_i
  rw [show Nat.blt o 16 = true from Nat.blt_eq.mpr (by omega)]
  rfl
theorem mm_i_heap {Y : mmY} {M : mmM} {o k : Nat} (h : 16 ≤ o) : mm_i Y M o k = M.2.2.2.1 o k := by
  unfold mm_i
  rw [show Nat.blt o 16 = false from Bool.eq_false_iff.mpr fun q => by have := Nat.blt_eq.mp q; omega]
  rfl
theorem mm_size_of {ci : Nat} {q : vw_C} (hc : mm_cl[ci]? = some q) : mm_size.getD ci 0 = q.2.2 := by
  rw [List.getD_eq_getElem?_getD, (mm_cl_ok ci q hc).1]
  rfl
end
section
section GH
variable {p : Program} {l : Launch} {e : Env} {R : Room} {s : State} {m : MethodId} {args : Array Value} {below : List Frame} {meth : Method} {c : Code} {Q : State → Prop} {D : va_G} {cA : Nat → ClassId} {Y : mmY} {A : Nat → Prop} {nL n0 z0 : Nat} {ρ0 : Nat → Nat} {Mf : mmM} {cc : ByteArray} {pc : Nat} {L : mmL} {K r : List Value} {M : mmM}
variable {Ts : List Cond} {own C : String} {index o k ci : Nat} {q : vw_C}
theorem gh_getI (hx : p.tables.exec = Jvm.exec) (hb : c.code = cc) (hY : mm_wfY Y) (hts : ∀ w ∈ Ts, w.before args s = true) (hown : s.vm.findClass own = some m.cls) (hK : va_K D mm_cl (mm_tysA cA) s) (hc : mm_cl[ci]? = some q) (hin : ∀ w ∈ u_ws q.1 q.2.1 q.2.2, w ∈ Ts) (hk : k < q.2.2) (hlink : (Cond.fieldLink own index (q.2.1 k).1 (q.2.1 k).2.1 (q.2.1 k).2.2.1).before args s = true ∨ ∃ host, (Cond.fieldLinkNest own index (q.2.1 k).1 (q.2.1 k).2.1 (q.2.1 k).2.2.1 host).before args s = true) (ho : mm_s Y M o = .inl ci) (ht : mm_tyOf ci k = .int ∨ mm_tyOf ci k = .boolean) (hd : decode cc pc = .ok (.getfield index, 3)) (kk : mm_Gd p l e R s m args below meth c Q D cA Y A nL n0 z0 ρ0 Mf (pc + 3) L (.int (M.2.2.2.1 o k) :: r) M) : mm_Gd p l e R s m args below meth c Q D cA Y A nL n0 z0 ρ0 Mf pc L (.ref o :: r) M := by
  intro hw0 hn0 hz0 hk0 hl0
  have h16 : 16 ≤ o := mm_s_lt hY ho hc
  obtain ⟨h1, h2⟩ := kk hw0 hn0 hz0 (mm_ks_cons trivial (mm_ks_tail hk0)) hl0
  refine ⟨h1, fun ρ H locs ls hr hP hD hS hl => ?_⟩
  have he := mm_enc_at (cA := cA) (ρ := ρ) (Y := Y) h16 (mm_ks_head hk0)
  rw [mm_cell_obj ho] at he
  have hv : (mm_fs ρ Y M o ci)[k]? = some (mm_tr ρ (.int (M.2.2.2.1 o k))) := by
    rw [mm_fs_at (by rw [mm_size_of hc]; exact hk)]
    congr 1
    unfold mm_fv
    rcases ht with ht | ht <;> rw [ht] <;> rfl
  rcases hlink with hlink | ⟨host, hlink⟩
  · exact va_get hx hb hts hin hown hK hP (o - 16) he hc k hk hlink (fun _ h9 => h9) hv hd (h2 ρ H locs ls hr hP hD hS hl)
  · exact va_getN hx hb hts hin hown hK hP (o - 16) he hc k hk hlink (fun _ h9 => h9) hv hd (h2 ρ H locs ls hr hP hD hS hl)
theorem gh_getJ (hx : p.tables.exec = Jvm.exec) (hb : c.code = cc) (hY : mm_wfY Y) (hts : ∀ w ∈ Ts, w.before args s = true) (hown : s.vm.findClass own = some m.cls) (hK : va_K D mm_cl (mm_tysA cA) s) (hc : mm_cl[ci]? = some q) (hin : ∀ w ∈ u_ws q.1 q.2.1 q.2.2, w ∈ Ts) (hk : k < q.2.2) (hlink : (Cond.fieldLink own index (q.2.1 k).1 (q.2.1 k).2.1 (q.2.1 k).2.2.1).before args s = true ∨ ∃ host, (Cond.fieldLinkNest own index (q.2.1 k).1 (q.2.1 k).2.1 (q.2.1 k).2.2.1 host).before args s = true) (ho : mm_s Y M o = .inl ci) (ht : mm_tyOf ci k = .long) (hd : decode cc pc = .ok (.getfield index, 3)) (kk : mm_Gd p l e R s m args below meth c Q D cA Y A nL n0 z0 ρ0 Mf (pc + 3) L (.long (M.2.2.2.2.1 o k) :: r) M) : mm_Gd p l e R s m args below meth c Q D cA Y A nL n0 z0 ρ0 Mf pc L (.ref o :: r) M := by
  intro hw0 hn0 hz0 hk0 hl0
  have h16 : 16 ≤ o := mm_s_lt hY ho hc
  obtain ⟨h1, h2⟩ := kk hw0 hn0 hz0 (mm_ks_cons trivial (mm_ks_tail hk0)) hl0
  refine ⟨h1, fun ρ H locs ls hr hP hD hS hl => ?_⟩
  have he := mm_enc_at (cA := cA) (ρ := ρ) (Y := Y) h16 (mm_ks_head hk0)
  rw [mm_cell_obj ho] at he
  have hv : (mm_fs ρ Y M o ci)[k]? = some (mm_tr ρ (.long (M.2.2.2.2.1 o k))) := by
    rw [mm_fs_at (by rw [mm_size_of hc]; exact hk)]
    congr 1
    unfold mm_fv
    rw [ht]; rfl
  rcases hlink with hlink | ⟨host, hlink⟩
  · exact va_get hx hb hts hin hown hK hP (o - 16) he hc k hk hlink (fun _ h9 => h9) hv hd (h2 ρ H locs ls hr hP hD hS hl)
  · exact va_getN hx hb hts hin hown hK hP (o - 16) he hc k hk hlink (fun _ h9 => h9) hv hd (h2 ρ H locs ls hr hP hD hS hl)
theorem gh_getP (hx : p.tables.exec = Jvm.exec) (hb : c.code = cc) (hY : mm_wfY Y) (hts : ∀ w ∈ Ts, w.before args s = true) (hown : s.vm.findClass own = some m.cls) (hK : va_K D mm_cl (mm_tysA cA) s) (hc : mm_cl[ci]? = some q) (hin : ∀ w ∈ u_ws q.1 q.2.1 q.2.2, w ∈ Ts) (hk : k < q.2.2) (hlink : (Cond.fieldLink own index (q.2.1 k).1 (q.2.1 k).2.1 (q.2.1 k).2.2.1).before args s = true ∨ ∃ host, (Cond.fieldLinkNest own index (q.2.1 k).1 (q.2.1 k).2.1 (q.2.1 k).2.2.1 host).before args s = true) (ho : mm_s Y M o = .inl ci) (ht : mm_tk (mm_tyOf ci k) = 2) (hd : decode cc pc = .ok (.getfield index, 3)) (kk : mm_Gd p l e R s m args below meth c Q D cA Y A nL n0 z0 ρ0 Mf (pc + 3) L (mm_rv (mm_p Y M o k) :: r) M) : mm_Gd p l e R s m args below meth c Q D cA Y A nL n0 z0 ρ0 Mf pc L (.ref o :: r) M := by
  intro hw0 hn0 hz0 hk0 hl0
  have h16 : 16 ≤ o := mm_s_lt hY ho hc
  obtain ⟨h1, h2⟩ := kk hw0 hn0 hz0 (mm_ks_cons (mm_okv_rv fun b hb2 => hw0.2 o k b h16 (mm_ks_head hk0) hb2) (mm_ks_tail hk0)) hl0
  refine ⟨h1, fun ρ H locs ls hr hP hD hS hl => ?_⟩
  have he := mm_enc_at (cA := cA) (ρ := ρ) (Y := Y) h16 (mm_ks_head hk0)
  rw [mm_cell_obj ho] at he
  have hv : (mm_fs ρ Y M o ci)[k]? = some (mm_tr ρ (mm_rv (mm_p Y M o k))) := by
    rw [mm_fs_at (by rw [mm_size_of hc]; exact hk)]
    congr 1
    unfold mm_fv
    rw [mm_tr_rv]; cases h : mm_tyOf ci k <;> first | rfl | (rw [h] at ht; cases ht)
  rcases hlink with hlink | ⟨host, hlink⟩
  · exact va_get hx hb hts hin hown hK hP (o - 16) he hc k hk hlink (fun _ h9 => h9) hv hd (h2 ρ H locs ls hr hP hD hS hl)
  · exact va_getN hx hb hts hin hown hK hP (o - 16) he hc k hk hlink (fun _ h9 => h9) hv hd (h2 ρ H locs ls hr hP hD hS hl)
theorem gh_putI (hx : p.tables.exec = Jvm.exec) (hb : c.code = cc) (hY : mm_wfY Y) (hts : ∀ w ∈ Ts, w.before args s = true) (hown : s.vm.findClass own = some m.cls) (hK : va_K D mm_cl (mm_tysA cA) s) (hc : mm_cl[ci]? = some q) (hin : ∀ w ∈ u_ws q.1 q.2.1 q.2.2, w ∈ Ts) (hk : k < q.2.2) (hlink : (Cond.fieldLink own index (q.2.1 k).1 (q.2.1 k).2.1 (q.2.1 k).2.2.1).before args s = true ∨ ∃ host, (Cond.fieldLinkNest own index (q.2.1 k).1 (q.2.1 k).2.1 (q.2.1 k).2.2.1 host).before args s = true) (ho : mm_s Y M o = .inl ci) (hfin : (q.2.1 k).2.2.2 = false ∨ ((q.2.1 k).2.2.2 = true ∧ meth.name = "<init>" ∧ (q.2.1 k).1 = own ∧ (Cond.fieldLink own index (q.2.1 k).1 (q.2.1 k).2.1 (q.2.1 k).2.2.1).before args s = true)) {x : Int32} (ht : mm_tyOf ci k = .int) (hd : decode cc pc = .ok (.putfield index, 3)) (kk : mm_Gd p l e R s m args below meth c Q D cA Y A nL n0 z0 ρ0 Mf (pc + 3) L r (mm_wI M o k x)) : mm_Gd p l e R s m args below meth c Q D cA Y A nL n0 z0 ρ0 Mf pc L (.int x :: .ref o :: r) M := by
  intro hw0 hn0 hz0 hk0 hl0
  have h16 : 16 ≤ o := mm_s_lt hY ho hc
  have hon : o < M.2.1 := mm_ks_head (mm_ks_tail hk0)
  have hw1 : mm_wf Y (mm_wI M o k x) := hw0
  obtain ⟨h1, h2⟩ := kk hw1 hn0 hz0 (mm_ks_tail (mm_ks_tail hk0)) hl0
  refine ⟨h1, fun ρ H locs ls hr hP hD hS hl => ?_⟩
  have he := mm_enc_at (cA := cA) (ρ := ρ) (Y := Y) h16 hon
  rw [mm_cell_obj ho] at he
  have hcell : mm_cell cA ρ Y (mm_wI M o k x) o = .inr (ci, (mm_fs ρ Y M o ci).set k (.int x)) := by
    rw [mm_cell_obj (M := (mm_wI M o k x)) (ci := ci) ho]
    congr 2
    exact mm_fs_set (by rw [ht]; exact congrArg Value.int (mm_up_same _ _ _ _)) (by intro j hj t; unfold mm_fv; cases t <;> first | rfl | exact congrArg Value.int (mm_up_nk _ _ _ hj))
  have hset := mm_enc_set (cA := cA) (ρ := ρ) (Y := Y) (M := M) (M' := (mm_wI M o k x)) h16 hon rfl hcell (fun b _ _ hb3 => mm_cell_wI hb3)
  obtain ⟨hsz, hty, hnm⟩ := mm_cl_ok ci q hc
  have hd0 := hty k hk
  rw [ht] at hd0
  rcases hfin with hfin | ⟨hfin, hnam, hdec, hlk⟩
  · rcases hlink with hlink | ⟨host, hlink⟩
    · exact va_put hx hb hts hin (mm_tyOf ci) hty hnm hown hK hP hD hS (o - 16) he hc k hk hlink (fun _ h9 => h9) hfin hd0 rfl rfl (by rw [mm_fs_len, mm_size_of hc]; exact hk) hd (fun H1 locs1 hP1 hD1 hS1 => h2 ρ H1 locs1 ls hr (by rw [← hset]; exact hP1) (by rw [← hset]; exact hD1) hS1 hl)
    · exact va_putN hx hb hts hin (mm_tyOf ci) hty hnm hown hK hP hD hS (o - 16) he hc k hk hlink (fun _ h9 => h9) hfin hd0 rfl rfl (by rw [mm_fs_len, mm_size_of hc]; exact hk) hd (fun H1 locs1 hP1 hD1 hS1 => h2 ρ H1 locs1 ls hr (by rw [← hset]; exact hP1) (by rw [← hset]; exact hD1) hS1 hl)
  · exact va_putF hx hb hts hin (mm_tyOf ci) hty hnm hown hK hP hD hS (o - 16) he hc k hk hlk (fun _ h9 => h9) hfin hnam hdec hd0 rfl rfl (by rw [mm_fs_len, mm_size_of hc]; exact hk) hd (fun H1 locs1 hP1 hD1 hS1 => h2 ρ H1 locs1 ls hr (by rw [← hset]; exact hP1) (by rw [← hset]; exact hD1) hS1 hl)
theorem gh_putZ (hx : p.tables.exec = Jvm.exec) (hb : c.code = cc) (hY : mm_wfY Y) (hts : ∀ w ∈ Ts, w.before args s = true) (hown : s.vm.findClass own = some m.cls) (hK : va_K D mm_cl (mm_tysA cA) s) (hc : mm_cl[ci]? = some q) (hin : ∀ w ∈ u_ws q.1 q.2.1 q.2.2, w ∈ Ts) (hk : k < q.2.2) (hlink : (Cond.fieldLink own index (q.2.1 k).1 (q.2.1 k).2.1 (q.2.1 k).2.2.1).before args s = true ∨ ∃ host, (Cond.fieldLinkNest own index (q.2.1 k).1 (q.2.1 k).2.1 (q.2.1 k).2.2.1 host).before args s = true) (ho : mm_s Y M o = .inl ci) (hfin : (q.2.1 k).2.2.2 = false ∨ ((q.2.1 k).2.2.2 = true ∧ meth.name = "<init>" ∧ (q.2.1 k).1 = own ∧ (Cond.fieldLink own index (q.2.1 k).1 (q.2.1 k).2.1 (q.2.1 k).2.2.1).before args s = true)) {x : Int32} (ht : mm_tyOf ci k = .boolean) (hx01 : x = 0 ∨ x = 1) (hd : decode cc pc = .ok (.putfield index, 3)) (kk : mm_Gd p l e R s m args below meth c Q D cA Y A nL n0 z0 ρ0 Mf (pc + 3) L r (mm_wI M o k x)) : mm_Gd p l e R s m args below meth c Q D cA Y A nL n0 z0 ρ0 Mf pc L (.int x :: .ref o :: r) M := by
  intro hw0 hn0 hz0 hk0 hl0
  have h16 : 16 ≤ o := mm_s_lt hY ho hc
  have hon : o < M.2.1 := mm_ks_head (mm_ks_tail hk0)
  have hw1 : mm_wf Y (mm_wI M o k x) := hw0
  obtain ⟨h1, h2⟩ := kk hw1 hn0 hz0 (mm_ks_tail (mm_ks_tail hk0)) hl0
  refine ⟨h1, fun ρ H locs ls hr hP hD hS hl => ?_⟩
  have he := mm_enc_at (cA := cA) (ρ := ρ) (Y := Y) h16 hon
  rw [mm_cell_obj ho] at he
  have hcell : mm_cell cA ρ Y (mm_wI M o k x) o = .inr (ci, (mm_fs ρ Y M o ci).set k (.int x)) := by
    rw [mm_cell_obj (M := (mm_wI M o k x)) (ci := ci) ho]
    congr 2
    exact mm_fs_set (by rw [ht]; exact congrArg Value.int (mm_up_same _ _ _ _)) (by intro j hj t; unfold mm_fv; cases t <;> first | rfl | exact congrArg Value.int (mm_up_nk _ _ _ hj))
  have hset := mm_enc_set (cA := cA) (ρ := ρ) (Y := Y) (M := M) (M' := (mm_wI M o k x)) h16 hon rfl hcell (fun b _ _ hb3 => mm_cell_wI hb3)
  obtain ⟨hsz, hty, hnm⟩ := mm_cl_ok ci q hc
  have hd0 := hty k hk
  rw [ht] at hd0
  rcases hfin with hfin | ⟨hfin, hnam, hdec, hlk⟩
  · rcases hlink with hlink | ⟨host, hlink⟩
    · exact va_put hx hb hts hin (mm_tyOf ci) hty hnm hown hK hP hD hS (o - 16) he hc k hk hlink (fun _ h9 => h9) hfin hd0 (by rcases hx01 with rfl | rfl <;> rfl) (by rcases hx01 with rfl | rfl <;> rfl) (by rw [mm_fs_len, mm_size_of hc]; exact hk) hd (fun H1 locs1 hP1 hD1 hS1 => h2 ρ H1 locs1 ls hr (by rw [← hset]; exact hP1) (by rw [← hset]; exact hD1) hS1 hl)
    · exact va_putN hx hb hts hin (mm_tyOf ci) hty hnm hown hK hP hD hS (o - 16) he hc k hk hlink (fun _ h9 => h9) hfin hd0 (by rcases hx01 with rfl | rfl <;> rfl) (by rcases hx01 with rfl | rfl <;> rfl) (by rw [mm_fs_len, mm_size_of hc]; exact hk) hd (fun H1 locs1 hP1 hD1 hS1 => h2 ρ H1 locs1 ls hr (by rw [← hset]; exact hP1) (by rw [← hset]; exact hD1) hS1 hl)
  · exact va_putF hx hb hts hin (mm_tyOf ci) hty hnm hown hK hP hD hS (o - 16) he hc k hk hlk (fun _ h9 => h9) hfin hnam hdec hd0 (by rcases hx01 with rfl | rfl <;> rfl) (by rcases hx01 with rfl | rfl <;> rfl) (by rw [mm_fs_len, mm_size_of hc]; exact hk) hd (fun H1 locs1 hP1 hD1 hS1 => h2 ρ H1 locs1 ls hr (by rw [← hset]; exact hP1) (by rw [← hset]; exact hD1) hS1 hl)
theorem gh_putJ (hx : p.tables.exec = Jvm.exec) (hb : c.code = cc) (hY : mm_wfY Y) (hts : ∀ w ∈ Ts, w.before args s = true) (hown : s.vm.findClass own = some m.cls) (hK : va_K D mm_cl (mm_tysA cA) s) (hc : mm_cl[ci]? = some q) (hin : ∀ w ∈ u_ws q.1 q.2.1 q.2.2, w ∈ Ts) (hk : k < q.2.2) (hlink : (Cond.fieldLink own index (q.2.1 k).1 (q.2.1 k).2.1 (q.2.1 k).2.2.1).before args s = true ∨ ∃ host, (Cond.fieldLinkNest own index (q.2.1 k).1 (q.2.1 k).2.1 (q.2.1 k).2.2.1 host).before args s = true) (ho : mm_s Y M o = .inl ci) (hfin : (q.2.1 k).2.2.2 = false ∨ ((q.2.1 k).2.2.2 = true ∧ meth.name = "<init>" ∧ (q.2.1 k).1 = own ∧ (Cond.fieldLink own index (q.2.1 k).1 (q.2.1 k).2.1 (q.2.1 k).2.2.1).before args s = true)) {x : Int64} (ht : mm_tyOf ci k = .long) (hd : decode cc pc = .ok (.putfield index, 3)) (kk : mm_Gd p l e R s m args below meth c Q D cA Y A nL n0 z0 ρ0 Mf (pc + 3) L r (mm_wJ M o k x)) : mm_Gd p l e R s m args below meth c Q D cA Y A nL n0 z0 ρ0 Mf pc L (.long x :: .ref o :: r) M := by
  intro hw0 hn0 hz0 hk0 hl0
  have h16 : 16 ≤ o := mm_s_lt hY ho hc
  have hon : o < M.2.1 := mm_ks_head (mm_ks_tail hk0)
  have hw1 : mm_wf Y (mm_wJ M o k x) := hw0
  obtain ⟨h1, h2⟩ := kk hw1 hn0 hz0 (mm_ks_tail (mm_ks_tail hk0)) hl0
  refine ⟨h1, fun ρ H locs ls hr hP hD hS hl => ?_⟩
  have he := mm_enc_at (cA := cA) (ρ := ρ) (Y := Y) h16 hon
  rw [mm_cell_obj ho] at he
  have hcell : mm_cell cA ρ Y (mm_wJ M o k x) o = .inr (ci, (mm_fs ρ Y M o ci).set k (.long x)) := by
    rw [mm_cell_obj (M := (mm_wJ M o k x)) (ci := ci) ho]
    congr 2
    exact mm_fs_set (by rw [ht]; exact congrArg Value.long (mm_up_same _ _ _ _)) (by intro j hj t; unfold mm_fv; cases t <;> first | rfl | exact congrArg Value.long (mm_up_nk _ _ _ hj))
  have hset := mm_enc_set (cA := cA) (ρ := ρ) (Y := Y) (M := M) (M' := (mm_wJ M o k x)) h16 hon rfl hcell (fun b _ _ hb3 => mm_cell_wJ hb3)
  obtain ⟨hsz, hty, hnm⟩ := mm_cl_ok ci q hc
  have hd0 := hty k hk
  rw [ht] at hd0
  rcases hfin with hfin | ⟨hfin, hnam, hdec, hlk⟩
  · rcases hlink with hlink | ⟨host, hlink⟩
    · exact va_put hx hb hts hin (mm_tyOf ci) hty hnm hown hK hP hD hS (o - 16) he hc k hk hlink (fun _ h9 => h9) hfin hd0 rfl rfl (by rw [mm_fs_len, mm_size_of hc]; exact hk) hd (fun H1 locs1 hP1 hD1 hS1 => h2 ρ H1 locs1 ls hr (by rw [← hset]; exact hP1) (by rw [← hset]; exact hD1) hS1 hl)
    · exact va_putN hx hb hts hin (mm_tyOf ci) hty hnm hown hK hP hD hS (o - 16) he hc k hk hlink (fun _ h9 => h9) hfin hd0 rfl rfl (by rw [mm_fs_len, mm_size_of hc]; exact hk) hd (fun H1 locs1 hP1 hD1 hS1 => h2 ρ H1 locs1 ls hr (by rw [← hset]; exact hP1) (by rw [← hset]; exact hD1) hS1 hl)
  · exact va_putF hx hb hts hin (mm_tyOf ci) hty hnm hown hK hP hD hS (o - 16) he hc k hk hlk (fun _ h9 => h9) hfin hnam hdec hd0 rfl rfl (by rw [mm_fs_len, mm_size_of hc]; exact hk) hd (fun H1 locs1 hP1 hD1 hS1 => h2 ρ H1 locs1 ls hr (by rw [← hset]; exact hP1) (by rw [← hset]; exact hD1) hS1 hl)
theorem gh_putP (hx : p.tables.exec = Jvm.exec) (hb : c.code = cc) (hY : mm_wfY Y) (hts : ∀ w ∈ Ts, w.before args s = true) (hown : s.vm.findClass own = some m.cls) (hK : va_K D mm_cl (mm_tysA cA) s) (hc : mm_cl[ci]? = some q) (hin : ∀ w ∈ u_ws q.1 q.2.1 q.2.2, w ∈ Ts) (hk : k < q.2.2) (hlink : (Cond.fieldLink own index (q.2.1 k).1 (q.2.1 k).2.1 (q.2.1 k).2.2.1).before args s = true ∨ ∃ host, (Cond.fieldLinkNest own index (q.2.1 k).1 (q.2.1 k).2.1 (q.2.1 k).2.2.1 host).before args s = true) (ho : mm_s Y M o = .inl ci) (hfin : (q.2.1 k).2.2.2 = false ∨ ((q.2.1 k).2.2.2 = true ∧ meth.name = "<init>" ∧ (q.2.1 k).1 = own ∧ (Cond.fieldLink own index (q.2.1 k).1 (q.2.1 k).2.1 (q.2.1 k).2.2.1).before args s = true)) {x : Nat} (ht : mm_tk (mm_tyOf ci k) = 2) (hfr : mm_free Y o k = true) (hd : decode cc pc = .ok (.putfield index, 3)) (kk : mm_Gd p l e R s m args below meth c Q D cA Y A nL n0 z0 ρ0 Mf (pc + 3) L r (mm_wP M o k (some x))) : mm_Gd p l e R s m args below meth c Q D cA Y A nL n0 z0 ρ0 Mf pc L (.ref x :: .ref o :: r) M := by
  intro hw0 hn0 hz0 hk0 hl0
  have h16 : 16 ≤ o := mm_s_lt hY ho hc
  have hon : o < M.2.1 := mm_ks_head (mm_ks_tail hk0)
  have hw1 : mm_wf Y (mm_wP M o k (some x)) := by
    refine ⟨hw0.1, fun a j b ha1 ha2 hb2 => ?_⟩
    by_cases e : a = o
    · subst e
      by_cases e2 : j = k
      · subst e2
        rw [mm_p_wP_same hfr] at hb2
        cases hb2
        exact mm_ks_head hk0
      · rw [mm_p_wP_nk e2] at hb2
        exact hw0.2 a j b ha1 ha2 hb2
    · rw [mm_p_wP e] at hb2
      exact hw0.2 a j b ha1 ha2 hb2
  obtain ⟨h1, h2⟩ := kk hw1 hn0 hz0 (mm_ks_tail (mm_ks_tail hk0)) hl0
  refine ⟨h1, fun ρ H locs ls hr hP hD hS hl => ?_⟩
  have he := mm_enc_at (cA := cA) (ρ := ρ) (Y := Y) h16 hon
  rw [mm_cell_obj ho] at he
  have hcell : mm_cell cA ρ Y (mm_wP M o k (some x)) o = .inr (ci, (mm_fs ρ Y M o ci).set k (.ref (ρ x))) := by
    rw [mm_cell_obj (M := (mm_wP M o k (some x))) (ci := ci) ho]
    congr 2
    exact mm_fs_set (by
    unfold mm_fv
    rw [mm_p_wP_same hfr]
    cases h : mm_tyOf ci k <;> first | rfl | (rw [h] at ht; cases ht)) (by intro j hj t; unfold mm_fv; rw [mm_p_wP_nk hj])
  have hset := mm_enc_set (cA := cA) (ρ := ρ) (Y := Y) (M := M) (M' := (mm_wP M o k (some x))) h16 hon rfl hcell (fun b _ _ hb3 => mm_cell_wP hb3)
  obtain ⟨hsz, hty, hnm⟩ := mm_cl_ok ci q hc
  have hd0 := hty k hk
  obtain ⟨ty, hty0⟩ : ∃ ty, mm_tyOf ci k = ty := ⟨_, rfl⟩
  rw [hty0] at hd0 ht
  have hnar : narrow ty (.ref (ρ x)) = .ref (ρ x) := by cases ty <;> first | rfl | cases ht
  have hfit : fits ty (.ref (ρ x)) = true := by cases ty <;> first | rfl | cases ht
  rcases hfin with hfin | ⟨hfin, hnam, hdec, hlk⟩
  · rcases hlink with hlink | ⟨host, hlink⟩
    · exact va_put hx hb hts hin (mm_tyOf ci) hty hnm hown hK hP hD hS (o - 16) he hc k hk hlink (fun _ h9 => h9) hfin hd0 hnar hfit (by rw [mm_fs_len, mm_size_of hc]; exact hk) hd (fun H1 locs1 hP1 hD1 hS1 => h2 ρ H1 locs1 ls hr (by rw [← hset]; exact hP1) (by rw [← hset]; exact hD1) hS1 hl)
    · exact va_putN hx hb hts hin (mm_tyOf ci) hty hnm hown hK hP hD hS (o - 16) he hc k hk hlink (fun _ h9 => h9) hfin hd0 hnar hfit (by rw [mm_fs_len, mm_size_of hc]; exact hk) hd (fun H1 locs1 hP1 hD1 hS1 => h2 ρ H1 locs1 ls hr (by rw [← hset]; exact hP1) (by rw [← hset]; exact hD1) hS1 hl)
  · exact va_putF hx hb hts hin (mm_tyOf ci) hty hnm hown hK hP hD hS (o - 16) he hc k hk hlk (fun _ h9 => h9) hfin hnam hdec hd0 hnar hfit (by rw [mm_fs_len, mm_size_of hc]; exact hk) hd (fun H1 locs1 hP1 hD1 hS1 => h2 ρ H1 locs1 ls hr (by rw [← hset]; exact hP1) (by rw [← hset]; exact hD1) hS1 hl)
end GH
end
section
/-- of the array of int arrays: its class's component is the int arrays' class -/
def mm_c5 (cA : Nat → ClassId) (U : State) : Prop := ∃ (kA kI : Class), U.vm.classes[cA 5]? = some kA ∧ kA.kind = .array (cA 0) (.array .int) ∧ U.vm.classes[cA 0]? = some kI ∧ U.vm.assignable (cA 0) (cA 0) = true
theorem mm_ct0 {ρ : Nat → Nat} {Y : mmY} {M : mmM} {a : Nat} : mm_ct ρ Y M a 0 = .inl (M.2.2.2.1 a) := rfl
theorem mm_ct1 {ρ : Nat → Nat} {Y : mmY} {M : mmM} {a : Nat} : mm_ct ρ Y M a 1 = .inl (M.2.2.2.1 a) := rfl
theorem mm_ct3 {ρ : Nat → Nat} {Y : mmY} {M : mmM} {a : Nat} : mm_ct ρ Y M a 3 = .inr (.inl (M.2.2.2.2.1 a)) := rfl
theorem mm_ct4 {ρ : Nat → Nat} {Y : mmY} {M : mmM} {a : Nat} : mm_ct ρ Y M a 4 = .inr (.inr (.inr (.inr fun k => (mm_p Y M a k).map ρ))) := rfl
theorem mm_ct5 {ρ : Nat → Nat} {Y : mmY} {M : mmM} {a : Nat} : mm_ct ρ Y M a 5 = .inr (.inr (.inr (.inr fun k => (mm_p Y M a k).map ρ))) := rfl
section GA
variable {p : Program} {l : Launch} {e : Env} {R : Room} {s : State} {m : MethodId} {args : Array Value} {below : List Frame} {meth : Method} {c : Code} {Q : State → Prop} {D : va_G} {cA : Nat → ClassId} {Y : mmY} {A : Nat → Prop} {nL n0 z0 : Nat} {ρ0 : Nat → Nat} {Mf : mmM} {cc : ByteArray} {pc : Nat} {L : mmL} {K r : List Value} {M : mmM}
variable {o n : Nat} {i : Int32}

theorem ga_stat (hx : p.tables.exec = Jvm.exec) (hb : c.code = cc) {own : String} {index t : Nat} {q : String × String} (h16n : 16 ≤ n0) (hZ : mm_cnZ ρ0 A s s.heap) (hown : s.vm.findClass own = some m.cls) (hq : mm_stat[t]? = some q) (hlink : (Cond.fieldLink own index RX10 q.1 q.2).before args s = true) (hd : decode cc pc = .ok (.getstatic index, 3)) (kk : mm_Gd p l e R s m args below meth c Q D cA Y A nL n0 z0 ρ0 Mf (pc + 3) L (.ref t :: K) M) : mm_Gd p l e R s m args below meth c Q D cA Y A nL n0 z0 ρ0 Mf pc L K M := by
  intro hw0 hn0 hz0 hk0 hl0
  have ht : t < 9 := (List.getElem?_eq_some_iff.mp hq).1
  have ho : mm_okv M.2.1 (.ref t) := by show t < M.2.1; omega
  obtain ⟨h1, h2⟩ := kk hw0 hn0 hz0 (mm_ks_cons ho hk0) hl0
  refine ⟨h1, fun ρ H locs ls hr hP hD hS hl => ?_⟩
  have hz := hZ t q hq
  rw [← hr t (by omega)] at hz
  exact va_gets hx hb hz hS hown hlink (fun _ h9 => h9) hd (h2 ρ H locs ls hr hP hD hS hl)
theorem ga_len (hx : p.tables.exec = Jvm.exec) (hb : c.code = cc) (hY : mm_wfY Y) (hK : va_K D mm_cl (mm_tysA cA) s) (h16n : 16 ≤ n0) (hT : mm_cnT Y ρ0 A s s.heap) {ty : Nat} (hty : ty < 6) (ho : mm_s Y M o = .inr (ty, n)) (hne : ty ≠ 2 ∨ ¬ 16 ≤ o) (hd : decode cc pc = .ok (.arraylength, 1)) (kk : mm_Gd p l e R s m args below meth c Q D cA Y A nL n0 z0 ρ0 Mf (pc + 1) L (.int (Int32.ofNat n) :: r) M) : mm_Gd p l e R s m args below meth c Q D cA Y A nL n0 z0 ρ0 Mf pc L (.ref o :: r) M := by
  intro hw0 hn0 hz0 hk0 hl0
  obtain ⟨h1, h2⟩ := kk hw0 hn0 hz0 (mm_ks_cons trivial (mm_ks_tail hk0)) hl0
  refine ⟨h1, fun ρ H locs ls hr hP hD hS hl => ?_⟩
  by_cases h16 : 16 ≤ o
  · have he := mm_enc_at (cA := cA) (ρ := ρ) (Y := Y) h16 (mm_ks_head hk0)
    rw [mm_cell_arr ho] at he
    obtain ⟨ft, hft⟩ : ∃ ft, (mm_tysA cA)[ty]? = some (cA ty, ft) := by
      rcases (show ty = 0 ∨ ty = 1 ∨ ty = 2 ∨ ty = 3 ∨ ty = 4 ∨ ty = 5 by omega) with rfl | rfl | rfl | rfl | rfl | rfl
      · exact ⟨_, rfl⟩
      · exact ⟨_, rfl⟩
      · exact absurd rfl (hne.resolve_right (fun z => z h16))
      · exact ⟨_, rfl⟩
      · exact ⟨_, rfl⟩
      · exact ⟨_, rfl⟩
    exact va_alen hx hb hK hP (o - 16) ty he hft rfl hd (h2 ρ H locs ls hr hP hD hS hl)
  · have hz := hT o ty n (by omega) (by rw [← mm_s_tab (M := M) hY h16]; exact ho)
    rw [← hr o (by omega)] at hz
    exact va_tlen hx hb hz hS rfl hd (h2 ρ H locs ls hr hP hD hS hl)
theorem ga_iald (hx : p.tables.exec = Jvm.exec) (hb : c.code = cc) (hY : mm_wfY Y) (hK : va_K D mm_cl (mm_tysA cA) s) (h16n : 16 ≤ n0) (hT : mm_cnT Y ρ0 A s s.heap) (ho : mm_s Y M o = .inr (0, n)) (hin : vp_in i n) (hd : decode cc pc = .ok (.iaload, 1)) (kk : mm_Gd p l e R s m args below meth c Q D cA Y A nL n0 z0 ρ0 Mf (pc + 1) L (.int (mm_i Y M o i.toNatClampNeg) :: r) M) : mm_Gd p l e R s m args below meth c Q D cA Y A nL n0 z0 ρ0 Mf pc L (.int i :: .ref o :: r) M := by
  intro hw0 hn0 hz0 hk0 hl0
  obtain ⟨h1, h2⟩ := kk hw0 hn0 hz0 (mm_ks_cons trivial (mm_ks_tail (mm_ks_tail hk0))) hl0
  refine ⟨h1, fun ρ H locs ls hr hP hD hS hl => ?_⟩
  have h3 := h2 ρ H locs ls hr hP hD hS hl
  by_cases h16 : 16 ≤ o
  · have he := mm_enc_at (cA := cA) (ρ := ρ) (Y := Y) h16 (mm_ks_head (mm_ks_tail hk0))
    rw [mm_cell_arr ho, mm_ct0] at he
    rw [mm_i_heap h16] at h3
    exact va_iald hx hb hK hP (o - 16) 0 he rfl hin hd h3
  · have hz := hT o 0 n (by omega) (by rw [← mm_s_tab (M := M) hY h16]; exact ho)
    rw [← hr o (by omega)] at hz
    rw [mm_i_tab h16] at h3
    exact va_ti hx hb hz hS hin rfl hd h3
theorem ga_bald (hx : p.tables.exec = Jvm.exec) (hb : c.code = cc) (hY : mm_wfY Y) (hK : va_K D mm_cl (mm_tysA cA) s) (h16n : 16 ≤ n0) (hT : mm_cnT Y ρ0 A s s.heap) (ho : mm_s Y M o = .inr (1, n)) (hin : vp_in i n) (hd : decode cc pc = .ok (.baload, 1)) (kk : mm_Gd p l e R s m args below meth c Q D cA Y A nL n0 z0 ρ0 Mf (pc + 1) L (.int (mm_i Y M o i.toNatClampNeg) :: r) M) : mm_Gd p l e R s m args below meth c Q D cA Y A nL n0 z0 ρ0 Mf pc L (.int i :: .ref o :: r) M := by
  intro hw0 hn0 hz0 hk0 hl0
  obtain ⟨h1, h2⟩ := kk hw0 hn0 hz0 (mm_ks_cons trivial (mm_ks_tail (mm_ks_tail hk0))) hl0
  refine ⟨h1, fun ρ H locs ls hr hP hD hS hl => ?_⟩
  have h3 := h2 ρ H locs ls hr hP hD hS hl
  by_cases h16 : 16 ≤ o
  · have he := mm_enc_at (cA := cA) (ρ := ρ) (Y := Y) h16 (mm_ks_head (mm_ks_tail hk0))
    rw [mm_cell_arr ho, mm_ct1] at he
    rw [mm_i_heap h16] at h3
    exact va_zald hx hb hK hP (o - 16) 1 he rfl hin hd h3
  · have hz := hT o 1 n (by omega) (by rw [← mm_s_tab (M := M) hY h16]; exact ho)
    rw [← hr o (by omega)] at hz
    rw [mm_i_tab h16] at h3
    exact va_tz hx hb hz hS hin rfl hd h3
theorem ga_cald (hx : p.tables.exec = Jvm.exec) (hb : c.code = cc) (hY : mm_wfY Y) (hK : va_K D mm_cl (mm_tysA cA) s) (h16n : 16 ≤ n0) (hT : mm_cnT Y ρ0 A s s.heap) (ho : mm_s Y M o = .inr (2, n)) (h16 : ¬ 16 ≤ o) (hin : vp_in i n) (hd : decode cc pc = .ok (.caload, 1)) (kk : mm_Gd p l e R s m args below meth c Q D cA Y A nL n0 z0 ρ0 Mf (pc + 1) L (.int (mm_i Y M o i.toNatClampNeg) :: r) M) : mm_Gd p l e R s m args below meth c Q D cA Y A nL n0 z0 ρ0 Mf pc L (.int i :: .ref o :: r) M := by
  intro hw0 hn0 hz0 hk0 hl0
  obtain ⟨h1, h2⟩ := kk hw0 hn0 hz0 (mm_ks_cons trivial (mm_ks_tail (mm_ks_tail hk0))) hl0
  refine ⟨h1, fun ρ H locs ls hr hP hD hS hl => ?_⟩
  have h3 := h2 ρ H locs ls hr hP hD hS hl
  have hz := hT o 2 n (by omega) (by rw [← mm_s_tab (M := M) hY h16]; exact ho)
  rw [← hr o (by omega)] at hz
  rw [mm_i_tab h16] at h3
  exact va_tc hx hb hz hS hin rfl hd h3
theorem ga_lald (hx : p.tables.exec = Jvm.exec) (hb : c.code = cc) (hY : mm_wfY Y) (hK : va_K D mm_cl (mm_tysA cA) s) (h16n : 16 ≤ n0) (hT : mm_cnT Y ρ0 A s s.heap) (ho : mm_s Y M o = .inr (3, n)) (h16 : 16 ≤ o) (hin : vp_in i n) (hd : decode cc pc = .ok (.laload, 1)) (kk : mm_Gd p l e R s m args below meth c Q D cA Y A nL n0 z0 ρ0 Mf (pc + 1) L (.long (M.2.2.2.2.1 o i.toNatClampNeg) :: r) M) : mm_Gd p l e R s m args below meth c Q D cA Y A nL n0 z0 ρ0 Mf pc L (.int i :: .ref o :: r) M := by
  intro hw0 hn0 hz0 hk0 hl0
  obtain ⟨h1, h2⟩ := kk hw0 hn0 hz0 (mm_ks_cons trivial (mm_ks_tail (mm_ks_tail hk0))) hl0
  refine ⟨h1, fun ρ H locs ls hr hP hD hS hl => ?_⟩
  have he := mm_enc_at (cA := cA) (ρ := ρ) (Y := Y) h16 (mm_ks_head (mm_ks_tail hk0))
  rw [mm_cell_arr ho, mm_ct3] at he
  exact va_lald hx hb hK hP (o - 16) 3 he rfl hin hd (h2 ρ H locs ls hr hP hD hS hl)
theorem ga_aald4 (hx : p.tables.exec = Jvm.exec) (hb : c.code = cc) (hY : mm_wfY Y) (hK : va_K D mm_cl (mm_tysA cA) s) (h16n : 16 ≤ n0) (hT : mm_cnT Y ρ0 A s s.heap) (ho : mm_s Y M o = .inr (4, n)) (h16 : 16 ≤ o) (hin : vp_in i n) (hd : decode cc pc = .ok (.aaload, 1)) (kk : mm_Gd p l e R s m args below meth c Q D cA Y A nL n0 z0 ρ0 Mf (pc + 1) L (mm_rv (mm_p Y M o i.toNatClampNeg) :: r) M) : mm_Gd p l e R s m args below meth c Q D cA Y A nL n0 z0 ρ0 Mf pc L (.int i :: .ref o :: r) M := by
  intro hw0 hn0 hz0 hk0 hl0
  have hon : o < M.2.1 := mm_ks_head (mm_ks_tail hk0)
  obtain ⟨h1, h2⟩ := kk hw0 hn0 hz0 (mm_ks_cons (mm_okv_rv fun b hb2 => hw0.2 o _ b h16 hon hb2) (mm_ks_tail (mm_ks_tail hk0))) hl0
  refine ⟨h1, fun ρ H locs ls hr hP hD hS hl => ?_⟩
  have he := mm_enc_at (cA := cA) (ρ := ρ) (Y := Y) h16 hon
  rw [mm_cell_arr ho, mm_ct4] at he
  have hlt : i.toNatClampNeg < n := Nat.not_le.mp fun q => hin (Or.inr q)
  have h3 := h2 ρ H locs ls hr hP hD hS hl
  rw [List.map_cons, mm_tr_rv] at h3
  exact va_aldq hx hb hK hP (o - 16) 4 he rfl hin hd h3
theorem ga_aald5 (hx : p.tables.exec = Jvm.exec) (hb : c.code = cc) (hY : mm_wfY Y) (hK : va_K D mm_cl (mm_tysA cA) s) (h16n : 16 ≤ n0) (hT : mm_cnT Y ρ0 A s s.heap) (ho : mm_s Y M o = .inr (5, n)) (h16 : 16 ≤ o) (hin : vp_in i n) (hd : decode cc pc = .ok (.aaload, 1)) (kk : mm_Gd p l e R s m args below meth c Q D cA Y A nL n0 z0 ρ0 Mf (pc + 1) L (mm_rv (mm_p Y M o i.toNatClampNeg) :: r) M) : mm_Gd p l e R s m args below meth c Q D cA Y A nL n0 z0 ρ0 Mf pc L (.int i :: .ref o :: r) M := by
  intro hw0 hn0 hz0 hk0 hl0
  have hon : o < M.2.1 := mm_ks_head (mm_ks_tail hk0)
  obtain ⟨h1, h2⟩ := kk hw0 hn0 hz0 (mm_ks_cons (mm_okv_rv fun b hb2 => hw0.2 o _ b h16 hon hb2) (mm_ks_tail (mm_ks_tail hk0))) hl0
  refine ⟨h1, fun ρ H locs ls hr hP hD hS hl => ?_⟩
  have he := mm_enc_at (cA := cA) (ρ := ρ) (Y := Y) h16 hon
  rw [mm_cell_arr ho, mm_ct5] at he
  have hlt : i.toNatClampNeg < n := Nat.not_le.mp fun q => hin (Or.inr q)
  have h3 := h2 ρ H locs ls hr hP hD hS hl
  rw [List.map_cons, mm_tr_rv] at h3
  exact W.aald (v := va_rf ((mm_p Y M o i.toNatClampNeg).map ρ)) (ty := .array .int) hx hb (hP (o - 16) _ he) ((hK.2 5 _ rfl).1 n (fun j => va_rf ((mm_p Y M o j).map ρ))) rfl (fun q => by cases q) (by show ¬ (i < 0 ∨ (arrV _ _ _).slots.size ≤ _); rw [arrV_size]; exact hin) (by show (arrV _ _ _).slots[_]? = _; rw [arrV_read _ _ hlt]) rfl rfl hd h3
theorem ga_iast (hx : p.tables.exec = Jvm.exec) (hb : c.code = cc) (hY : mm_wfY Y) (hK : va_K D mm_cl (mm_tysA cA) s) (h16n : 16 ≤ n0) (hT : mm_cnT Y ρ0 A s s.heap) {x : Int32}  (ho : mm_s Y M o = .inr (0, n)) (h16 : 16 ≤ o) (hin : vp_in i n) (hd : decode cc pc = .ok (.iastore, 1)) (kk : mm_Gd p l e R s m args below meth c Q D cA Y A nL n0 z0 ρ0 Mf (pc + 1) L r (mm_wI M o i.toNatClampNeg x)) : mm_Gd p l e R s m args below meth c Q D cA Y A nL n0 z0 ρ0 Mf pc L (.int x :: .int i :: .ref o :: r) M := by
  intro hw0 hn0 hz0 hk0 hl0
  have hon : o < M.2.1 := mm_ks_head (mm_ks_tail (mm_ks_tail hk0))
  have hw1 : mm_wf Y (mm_wI M o i.toNatClampNeg x) := hw0
  obtain ⟨h1, h2⟩ := kk hw1 hn0 hz0 (mm_ks_tail (mm_ks_tail (mm_ks_tail hk0))) hl0
  refine ⟨h1, fun ρ H locs ls hr hP hD hS hl => ?_⟩
  have he := mm_enc_at (cA := cA) (ρ := ρ) (Y := Y) h16 hon
  rw [mm_cell_arr ho, mm_ct0] at he
  have hcell : mm_cell cA ρ Y (mm_wI M o i.toNatClampNeg x) o = .inl (cA 0, n, .inl (upd (M.2.2.2.1 o) i.toNatClampNeg x)) := by
    rw [mm_cell_arr (M := (mm_wI M o i.toNatClampNeg x)) ho, mm_ct0]
    congr 3
    exact congrArg _ (mm_up_upd _ _ _ _)
  have hset := mm_enc_set (cA := cA) (ρ := ρ) (Y := Y) (M := M) (M' := (mm_wI M o i.toNatClampNeg x)) h16 hon rfl hcell (fun b _ _ hb3 => mm_cell_wI hb3)
  exact va_iast hx hb hK hP hD hS (o - 16) 0 he rfl hin hd (fun H1 locs1 hP1 hD1 hS1 => h2 ρ H1 locs1 ls hr (by rw [← hset]; exact hP1) (by rw [← hset]; exact hD1) hS1 hl)
theorem ga_bast (hx : p.tables.exec = Jvm.exec) (hb : c.code = cc) (hY : mm_wfY Y) (hK : va_K D mm_cl (mm_tysA cA) s) (h16n : 16 ≤ n0) (hT : mm_cnT Y ρ0 A s s.heap) {x : Int32}  (ho : mm_s Y M o = .inr (1, n)) (h16 : 16 ≤ o) (hin : vp_in i n) (hd : decode cc pc = .ok (.bastore, 1)) (kk : mm_Gd p l e R s m args below meth c Q D cA Y A nL n0 z0 ρ0 Mf (pc + 1) L r (mm_wI M o i.toNatClampNeg (vp_nar .boolean x))) : mm_Gd p l e R s m args below meth c Q D cA Y A nL n0 z0 ρ0 Mf pc L (.int x :: .int i :: .ref o :: r) M := by
  intro hw0 hn0 hz0 hk0 hl0
  have hon : o < M.2.1 := mm_ks_head (mm_ks_tail (mm_ks_tail hk0))
  have hw1 : mm_wf Y (mm_wI M o i.toNatClampNeg (vp_nar .boolean x)) := hw0
  obtain ⟨h1, h2⟩ := kk hw1 hn0 hz0 (mm_ks_tail (mm_ks_tail (mm_ks_tail hk0))) hl0
  refine ⟨h1, fun ρ H locs ls hr hP hD hS hl => ?_⟩
  have he := mm_enc_at (cA := cA) (ρ := ρ) (Y := Y) h16 hon
  rw [mm_cell_arr ho, mm_ct1] at he
  have hcell : mm_cell cA ρ Y (mm_wI M o i.toNatClampNeg (vp_nar .boolean x)) o = .inl (cA 1, n, .inl (upd (M.2.2.2.1 o) i.toNatClampNeg (vp_nar .boolean x))) := by
    rw [mm_cell_arr (M := (mm_wI M o i.toNatClampNeg (vp_nar .boolean x))) ho, mm_ct1]
    congr 3
    exact congrArg _ (mm_up_upd _ _ _ _)
  have hset := mm_enc_set (cA := cA) (ρ := ρ) (Y := Y) (M := M) (M' := (mm_wI M o i.toNatClampNeg (vp_nar .boolean x))) h16 hon rfl hcell (fun b _ _ hb3 => mm_cell_wI hb3)
  exact va_zast hx hb hK hP hD hS (o - 16) 1 he rfl hin hd (fun H1 locs1 hP1 hD1 hS1 => h2 ρ H1 locs1 ls hr (by rw [← hset]; exact hP1) (by rw [← hset]; exact hD1) hS1 hl)
theorem ga_last (hx : p.tables.exec = Jvm.exec) (hb : c.code = cc) (hY : mm_wfY Y) (hK : va_K D mm_cl (mm_tysA cA) s) (h16n : 16 ≤ n0) (hT : mm_cnT Y ρ0 A s s.heap) {x : Int64}  (ho : mm_s Y M o = .inr (3, n)) (h16 : 16 ≤ o) (hin : vp_in i n) (hd : decode cc pc = .ok (.lastore, 1)) (kk : mm_Gd p l e R s m args below meth c Q D cA Y A nL n0 z0 ρ0 Mf (pc + 1) L r (mm_wJ M o i.toNatClampNeg x)) : mm_Gd p l e R s m args below meth c Q D cA Y A nL n0 z0 ρ0 Mf pc L (.long x :: .int i :: .ref o :: r) M := by
  intro hw0 hn0 hz0 hk0 hl0
  have hon : o < M.2.1 := mm_ks_head (mm_ks_tail (mm_ks_tail hk0))
  have hw1 : mm_wf Y (mm_wJ M o i.toNatClampNeg x) := hw0
  obtain ⟨h1, h2⟩ := kk hw1 hn0 hz0 (mm_ks_tail (mm_ks_tail (mm_ks_tail hk0))) hl0
  refine ⟨h1, fun ρ H locs ls hr hP hD hS hl => ?_⟩
  have he := mm_enc_at (cA := cA) (ρ := ρ) (Y := Y) h16 hon
  rw [mm_cell_arr ho, mm_ct3] at he
  have hcell : mm_cell cA ρ Y (mm_wJ M o i.toNatClampNeg x) o = .inl (cA 3, n, .inr (.inl (vp_updL (M.2.2.2.2.1 o) i.toNatClampNeg x))) := by
    rw [mm_cell_arr (M := (mm_wJ M o i.toNatClampNeg x)) ho, mm_ct3]
    congr 3
    exact congrArg _ (congrArg _ (mm_up_updL _ _ _ _))
  have hset := mm_enc_set (cA := cA) (ρ := ρ) (Y := Y) (M := M) (M' := (mm_wJ M o i.toNatClampNeg x)) h16 hon rfl hcell (fun b _ _ hb3 => mm_cell_wJ hb3)
  exact va_last hx hb hK hP hD hS (o - 16) 3 he rfl hin hd (fun H1 locs1 hP1 hD1 hS1 => h2 ρ H1 locs1 ls hr (by rw [← hset]; exact hP1) (by rw [← hset]; exact hD1) hS1 hl)
theorem ga_aast4 (hx : p.tables.exec = Jvm.exec) (hb : c.code = cc) (hY : mm_wfY Y) (hK : va_K D mm_cl (mm_tysA cA) s) (h16n : 16 ≤ n0) (hT : mm_cnT Y ρ0 A s s.heap) {x : Nat} (hfr : mm_free Y o i.toNatClampNeg = true) (hx16 : 16 ≤ x) (hxo : mm_s Y M x = .inl 0) (ho : mm_s Y M o = .inr (4, n)) (h16 : 16 ≤ o) (hin : vp_in i n) (hd : decode cc pc = .ok (.aastore, 1)) (kk : mm_Gd p l e R s m args below meth c Q D cA Y A nL n0 z0 ρ0 Mf (pc + 1) L r (mm_wP M o i.toNatClampNeg (some x))) : mm_Gd p l e R s m args below meth c Q D cA Y A nL n0 z0 ρ0 Mf pc L (.ref x :: .int i :: .ref o :: r) M := by
  intro hw0 hn0 hz0 hk0 hl0
  have hon : o < M.2.1 := mm_ks_head (mm_ks_tail (mm_ks_tail hk0))
  have hxn : x < M.2.1 := mm_ks_head hk0
  have hw1 : mm_wf Y (mm_wP M o i.toNatClampNeg (some x)) := by
    refine ⟨hw0.1, fun a j b ha1 ha2 hb2 => ?_⟩
    by_cases e : a = o
    · subst e
      by_cases e2 : j = i.toNatClampNeg
      · subst e2
        rw [mm_p_wP_same hfr] at hb2
        cases hb2
        exact hxn
      · rw [mm_p_wP_nk e2] at hb2
        exact hw0.2 a j b ha1 ha2 hb2
    · rw [mm_p_wP e] at hb2
      exact hw0.2 a j b ha1 ha2 hb2
  obtain ⟨h1, h2⟩ := kk hw1 hn0 hz0 (mm_ks_tail (mm_ks_tail (mm_ks_tail hk0))) hl0
  refine ⟨h1, fun ρ H locs ls hr hP hD hS hl => ?_⟩
  have he := mm_enc_at (cA := cA) (ρ := ρ) (Y := Y) h16 hon
  rw [mm_cell_arr ho, mm_ct4] at he
  have hcell : mm_cell cA ρ Y (mm_wP M o i.toNatClampNeg (some x)) o = .inl (cA 4, n, .inr (.inr (.inr (.inr (va_up (fun k => (mm_p Y M o k).map ρ) i.toNatClampNeg (some (ρ x))))))) := by
    rw [mm_cell_arr (M := (mm_wP M o i.toNatClampNeg (some x))) ho, mm_ct4]
    congr 3
    refine congrArg _ (congrArg _ (congrArg _ (congrArg _ (funext fun j => ?_))))
    by_cases e2 : j = i.toNatClampNeg
    · subst e2
      rw [mm_p_wP_same hfr]
      simp [va_up]
    · rw [mm_p_wP_nk e2]
      simp [va_up, e2]
  have hset := mm_enc_set (cA := cA) (ρ := ρ) (Y := Y) (M := M) (M' := (mm_wP M o i.toNatClampNeg (some x))) h16 hon rfl hcell (fun b _ _ hb3 => mm_cell_wP hb3)
  have hex := mm_enc_at (cA := cA) (ρ := ρ) (Y := Y) (M := M) hx16 hxn
  rw [mm_cell_obj hxo] at hex
  exact va_astq hx hb hK hP hD hS (o - 16) 4 (x - 16) 0 (r := (RX0, TX0, 11)) he rfl hex rfl hin hd (fun H1 locs1 hP1 hD1 hS1 => h2 ρ H1 locs1 ls hr (by rw [← hset]; exact hP1) (by rw [← hset]; exact hD1) hS1 hl)
theorem ga_aast5 (hx : p.tables.exec = Jvm.exec) (hb : c.code = cc) (hY : mm_wfY Y) (hK : va_K D mm_cl (mm_tysA cA) s) (h16n : 16 ≤ n0) (hT : mm_cnT Y ρ0 A s s.heap) {x : Nat} {nx : Nat} (h5 : mm_c5 cA s) (hfr : mm_free Y o i.toNatClampNeg = true) (hx16 : 16 ≤ x) (hxo : mm_s Y M x = .inr (0, nx)) (ho : mm_s Y M o = .inr (5, n)) (h16 : 16 ≤ o) (hin : vp_in i n) (hd : decode cc pc = .ok (.aastore, 1)) (kk : mm_Gd p l e R s m args below meth c Q D cA Y A nL n0 z0 ρ0 Mf (pc + 1) L r (mm_wP M o i.toNatClampNeg (some x))) : mm_Gd p l e R s m args below meth c Q D cA Y A nL n0 z0 ρ0 Mf pc L (.ref x :: .int i :: .ref o :: r) M := by
  intro hw0 hn0 hz0 hk0 hl0
  have hon : o < M.2.1 := mm_ks_head (mm_ks_tail (mm_ks_tail hk0))
  have hxn : x < M.2.1 := mm_ks_head hk0
  have hw1 : mm_wf Y (mm_wP M o i.toNatClampNeg (some x)) := by
    refine ⟨hw0.1, fun a j b ha1 ha2 hb2 => ?_⟩
    by_cases e : a = o
    · subst e
      by_cases e2 : j = i.toNatClampNeg
      · subst e2
        rw [mm_p_wP_same hfr] at hb2
        cases hb2
        exact hxn
      · rw [mm_p_wP_nk e2] at hb2
        exact hw0.2 a j b ha1 ha2 hb2
    · rw [mm_p_wP e] at hb2
      exact hw0.2 a j b ha1 ha2 hb2
  obtain ⟨h1, h2⟩ := kk hw1 hn0 hz0 (mm_ks_tail (mm_ks_tail (mm_ks_tail hk0))) hl0
  refine ⟨h1, fun ρ H locs ls hr hP hD hS hl => ?_⟩
  have he := mm_enc_at (cA := cA) (ρ := ρ) (Y := Y) h16 hon
  rw [mm_cell_arr ho, mm_ct5] at he
  have hcell : mm_cell cA ρ Y (mm_wP M o i.toNatClampNeg (some x)) o = .inl (cA 5, n, .inr (.inr (.inr (.inr (va_up (fun k => (mm_p Y M o k).map ρ) i.toNatClampNeg (some (ρ x))))))) := by
    rw [mm_cell_arr (M := (mm_wP M o i.toNatClampNeg (some x))) ho, mm_ct5]
    congr 3
    refine congrArg _ (congrArg _ (congrArg _ (congrArg _ (funext fun j => ?_))))
    by_cases e2 : j = i.toNatClampNeg
    · subst e2
      rw [mm_p_wP_same hfr]
      simp [va_up]
    · rw [mm_p_wP_nk e2]
      simp [va_up, e2]
  have hset := mm_enc_set (cA := cA) (ρ := ρ) (Y := Y) (M := M) (M' := (mm_wP M o i.toNatClampNeg (some x))) h16 hon rfl hcell (fun b _ _ hb3 => mm_cell_wP hb3)
  have hex := mm_enc_at (cA := cA) (ρ := ρ) (Y := Y) (M := M) hx16 hxn
  rw [mm_cell_arr hxo, mm_ct0] at hex
  have hlt : i.toNatClampNeg < n := Nat.not_le.mp fun q => hin (Or.inr q)
  have hi0 : ¬ i < 0 := fun q => hin (Or.inl q)
  obtain ⟨kA, kI, k1, k2, k3, k4⟩ := h5
  refine W.aast hx hb (hP (o - 16) _ he) (fun q h => by cases h) (fun h => by cases h) k1 k2 rfl k3 ⟨hi0, by show _ < (arrV _ _ _).slots.size; rw [arrV_size]; exact hlt⟩ (hP (x - 16) _ hex) (fun q h => by cases h) k3 k4 rfl rfl hd fun H1 e z oq => ?_
  have hat : va_at D mm_cl (ρ o, .inl (cA 5, n, .inr (.inr (.inr (.inr (va_up (fun k => (mm_p Y M o k).map ρ) i.toNatClampNeg (some (ρ x)))))))) H1 := by
    show H1[ρ o]? = some (vp_cell _ _)
    rw [e]
    rw [vp_cell_q, vp_cell_q, arrV_store]
    congr 2
    funext q
    by_cases hq : q = i.toNatClampNeg
    · subst hq
      simp [updV, va_up, va_rf]
    · simp [updV, va_up, hq]
  exact h2 ρ H1 _ ls hr (by rw [← hset]; exact hP.set hD he hat oq) (by rw [← hset]; exact hD.set he) (hS.put z oq (hD.2 (o - 16) _ he)) hl
theorem mm_new_s {Y : mmY} {M : mmM} {q : mmSh} {w b : Nat} (h : b ≠ M.2.1) : mm_s Y (mm_new M q w) b = mm_s Y M b := by
  unfold mm_s
  simp only [mm_ups, if_neg h]
theorem mm_new_sn {Y : mmY} {M : mmM} {q : mmSh} {w : Nat} (hY : Y.1 ≤ M.2.1) : mm_s Y (mm_new M q w) M.2.1 = q := by
  unfold mm_s
  rw [show Nat.blt M.2.1 Y.1 = false from Bool.eq_false_iff.mpr fun z => by have := Nat.blt_eq.mp z; omega]
  simp [mm_ups]
theorem mm_new_p {Y : mmY} {M : mmM} {q : mmSh} {w b : Nat} (h : b ≠ M.2.1) (k : Nat) : mm_p Y (mm_new M q w) b k = mm_p Y M b k := by
  unfold mm_p
  cases mm_fx Y b k with
  | some r => rfl
  | none => simp only [mm_row_ne _ _ h]
theorem mm_new_pn {Y : mmY} {M : mmM} {q : mmSh} {w : Nat} (hY : Y.1 ≤ M.2.1) (k : Nat) : mm_p Y (mm_new M q w) M.2.1 k = none := by
  unfold mm_p mm_fx
  rw [show Nat.blt M.2.1 Y.1 = false from Bool.eq_false_iff.mpr fun z => by have := Nat.blt_eq.mp z; omega]
  simp only [cond_false, mm_row_same]
theorem mm_new_wf {Y : mmY} {M : mmM} {q : mmSh} {w : Nat} (h : mm_wf Y M) : mm_wf Y (mm_new M q w) := by
  refine ⟨Nat.le_succ_of_le h.1, fun a k b h1 h2 h3 => ?_⟩
  by_cases e : a = M.2.1
  · subst e
    rw [mm_new_pn h.1] at h3
    cases h3
  · rw [mm_new_p e] at h3
    have h2 : a < M.2.1 + 1 := h2
    exact Nat.lt_succ_of_lt (h.2 a k b h1 (by omega) h3)
theorem mm_new_cell {cA : Nat → ClassId} {ρ ρ' : Nat → Nat} {Y : mmY} {M : mmM} {q : mmSh} {w b : Nat} (hw : mm_wf Y M) (h16 : 16 ≤ b) (hb : b < M.2.1) (hr : ∀ a, a < M.2.1 → ρ' a = ρ a) : mm_cell cA ρ' Y (mm_new M q w) b = mm_cell cA ρ Y M b :=
  mm_cell_congr (mm_new_s (by omega)) (mm_row_ne _ _ (by omega)) (mm_row_ne _ _ (by omega)) fun k => by
    rw [mm_new_p (by omega)]
    cases h : mm_p Y M b k with
    | none => rfl
    | some x => simp only [Option.map_some]; rw [hr x (hw.2 b k x h16 hb h)]
def mm_ext (ρ : Nat → Nat) (n q : Nat) : Nat → Nat := fun b => if b = n then q else ρ b
theorem mm_ext_lt {ρ : Nat → Nat} {n q b : Nat} (h : b < n) : mm_ext ρ n q b = ρ b := by simp [mm_ext, Nat.ne_of_lt h]
theorem mm_ext_n {ρ : Nat → Nat} {n q : Nat} : mm_ext ρ n q n = q := by simp [mm_ext]
/-- a new cell in the real heap: how it goes on -/
theorem ga_born {q : mmSh} {w a : Nat} {x : va_E} {H1 : Heap} {locs : List Loc} {ls : Array Slot} {ρ : Nat → Nat} (hw0 : mm_wf Y M) (h16 : 16 ≤ M.2.1) (hn0 : n0 ≤ M.2.1) (hk0 : mm_ks M.2.1 r) (hr : ∀ b, b < n0 → ρ b = ρ0 b) (hl : mm_lc ρ M.2.1 L ls nL)
    (hcell : mm_cell cA (mm_ext ρ M.2.1 a) Y (mm_new M q w) M.2.1 = x) (hP : va_P D mm_cl (mm_enc cA ρ Y M ++ [(a, x)]) H1) (hD : va_D A (mm_enc cA ρ Y M ++ [(a, x)])) (hS : va_S A s.heap H1 locs)
    (h2 : ∀ (ρ : Nat → Nat) (H : Heap) (locs : List Loc) (ls : Array Slot), (∀ b, b < n0 → ρ b = ρ0 b) → va_P D mm_cl (mm_enc cA ρ Y (mm_new M q w)) H → va_D A (mm_enc cA ρ Y (mm_new M q w)) → va_S A s.heap H locs → mm_lc ρ (mm_new M q w).2.1 L ls nL →
      W p l e R s m args below meth c H locs ((mm_new M q w).2.1 - n0) ((mm_new M q w).2.2.1 - z0) Q (F0 m pc ls ((.ref M.2.1 :: r).map (mm_tr ρ)))) :
    W p l e R s m args below meth c H1 locs (M.2.1 + 1 - n0) (M.2.2.1 + w - z0) Q (F0 m pc ls (.ref a :: r.map (mm_tr ρ))) := by
  have hx : mm_enc cA (mm_ext ρ M.2.1 a) Y (mm_new M q w) = mm_enc cA ρ Y M ++ [(a, x)] := by
    rw [mm_enc_push (M := M) (ρ := ρ) h16 rfl (fun b hb => mm_ext_lt hb) (fun b h1 hb => mm_new_cell hw0 h1 hb (fun c hc => mm_ext_lt hc)), mm_ext_n, hcell]
  have h3 := h2 (mm_ext ρ M.2.1 a) H1 locs ls (fun b hb => by rw [mm_ext_lt (by omega)]; exact hr b hb) (by rw [hx]; exact hP) (by rw [hx]; exact hD) hS (mm_lc_le hl (Nat.le_succ _) (fun b hb => mm_ext_lt hb))
  rw [List.map_cons, mm_ks_tr hk0 (fun b hb => mm_ext_lt hb)] at h3
  have e : mm_tr (mm_ext ρ M.2.1 a) (.ref M.2.1) = .ref a := by show Value.ref _ = _; rw [mm_ext_n]
  rw [e] at h3
  exact h3
theorem ga_newa (hx : p.tables.exec = Jvm.exec) (hb : c.code = cc) (hY : mm_wfY Y) (hK : va_K D mm_cl (mm_tysA cA) s) (h16n : 16 ≤ n0) (hA : ∀ q, s.heap.size ≤ q → A q) (hRc : Mf.2.1 - n0 ≤ R.cells) (hRs : Mf.2.2.1 - z0 ≤ R.slots) {at0 : ArrayType} {ty : Nat} (hty : (at0 = .int ∧ ty = 0) ∨ (at0 = .boolean ∧ ty = 1) ∨ (at0 = .long ∧ ty = 3)) {x : Int32} (hx0 : ¬ x < 0) (hxl : x.toNatClampNeg ≤ 65536) (harr : (Cond.arrayClass (newarray.typeOf at0)).before args s = true) (hd : decode cc pc = .ok (.newarray at0, 2)) (kk : mm_Gd p l e R s m args below meth c Q D cA Y A nL n0 z0 ρ0 Mf (pc + 2) L (.ref M.2.1 :: r) (mm_new M (.inr (ty, x.toNatClampNeg)) x.toNatClampNeg)) : mm_Gd p l e R s m args below meth c Q D cA Y A nL n0 z0 ρ0 Mf pc L (.int x :: r) M := by
  intro hw0 hn0 hz0 hk0 hl0
  obtain ⟨h1, h2⟩ := kk (mm_new_wf hw0) (Nat.le_succ_of_le hn0) (Nat.le_add_right_of_le hz0) (mm_ks_cons (Nat.lt_succ_self _) (mm_ks_le (mm_ks_tail hk0) (Nat.le_succ _))) (fun i v hv => mm_okv_le (hl0 i v hv) (Nat.le_succ _))
  have t2 : M.2.1 + 1 ≤ Mf.2.1 := h1.2.1
  have t3 : M.2.2.1 + x.toNatClampNeg ≤ Mf.2.2.1 := h1.2.2
  refine ⟨⟨h1.1, by omega, by omega⟩, fun ρ H locs ls hr hP hD hS hl => ?_⟩
  rcases hty with ⟨rfl, rfl⟩ | ⟨rfl, rfl⟩ | ⟨rfl, rfl⟩
  · refine va_newa (a0 := (x.toNatClampNeg, .inl (fun _ => 0))) hx hb harr rfl hK hP hD hS hA (fun c9 => rfl) hx0 rfl (by show x.toNatClampNeg * 4 ≤ _; omega) (by omega) (by omega) hd (fun q cN H1 hK1 hP1 hD1 hS1 => ?_)
    have hcn : cN = cA 0 := by
      have a1 := (hK1.2 6 (cN, .int) rfl).2
      have a2 := (hK.2 0 (cA 0, .int) rfl).2
      exact Option.some.inj (Eq.trans (Eq.symm a1) a2)
    subst hcn
    refine W.cs (cells' := M.2.1 + 1 - n0) (slots' := M.2.2.1 + x.toNatClampNeg - z0) (by omega) (by omega) ?_
    exact ga_born hw0 (by omega) hn0 (mm_ks_tail hk0) hr hl (by rw [mm_cell_arr (mm_new_sn hw0.1), mm_ct0]; simp only [mm_row_same]) hP1 hD1 hS1 h2
  · refine va_newa (a0 := (x.toNatClampNeg, .inl (fun _ => 0))) hx hb harr rfl hK hP hD hS hA (fun c9 => rfl) hx0 rfl (by show x.toNatClampNeg * 1 ≤ _; omega) (by omega) (by omega) hd (fun q cN H1 hK1 hP1 hD1 hS1 => ?_)
    have hcn : cN = cA 1 := by
      have a1 := (hK1.2 6 (cN, .boolean) rfl).2
      have a2 := (hK.2 1 (cA 1, .boolean) rfl).2
      exact Option.some.inj (Eq.trans (Eq.symm a1) a2)
    subst hcn
    refine W.cs (cells' := M.2.1 + 1 - n0) (slots' := M.2.2.1 + x.toNatClampNeg - z0) (by omega) (by omega) ?_
    exact ga_born hw0 (by omega) hn0 (mm_ks_tail hk0) hr hl (by rw [mm_cell_arr (mm_new_sn hw0.1), mm_ct1]; simp only [mm_row_same]) hP1 hD1 hS1 h2
  · refine va_newa (a0 := (x.toNatClampNeg, .inr (.inl (fun _ => 0)))) hx hb harr rfl hK hP hD hS hA (fun c9 => rfl) hx0 rfl (by show x.toNatClampNeg * 8 ≤ _; omega) (by omega) (by omega) hd (fun q cN H1 hK1 hP1 hD1 hS1 => ?_)
    have hcn : cN = cA 3 := by
      have a1 := (hK1.2 6 (cN, .long) rfl).2
      have a2 := (hK.2 3 (cA 3, .long) rfl).2
      exact Option.some.inj (Eq.trans (Eq.symm a1) a2)
    subst hcn
    refine W.cs (cells' := M.2.1 + 1 - n0) (slots' := M.2.2.1 + x.toNatClampNeg - z0) (by omega) (by omega) ?_
    exact ga_born hw0 (by omega) hn0 (mm_ks_tail hk0) hr hl (by rw [mm_cell_arr (mm_new_sn hw0.1), mm_ct3]; simp only [mm_row_same]) hP1 hD1 hS1 h2
theorem ga_anew (hx : p.tables.exec = Jvm.exec) (hb : c.code = cc) (hY : mm_wfY Y) (hK : va_K D mm_cl (mm_tysA cA) s) (h16n : 16 ≤ n0) (hA : ∀ q, s.heap.size ≤ q → A q) (hRc : Mf.2.1 - n0 ≤ R.cells) (hRs : Mf.2.2.1 - z0 ≤ R.slots) {own : String} {index : Nat} (hown : s.vm.findClass own = some m.cls) (hcl : (Cond.classLink own index RX0).before args s = true) (hov : va_AO RX0 s) {x : Int32} (hx0 : ¬ x < 0) (hxl : x.toNatClampNeg ≤ 65536) (hd : decode cc pc = .ok (.anewarray index, 3)) (kk : mm_Gd p l e R s m args below meth c Q D cA Y A nL n0 z0 ρ0 Mf (pc + 3) L (.ref M.2.1 :: r) (mm_new M (.inr (4, x.toNatClampNeg)) x.toNatClampNeg)) : mm_Gd p l e R s m args below meth c Q D cA Y A nL n0 z0 ρ0 Mf pc L (.int x :: r) M := by
  intro hw0 hn0 hz0 hk0 hl0
  obtain ⟨h1, h2⟩ := kk (mm_new_wf hw0) (Nat.le_succ_of_le hn0) (Nat.le_add_right_of_le hz0) (mm_ks_cons (Nat.lt_succ_self _) (mm_ks_le (mm_ks_tail hk0) (Nat.le_succ _))) (fun i v hv => mm_okv_le (hl0 i v hv) (Nat.le_succ _))
  have t2 : M.2.1 + 1 ≤ Mf.2.1 := h1.2.1
  have t3 : M.2.2.1 + x.toNatClampNeg ≤ Mf.2.2.1 := h1.2.2
  refine ⟨⟨h1.1, by omega, by omega⟩, fun ρ H locs ls hr hP hD hS hl => ?_⟩
  refine va_newq hx hb hown hcl hov hK hP hD hS hA hx0 rfl (by omega) (by omega) (by omega) hd (fun q cN H1 hK1 hP1 hD1 hS1 => ?_)
  have hcn : cN = cA 4 := by
    obtain ⟨_, _, _, _, _, a1⟩ := (hK1.2 6 (cN, .object RX0) rfl).2
    obtain ⟨_, _, _, _, _, a2⟩ := (hK.2 4 (cA 4, .object RX0) rfl).2
    exact Option.some.inj (a1.symm.trans a2)
  subst hcn
  refine W.cs (cells' := M.2.1 + 1 - n0) (slots' := M.2.2.1 + x.toNatClampNeg - z0) (by omega) (by omega) ?_
  exact ga_born hw0 (by omega) hn0 (mm_ks_tail hk0) hr hl (by rw [mm_cell_arr (mm_new_sn hw0.1), mm_ct4]; simp only [mm_new_pn hw0.1]; rfl) hP1 hD1 hS1 h2
theorem ga_new (hx : p.tables.exec = Jvm.exec) (hb : c.code = cc) (hY : mm_wfY Y) (hK : va_K D mm_cl (mm_tysA cA) s) (h16n : 16 ≤ n0) (hA : ∀ q, s.heap.size ≤ q → A q) (hRc : Mf.2.1 - n0 ≤ R.cells) (hRs : Mf.2.2.1 - z0 ≤ R.slots) {Ts : List Cond} {own : String} {index ci : Nat} {q : vw_C} (hts : ∀ w ∈ Ts, w.before args s = true) (hown : s.vm.findClass own = some m.cls) (hc : mm_cl[ci]? = some q) (hin : ∀ w ∈ u_ws q.1 q.2.1 q.2.2, w ∈ Ts) (hcl : (Cond.classLink own index q.1).before args s = true) (hinst : (Cond.instantiable q.1 q.2.2).before args s = true) (hini : (Cond.initialized q.1).before args s = true) (hd : decode cc pc = .ok (.new index, 3)) (kk : mm_Gd p l e R s m args below meth c Q D cA Y A nL n0 z0 ρ0 Mf (pc + 3) L (.ref M.2.1 :: K) (mm_new M (.inl ci) q.2.2)) : mm_Gd p l e R s m args below meth c Q D cA Y A nL n0 z0 ρ0 Mf pc L K M := by
  intro hw0 hn0 hz0 hk0 hl0
  obtain ⟨h1, h2⟩ := kk (mm_new_wf hw0) (Nat.le_succ_of_le hn0) (Nat.le_add_right_of_le hz0) (mm_ks_cons (Nat.lt_succ_self _) (mm_ks_le hk0 (Nat.le_succ _))) (fun i v hv => mm_okv_le (hl0 i v hv) (Nat.le_succ _))
  have t2 : M.2.1 + 1 ≤ Mf.2.1 := h1.2.1
  have t3 : M.2.2.1 + q.2.2 ≤ Mf.2.2.1 := h1.2.2
  refine ⟨⟨h1.1, by omega, by omega⟩, fun ρ H locs ls hr hP hD hS hl => ?_⟩
  obtain ⟨hsz, hty, hnm⟩ := mm_cl_ok ci q hc
  have hci : ci < 13 := (List.getElem?_eq_some_iff.mp hc).1
  refine va_new (fs := mm_fs (fun _ => 0) Y (mm_new M (.inl ci) q.2.2) M.2.1 ci) hx hb hts hin (mm_tyOf ci) hty hown hcl hinst hini hK hP hD hS hA hc (fun j hj => ?_) (by omega) (by omega) hd (fun a H1 hP1 hD1 hS1 => ?_)
  · have hk : mm_tk (mm_tyOf ci j) < 4 := by
      have a1 := List.all_eq_true.mp mm_tyk ci (List.mem_range.mpr hci)
      have a2 := List.all_eq_true.mp a1 j (List.mem_range.mpr (by rw [mm_size_of hc]; exact hj))
      exact of_decide_eq_true a2
    unfold vp_V
    rw [List.getD_eq_getElem?_getD, mm_fs_at (by rw [mm_size_of hc]; exact hj)]
    unfold mm_fv
    simp only [mm_row_same, mm_new_pn hw0.1, Option.getD_some]
    cases h9 : mm_tyOf ci j <;> first | rfl | (rw [h9] at hk; exact absurd hk (by decide))
  · refine W.cs (cells' := M.2.1 + 1 - n0) (slots' := M.2.2.1 + q.2.2 - z0) (by omega) (by omega) ?_
    refine ga_born hw0 (by omega) hn0 hk0 hr hl ?_ hP1 hD1 hS1 h2
    rw [mm_cell_obj (mm_new_sn hw0.1)]
    congr 2
    unfold mm_fs
    apply List.map_congr_left
    intro j _
    unfold mm_fv
    simp only [mm_new_pn hw0.1]
    rfl
end GA
end
section
/-- what a method leaves: its answer, the new world, the rest as it was -/
def mm_Qc (D : va_G) (cA : Nat → ClassId) (Y : mmY) (ρ : Nat → Nat) (M : mmM) (v : Option Value) (M' : mmM) (sz : Nat) : Array Value → State → Outcome → State → Prop := fun _ st oc t =>
  (∃ ρ' : Nat → Nat, (∀ b, b < M.2.1 → ρ' b = ρ b) ∧ oc = .returned (v.map (mm_tr ρ')) ∧ va_P D mm_cl (mm_enc cA ρ' Y M') t.heap ∧ va_K D mm_cl (mm_tysA cA) t ∧ va_D (va_A (mm_enc cA ρ Y M) sz) (mm_enc cA ρ' Y M')) ∧ va_F (va_A (mm_enc cA ρ Y M) sz) st t
/-- the world that a method finds -/
def mm_Wd (D : va_G) (cA : Nat → ClassId) (Y : mmY) (nest : List Cond) (ρ : Nat → Nat) (M : mmM) (sz : Nat) (U : State) : Prop :=
  U.heap.size = sz ∧ va_P D mm_cl (mm_enc cA ρ Y M) U.heap ∧ va_K D mm_cl (mm_tysA cA) U ∧ va_D (fun _ => True) (mm_enc cA ρ Y M) ∧ mm_cnT Y ρ (va_A (mm_enc cA ρ Y M) sz) U U.heap ∧ mm_cnZ ρ (va_A (mm_enc cA ρ Y M) sz) U U.heap ∧ mm_cnN nest U ∧ va_AO RX0 U ∧ mm_c5 cA U
def mm_isN (w : Cond) : Bool := match w with
  | .fieldLinkNest _ _ _ _ _ _ => true
  | .methodLinkNest _ _ _ _ => true
  | _ => false
theorem mm_nw {w : Cond} {s U : State} (h : mm_isN w = true) (hW : s.WarmedH U.vm) (hZ : va_Nw w s) : va_Nw w U := by
  unfold mm_isN at h
  split at h
  · exact va_Nw.warmF hW hZ
  · exact va_Nw.warmM hW hZ
  · cases h
theorem mm_nw_same {w : Cond} {s U : State} (h : mm_isN w = true) (e : s.vm = U.vm) (hZ : va_Nw w s) : va_Nw w U := by
  unfold mm_isN at h
  split at h
  · exact va_Nw.same rfl e hZ
  · exact va_Nw.same rfl e hZ
  · cases h
theorem mm_c5_moved {cA : Nat → ClassId} {u U : State} (hvm : u.vm.Alike U.vm) (h : mm_c5 cA u) : mm_c5 cA U := by
  obtain ⟨kA, kI, h1, h2, h3, h4⟩ := h
  obtain ⟨kA', e1, e2⟩ := hvm.2.2 _ _ h1
  obtain ⟨kI', e3, -⟩ := hvm.2.2 _ _ h3
  exact ⟨kA', kI', e1, by rw [e2]; exact h2, e3, by rw [hvm.assignable]; exact h4⟩

section GC
variable {p : Program} {l : Launch} {e : Env} {R : Room} {s : State} {m : MethodId} {args : Array Value} {below : List Frame} {meth : Method} {c : Code} {Q : State → Prop} {D : va_G} {cA : Nat → ClassId} {Y : mmY} {A : Nat → Prop} {nL n0 z0 : Nat} {ρ0 : Nat → Nat} {Mf : mmM} {cc : ByteArray} {pc : Nat} {L : mmL} {K r : List Value} {M : mmM}
theorem gc_iret (hx : p.tables.exec = Jvm.exec) (hb : c.code = cc) {M0 : mmM} {x : Int32} {y : Int64} {a : Nat} (hA : A = va_A (mm_enc cA ρ0 Y M0) s.heap.size) (hM0 : M0.2.1 = n0) (hK : va_K D mm_cl (mm_tysA cA) s) (hlocks : meth.locks = false) (hr : meth.sig.returnType = some .int) (hd : decode cc pc = .ok (.ireturn, 1)) : mm_Gd p l e R s m args below meth c (MQ below (mm_Qc D cA Y ρ0 M0 (some (.int x)) M s.heap.size) args s (M.2.1 - n0) (M.2.2.1 - z0) A) D cA Y A nL n0 z0 ρ0 M pc L [.int x] M := by
  intro hw0 hn0 hz0 hk0 hl0
  refine ⟨⟨hw0, Nat.le_refl _, Nat.le_refl _⟩, fun ρ H locs ls hr0 hP hD hS hl => ?_⟩
  exact W.iret (v := x) hx hb hr (fun t ht hW => ⟨⟨ρ, fun b hb1 => hr0 b (by omega), rfl, by rw [ht]; exact hP, va_K.moved hW.alike hK, by rw [← hA]; exact hD⟩, by rw [← hA]; exact hS.F ht⟩) hS.2.2 hd
theorem gc_zret (hx : p.tables.exec = Jvm.exec) (hb : c.code = cc) {M0 : mmM} {x : Int32} {y : Int64} {a : Nat} (hA : A = va_A (mm_enc cA ρ0 Y M0) s.heap.size) (hM0 : M0.2.1 = n0) (hK : va_K D mm_cl (mm_tysA cA) s) (hlocks : meth.locks = false) (hr : meth.sig.returnType = some .boolean) (h01 : x = 0 ∨ x = 1) (hd : decode cc pc = .ok (.ireturn, 1)) : mm_Gd p l e R s m args below meth c (MQ below (mm_Qc D cA Y ρ0 M0 (some (.int x)) M s.heap.size) args s (M.2.1 - n0) (M.2.2.1 - z0) A) D cA Y A nL n0 z0 ρ0 M pc L [.int x] M := by
  intro hw0 hn0 hz0 hk0 hl0
  refine ⟨⟨hw0, Nat.le_refl _, Nat.le_refl _⟩, fun ρ H locs ls hr0 hP hD hS hl => ?_⟩
  exact W.zret (v := x) hx hb hr (by rcases h01 with rfl | rfl <;> rfl) (fun t ht hW => ⟨⟨ρ, fun b hb1 => hr0 b (by omega), rfl, by rw [ht]; exact hP, va_K.moved hW.alike hK, by rw [← hA]; exact hD⟩, by rw [← hA]; exact hS.F ht⟩) hS.2.2 hd
theorem gc_lret (hx : p.tables.exec = Jvm.exec) (hb : c.code = cc) {M0 : mmM} {x : Int32} {y : Int64} {a : Nat} (hA : A = va_A (mm_enc cA ρ0 Y M0) s.heap.size) (hM0 : M0.2.1 = n0) (hK : va_K D mm_cl (mm_tysA cA) s) (hlocks : meth.locks = false) (hr : meth.sig.returnType = some .long) (hd : decode cc pc = .ok (.lreturn, 1)) : mm_Gd p l e R s m args below meth c (MQ below (mm_Qc D cA Y ρ0 M0 (some (.long y)) M s.heap.size) args s (M.2.1 - n0) (M.2.2.1 - z0) A) D cA Y A nL n0 z0 ρ0 M pc L [.long y] M := by
  intro hw0 hn0 hz0 hk0 hl0
  refine ⟨⟨hw0, Nat.le_refl _, Nat.le_refl _⟩, fun ρ H locs ls hr0 hP hD hS hl => ?_⟩
  exact W.lret (v := y) hx hb hr (fun t ht hW => ⟨⟨ρ, fun b hb1 => hr0 b (by omega), rfl, by rw [ht]; exact hP, va_K.moved hW.alike hK, by rw [← hA]; exact hD⟩, by rw [← hA]; exact hS.F ht⟩) hS.2.2 hd
theorem gc_vret (hx : p.tables.exec = Jvm.exec) (hb : c.code = cc) {M0 : mmM} {x : Int32} {y : Int64} {a : Nat} (hA : A = va_A (mm_enc cA ρ0 Y M0) s.heap.size) (hM0 : M0.2.1 = n0) (hK : va_K D mm_cl (mm_tysA cA) s) (hlocks : meth.locks = false) (hr : meth.sig.returnType = none) (hd : decode cc pc = .ok (.return_, 1)) : mm_Gd p l e R s m args below meth c (MQ below (mm_Qc D cA Y ρ0 M0 none M s.heap.size) args s (M.2.1 - n0) (M.2.2.1 - z0) A) D cA Y A nL n0 z0 ρ0 M pc L [] M := by
  intro hw0 hn0 hz0 hk0 hl0
  refine ⟨⟨hw0, Nat.le_refl _, Nat.le_refl _⟩, fun ρ H locs ls hr0 hP hD hS hl => ?_⟩
  exact W.vret hx hb hr (fun t ht hW => ⟨⟨ρ, fun b hb1 => hr0 b (by omega), rfl, by rw [ht]; exact hP, va_K.moved hW.alike hK, by rw [← hA]; exact hD⟩, by rw [← hA]; exact hS.F ht⟩) hS.2.2 hd
theorem gc_aret (hx : p.tables.exec = Jvm.exec) (hb : c.code = cc) {M0 : mmM} {x : Int32} {y : Int64} {a : Nat} (hA : A = va_A (mm_enc cA ρ0 Y M0) s.heap.size) (hM0 : M0.2.1 = n0) (hK : va_K D mm_cl (mm_tysA cA) s) (hlocks : meth.locks = false) {rt : FieldType} (hr : meth.sig.returnType = some rt) (hrt : (∃ n, rt = .object n) ∨ ∃ t, rt = .array t) (hd : decode cc pc = .ok (.areturn, 1)) : mm_Gd p l e R s m args below meth c (MQ below (mm_Qc D cA Y ρ0 M0 (some (.ref a)) M s.heap.size) args s (M.2.1 - n0) (M.2.2.1 - z0) A) D cA Y A nL n0 z0 ρ0 M pc L [.ref a] M := by
  intro hw0 hn0 hz0 hk0 hl0
  refine ⟨⟨hw0, Nat.le_refl _, Nat.le_refl _⟩, fun ρ H locs ls hr0 hP hD hS hl => ?_⟩
  exact W.aret (v := .ref (ρ a)) hx hb hr hrt (Or.inr ⟨_, rfl⟩) (fun t ht hW => ⟨⟨ρ, fun b hb1 => hr0 b (by omega), rfl, by rw [ht]; exact hP, va_K.moved hW.alike hK, by rw [← hA]; exact hD⟩, by rw [← hA]; exact hS.F ht⟩) hS.2.2 hd
theorem mm_sw_in {x : Int32} {d : Nat} {g : Nat → Option mmR} {res : mmR} : ∀ (w : List (Int32 × Nat)), mm_sw x d g w = some res → (∃ (j : Nat) (q : Int32 × Nat), w[j]? = some q ∧ x = q.1 ∧ (∀ (i : Nat) (p : Int32 × Nat), i < j → w[i]? = some p → x ≠ p.1) ∧ g q.2 = some res) ∨ ((∀ q ∈ w, x ≠ q.1) ∧ g d = some res)
  | [], h => Or.inr ⟨fun q hq => (List.not_mem_nil hq).elim, h⟩
  | q :: w, h => by
    change (if x = q.1 then g q.2 else mm_sw x d g w) = some res at h
    by_cases e : x = q.1
    · rw [if_pos e] at h
      exact Or.inl ⟨0, q, rfl, e, fun i p hi => by omega, h⟩
    · rw [if_neg e] at h
      rcases mm_sw_in w h with ⟨j, p, h1, h2, h3, h4⟩ | ⟨h1, h2⟩
      · refine Or.inl ⟨j + 1, p, h1, h2, fun i z hi hz => ?_, h4⟩
        cases i with
        | zero => cases hz; exact e
        | succ i => exact h3 i z (by omega) hz
      · refine Or.inr ⟨fun z hz => ?_, h2⟩
        rcases List.mem_cons.mp hz with rfl | hz
        · exact e
        · exact h1 z hz
/-- a table's keys and targets, one by one -/
def mm_tsw (pc : Nat) : Int → List Int → List (Int32 × Nat) → Bool
  | _, [], [] => true
  | lo, o :: os, q :: w => decide (q.1.toInt = lo) && (decide ((pc : Int) + o = (q.2 : Int)) && mm_tsw pc (lo + 1) os w)
  | _, _, _ => false
theorem mm_tsw_at {pc : Nat} : ∀ (lo : Int) (os : List Int) (w : List (Int32 × Nat)), mm_tsw pc lo os w = true → w.length = os.length ∧ ∀ (j : Nat) (q : Int32 × Nat), w[j]? = some q → q.1.toInt = lo + (j : Int) ∧ ∃ o : Int, os[j]? = some o ∧ (pc : Int) + o = (q.2 : Int)
  | lo, [], [], _ => ⟨rfl, fun j q h => by simp at h⟩
  | lo, o :: os, q :: w, h => by
    simp only [mm_tsw, Bool.and_eq_true, decide_eq_true_eq] at h
    obtain ⟨h1, h2, h3⟩ := h
    obtain ⟨e, ih⟩ := mm_tsw_at (lo + 1) os w h3
    refine ⟨by simp [e], fun j z hz => ?_⟩
    cases j with
    | zero => cases hz; exact ⟨by simpa using h1, o, rfl, h2⟩
    | succ j =>
      obtain ⟨a, b, c1, c2⟩ := ih j z hz
      exact ⟨by rw [a]; omega, b, c1, c2⟩
  | _, [], _ :: _, h => by cases h
  | _, _ :: _, [], h => by cases h
theorem gc_jump1 {x : Int32} {tgt : Nat} (hrow : ∀ (H : Heap) (locs : List Loc) (ls : Array Slot) (rest : List Value) (cells slots : Nat), W p l e R s m args below meth c H locs cells slots Q (F0 m tgt ls rest) → W p l e R s m args below meth c H locs cells slots Q (F0 m pc ls (.int x :: rest))) (kk : mm_Gd p l e R s m args below meth c Q D cA Y A nL n0 z0 ρ0 Mf tgt L r M) : mm_Gd p l e R s m args below meth c Q D cA Y A nL n0 z0 ρ0 Mf pc L (.int x :: r) M := by
  intro hw0 hn0 hz0 hk0 hl0
  obtain ⟨h1, h2⟩ := kk hw0 hn0 hz0 (mm_ks_tail hk0) hl0
  exact ⟨h1, fun ρ H locs ls hr hP hD hS hl => hrow _ _ _ _ _ _ (h2 ρ H locs ls hr hP hD hS hl)⟩
theorem gc_table (hx : p.tables.exec = Jvm.exec) (hb : c.code = cc) {x : Int32} {dflt lo hi : Int} {offs : Array Int} {len d : Nat} {w : List (Int32 × Nat)} {g : Nat → Option mmR} {res : mmR} (hd : decode cc pc = .ok (.tableswitch dflt lo hi offs, len)) (hdf : (pc : Int) + dflt = (d : Int)) (hw : mm_tsw pc lo offs.toList w = true) (hhi : hi + 1 = lo + offs.size) (h : mm_sw x d g w = some res) (kk : ∀ t, g t = some res → mm_Gd p l e R s m args below meth c Q D cA Y A nL n0 z0 ρ0 Mf t L r M) : mm_Gd p l e R s m args below meth c Q D cA Y A nL n0 z0 ρ0 Mf pc L (.int x :: r) M := by
  obtain ⟨hlen, hat⟩ := mm_tsw_at lo offs.toList w hw
  rcases mm_sw_in w h with ⟨j, q, h1, h2, -, h4⟩ | ⟨h1, h2⟩
  · obtain ⟨a, o, b1, b2⟩ := hat j q h1
    have hj : j < w.length := (List.getElem?_eq_some_iff.mp h1).1
    have hxi : x.toInt = lo + j := by rw [h2]; exact a
    have hsz : offs.toList.length = offs.size := Array.length_toList
    exact gc_jump1 (tgt := q.2) (fun H locs ls rest cells slots k => lv_tableIn hx hb hd (by omega) (by omega) (by rw [show (x.toInt - lo).toNat = j by omega]; rw [← Array.getElem?_toList]; exact b1) b2 k) (kk q.2 h4)
  · refine gc_jump1 (tgt := d) (fun H locs ls rest cells slots k => lv_tableOut hx hb hd ?_ hdf k) (kk d h2)
    by_cases h3 : x.toInt < lo
    · exact Or.inl h3
    · refine Or.inr ?_
      apply Int.lt_of_not_ge
      intro h5
      have hsz : offs.toList.length = offs.size := Array.length_toList
      have hj : (x.toInt - lo).toNat < w.length := by omega
      obtain ⟨q, hq⟩ : ∃ q, w[(x.toInt - lo).toNat]? = some q := ⟨_, List.getElem?_eq_getElem hj⟩
      have a := (hat _ q hq).1
      exact h1 q (List.mem_of_getElem? hq) (Int32.toInt_inj.mp (by rw [a]; omega))
theorem mm_lsw {pc : Nat} {d : Int} {x : Int32} : ∀ (w : List (Int32 × Nat)) (ps : List (Int × Int)), w.map (fun q => (q.1.toInt, (q.2 : Int) - pc)) = ps → (∀ (j : Nat) (q : Int32 × Nat), w[j]? = some q → x = q.1 → (∀ (i : Nat) (z : Int32 × Nat), i < j → w[i]? = some z → x ≠ z.1) → Op.lookupswitch.offset ps d x.toInt = (q.2 : Int) - pc) ∧ ((∀ q ∈ w, x ≠ q.1) → Op.lookupswitch.offset ps d x.toInt = d)
  | [], _, rfl => ⟨fun j q h => by simp at h, fun _ => rfl⟩
  | q :: w, _, rfl => by
    obtain ⟨i1, i2⟩ := mm_lsw (d := d) (x := x) w _ rfl
    refine ⟨fun j z hz hx hall => ?_, fun hall => ?_⟩
    · cases j with
      | zero =>
        cases hz
        rw [List.map_cons, Op.lookupswitch.offset_cons, if_pos (by rw [hx])]
      | succ j =>
        rw [List.map_cons, lv_osw (k := q.1) (hall 0 q (by omega) rfl) rfl]
        exact i1 j z hz hx (fun i y hi hy => hall (i + 1) y (by omega) hy)
    · rw [List.map_cons, lv_osw (k := q.1) (hall q List.mem_cons_self) rfl]
      exact i2 (fun z hz => hall z (List.mem_cons_of_mem _ hz))
theorem gc_lookup (hx : p.tables.exec = Jvm.exec) (hb : c.code = cc) {x : Int32} {dflt : Int} {ps : Array (Int × Int)} {len d : Nat} {w : List (Int32 × Nat)} {g : Nat → Option mmR} {res : mmR} (hd : decode cc pc = .ok (.lookupswitch dflt ps, len)) (hdf : (pc : Int) + dflt = (d : Int)) (hp : (ps.toList.zip (ps.toList.drop 1)).all (fun (a, next) => a.1 < next.1) = true) (hw : w.map (fun q => (q.1.toInt, (q.2 : Int) - pc)) = ps.toList) (h : mm_sw x d g w = some res) (kk : ∀ t, g t = some res → mm_Gd p l e R s m args below meth c Q D cA Y A nL n0 z0 ρ0 Mf t L r M) : mm_Gd p l e R s m args below meth c Q D cA Y A nL n0 z0 ρ0 Mf pc L (.int x :: r) M := by
  obtain ⟨a1, a2⟩ := mm_lsw (d := dflt) (x := x) w _ hw
  rcases mm_sw_in w h with ⟨j, q, h1, h2, h3, h4⟩ | ⟨h1, h2⟩
  · exact gc_jump1 (tgt := q.2) (fun H locs ls rest cells slots k => lv_lookup hx hb hd hp (a1 j q h1 h2 h3) (by omega) k) (kk q.2 h4)
  · exact gc_jump1 (tgt := d) (fun H locs ls rest cells slots k => lv_lookup hx hb hd hp (a2 h1) hdf k) (kk d h2)

end GC
end
section
theorem mm_pop_eq : ∀ (n : Nat) (K acc as rest : List Value), mm_pop n K acc = some (as, rest) → ∃ bs : List Value, as = bs ++ acc ∧ K = bs.reverse ++ rest ∧ bs.length = n
  | 0, K, acc, as, rest, h => by
    cases h
    exact ⟨[], rfl, rfl, rfl⟩
  | n + 1, [], acc, as, rest, h => by cases h
  | n + 1, v :: K, acc, as, rest, h => by
    change mm_pop n K (v :: acc) = _ at h
    obtain ⟨bs, h1, h2, h3⟩ := mm_pop_eq n K (v :: acc) as rest h
    refine ⟨bs ++ [v], by rw [h1]; simp, ?_, by simp [h3]⟩
    rw [h2]
    simp
theorem mm_cat_tr (ρ : Nat → Nat) (K : List Value) : (((K.map (mm_tr ρ)).map fun v => v.category).sum) = mm_cat K := by
  unfold mm_cat
  rw [List.map_map]
  congr 1
  apply List.map_congr_left
  intro v _
  cases v <;> rfl
section GQ
variable {p : Program} {l : Launch} {e : Env} {R : Room} {s : State} {m : MethodId} {args : Array Value} {below : List Frame} {meth : Method} {c : Code} {Q : State → Prop} {D : va_G} {cA : Nat → ClassId} {Y : mmY} {A : Nat → Prop} {nL n0 z0 : Nat} {ρ0 : Nat → Nat} {Mf : mmM} {cc : ByteArray} {pc : Nat} {L : mmL} {K r : List Value} {M : mmM}
variable {nest : List Cond} {M' : mmM} {v : Option Value} {rest K0 : List Value} {aa : Array Value}
/-- the world for a callee -/
theorem gq_wd {ρ : Nat → Nat} {H : Heap} {locs : List Loc} (hnest : ∀ w ∈ nest, mm_isN w = true) (h16n : 16 ≤ n0) (hA : ∀ q, s.heap.size ≤ q → A q) (hK : va_K D mm_cl (mm_tysA cA) s) (hT : mm_cnT Y ρ0 A s s.heap) (hZ : mm_cnZ ρ0 A s s.heap) (hN : mm_cnN nest s) (hO : va_AO RX0 s) (h5 : mm_c5 cA s)
    (hr : ∀ b, b < n0 → ρ b = ρ0 b) (hP : va_P D mm_cl (mm_enc cA ρ Y M) H) (hD : va_D A (mm_enc cA ρ Y M)) (hS : va_S A s.heap H locs) (U : State) (hU : U.heap = H) (hW : s.WarmedH U.vm) : mm_Wd D cA Y nest ρ M H.size U := by
  have hsub : ∀ q, va_A (mm_enc cA ρ Y M) H.size q → A q := by
    rintro q (⟨k, e9, hk⟩ | h)
    · exact hD.2 k _ hk
    · exact hA q (Nat.le_trans hS.1 h)
  refine ⟨by rw [hU], by rw [hU]; exact hP, va_K.moved hW.alike hK, hD.weaken (fun _ _ _ _ => trivial), ?_, ?_, fun w hw => mm_nw (hnest w hw) hW (hN w hw), va_AO.moved hW.alike hO, mm_c5_moved hW.alike h5⟩
  · intro t ty len ht hy
    rw [hU, hr t (by omega)]
    exact (((hT t ty len ht hy).kept (fun a h1 h2 => hS.2.1 a h1 h2)).narrow hsub).moved hW.alike
  · intro t q hq
    have ht : t < 9 := (List.getElem?_eq_some_iff.mp hq).1
    rw [hU, hr t (by omega)]
    exact (((hZ t q hq).kept (fun a h1 h2 => hS.2.1 a h1 h2)).narrow hsub).moved hW.alike
theorem gq_blind {ρ : Nat → Nat} {sz : Nat} {av : List Value} (hnest : ∀ w ∈ nest, mm_isN w = true) : FrameBlind (va_Pc av (mm_Wd D cA Y nest ρ M sz)) := by
  intro a U g mk h
  obtain ⟨q0, q1, qP, qK, qD, qT, qZ, qN, qO, q5⟩ := h
  refine ⟨q0, q1, qP, va_K.moved (u := U) (U := U.calling g mk a) (Vm.Alike.refl U.vm) qK, qD, ?_, ?_, ?_, va_AO.moved (u := U) (U := U.calling g mk a) (Vm.Alike.refl U.vm) qO, mm_c5_moved (u := U) (U := U.calling g mk a) (Vm.Alike.refl U.vm) q5⟩
  · intro t ty len ht hy
    exact (qT t ty len ht hy).moved (u := U) (U := U.calling g mk a) (Vm.Alike.refl U.vm)
  · intro t q hq
    exact (qZ t q hq).moved (u := U) (U := U.calling g mk a) (Vm.Alike.refl U.vm)
  · intro w hw
    exact mm_nw_same (s := U) (U := U.calling g mk a) (hnest w hw) rfl (qN w hw)
/-- a call that comes back, by whichever instruction -/
theorem gq_core (h16n : 16 ≤ n0) (hA : ∀ q, s.heap.size ≤ q → A q) (hRc : Mf.2.1 - n0 ≤ R.cells) (hRs : Mf.2.2.1 - z0 ≤ R.slots) (hm1 : M.2.1 ≤ M'.2.1) (hm2 : M.2.2.1 ≤ M'.2.2.1) (hw1 : mm_wf Y M') (hv : ∀ x, v = some x → mm_okv M'.2.1 x) (hrest : ∀ x ∈ rest, x ∈ K0)
    (hrun : mm_ks M.2.1 K0 → ∀ (ρ : Nat → Nat) (H : Heap) (locs : List Loc) (ls : Array Slot), (∀ b, b < n0 → ρ b = ρ0 b) → va_P D mm_cl (mm_enc cA ρ Y M) H → va_D A (mm_enc cA ρ Y M) → va_S A s.heap H locs → mm_lc ρ M.2.1 L ls nL → M.2.1 - n0 + (M'.2.1 - M.2.1) ≤ R.cells ∧ M.2.2.1 - z0 + (M'.2.2.1 - M.2.2.1) ≤ R.slots →
      va_Run p l e R s m args below meth c H locs (M.2.1 - n0) (M.2.2.1 - z0) (M'.2.1 - M.2.1) (M'.2.2.1 - M.2.2.1) (F0 m pc ls (K0.map (mm_tr ρ))) (rest.map (mm_tr ρ)) (mm_Qc D cA Y ρ M v M' H.size aa) (va_A (mm_enc cA ρ Y M) H.size))
    (kk : mm_Gd p l e R s m args below meth c Q D cA Y A nL n0 z0 ρ0 Mf (pc + 3) L (v.toList ++ rest) M') : mm_Gd p l e R s m args below meth c Q D cA Y A nL n0 z0 ρ0 Mf pc L K0 M := by
  intro hw0 hn0 hz0 hk0 hl0
  have hkr : mm_ks M.2.1 rest := fun x hx1 => hk0 x (hrest x hx1)
  have hkv : mm_ks M'.2.1 (v.toList ++ rest) := by
    intro x hx1
    rcases List.mem_append.mp hx1 with h | h
    · exact hv x (by cases v with | none => cases h | some y => simp at h; rw [h])
    · exact mm_okv_le (hkr x h) hm1
  obtain ⟨h1, h2⟩ := kk hw1 (Nat.le_trans hn0 hm1) (Nat.le_trans hz0 hm2) hkv (fun i x hx1 => mm_okv_le (hl0 i x hx1) hm1)
  refine ⟨⟨h1.1, Nat.le_trans hm1 h1.2.1, Nat.le_trans hm2 h1.2.2⟩, fun ρ H locs ls hr hP hD hS hl => ?_⟩
  have t1 := h1.2.1
  have t2 := h1.2.2
  intro T hT X
  obtain ⟨v9, st₀, t, T', L9, h0, X', hL, e1, e2, ⟨⟨ρ', hρ, hv9, hP', hK', hD'⟩, hz, hk⟩, st⟩ := hrun hk0 ρ H locs ls hr hP hD hS hl ⟨by omega, by omega⟩ T hT X
  cases hv9
  rw [h0] at hz hk
  have hsub : ∀ q, va_A (mm_enc cA ρ Y M) H.size q → A q := by
    rintro q (⟨k, e9, hk9⟩ | h)
    · exact hD.2 k _ hk9
    · exact hA q (Nat.le_trans hS.1 h)
  have h3 := h2 ρ' T'.heap (locs ++ L9) ls (fun b hb9 => by rw [hρ b (by omega)]; exact hr b hb9) (by rw [e1]; exact hP') (hD'.weaken (fun _ q _ h => hsub q.1 h))
    ⟨Nat.le_trans hS.1 (by rw [e1]; exact hz), fun q a1 a2 => by rw [e1, hk q (Nat.lt_of_lt_of_le a1 hS.1) (fun z => a2 (hsub q z))]; exact hS.2.1 q a1 a2, fun q hq => by
      rcases List.mem_append.mp hq with h | h
      · exact hS.2.2 q h
      · exact hsub _ (hL q h)⟩ (mm_lc_le hl hm1 hρ)
  have hst : (v.toList ++ rest).map (mm_tr ρ') = (v.map (mm_tr ρ')).toList ++ rest.map (mm_tr ρ) := by
    rw [List.map_append, mm_ks_tr hkr hρ]
    cases v <;> rfl
  rw [hst] at h3
  have h4 := W.cs (cells := M.2.1 - n0 + (M'.2.1 - M.2.1)) (slots := M.2.2.1 - z0 + (M'.2.2.1 - M.2.2.1)) (by omega) (by omega) h3
  obtain ⟨t9, a1, b1⟩ := h4 T' rfl X'
  exact ⟨t9, st t9 a1, b1⟩

theorem gq_V (hx : p.tables.exec = Jvm.exec) (hb : c.code = cc) (hnest : ∀ w ∈ nest, mm_isN w = true) (h16n : 16 ≤ n0) (hA : ∀ q, s.heap.size ≤ q → A q) (hK : va_K D mm_cl (mm_tysA cA) s) (hT : mm_cnT Y ρ0 A s s.heap) (hZ : mm_cnZ ρ0 A s s.heap) (hN : mm_cnN nest s) (hO : va_AO RX0 s) (h5 : mm_c5 cA s) (hRc : Mf.2.1 - n0 ≤ R.cells) (hRs : Mf.2.2.1 - z0 ≤ R.slots) (hm1 : M.2.1 ≤ M'.2.1) (hm2 : M.2.2.1 ≤ M'.2.2.1) (hw1 : mm_wf Y M') (hv : ∀ x, v = some x → mm_okv M'.2.1 x) {Ts ws ws' : List Cond} {own C : String} {index n maxL : Nat} {y : MethodName} {bytes : ByteArray} {ret : Option FieldType} {rm : Room} (hml : c.maxLocals = nL) (hown : s.vm.findClass own = some m.cls) (hts : ∀ w ∈ Ts, w.before args s = true) {as : List Value} {o ci : Nat} {q : vw_C} (hM : ∀ (ρ : Nat → Nat) (sz : Nat), Met l y ws rm (va_Pc ((.ref o :: as).map (mm_tr ρ)) (mm_Wd D cA Y nest ρ M sz)) (mm_Qc D cA Y ρ M v M' sz) (M'.2.1 - M.2.1) (M'.2.2.1 - M.2.2.1) (va_A (mm_enc cA ρ Y M) sz)) (hw : ws = Cond.code y bytes maxL ret :: ws') (hrc : rm.cells = M'.2.1 - M.2.1) (hrs : rm.slots = M'.2.2.1 - M.2.2.1) (hR : rm.frames + 1 ≤ R.frames ∧ 8 + (maxL + 11) + rm.locals ≤ R.locals) (hcat : mm_cat rest ≤ 8) (hG : GoodIn Ts (wsV own index C y ws)) (hdd : y.cls = C ∧ y.cls ≠ "java/lang/invoke/MethodHandle" ∧ y.cls ≠ "java/lang/invoke/VarHandle" ∧ (parseMethodDescriptor y.desc).map (fun d => d.parameters.length) = some n) (hc : mm_cl[ci]? = some q) (hqC : q.1 = C) (ho : mm_s Y M o = .inl ci) (hY : mm_wfY Y) (hlen : as.length = n) (hd : decode cc pc = .ok (.invokevirtual index, 3)) (kk : mm_Gd p l e R s m args below meth c Q D cA Y A nL n0 z0 ρ0 Mf (pc + 3) L (v.toList ++ rest) M') : mm_Gd p l e R s m args below meth c Q D cA Y A nL n0 z0 ρ0 Mf pc L (as.reverse ++ .ref o :: rest) M := by
  refine gq_core (K0 := (as.reverse ++ .ref o :: rest)) (aa := #[]) h16n hA hRc hRs hm1 hm2 hw1 hv (fun x hx1 => List.mem_append_right _ (List.mem_cons_of_mem _ hx1)) (fun hk0 ρ H locs ls hr hP hD hS hl hf => ?_) kk
  have hon : o < M.2.1 := hk0 (.ref o) (List.mem_append_right _ List.mem_cons_self)
  have h16 : 16 ≤ o := mm_s_lt hY ho hc
  have he := mm_enc_at (cA := cA) (ρ := ρ) (Y := Y) h16 hon
  rw [mm_cell_obj ho] at he
  have hrec := va_recv hK hP hc he
  rw [hqC] at hrec
  have hst : (as.reverse ++ .ref o :: rest).map (mm_tr ρ) = (as.map (mm_tr ρ)).reverse ++ .ref (ρ o) :: rest.map (mm_tr ρ) := by
    rw [List.map_append, List.map_reverse]; rfl
  have hWd := gq_wd (M := M) (nest := nest) hnest h16n hA hK hT hZ hN hO h5 hr hP hD hS
  have hroom : 2 * (F0 m pc ls ((as.map (mm_tr ρ)).reverse ++ .ref (ρ o) :: rest.map (mm_tr ρ))).monitorRoom + ((rest.map (mm_tr ρ)).map fun v => v.category).sum ≤ 8 := lv_room (rest := ((as.map (mm_tr ρ)).reverse ++ .ref (ρ o) :: rest.map (mm_tr ρ))) (m := m) (pc := pc) (ls := ls) (by rw [mm_cat_tr]; exact hcat)
  rw [hst]
  exact va_runV (As := as.map (mm_tr ρ)) (rest := rest.map (mm_tr ρ)) ⟨hx, hb, hml, hown, hts⟩ (hM ρ H.size) (cwV n hts hG hw hrc hrs hdd hR) ⟨gq_blind hnest, hrec, fun U hU hW => ⟨rfl, hWd U hU hW⟩⟩ (g := F0 m pc ls ((as.map (mm_tr ρ)).reverse ++ .ref (ρ o) :: rest.map (mm_tr ρ))) rfl (by rw [List.length_map]; exact hlen) hl.1 rfl hroom hd hf
theorem gq_VN (hx : p.tables.exec = Jvm.exec) (hb : c.code = cc) (hnest : ∀ w ∈ nest, mm_isN w = true) (h16n : 16 ≤ n0) (hA : ∀ q, s.heap.size ≤ q → A q) (hK : va_K D mm_cl (mm_tysA cA) s) (hT : mm_cnT Y ρ0 A s s.heap) (hZ : mm_cnZ ρ0 A s s.heap) (hN : mm_cnN nest s) (hO : va_AO RX0 s) (h5 : mm_c5 cA s) (hRc : Mf.2.1 - n0 ≤ R.cells) (hRs : Mf.2.2.1 - z0 ≤ R.slots) (hm1 : M.2.1 ≤ M'.2.1) (hm2 : M.2.2.1 ≤ M'.2.2.1) (hw1 : mm_wf Y M') (hv : ∀ x, v = some x → mm_okv M'.2.1 x) {Ts ws ws' : List Cond} {own C : String} {index n maxL : Nat} {y : MethodName} {bytes : ByteArray} {ret : Option FieldType} {rm : Room} (hml : c.maxLocals = nL) (hown : s.vm.findClass own = some m.cls) (hts : ∀ w ∈ Ts, w.before args s = true) {as : List Value} {o ci : Nat} {q : vw_C} (hM : ∀ (ρ : Nat → Nat) (sz : Nat), Met l y ws rm (va_Pc ((.ref o :: as).map (mm_tr ρ)) (mm_Wd D cA Y nest ρ M sz)) (mm_Qc D cA Y ρ M v M' sz) (M'.2.1 - M.2.1) (M'.2.2.1 - M.2.2.1) (va_A (mm_enc cA ρ Y M) sz)) (hw : ws = Cond.code y bytes maxL ret :: ws') (hrc : rm.cells = M'.2.1 - M.2.1) (hrs : rm.slots = M'.2.2.1 - M.2.2.1) (hR : rm.frames + 1 ≤ R.frames ∧ 8 + (maxL + 11) + rm.locals ≤ R.locals) (hcat : mm_cat rest ≤ 8) {host : String} (hG : GoodIn Ts ws) (hNl : va_Nw (.methodLinkNest own index y host) s) (hini : (Cond.initialized y.cls).before args s = true) (hi1 : (Cond.instanceMethod y).before args s = true) (hi2 : (Cond.selects C y y).before args s = true) (hdd : y.cls ≠ "java/lang/invoke/MethodHandle" ∧ y.cls ≠ "java/lang/invoke/VarHandle" ∧ (parseMethodDescriptor y.desc).map (fun d => d.parameters.length) = some n) (hc : mm_cl[ci]? = some q) (hqC : q.1 = C) (ho : mm_s Y M o = .inl ci) (hY : mm_wfY Y) (hlen : as.length = n) (hd : decode cc pc = .ok (.invokevirtual index, 3)) (kk : mm_Gd p l e R s m args below meth c Q D cA Y A nL n0 z0 ρ0 Mf (pc + 3) L (v.toList ++ rest) M') : mm_Gd p l e R s m args below meth c Q D cA Y A nL n0 z0 ρ0 Mf pc L (as.reverse ++ .ref o :: rest) M := by
  refine gq_core (K0 := (as.reverse ++ .ref o :: rest)) (aa := #[]) h16n hA hRc hRs hm1 hm2 hw1 hv (fun x hx1 => List.mem_append_right _ (List.mem_cons_of_mem _ hx1)) (fun hk0 ρ H locs ls hr hP hD hS hl hf => ?_) kk
  have hon : o < M.2.1 := hk0 (.ref o) (List.mem_append_right _ List.mem_cons_self)
  have h16 : 16 ≤ o := mm_s_lt hY ho hc
  have he := mm_enc_at (cA := cA) (ρ := ρ) (Y := Y) h16 hon
  rw [mm_cell_obj ho] at he
  have hrec := va_recv hK hP hc he
  rw [hqC] at hrec
  have hst : (as.reverse ++ .ref o :: rest).map (mm_tr ρ) = (as.map (mm_tr ρ)).reverse ++ .ref (ρ o) :: rest.map (mm_tr ρ) := by
    rw [List.map_append, List.map_reverse]; rfl
  have hWd := gq_wd (M := M) (nest := nest) hnest h16n hA hK hT hZ hN hO h5 hr hP hD hS
  have hroom : 2 * (F0 m pc ls ((as.map (mm_tr ρ)).reverse ++ .ref (ρ o) :: rest.map (mm_tr ρ))).monitorRoom + ((rest.map (mm_tr ρ)).map fun v => v.category).sum ≤ 8 := lv_room (rest := ((as.map (mm_tr ρ)).reverse ++ .ref (ρ o) :: rest.map (mm_tr ρ))) (m := m) (pc := pc) (ls := ls) (by rw [mm_cat_tr]; exact hcat)
  rw [hst]
  exact va_runVN (As := as.map (mm_tr ρ)) (rest := rest.map (mm_tr ρ)) ⟨hx, hb, hml, hown, hts⟩ (hM ρ H.size) ⟨va_cnB n hts hG hw hrc hrs hNl hini hdd hR, hi1, hi2⟩ ⟨gq_blind hnest, hrec, fun U hU hW => ⟨rfl, hWd U hU hW⟩⟩ (g := F0 m pc ls ((as.map (mm_tr ρ)).reverse ++ .ref (ρ o) :: rest.map (mm_tr ρ))) rfl (by rw [List.length_map]; exact hlen) hl.1 rfl hroom hd hf
theorem gq_S (hx : p.tables.exec = Jvm.exec) (hb : c.code = cc) (hnest : ∀ w ∈ nest, mm_isN w = true) (h16n : 16 ≤ n0) (hA : ∀ q, s.heap.size ≤ q → A q) (hK : va_K D mm_cl (mm_tysA cA) s) (hT : mm_cnT Y ρ0 A s s.heap) (hZ : mm_cnZ ρ0 A s s.heap) (hN : mm_cnN nest s) (hO : va_AO RX0 s) (h5 : mm_c5 cA s) (hRc : Mf.2.1 - n0 ≤ R.cells) (hRs : Mf.2.2.1 - z0 ≤ R.slots) (hm1 : M.2.1 ≤ M'.2.1) (hm2 : M.2.2.1 ≤ M'.2.2.1) (hw1 : mm_wf Y M') (hv : ∀ x, v = some x → mm_okv M'.2.1 x) {Ts ws ws' : List Cond} {own C : String} {index n maxL : Nat} {y : MethodName} {bytes : ByteArray} {ret : Option FieldType} {rm : Room} (hml : c.maxLocals = nL) (hown : s.vm.findClass own = some m.cls) (hts : ∀ w ∈ Ts, w.before args s = true) {as : List Value}  (hM : ∀ (ρ : Nat → Nat) (sz : Nat), Met l y ws rm (va_Pc (as.map (mm_tr ρ)) (mm_Wd D cA Y nest ρ M sz)) (mm_Qc D cA Y ρ M v M' sz) (M'.2.1 - M.2.1) (M'.2.2.1 - M.2.2.1) (va_A (mm_enc cA ρ Y M) sz)) (hw : ws = Cond.code y bytes maxL ret :: ws') (hrc : rm.cells = M'.2.1 - M.2.1) (hrs : rm.slots = M'.2.2.1 - M.2.2.1) (hR : rm.frames + 1 ≤ R.frames ∧ 8 + (maxL + 11) + rm.locals ≤ R.locals) (hcat : mm_cat rest ≤ 8) (hG : GoodIn Ts (va_wsS own index y ws)) (hdd : y.cls ≠ "java/lang/invoke/MethodHandle" ∧ y.cls ≠ "java/lang/invoke/VarHandle" ∧ (parseMethodDescriptor y.desc).map (fun d => d.parameters.length) = some n)  (hlen : as.length = n) (hd : decode cc pc = .ok (.invokestatic index, 3)) (kk : mm_Gd p l e R s m args below meth c Q D cA Y A nL n0 z0 ρ0 Mf (pc + 3) L (v.toList ++ rest) M') : mm_Gd p l e R s m args below meth c Q D cA Y A nL n0 z0 ρ0 Mf pc L (as.reverse ++ rest) M := by
  refine gq_core (K0 := (as.reverse ++ rest)) (aa := #[]) h16n hA hRc hRs hm1 hm2 hw1 hv (fun x hx1 => List.mem_append_right _ hx1) (fun hk0 ρ H locs ls hr hP hD hS hl hf => ?_) kk
  have hst : (as.reverse ++ rest).map (mm_tr ρ) = (as.map (mm_tr ρ)).reverse ++ rest.map (mm_tr ρ) := by
    rw [List.map_append, List.map_reverse]
  have hWd := gq_wd (M := M) (nest := nest) hnest h16n hA hK hT hZ hN hO h5 hr hP hD hS
  have hroom : 2 * (F0 m pc ls ((as.map (mm_tr ρ)).reverse ++ rest.map (mm_tr ρ))).monitorRoom + ((rest.map (mm_tr ρ)).map fun v => v.category).sum ≤ 8 := lv_room (rest := ((as.map (mm_tr ρ)).reverse ++ rest.map (mm_tr ρ))) (m := m) (pc := pc) (ls := ls) (by rw [mm_cat_tr]; exact hcat)
  rw [hst]
  exact va_runS (As := as.map (mm_tr ρ)) (rest := rest.map (mm_tr ρ)) ⟨hx, hb, hml, hown, hts⟩ (hM ρ H.size) (va_cwS n hts hG hw hrc hrs hdd hR) ⟨gq_blind hnest, fun U hU hW => ⟨rfl, hWd U hU hW⟩⟩ (g := F0 m pc ls ((as.map (mm_tr ρ)).reverse ++ rest.map (mm_tr ρ))) rfl (by rw [List.length_map]; exact hlen) hl.1 rfl hroom hd hf
theorem gq_SN (hx : p.tables.exec = Jvm.exec) (hb : c.code = cc) (hnest : ∀ w ∈ nest, mm_isN w = true) (h16n : 16 ≤ n0) (hA : ∀ q, s.heap.size ≤ q → A q) (hK : va_K D mm_cl (mm_tysA cA) s) (hT : mm_cnT Y ρ0 A s s.heap) (hZ : mm_cnZ ρ0 A s s.heap) (hN : mm_cnN nest s) (hO : va_AO RX0 s) (h5 : mm_c5 cA s) (hRc : Mf.2.1 - n0 ≤ R.cells) (hRs : Mf.2.2.1 - z0 ≤ R.slots) (hm1 : M.2.1 ≤ M'.2.1) (hm2 : M.2.2.1 ≤ M'.2.2.1) (hw1 : mm_wf Y M') (hv : ∀ x, v = some x → mm_okv M'.2.1 x) {Ts ws ws' : List Cond} {own C : String} {index n maxL : Nat} {y : MethodName} {bytes : ByteArray} {ret : Option FieldType} {rm : Room} (hml : c.maxLocals = nL) (hown : s.vm.findClass own = some m.cls) (hts : ∀ w ∈ Ts, w.before args s = true) {as : List Value}  (hM : ∀ (ρ : Nat → Nat) (sz : Nat), Met l y ws rm (va_Pc (as.map (mm_tr ρ)) (mm_Wd D cA Y nest ρ M sz)) (mm_Qc D cA Y ρ M v M' sz) (M'.2.1 - M.2.1) (M'.2.2.1 - M.2.2.1) (va_A (mm_enc cA ρ Y M) sz)) (hw : ws = Cond.code y bytes maxL ret :: ws') (hrc : rm.cells = M'.2.1 - M.2.1) (hrs : rm.slots = M'.2.2.1 - M.2.2.1) (hR : rm.frames + 1 ≤ R.frames ∧ 8 + (maxL + 11) + rm.locals ≤ R.locals) (hcat : mm_cat rest ≤ 8) {host : String} (hG : GoodIn Ts ws) (hNl : va_Nw (.methodLinkNest own index y host) s) (hini : (Cond.initialized y.cls).before args s = true) (hi1 : (Cond.static y).before args s = true) (hdd : y.cls ≠ "java/lang/invoke/MethodHandle" ∧ y.cls ≠ "java/lang/invoke/VarHandle" ∧ (parseMethodDescriptor y.desc).map (fun d => d.parameters.length) = some n)  (hlen : as.length = n) (hd : decode cc pc = .ok (.invokestatic index, 3)) (kk : mm_Gd p l e R s m args below meth c Q D cA Y A nL n0 z0 ρ0 Mf (pc + 3) L (v.toList ++ rest) M') : mm_Gd p l e R s m args below meth c Q D cA Y A nL n0 z0 ρ0 Mf pc L (as.reverse ++ rest) M := by
  refine gq_core (K0 := (as.reverse ++ rest)) (aa := #[]) h16n hA hRc hRs hm1 hm2 hw1 hv (fun x hx1 => List.mem_append_right _ hx1) (fun hk0 ρ H locs ls hr hP hD hS hl hf => ?_) kk
  have hst : (as.reverse ++ rest).map (mm_tr ρ) = (as.map (mm_tr ρ)).reverse ++ rest.map (mm_tr ρ) := by
    rw [List.map_append, List.map_reverse]
  have hWd := gq_wd (M := M) (nest := nest) hnest h16n hA hK hT hZ hN hO h5 hr hP hD hS
  have hroom : 2 * (F0 m pc ls ((as.map (mm_tr ρ)).reverse ++ rest.map (mm_tr ρ))).monitorRoom + ((rest.map (mm_tr ρ)).map fun v => v.category).sum ≤ 8 := lv_room (rest := ((as.map (mm_tr ρ)).reverse ++ rest.map (mm_tr ρ))) (m := m) (pc := pc) (ls := ls) (by rw [mm_cat_tr]; exact hcat)
  rw [hst]
  exact va_runSN (As := as.map (mm_tr ρ)) (rest := rest.map (mm_tr ρ)) ⟨hx, hb, hml, hown, hts⟩ (hM ρ H.size) ⟨va_cnB n hts hG hw hrc hrs hNl hini hdd hR, hi1, trivial⟩ ⟨gq_blind hnest, fun U hU hW => ⟨rfl, hWd U hU hW⟩⟩ (g := F0 m pc ls ((as.map (mm_tr ρ)).reverse ++ rest.map (mm_tr ρ))) rfl (by rw [List.length_map]; exact hlen) hl.1 rfl hroom hd hf
theorem gq_I (hx : p.tables.exec = Jvm.exec) (hb : c.code = cc) (hnest : ∀ w ∈ nest, mm_isN w = true) (h16n : 16 ≤ n0) (hA : ∀ q, s.heap.size ≤ q → A q) (hK : va_K D mm_cl (mm_tysA cA) s) (hT : mm_cnT Y ρ0 A s s.heap) (hZ : mm_cnZ ρ0 A s s.heap) (hN : mm_cnN nest s) (hO : va_AO RX0 s) (h5 : mm_c5 cA s) (hRc : Mf.2.1 - n0 ≤ R.cells) (hRs : Mf.2.2.1 - z0 ≤ R.slots) (hm1 : M.2.1 ≤ M'.2.1) (hm2 : M.2.2.1 ≤ M'.2.2.1) (hw1 : mm_wf Y M') (hv : ∀ x, v = some x → mm_okv M'.2.1 x) {Ts ws ws' : List Cond} {own C : String} {index n maxL : Nat} {y : MethodName} {bytes : ByteArray} {ret : Option FieldType} {rm : Room} (hml : c.maxLocals = nL) (hown : s.vm.findClass own = some m.cls) (hts : ∀ w ∈ Ts, w.before args s = true) {as : List Value} {o ci : Nat} {q : vw_C} (hM : ∀ (ρ : Nat → Nat) (sz : Nat), Met l y ws rm (va_Pc ((.ref o :: as).map (mm_tr ρ)) (mm_Wd D cA Y nest ρ M sz)) (mm_Qc D cA Y ρ M v M' sz) (M'.2.1 - M.2.1) (M'.2.2.1 - M.2.2.1) (va_A (mm_enc cA ρ Y M) sz)) (hw : ws = Cond.code y bytes maxL ret :: ws') (hrc : rm.cells = M'.2.1 - M.2.1) (hrs : rm.slots = M'.2.2.1 - M.2.2.1) (hR : rm.frames + 1 ≤ R.frames ∧ 8 + (maxL + 11) + rm.locals ≤ R.locals) (hcat : mm_cat rest ≤ 8) (hG : GoodIn Ts ws) (hret : ret = none) (hin1 : y.name = "<init>") (hini : (Cond.initialized y.cls).before args s = true) (hl1 : (Cond.methodLink own index y).before args s = true) (hi1 : (Cond.instanceMethod y).before args s = true) (hdd : y.cls ≠ "java/lang/invoke/MethodHandle" ∧ y.cls ≠ "java/lang/invoke/VarHandle" ∧ (parseMethodDescriptor y.desc).map (fun d => d.parameters.length) = some n)  (hlen : as.length = n) (hd : decode cc pc = .ok (.invokespecial index, 3)) (kk : mm_Gd p l e R s m args below meth c Q D cA Y A nL n0 z0 ρ0 Mf (pc + 3) L (v.toList ++ rest) M') : mm_Gd p l e R s m args below meth c Q D cA Y A nL n0 z0 ρ0 Mf pc L (as.reverse ++ .ref o :: rest) M := by
  refine gq_core (K0 := (as.reverse ++ .ref o :: rest)) (aa := #[]) h16n hA hRc hRs hm1 hm2 hw1 hv (fun x hx1 => List.mem_append_right _ (List.mem_cons_of_mem _ hx1)) (fun hk0 ρ H locs ls hr hP hD hS hl hf => ?_) kk
  have hst : (as.reverse ++ .ref o :: rest).map (mm_tr ρ) = (as.map (mm_tr ρ)).reverse ++ .ref (ρ o) :: rest.map (mm_tr ρ) := by
    rw [List.map_append, List.map_reverse]; rfl
  have hWd := gq_wd (M := M) (nest := nest) hnest h16n hA hK hT hZ hN hO h5 hr hP hD hS
  have hroom : 2 * (F0 m pc ls ((as.map (mm_tr ρ)).reverse ++ .ref (ρ o) :: rest.map (mm_tr ρ))).monitorRoom + ((rest.map (mm_tr ρ)).map fun v => v.category).sum ≤ 8 := lv_room (rest := ((as.map (mm_tr ρ)).reverse ++ .ref (ρ o) :: rest.map (mm_tr ρ))) (m := m) (pc := pc) (ls := ls) (by rw [mm_cat_tr]; exact hcat)
  rw [hst]
  exact va_runI (As := as.map (mm_tr ρ)) (rest := rest.map (mm_tr ρ)) ⟨hx, hb, hml, hown, hts⟩ (hM ρ H.size) ⟨callB_of n hts hG (by rw [hw, hret]) hrc hrs hini hl1 hdd hR, hin1, hi1⟩ ⟨gq_blind hnest, fun U hU hW => ⟨rfl, hWd U hU hW⟩⟩ (g := F0 m pc ls ((as.map (mm_tr ρ)).reverse ++ .ref (ρ o) :: rest.map (mm_tr ρ))) rfl (by rw [List.length_map]; exact hlen) hl.1 rfl hroom hd hf
theorem gq_IN (hx : p.tables.exec = Jvm.exec) (hb : c.code = cc) (hnest : ∀ w ∈ nest, mm_isN w = true) (h16n : 16 ≤ n0) (hA : ∀ q, s.heap.size ≤ q → A q) (hK : va_K D mm_cl (mm_tysA cA) s) (hT : mm_cnT Y ρ0 A s s.heap) (hZ : mm_cnZ ρ0 A s s.heap) (hN : mm_cnN nest s) (hO : va_AO RX0 s) (h5 : mm_c5 cA s) (hRc : Mf.2.1 - n0 ≤ R.cells) (hRs : Mf.2.2.1 - z0 ≤ R.slots) (hm1 : M.2.1 ≤ M'.2.1) (hm2 : M.2.2.1 ≤ M'.2.2.1) (hw1 : mm_wf Y M') (hv : ∀ x, v = some x → mm_okv M'.2.1 x) {Ts ws ws' : List Cond} {own C : String} {index n maxL : Nat} {y : MethodName} {bytes : ByteArray} {ret : Option FieldType} {rm : Room} (hml : c.maxLocals = nL) (hown : s.vm.findClass own = some m.cls) (hts : ∀ w ∈ Ts, w.before args s = true) {as : List Value} {o ci : Nat} {q : vw_C} (hM : ∀ (ρ : Nat → Nat) (sz : Nat), Met l y ws rm (va_Pc ((.ref o :: as).map (mm_tr ρ)) (mm_Wd D cA Y nest ρ M sz)) (mm_Qc D cA Y ρ M v M' sz) (M'.2.1 - M.2.1) (M'.2.2.1 - M.2.2.1) (va_A (mm_enc cA ρ Y M) sz)) (hw : ws = Cond.code y bytes maxL ret :: ws') (hrc : rm.cells = M'.2.1 - M.2.1) (hrs : rm.slots = M'.2.2.1 - M.2.2.1) (hR : rm.frames + 1 ≤ R.frames ∧ 8 + (maxL + 11) + rm.locals ≤ R.locals) (hcat : mm_cat rest ≤ 8) {host : String} (hG : GoodIn Ts ws) (hret : ret = none) (hin1 : y.name = "<init>") (hNl : va_Nw (.methodLinkNest own index y host) s) (hini : (Cond.initialized y.cls).before args s = true) (hi1 : (Cond.instanceMethod y).before args s = true) (hdd : y.cls ≠ "java/lang/invoke/MethodHandle" ∧ y.cls ≠ "java/lang/invoke/VarHandle" ∧ (parseMethodDescriptor y.desc).map (fun d => d.parameters.length) = some n)  (hlen : as.length = n) (hd : decode cc pc = .ok (.invokespecial index, 3)) (kk : mm_Gd p l e R s m args below meth c Q D cA Y A nL n0 z0 ρ0 Mf (pc + 3) L (v.toList ++ rest) M') : mm_Gd p l e R s m args below meth c Q D cA Y A nL n0 z0 ρ0 Mf pc L (as.reverse ++ .ref o :: rest) M := by
  refine gq_core (K0 := (as.reverse ++ .ref o :: rest)) (aa := #[]) h16n hA hRc hRs hm1 hm2 hw1 hv (fun x hx1 => List.mem_append_right _ (List.mem_cons_of_mem _ hx1)) (fun hk0 ρ H locs ls hr hP hD hS hl hf => ?_) kk
  have hst : (as.reverse ++ .ref o :: rest).map (mm_tr ρ) = (as.map (mm_tr ρ)).reverse ++ .ref (ρ o) :: rest.map (mm_tr ρ) := by
    rw [List.map_append, List.map_reverse]; rfl
  have hWd := gq_wd (M := M) (nest := nest) hnest h16n hA hK hT hZ hN hO h5 hr hP hD hS
  have hroom : 2 * (F0 m pc ls ((as.map (mm_tr ρ)).reverse ++ .ref (ρ o) :: rest.map (mm_tr ρ))).monitorRoom + ((rest.map (mm_tr ρ)).map fun v => v.category).sum ≤ 8 := lv_room (rest := ((as.map (mm_tr ρ)).reverse ++ .ref (ρ o) :: rest.map (mm_tr ρ))) (m := m) (pc := pc) (ls := ls) (by rw [mm_cat_tr]; exact hcat)
  rw [hst]
  exact va_runIN (As := as.map (mm_tr ρ)) (rest := rest.map (mm_tr ρ)) ⟨hx, hb, hml, hown, hts⟩ (hM ρ H.size) ⟨va_cnB n hts hG (by rw [hw, hret]) hrc hrs hNl hini hdd hR, hin1, hi1⟩ ⟨gq_blind hnest, fun U hU hW => ⟨rfl, hWd U hU hW⟩⟩ (g := F0 m pc ls ((as.map (mm_tr ρ)).reverse ++ .ref (ρ o) :: rest.map (mm_tr ρ))) rfl (by rw [List.length_map]; exact hlen) hl.1 rfl hroom hd hf
theorem gq_obj (hx : p.tables.exec = Jvm.exec) (hb : c.code = cc) (hml : c.maxLocals = nL) {own : String} {index o : Nat} (hown : s.vm.findClass own = some m.cls) (hl1 : (Cond.methodLink own index Lib.objectInit).before args s = true) (hi1 : (Cond.instanceMethod Lib.objectInit).before args s = true) (hco : (Cond.code Lib.objectInit ⟨#[0xb1]⟩ 1 none).before args s = true) (hf1 : 1 ≤ R.frames) (hf2 : 20 ≤ R.locals) (hcat : mm_cat rest ≤ 8) (hd : decode cc pc = .ok (.invokespecial index, 3)) (kk : mm_Gd p l e R s m args below meth c Q D cA Y A nL n0 z0 ρ0 Mf (pc + 3) L rest M) : mm_Gd p l e R s m args below meth c Q D cA Y A nL n0 z0 ρ0 Mf pc L (.ref o :: rest) M := by
  intro hw0 hn0 hz0 hk0 hl0
  obtain ⟨h1, h2⟩ := kk hw0 hn0 hz0 (mm_ks_tail hk0) hl0
  refine ⟨h1, fun ρ H locs ls hr hP hD hS hl => ?_⟩
  have hroom : 2 * (F0 m pc ls (.ref (ρ o) :: rest.map (mm_tr ρ))).monitorRoom + ((rest.map (mm_tr ρ)).map fun v => v.category).sum ≤ 8 := lv_room (rest := (.ref (ρ o) :: rest.map (mm_tr ρ))) (m := m) (pc := pc) (ls := ls) (by rw [mm_cat_tr]; exact hcat)
  exact W.objInit hx hb hown hl1 hi1 hco rfl (by rw [hml]; exact hl.1) rfl hd hf1 (Nat.le_trans (Nat.add_le_add_right hroom 12) hf2) (h2 ρ H locs ls hr hP hD hS hl)
theorem gq_copy (hx : p.tables.exec = Jvm.exec) (hb : c.code = cc) (hml : c.maxLocals = nL) (hY : mm_wfY Y) (hK : va_K D mm_cl (mm_tysA cA) s) {own : String} {index a b na nb : Nat} {n dp sp : Int32} (hown : s.vm.findClass own = some m.cls) (hl1 : (Cond.methodLink own index arraycopyName).before args s = true) (hnat : (Cond.native arraycopyName).before args s = true) (hstat : (Cond.static arraycopyName).before args s = true) (hini : (Cond.initialized "java/lang/System").before args s = true)
    (hb1 : mm_s Y M b = .inr (0, nb)) (ha1 : mm_s Y M a = .inr (0, na)) (hb16 : 16 ≤ b) (ha16 : 16 ≤ a) (h1 : ¬ sp < 0) (h2 : ¬ dp < 0) (h3 : ¬ n < 0) (h4 : sp.toNatClampNeg + n.toNatClampNeg ≤ nb) (h5 : dp.toNatClampNeg + n.toNatClampNeg ≤ na) (hf1 : 1 ≤ R.frames) (hf2 : 8 + (nativeFrameWords "java/lang/System" "arraycopy" 5 + 11) ≤ R.locals) (hcat : mm_cat rest ≤ 8) (hd : decode cc pc = .ok (.invokestatic index, 3)) (kk : mm_Gd p l e R s m args below meth c Q D cA Y A nL n0 z0 ρ0 Mf (pc + 3) L rest (mm_wR M a (va_cpy (M.2.2.2.1 b) (M.2.2.2.1 a) sp.toNatClampNeg dp.toNatClampNeg n.toNatClampNeg))) : mm_Gd p l e R s m args below meth c Q D cA Y A nL n0 z0 ρ0 Mf pc L (.int n :: .int dp :: .ref a :: .int sp :: .ref b :: rest) M := by
  intro hw0 hn0 hz0 hk0 hl0
  have hbn : b < M.2.1 := mm_ks_head (mm_ks_tail (mm_ks_tail (mm_ks_tail (mm_ks_tail hk0))))
  have han : a < M.2.1 := mm_ks_head (mm_ks_tail (mm_ks_tail hk0))
  have hw1 : mm_wf Y (mm_wR M a (va_cpy (M.2.2.2.1 b) (M.2.2.2.1 a) sp.toNatClampNeg dp.toNatClampNeg n.toNatClampNeg)) := hw0
  obtain ⟨g1, g2⟩ := kk hw1 hn0 hz0 (mm_ks_tail (mm_ks_tail (mm_ks_tail (mm_ks_tail (mm_ks_tail hk0))))) hl0
  refine ⟨g1, fun ρ H locs ls hr hP hD hS hl => ?_⟩
  have heb := mm_enc_at (cA := cA) (ρ := ρ) (Y := Y) (M := M) hb16 hbn
  rw [mm_cell_arr hb1, mm_ct0] at heb
  have hea := mm_enc_at (cA := cA) (ρ := ρ) (Y := Y) (M := M) ha16 han
  rw [mm_cell_arr ha1, mm_ct0] at hea
  have hcell : mm_cell cA ρ Y (mm_wR M a (va_cpy (M.2.2.2.1 b) (M.2.2.2.1 a) sp.toNatClampNeg dp.toNatClampNeg n.toNatClampNeg)) a = .inl (cA 0, na, .inl (va_cpy (M.2.2.2.1 b) (M.2.2.2.1 a) sp.toNatClampNeg dp.toNatClampNeg n.toNatClampNeg)) := by
    rw [mm_cell_arr (M := mm_wR M a _) ha1, mm_ct0]
    simp only [mm_row_same]
  have hset := mm_enc_set (cA := cA) (ρ := ρ) (Y := Y) (M := M) (M' := mm_wR M a (va_cpy (M.2.2.2.1 b) (M.2.2.2.1 a) sp.toNatClampNeg dp.toNatClampNeg n.toNatClampNeg)) ha16 han rfl hcell (fun b9 _ _ hb3 => mm_cell_wR hb3)
  exact va_copyi hx hb (by rw [hml]; exact hl.1.symm) hown hl1 hnat hstat hini hK hP hD hS (b - 16) (a - 16) 0 0 heb hea rfl rfl rfl h1 h2 h3 h4 h5 (fun _ _ => rfl) hf1 (by rw [mm_cat_tr]; omega) hd (fun H1 locs1 hP1 hD1 hS1 => g2 ρ H1 locs1 ls hr (by rw [← hset]; exact hP1) (by rw [← hset]; exact hD1) hS1 hl)
end GQ
end
section
theorem mi_pI {K : List Value} {f : Int32 → List Value → Option mmR} {res : mmR} (h : mm_pI K f = some res) : ∃ x r, K = .int x :: r ∧ f x r = some res := by
  unfold mm_pI at h; split at h
  · exact ⟨_, _, rfl, h⟩
  · cases h
theorem mi_pII {K : List Value} {f : Int32 → Int32 → List Value → Option mmR} {res : mmR} (h : mm_pII K f = some res) : ∃ x y r, K = .int y :: .int x :: r ∧ f x y r = some res := by
  unfold mm_pII at h; split at h
  · exact ⟨_, _, _, rfl, h⟩
  · cases h
theorem mi_pJ {K : List Value} {f : Int64 → List Value → Option mmR} {res : mmR} (h : mm_pJ K f = some res) : ∃ x r, K = .long x :: r ∧ f x r = some res := by
  unfold mm_pJ at h; split at h
  · exact ⟨_, _, rfl, h⟩
  · cases h
theorem mi_pJJ {K : List Value} {f : Int64 → Int64 → List Value → Option mmR} {res : mmR} (h : mm_pJJ K f = some res) : ∃ x y r, K = .long y :: .long x :: r ∧ f x y r = some res := by
  unfold mm_pJJ at h; split at h
  · exact ⟨_, _, _, rfl, h⟩
  · cases h
theorem mi_pJI {K : List Value} {f : Int64 → Int32 → List Value → Option mmR} {res : mmR} (h : mm_pJI K f = some res) : ∃ x y r, K = .int y :: .long x :: r ∧ f x y r = some res := by
  unfold mm_pJI at h; split at h
  · exact ⟨_, _, _, rfl, h⟩
  · cases h
theorem mi_asR {v : Value} {f : Nat → Option mmR} {res : mmR} (h : mm_asR v f = some res) : ∃ a, v = .ref a ∧ f a = some res := by
  unfold mm_asR at h; split at h
  · exact ⟨_, rfl, h⟩
  · cases h
theorem mi_pR {K : List Value} {f : Nat → List Value → Option mmR} {res : mmR} (h : mm_pR K f = some res) : ∃ a r, K = .ref a :: r ∧ f a r = some res := by
  unfold mm_pR at h; split at h
  · obtain ⟨a, rfl, h⟩ := mi_asR h
    exact ⟨_, _, rfl, h⟩
  · cases h
theorem mi_pRI {K : List Value} {f : Nat → Int32 → List Value → Option mmR} {res : mmR} (h : mm_pRI K f = some res) : ∃ a i r, K = .int i :: .ref a :: r ∧ f a i r = some res := by
  unfold mm_pRI at h; split at h
  · obtain ⟨a, rfl, h⟩ := mi_asR h
    exact ⟨_, _, _, rfl, h⟩
  · cases h
theorem mi_pRII {K : List Value} {f : Nat → Int32 → Int32 → List Value → Option mmR} {res : mmR} (h : mm_pRII K f = some res) : ∃ a i x r, K = .int x :: .int i :: .ref a :: r ∧ f a i x r = some res := by
  unfold mm_pRII at h; split at h
  · obtain ⟨a, rfl, h⟩ := mi_asR h
    exact ⟨_, _, _, _, rfl, h⟩
  · cases h
theorem mi_pRIJ {K : List Value} {f : Nat → Int32 → Int64 → List Value → Option mmR} {res : mmR} (h : mm_pRIJ K f = some res) : ∃ a i x r, K = .long x :: .int i :: .ref a :: r ∧ f a i x r = some res := by
  unfold mm_pRIJ at h; split at h
  · obtain ⟨a, rfl, h⟩ := mi_asR h
    exact ⟨_, _, _, _, rfl, h⟩
  · cases h
theorem mi_pRIR {K : List Value} {f : Nat → Int32 → Nat → List Value → Option mmR} {res : mmR} (h : mm_pRIR K f = some res) : ∃ a i x r, K = .ref x :: .int i :: .ref a :: r ∧ f a i x r = some res := by
  unfold mm_pRIR at h; split at h
  · obtain ⟨a, rfl, h2⟩ := mi_asR h
    obtain ⟨x, rfl, h3⟩ := mi_asR h2
    exact ⟨_, _, _, _, rfl, h3⟩
  · cases h
theorem mi_pN {K : List Value} {f : Option Nat → List Value → Option mmR} {res : mmR} (h : mm_pN K f = some res) : (∃ a r, K = .ref a :: r ∧ f (some a) r = some res) ∨ ∃ r, K = .null :: r ∧ f none r = some res := by
  unfold mm_pN at h; split at h
  · unfold mm_asN at h; split at h
    · exact Or.inl ⟨_, _, rfl, h⟩
    · exact Or.inr ⟨_, rfl, h⟩
    · cases h
  · cases h
theorem mi_cond {b : Bool} {t : Option mmR} {res : mmR} (h : cond b t none = some res) : b = true ∧ t = some res := by
  cases b with
  | true => exact ⟨rfl, h⟩
  | false => cases h
theorem mi_p1 {K : List Value} {f : Value → List Value → Option mmR} {res : mmR} (h : mm_p1 K f = some res) : ∃ v r, K = v :: r ∧ mm_c1 v = true ∧ f v r = some res := by
  unfold mm_p1 at h; split at h
  · obtain ⟨h1, h2⟩ := mi_cond h
    exact ⟨_, _, rfl, h1, h2⟩
  · cases h
theorem mi_p11 {K : List Value} {f : Value → Value → List Value → Option mmR} {res : mmR} (h : mm_p11 K f = some res) : ∃ v w r, K = w :: v :: r ∧ mm_c1 v = true ∧ mm_c1 w = true ∧ f v w r = some res := by
  unfold mm_p11 at h; split at h
  · obtain ⟨h1, h2⟩ := mi_cond h
    rw [Bool.and_eq_true] at h1
    exact ⟨_, _, _, rfl, h1.2, h1.1, h2⟩
  · cases h
theorem mi_ld {L : mmL} {i : Nat} {f : Value → Option mmR} {res : mmR} (h : mm_ld L i f = some res) : ∃ v, L[i]? = some (some v) ∧ f v = some res := by
  unfold mm_ld at h; split at h
  · next v hv => exact ⟨v, hv, h⟩
  · cases h
theorem mi_isI {v : Value} {f : Option mmR} {res : mmR} (h : mm_isI v f = some res) : ∃ x, v = .int x ∧ f = some res := by
  unfold mm_isI at h; split at h
  · exact ⟨_, rfl, h⟩
  · cases h
theorem mi_isJ {v : Value} {f : Option mmR} {res : mmR} (h : mm_isJ v f = some res) : ∃ x, v = .long x ∧ f = some res := by
  unfold mm_isJ at h; split at h
  · exact ⟨_, rfl, h⟩
  · cases h
theorem mi_isA {v : Value} {f : Option mmR} {res : mmR} (h : mm_isA v f = some res) : ((∃ x, v = .ref x) ∨ v = .null) ∧ f = some res := by
  unfold mm_isA at h; split at h
  · exact ⟨Or.inl ⟨_, rfl⟩, h⟩
  · exact ⟨Or.inr rfl, h⟩
  · cases h
theorem mi_bind {α : Type} {x : Option α} {f : α → Option mmR} {res : mmR} (h : x.bind f = some res) : ∃ a, x = some a ∧ f a = some res := by
  cases x with
  | none => cases h
  | some a => exact ⟨a, rfl, h⟩
theorem mi_aV {q : Option mmR} {m : mmM} (h : mm_aV q = some m) : q = some (none, m) := by
  unfold mm_aV at h
  cases q with
  | none => cases h
  | some p =>
    obtain ⟨v, m2⟩ := p
    simp only [Option.bind_some] at h
    cases v with
    | none => cases h; rfl
    | some v => cases h
theorem mi_aI {q : Option mmR} {p : Int32 × mmM} (h : mm_aI q = some p) : q = some (some (.int p.1), p.2) := by
  unfold mm_aI at h
  cases q with
  | none => cases h
  | some r =>
    obtain ⟨v, m2⟩ := r
    simp only [Option.bind_some] at h
    split at h
    · cases h; rfl
    · cases h
theorem mi_aJ {q : Option mmR} {p : Int64 × mmM} (h : mm_aJ q = some p) : q = some (some (.long p.1), p.2) := by
  unfold mm_aJ at h
  cases q with
  | none => cases h
  | some r =>
    obtain ⟨v, m2⟩ := r
    simp only [Option.bind_some] at h
    split at h
    · cases h; rfl
    · cases h
theorem mi_aR {q : Option mmR} {p : Nat × mmM} (h : mm_aR q = some p) : q = some (some (.ref p.1), p.2) := by
  unfold mm_aR at h
  cases q with
  | none => cases h
  | some r =>
    obtain ⟨v, m2⟩ := r
    simp only [Option.bind_some] at h
    split at h
    · cases h; rfl
    · cases h
theorem mi_ans {c : Nat} {q : Option mmR} {L : mmL} {r : List Value} {k : mmK} {res : mmR} (h : mm_ans c q L r k = some res) : ∃ v m, q = some (v, m) ∧ k L (v.toList ++ r) m = some res := by
  unfold mm_ans at h
  split at h
  · obtain ⟨m, h1, h2⟩ := mi_bind h
    exact ⟨_, _, mi_aV h1, h2⟩
  · obtain ⟨p, h1, h2⟩ := mi_bind h
    exact ⟨_, _, mi_aI h1, h2⟩
  · obtain ⟨p, h1, h2⟩ := mi_bind h
    exact ⟨_, _, mi_aJ h1, h2⟩
  · obtain ⟨p, h1, h2⟩ := mi_bind h
    exact ⟨_, _, mi_aR h1, h2⟩
abbrev mmT : Type := MethodName × ByteArray × Nat × Option FieldType
noncomputable def mm_ww (y : mmT) : List Cond := Cond.code y.1 y.2.1 y.2.2.1 y.2.2.2 :: mm_gw
def mm_rm (d k z : Nat) : Room := { frames := d, cells := k, slots := z, locals := 60 * d + 200 }
def mm_host : String := "WhiskedDuchy"
/-- the words that an instruction needs of the tables -/
def mm_wds (mth : List mmT) (own : String) (i : Instr) (a b c : Nat) (v : Value) : List Cond := match i with
  | .ldc idx => match v with
    | .int x => [.constant own idx x]
    | _ => []
  | .ldc_w idx => match v with
    | .int x => [.constant own idx x]
    | _ => []
  | .ldc2_w idx => match v with
    | .long x => [.constantLong own idx x]
    | _ => []
  | .getfield idx => match mm_cl[a]?, (c / 4) % 4 with
    | some q, 0 => [.fieldLink own idx (q.2.1 b).1 (q.2.1 b).2.1 (q.2.1 b).2.2.1]
    | _, _ => []
  | .putfield idx => match mm_cl[a]?, (c / 4) % 4 with
    | some q, 0 => [.fieldLink own idx (q.2.1 b).1 (q.2.1 b).2.1 (q.2.1 b).2.2.1]
    | _, _ => []
  | .getstatic idx => match mm_stat[a]? with
    | some q => [.fieldLink own idx RX10 q.1 q.2]
    | none => []
  | .newarray at0 => [.arrayClass (newarray.typeOf at0)]
  | .anewarray idx => [.classLink own idx RX0]
  | .new idx => match mm_cl[a]? with
    | some q => [.classLink own idx q.1, .instantiable q.1 q.2.2, .initialized q.1]
    | none => []
  | .invokevirtual idx => match mth[a]?, (c / 4) % 4 with
    | some y, 0 => [.methodLink own idx y.1, .instanceMethod y.1, .selects y.1.cls y.1 y.1, .initialized y.1.cls]
    | some y, _ => [.initialized y.1.cls, .instanceMethod y.1, .selects y.1.cls y.1 y.1]
    | none, _ => []
  | .invokestatic idx => match mth[a]?, (c / 4) % 4 with
    | _, 2 => [.methodLink own idx arraycopyName, .native arraycopyName, .static arraycopyName, .initialized "java/lang/System"]
    | some y, 0 => [.methodLink own idx y.1, .static y.1, .initialized y.1.cls]
    | some y, _ => [.static y.1, .initialized y.1.cls]
    | none, _ => []
  | .invokespecial idx => match mth[a]?, (c / 4) % 4 with
    | _, 2 => [.methodLink own idx Lib.objectInit, .instanceMethod Lib.objectInit, .code Lib.objectInit ⟨#[0xb1]⟩ 1 none]
    | some y, 0 => [.methodLink own idx y.1, .instanceMethod y.1, .initialized y.1.cls]
    | some y, _ => [.instanceMethod y.1, .initialized y.1.cls]
    | none, _ => []
  | _ => []
/-- the words of the nest -/
def mm_nwd (mth : List mmT) (own : String) (i : Instr) (a b c : Nat) : List Cond := match i with
  | .getfield idx => match mm_cl[a]?, (c / 4) % 4 with
    | some q, 1 => [.fieldLinkNest own idx (q.2.1 b).1 (q.2.1 b).2.1 (q.2.1 b).2.2.1 mm_host]
    | _, _ => []
  | .putfield idx => match mm_cl[a]?, (c / 4) % 4 with
    | some q, 1 => [.fieldLinkNest own idx (q.2.1 b).1 (q.2.1 b).2.1 (q.2.1 b).2.2.1 mm_host]
    | _, _ => []
  | .invokevirtual idx => match mth[a]?, (c / 4) % 4 with
    | some y, 1 => [.methodLinkNest own idx y.1 mm_host]
    | _, _ => []
  | .invokestatic idx => match mth[a]?, (c / 4) % 4 with
    | some y, 1 => [.methodLinkNest own idx y.1 mm_host]
    | _, _ => []
  | .invokespecial idx => match mth[a]?, (c / 4) % 4 with
    | some y, 1 => [.methodLinkNest own idx y.1 mm_host]
    | _, _ => []
  | _ => []
def mm_plain (y : MethodName) (n : Nat) : Bool := decide (y.cls ≠ "java/lang/invoke/MethodHandle" ∧ y.cls ≠ "java/lang/invoke/VarHandle" ∧ (parseMethodDescriptor y.desc).map (fun d => d.parameters.length) = some n)
/-- an instruction's own numbers are right -/
def mm_okI (mth : List mmT) (own nm : String) (rt : Option FieldType) (nL pc : Nat) (i : Instr) (len a b c : Nat) (v : Value) (w : List (Int32 × Nat)) : Bool := match i with
  | .iconst z => decide (len = 1 ∧ v = .int (Int32.ofInt z))
  | .bipush z => decide (len = 2 ∧ v = .int (Int8.ofInt z).toInt32)
  | .sipush z => decide (len = 3 ∧ v = .int (Int16.ofInt z).toInt32)
  | .lconst z => decide (len = 1 ∧ v = .long (Int64.ofNat (z : Nat)))
  | .ldc _ => decide (len = 2) && match v with
    | .int _ => true
    | _ => false
  | .ldc_w _ => decide (len = 3) && match v with
    | .int _ => true
    | _ => false
  | .ldc2_w _ => decide (len = 3) && match v with
    | .long _ => true
    | _ => false
  | .iload_n k => decide (len = 1 ∧ (k : Nat) = a)
  | .iload k => decide (len = 2 ∧ k = a)
  | .lload_n k => decide (len = 1 ∧ (k : Nat) = a)
  | .lload k => decide (len = 2 ∧ k = a)
  | .aload_n k => decide (len = 1 ∧ (k : Nat) = a)
  | .aload k => decide (len = 2 ∧ k = a)
  | .istore_n k => decide (len = 1 ∧ (k : Nat) = a ∧ a < nL)
  | .istore k => decide (len = 2 ∧ k = a ∧ a < nL)
  | .lstore_n k => decide (len = 1 ∧ (k : Nat) = a ∧ a + 1 < nL)
  | .lstore k => decide (len = 2 ∧ k = a ∧ a + 1 < nL)
  | .astore_n k => decide (len = 1 ∧ (k : Nat) = a ∧ a < nL)
  | .astore k => decide (len = 2 ∧ k = a ∧ a < nL)
  | .iinc k z => decide (len = 3 ∧ k = a ∧ v = .int (Int32.ofInt z) ∧ a < nL)
  | .goto o => decide (len = 3 ∧ (pc : Int) + o = (a : Int))
  | .ifCond _ o => decide (len = 3 ∧ (pc : Int) + o = (a : Int))
  | .if_icmp _ o => decide (len = 3 ∧ (pc : Int) + o = (a : Int))
  | .ifnull o => decide (len = 3 ∧ (pc : Int) + o = (a : Int))
  | .ifnonnull o => decide (len = 3 ∧ (pc : Int) + o = (a : Int))
  | .tableswitch d lo hi offs => decide ((pc : Int) + d = (a : Int) ∧ hi + 1 = lo + offs.size) && mm_tsw pc lo offs.toList w
  | .lookupswitch d ps => decide ((pc : Int) + d = (a : Int) ∧ w.map (fun q => (q.1.toInt, (q.2 : Int) - pc)) = ps.toList) && (ps.toList.zip (ps.toList.drop 1)).all (fun (a, next) => a.1 < next.1)
  | .ireturn => decide (len = 1) && match b with
    | 0 => decide (rt = some .int)
    | _ => decide (rt = some .boolean)
  | .lreturn => decide (len = 1 ∧ rt = some .long)
  | .areturn => decide (len = 1) && match rt with
    | some (.object _) => true
    | some (.array _) => true
    | _ => false
  | .return_ => decide (len = 1 ∧ rt = none)
  | .getfield _ => match mm_cl[a]? with
    | some q => decide (len = 3 ∧ b < q.2.2 ∧ mm_tk (mm_tyOf a b) = c % 4 ∧ (c / 4) % 4 < 2)
    | none => false
  | .putfield _ => match mm_cl[a]? with
    | some q => decide (len = 3 ∧ b < q.2.2 ∧ mm_tk (mm_tyOf a b) = c % 4 ∧ (c / 4) % 4 < 2) && (decide ((q.2.1 b).2.2.2 = false) || decide (nm = "<init>" ∧ (q.2.1 b).1 = own ∧ (c / 4) % 4 = 0))
    | none => false
  | .getstatic _ => decide (len = 3 ∧ a < 9)
  | .newarray at0 => decide (len = 2 ∧ ((at0 = .int ∧ a = 0) ∨ (at0 = .boolean ∧ a = 1) ∨ (at0 = .long ∧ a = 3)))
  | .anewarray _ => decide (len = 3)
  | .new _ => decide (len = 3 ∧ a < 13)
  | .aaload => decide (len = 1 ∧ a < 2)
  | .aastore => decide (len = 1 ∧ a < 2)
  | .invokevirtual _ => match mth[a]?, mm_cl[c / 16]? with
    | some y, some q => decide (len = 3 ∧ y.1.cls = q.1 ∧ (c / 4) % 4 < 2) && mm_plain y.1 b
    | _, _ => false
  | .invokestatic _ => match mth[a]?, (c / 4) % 4 with
    | _, 2 => decide (len = 3)
    | some y, 0 => decide (len = 3) && mm_plain y.1 b
    | some y, 1 => decide (len = 3) && mm_plain y.1 b
    | _, _ => false
  | .invokespecial _ => match mth[a]?, (c / 4) % 4 with
    | _, 2 => decide (len = 3)
    | some y, 0 => decide (len = 3 ∧ y.1.name = "<init>" ∧ y.2.2.2 = none) && mm_plain y.1 b
    | some y, 1 => decide (len = 3 ∧ y.1.name = "<init>" ∧ y.2.2.2 = none) && mm_plain y.1 b
    | _, _ => false
  | _ => decide (len = 1)
/-- what is known of a call that came back -/
def mm_Call (l : Launch) (D : va_G) (cA : Nat → ClassId) (Y : mmY) (nest : List Cond) (mth : List mmT) (d j : Nat) (as : List Value) (M : mmM) (v : Option Value) (M' : mmM) : Prop :=
  (mm_wf Y M' ∧ M.2.1 ≤ M'.2.1 ∧ M.2.2.1 ≤ M'.2.2.1 ∧ ∀ x, v = some x → mm_okv M'.2.1 x) ∧ ∀ y, mth[j]? = some y → ∀ (ρ : Nat → Nat) (sz : Nat), Met l y.1 (mm_ww y) (mm_rm d (M'.2.1 - M.2.1) (M'.2.2.1 - M.2.2.1)) (va_Pc (as.map (mm_tr ρ)) (mm_Wd D cA Y nest ρ M sz)) (mm_Qc D cA Y ρ M v M' sz) (M'.2.1 - M.2.1) (M'.2.2.1 - M.2.2.1) (va_A (mm_enc cA ρ Y M) sz)
theorem mm_gw_good {w : Cond} (h : w ∈ mm_gw) : goodWord w = true := (List.mem_filter.mp h).2
theorem mm_gw_in {Ts ws : List Cond} (hTs : ∀ w ∈ mm_gw, w ∈ Ts) (h : ∀ w ∈ ws, w ∈ mm_gw) : GoodIn Ts ws := fun w hw => ⟨hTs w (h w hw), good_of_word (mm_gw_good (h w hw))⟩
theorem mm_ww_in {y : mmT} (h : Cond.code y.1 y.2.1 y.2.2.1 y.2.2.2 ∈ mm_gw) : ∀ w ∈ mm_ww y, w ∈ mm_gw := fun w hw => by
  rcases List.mem_cons.mp hw with rfl | hw
  · exact h
  · exact hw
end
section
theorem mm_tk0 {t : FieldType} (h : mm_tk t = 0) : t = .int := by cases t <;> first | rfl | cases h
theorem mm_tk1 {t : FieldType} (h : mm_tk t = 1) : t = .long := by cases t <;> first | rfl | cases h
theorem mm_tk3 {t : FieldType} (h : mm_tk t = 3) : t = .boolean := by cases t <;> first | rfl | cases h

section SM
variable {p : Program} {l : Launch} {e : Env} {R : Room} {s : State} {m : MethodId} {args : Array Value} {below : List Frame} {meth : Method} {c : Code} {D : va_G} {cA : Nat → ClassId} {Y : mmY} {A : Nat → Prop} {nL n0 z0 : Nat} {ρ0 : Nat → Nat} {cc : ByteArray} {pc : Nat} {L : mmL} {M : mmM}
variable {own nm : String} {rt : Option FieldType} {Ts nest : List Cond} {mth : List mmT} {d : Nat} {M0 : mmM} {res : mmR} {call : mmC}
set_option maxHeartbeats 4000000 in
theorem sm_callV (hx : p.tables.exec = Jvm.exec) (hb : c.code = cc) (hml : c.maxLocals = nL) (hown : s.vm.findClass own = some m.cls) (hlocks : meth.locks = false) (hrt : meth.sig.returnType = rt) (hnm : nm = "<init>" → meth.name = "<init>") (hTs : ∀ w ∈ mm_gw, w ∈ Ts) (hts : ∀ w ∈ Ts, w.before args s = true) (hY : mm_wfY Y) (hK : va_K D mm_cl (mm_tysA cA) s) (hnest : ∀ w ∈ nest, mm_isN w = true) (h16n : 16 ≤ n0) (hA0 : A = va_A (mm_enc cA ρ0 Y M0) s.heap.size) (hM0 : M0.2.1 = n0) (hA : ∀ q, s.heap.size ≤ q → A q) (hT : mm_cnT Y ρ0 A s s.heap) (hZ : mm_cnZ ρ0 A s s.heap) (hN : mm_cnN nest s) (hO : va_AO RX0 s) (h5 : mm_c5 cA s) (hlay : ∀ (ci : Nat) (q : vw_C), mm_cl[ci]? = some q → ∀ w ∈ u_ws q.1 q.2.1 q.2.2, w ∈ mm_gw) (hcode : ∀ (j : Nat) (y : mmT), mth[j]? = some y → Cond.code y.1 y.2.1 y.2.2.1 y.2.2.2 ∈ mm_gw ∧ y.2.2.1 ≤ 41) (hRc : res.2.2.1 - n0 ≤ R.cells) (hRs : res.2.2.2.1 - z0 ≤ R.slots) (hRf : d + 1 ≤ R.frames) (hRl : 60 * (d + 1) + 200 ≤ R.locals) (hcall : ∀ (j : Nat) (as : List Value) (M : mmM) (v : Option Value) (M' : mmM), call j as M = some (v, M') → mm_wf Y M → 16 ≤ M.2.1 → mm_ks M.2.1 as → mm_Call l D cA Y nest mth d j as M v M') {idx a b : Nat} {as rest : List Value} {o ci : Nat} {q : vw_C} {y : mmT} {v : Option Value} {M' : mmM} (hy : mth[a]? = some y) (hc : mm_cl[ci]? = some q) (ho : mm_s Y M o = .inl ci) (hcls : y.1.cls = q.1) (hpl : mm_plain y.1 b = true) (hcat : mm_cat rest ≤ 8) (hlen : as.length = b) (hev : call a (.ref o :: as) M = some (v, M'))
    (hlk : (∀ w ∈ [Cond.methodLink own idx y.1, Cond.instanceMethod y.1, Cond.selects y.1.cls y.1 y.1, Cond.initialized y.1.cls], w ∈ mm_gw) ∨ ((∀ w ∈ [Cond.initialized y.1.cls, Cond.instanceMethod y.1, Cond.selects y.1.cls y.1 y.1], w ∈ mm_gw) ∧ Cond.methodLinkNest own idx y.1 mm_host ∈ nest)) (hd : decode cc pc = .ok (.invokevirtual idx, 3)) (kk : mm_Gd p l e R s m args below meth c (MQ below (mm_Qc D cA Y ρ0 M0 res.1 res.2 s.heap.size) args s (res.2.2.1 - n0) (res.2.2.2.1 - z0) A) D cA Y A nL n0 z0 ρ0 res.2 (pc + 3) L (v.toList ++ rest) M') : mm_Gd p l e R s m args below meth c (MQ below (mm_Qc D cA Y ρ0 M0 res.1 res.2 s.heap.size) args s (res.2.2.1 - n0) (res.2.2.2.1 - z0) A) D cA Y A nL n0 z0 ρ0 res.2 pc L (as.reverse ++ .ref o :: rest) M := by
  intro hw0 hn0 hz0 hk0 hl0
  have hk9 : mm_ks M.2.1 (.ref o :: as) := fun x hx1 => by
    rcases List.mem_cons.mp hx1 with rfl | hx1
    · exact hk0 _ (List.mem_append_right _ List.mem_cons_self)
    · exact hk0 _ (List.mem_append_left _ (List.mem_reverse.mpr hx1))
  obtain ⟨⟨c1, c2, c3, c4⟩, c5⟩ := hcall a _ M v M' hev hw0 (by omega) hk9
  have hpl := of_decide_eq_true hpl
  have hww := mm_ww_in (hcode a y hy).1
  have hmx := (hcode a y hy).2
  rcases hlk with hlk | ⟨hlk, hnl⟩
  · exact gq_V hx hb hnest h16n hA hK hT hZ hN hO h5 hRc hRs c2 c3 c1 c4 hml hown hts (c5 y hy) rfl rfl rfl ⟨hRf, by show 8 + (y.2.2.1 + 11) + (60 * d + 200) ≤ R.locals; omega⟩ hcat (mm_gw_in hTs (fun w hw => by
      rcases List.mem_append.mp hw with hw | hw
      · exact hlk w hw
      · exact hww w hw)) ⟨rfl, hpl⟩ hc hcls.symm ho hY hlen hd kk hw0 hn0 hz0 hk0 hl0
  · exact gq_VN hx hb hnest h16n hA hK hT hZ hN hO h5 hRc hRs c2 c3 c1 c4 hml hown hts (c5 y hy) rfl rfl rfl ⟨hRf, by show 8 + (y.2.2.1 + 11) + (60 * d + 200) ≤ R.locals; omega⟩ hcat (mm_gw_in hTs hww) (hN _ hnl) (hts _ (hTs _ (hlk _ (by simp)))) (hts _ (hTs _ (hlk _ (by simp)))) (hts _ (hTs _ (hlk _ (by simp)))) hpl hc hcls.symm ho hY hlen hd kk hw0 hn0 hz0 hk0 hl0
set_option maxHeartbeats 4000000 in
theorem sm_callS (hx : p.tables.exec = Jvm.exec) (hb : c.code = cc) (hml : c.maxLocals = nL) (hown : s.vm.findClass own = some m.cls) (hlocks : meth.locks = false) (hrt : meth.sig.returnType = rt) (hnm : nm = "<init>" → meth.name = "<init>") (hTs : ∀ w ∈ mm_gw, w ∈ Ts) (hts : ∀ w ∈ Ts, w.before args s = true) (hY : mm_wfY Y) (hK : va_K D mm_cl (mm_tysA cA) s) (hnest : ∀ w ∈ nest, mm_isN w = true) (h16n : 16 ≤ n0) (hA0 : A = va_A (mm_enc cA ρ0 Y M0) s.heap.size) (hM0 : M0.2.1 = n0) (hA : ∀ q, s.heap.size ≤ q → A q) (hT : mm_cnT Y ρ0 A s s.heap) (hZ : mm_cnZ ρ0 A s s.heap) (hN : mm_cnN nest s) (hO : va_AO RX0 s) (h5 : mm_c5 cA s) (hlay : ∀ (ci : Nat) (q : vw_C), mm_cl[ci]? = some q → ∀ w ∈ u_ws q.1 q.2.1 q.2.2, w ∈ mm_gw) (hcode : ∀ (j : Nat) (y : mmT), mth[j]? = some y → Cond.code y.1 y.2.1 y.2.2.1 y.2.2.2 ∈ mm_gw ∧ y.2.2.1 ≤ 41) (hRc : res.2.2.1 - n0 ≤ R.cells) (hRs : res.2.2.2.1 - z0 ≤ R.slots) (hRf : d + 1 ≤ R.frames) (hRl : 60 * (d + 1) + 200 ≤ R.locals) (hcall : ∀ (j : Nat) (as : List Value) (M : mmM) (v : Option Value) (M' : mmM), call j as M = some (v, M') → mm_wf Y M → 16 ≤ M.2.1 → mm_ks M.2.1 as → mm_Call l D cA Y nest mth d j as M v M') {idx a b : Nat} {as rest : List Value} {y : mmT} {v : Option Value} {M' : mmM} (hy : mth[a]? = some y) (hpl : mm_plain y.1 b = true) (hcat : mm_cat rest ≤ 8) (hlen : as.length = b) (hev : call a as M = some (v, M'))
    (hlk : (∀ w ∈ [Cond.methodLink own idx y.1, Cond.static y.1, Cond.initialized y.1.cls], w ∈ mm_gw) ∨ ((∀ w ∈ [Cond.static y.1, Cond.initialized y.1.cls], w ∈ mm_gw) ∧ Cond.methodLinkNest own idx y.1 mm_host ∈ nest)) (hd : decode cc pc = .ok (.invokestatic idx, 3)) (kk : mm_Gd p l e R s m args below meth c (MQ below (mm_Qc D cA Y ρ0 M0 res.1 res.2 s.heap.size) args s (res.2.2.1 - n0) (res.2.2.2.1 - z0) A) D cA Y A nL n0 z0 ρ0 res.2 (pc + 3) L (v.toList ++ rest) M') : mm_Gd p l e R s m args below meth c (MQ below (mm_Qc D cA Y ρ0 M0 res.1 res.2 s.heap.size) args s (res.2.2.1 - n0) (res.2.2.2.1 - z0) A) D cA Y A nL n0 z0 ρ0 res.2 pc L (as.reverse ++ rest) M := by
  intro hw0 hn0 hz0 hk0 hl0
  have hk9 : mm_ks M.2.1 as := fun x hx1 => hk0 _ (List.mem_append_left _ (List.mem_reverse.mpr hx1))
  obtain ⟨⟨c1, c2, c3, c4⟩, c5⟩ := hcall a _ M v M' hev hw0 (by omega) hk9
  have hpl := of_decide_eq_true hpl
  have hww := mm_ww_in (hcode a y hy).1
  have hmx := (hcode a y hy).2
  rcases hlk with hlk | ⟨hlk, hnl⟩
  · exact gq_S (C := "") hx hb hnest h16n hA hK hT hZ hN hO h5 hRc hRs c2 c3 c1 c4 hml hown hts (c5 y hy) rfl rfl rfl ⟨hRf, by show 8 + (y.2.2.1 + 11) + (60 * d + 200) ≤ R.locals; omega⟩ hcat (mm_gw_in hTs (fun w hw => by
      rcases List.mem_append.mp hw with hw | hw
      · exact hlk w hw
      · exact hww w hw)) hpl hlen hd kk hw0 hn0 hz0 hk0 hl0
  · exact gq_SN (C := "") hx hb hnest h16n hA hK hT hZ hN hO h5 hRc hRs c2 c3 c1 c4 hml hown hts (c5 y hy) rfl rfl rfl ⟨hRf, by show 8 + (y.2.2.1 + 11) + (60 * d + 200) ≤ R.locals; omega⟩ hcat (mm_gw_in hTs hww) (hN _ hnl) (hts _ (hTs _ (hlk _ (by simp)))) (hts _ (hTs _ (hlk _ (by simp)))) hpl hlen hd kk hw0 hn0 hz0 hk0 hl0
set_option maxHeartbeats 4000000 in
theorem sm_callI (hx : p.tables.exec = Jvm.exec) (hb : c.code = cc) (hml : c.maxLocals = nL) (hown : s.vm.findClass own = some m.cls) (hlocks : meth.locks = false) (hrt : meth.sig.returnType = rt) (hnm : nm = "<init>" → meth.name = "<init>") (hTs : ∀ w ∈ mm_gw, w ∈ Ts) (hts : ∀ w ∈ Ts, w.before args s = true) (hY : mm_wfY Y) (hK : va_K D mm_cl (mm_tysA cA) s) (hnest : ∀ w ∈ nest, mm_isN w = true) (h16n : 16 ≤ n0) (hA0 : A = va_A (mm_enc cA ρ0 Y M0) s.heap.size) (hM0 : M0.2.1 = n0) (hA : ∀ q, s.heap.size ≤ q → A q) (hT : mm_cnT Y ρ0 A s s.heap) (hZ : mm_cnZ ρ0 A s s.heap) (hN : mm_cnN nest s) (hO : va_AO RX0 s) (h5 : mm_c5 cA s) (hlay : ∀ (ci : Nat) (q : vw_C), mm_cl[ci]? = some q → ∀ w ∈ u_ws q.1 q.2.1 q.2.2, w ∈ mm_gw) (hcode : ∀ (j : Nat) (y : mmT), mth[j]? = some y → Cond.code y.1 y.2.1 y.2.2.1 y.2.2.2 ∈ mm_gw ∧ y.2.2.1 ≤ 41) (hRc : res.2.2.1 - n0 ≤ R.cells) (hRs : res.2.2.2.1 - z0 ≤ R.slots) (hRf : d + 1 ≤ R.frames) (hRl : 60 * (d + 1) + 200 ≤ R.locals) (hcall : ∀ (j : Nat) (as : List Value) (M : mmM) (v : Option Value) (M' : mmM), call j as M = some (v, M') → mm_wf Y M → 16 ≤ M.2.1 → mm_ks M.2.1 as → mm_Call l D cA Y nest mth d j as M v M') {idx a b : Nat} {as rest : List Value} {o : Nat} {y : mmT} {v : Option Value} {M' : mmM} (hy : mth[a]? = some y) (hpl : mm_plain y.1 b = true) (hin1 : y.1.name = "<init>") (hre : y.2.2.2 = none) (hcat : mm_cat rest ≤ 8) (hlen : as.length = b) (hev : call a (.ref o :: as) M = some (v, M'))
    (hlk : (∀ w ∈ [Cond.methodLink own idx y.1, Cond.instanceMethod y.1, Cond.initialized y.1.cls], w ∈ mm_gw) ∨ ((∀ w ∈ [Cond.instanceMethod y.1, Cond.initialized y.1.cls], w ∈ mm_gw) ∧ Cond.methodLinkNest own idx y.1 mm_host ∈ nest)) (hd : decode cc pc = .ok (.invokespecial idx, 3)) (kk : mm_Gd p l e R s m args below meth c (MQ below (mm_Qc D cA Y ρ0 M0 res.1 res.2 s.heap.size) args s (res.2.2.1 - n0) (res.2.2.2.1 - z0) A) D cA Y A nL n0 z0 ρ0 res.2 (pc + 3) L (v.toList ++ rest) M') : mm_Gd p l e R s m args below meth c (MQ below (mm_Qc D cA Y ρ0 M0 res.1 res.2 s.heap.size) args s (res.2.2.1 - n0) (res.2.2.2.1 - z0) A) D cA Y A nL n0 z0 ρ0 res.2 pc L (as.reverse ++ .ref o :: rest) M := by
  intro hw0 hn0 hz0 hk0 hl0
  have hk9 : mm_ks M.2.1 (.ref o :: as) := fun x hx1 => by
    rcases List.mem_cons.mp hx1 with rfl | hx1
    · exact hk0 _ (List.mem_append_right _ List.mem_cons_self)
    · exact hk0 _ (List.mem_append_left _ (List.mem_reverse.mpr hx1))
  obtain ⟨⟨c1, c2, c3, c4⟩, c5⟩ := hcall a _ M v M' hev hw0 (by omega) hk9
  have hpl := of_decide_eq_true hpl
  have hww := mm_ww_in (hcode a y hy).1
  have hmx := (hcode a y hy).2
  rcases hlk with hlk | ⟨hlk, hnl⟩
  · exact gq_I (C := "") (ci := 0) (q := (RX0, TX0, 11)) hx hb hnest h16n hA hK hT hZ hN hO h5 hRc hRs c2 c3 c1 c4 hml hown hts (c5 y hy) rfl rfl rfl ⟨hRf, by show 8 + (y.2.2.1 + 11) + (60 * d + 200) ≤ R.locals; omega⟩ hcat (mm_gw_in hTs hww) hre hin1 (hts _ (hTs _ (hlk _ (by simp)))) (hts _ (hTs _ (hlk _ (by simp)))) (hts _ (hTs _ (hlk _ (by simp)))) hpl hlen hd kk hw0 hn0 hz0 hk0 hl0
  · exact gq_IN (C := "") (ci := 0) (q := (RX0, TX0, 11)) hx hb hnest h16n hA hK hT hZ hN hO h5 hRc hRs c2 c3 c1 c4 hml hown hts (c5 y hy) rfl rfl rfl ⟨hRf, by show 8 + (y.2.2.1 + 11) + (60 * d + 200) ≤ R.locals; omega⟩ hcat (mm_gw_in hTs hww) hre hin1 (hN _ hnl) (hts _ (hTs _ (hlk _ (by simp)))) (hts _ (hTs _ (hlk _ (by simp)))) hpl hlen hd kk hw0 hn0 hz0 hk0 hl0

set_option maxHeartbeats 8000000 in
/-- one instruction: what the small machine does, the real one does -/
theorem mm_sem_ok (hx : p.tables.exec = Jvm.exec) (hb : c.code = cc) (hml : c.maxLocals = nL) (hown : s.vm.findClass own = some m.cls) (hlocks : meth.locks = false) (hrt : meth.sig.returnType = rt) (hnm : nm = "<init>" → meth.name = "<init>") (hTs : ∀ w ∈ mm_gw, w ∈ Ts) (hts : ∀ w ∈ Ts, w.before args s = true) (hY : mm_wfY Y) (hK : va_K D mm_cl (mm_tysA cA) s) (hnest : ∀ w ∈ nest, mm_isN w = true) (h16n : 16 ≤ n0) (hA0 : A = va_A (mm_enc cA ρ0 Y M0) s.heap.size) (hM0 : M0.2.1 = n0) (hA : ∀ q, s.heap.size ≤ q → A q) (hT : mm_cnT Y ρ0 A s s.heap) (hZ : mm_cnZ ρ0 A s s.heap) (hN : mm_cnN nest s) (hO : va_AO RX0 s) (h5 : mm_c5 cA s) (hlay : ∀ (ci : Nat) (q : vw_C), mm_cl[ci]? = some q → ∀ w ∈ u_ws q.1 q.2.1 q.2.2, w ∈ mm_gw) (hcode : ∀ (j : Nat) (y : mmT), mth[j]? = some y → Cond.code y.1 y.2.1 y.2.2.1 y.2.2.2 ∈ mm_gw ∧ y.2.2.1 ≤ 41) (hRc : res.2.2.1 - n0 ≤ R.cells) (hRs : res.2.2.2.1 - z0 ≤ R.slots) (hRf : d + 1 ≤ R.frames) (hRl : 60 * (d + 1) + 200 ≤ R.locals) (hcall : ∀ (j : Nat) (as : List Value) (M : mmM) (v : Option Value) (M' : mmM), call j as M = some (v, M') → mm_wf Y M → 16 ≤ M.2.1 → mm_ks M.2.1 as → mm_Call l D cA Y nest mth d j as M v M') {i : Instr} {len a b c9 : Nat} {v : Value} {w : List (Int32 × Nat)} {K : List Value} {k : mmK} {g : mmG} (hd : decode cc pc = .ok (i, len)) (hok : mm_okI mth own nm rt nL pc i len a b c9 v w = true) (hws : ∀ z ∈ mm_wds mth own i a b c9 v, z ∈ mm_gw) (hns : ∀ z ∈ mm_nwd mth own i a b c9, z ∈ nest)
    (h : mm_sem Y call i a b c9 v w L K M k g = some res) (hk : ∀ (L' : mmL) (K' : List Value) (M' : mmM), k L' K' M' = some res → mm_Gd p l e R s m args below meth c (MQ below (mm_Qc D cA Y ρ0 M0 res.1 res.2 s.heap.size) args s (res.2.2.1 - n0) (res.2.2.2.1 - z0) A) D cA Y A nL n0 z0 ρ0 res.2 (pc + len) L' K' M') (hg : ∀ (t : Nat) (L' : mmL) (K' : List Value) (M' : mmM), g t L' K' M' = some res → mm_Gd p l e R s m args below meth c (MQ below (mm_Qc D cA Y ρ0 M0 res.1 res.2 s.heap.size) args s (res.2.2.1 - n0) (res.2.2.2.1 - z0) A) D cA Y A nL n0 z0 ρ0 res.2 t L' K' M') : mm_Gd p l e R s m args below meth c (MQ below (mm_Qc D cA Y ρ0 M0 res.1 res.2 s.heap.size) args s (res.2.2.1 - n0) (res.2.2.2.1 - z0) A) D cA Y A nL n0 z0 ρ0 res.2 pc L K M := by
  cases i with
  | iconst z =>
    obtain ⟨rfl, rfl⟩ := of_decide_eq_true hok
    exact gs_iconst hx hb rfl hd (hk _ _ _ h)
  | bipush z =>
    obtain ⟨rfl, rfl⟩ := of_decide_eq_true hok
    exact gs_bipush hx hb rfl hd (hk _ _ _ h)
  | sipush z =>
    obtain ⟨rfl, rfl⟩ := of_decide_eq_true hok
    exact gs_sipush hx hb rfl hd (hk _ _ _ h)
  | lconst z =>
    obtain ⟨rfl, rfl⟩ := of_decide_eq_true hok
    exact gs_lconst hx hb rfl hd (hk _ _ _ h)
  | ldc idx =>
    simp only [mm_okI, Bool.and_eq_true, decide_eq_true_eq] at hok
    obtain ⟨rfl, hv⟩ := hok
    cases v with
    | int x => exact gs_ldc hx hb hown (hts _ (hTs _ (hws _ List.mem_cons_self))) hd (hk _ _ _ h)
    | _ => cases hv
  | ldc_w idx =>
    simp only [mm_okI, Bool.and_eq_true, decide_eq_true_eq] at hok
    obtain ⟨rfl, hv⟩ := hok
    cases v with
    | int x => exact gs_ldcw hx hb hown (hts _ (hTs _ (hws _ List.mem_cons_self))) hd (hk _ _ _ h)
    | _ => cases hv
  | ldc2_w idx =>
    simp only [mm_okI, Bool.and_eq_true, decide_eq_true_eq] at hok
    obtain ⟨rfl, hv⟩ := hok
    cases v with
    | long x => exact gs_ldc2 hx hb hown (hts _ (hTs _ (hws _ List.mem_cons_self))) hd (hk _ _ _ h)
    | _ => cases hv
  | iload_n k9 =>
    obtain ⟨rfl, e9⟩ := of_decide_eq_true hok
    obtain ⟨v9, hv9, ha_⟩ := mi_ld h
    obtain ⟨x, rfl, hb_⟩ := mi_isI ha_
    exact gs_iload_n hx hb e9 hv9 hd (hk _ _ _ hb_)
  | iload k9 =>
    obtain ⟨rfl, e9⟩ := of_decide_eq_true hok
    obtain ⟨v9, hv9, ha_⟩ := mi_ld h
    obtain ⟨x, rfl, hb_⟩ := mi_isI ha_
    subst e9
    exact gs_iload hx hb hv9 hd (hk _ _ _ hb_)
  | lload_n k9 =>
    obtain ⟨rfl, e9⟩ := of_decide_eq_true hok
    obtain ⟨v9, hv9, ha_⟩ := mi_ld h
    obtain ⟨x, rfl, hb_⟩ := mi_isJ ha_
    exact gs_lload_n hx hb e9 hv9 hd (hk _ _ _ hb_)
  | lload k9 =>
    obtain ⟨rfl, e9⟩ := of_decide_eq_true hok
    obtain ⟨v9, hv9, ha_⟩ := mi_ld h
    obtain ⟨x, rfl, hb_⟩ := mi_isJ ha_
    subst e9
    exact gs_lload hx hb hv9 hd (hk _ _ _ hb_)
  | aload_n k9 =>
    obtain ⟨rfl, e9⟩ := of_decide_eq_true hok
    obtain ⟨v9, hv9, ha_⟩ := mi_ld h
    obtain ⟨hv8, hb_⟩ := mi_isA ha_
    rcases hv8 with ⟨x, rfl⟩ | rfl
    · exact gs_aload_n hx hb e9 hv9 hd (hk _ _ _ hb_)
    · exact gs_aload_nN hx hb e9 hv9 hd (hk _ _ _ hb_)
  | aload k9 =>
    obtain ⟨rfl, e9⟩ := of_decide_eq_true hok
    obtain ⟨v9, hv9, ha_⟩ := mi_ld h
    obtain ⟨hv8, hb_⟩ := mi_isA ha_
    rcases hv8 with ⟨x, rfl⟩ | rfl
    · subst e9; exact gs_aload hx hb hv9 hd (hk _ _ _ hb_)
    · subst e9; exact gs_aloadN hx hb hv9 hd (hk _ _ _ hb_)
  | istore_n k9 =>
    obtain ⟨rfl, e9, hn9⟩ := of_decide_eq_true hok
    obtain ⟨x, r, rfl, ha_⟩ := mi_pI h
    exact gs_istore_n hx hb e9 hn9 hd (hk _ _ _ ha_)
  | istore k9 =>
    obtain ⟨rfl, e9, hn9⟩ := of_decide_eq_true hok
    obtain ⟨x, r, rfl, ha_⟩ := mi_pI h
    subst e9
    exact gs_istore hx hb hn9 hd (hk _ _ _ ha_)
  | lstore_n k9 =>
    obtain ⟨rfl, e9, hn9⟩ := of_decide_eq_true hok
    obtain ⟨x, r, rfl, ha_⟩ := mi_pJ h
    exact gs_lstore_n hx hb e9 hn9 hd (hk _ _ _ ha_)
  | lstore k9 =>
    obtain ⟨rfl, e9, hn9⟩ := of_decide_eq_true hok
    obtain ⟨x, r, rfl, ha_⟩ := mi_pJ h
    subst e9
    exact gs_lstore hx hb hn9 hd (hk _ _ _ ha_)
  | astore_n k9 =>
    obtain ⟨rfl, e9, hn9⟩ := of_decide_eq_true hok
    rcases mi_pN h with ⟨x, r, rfl, ha_⟩ | ⟨r, rfl, ha_⟩
    · exact gs_astore_n hx hb e9 hn9 hd (hk _ _ _ ha_)
    · exact gs_astore_nN hx hb e9 hn9 hd (hk _ _ _ ha_)
  | astore k9 =>
    obtain ⟨rfl, e9, hn9⟩ := of_decide_eq_true hok
    rcases mi_pN h with ⟨x, r, rfl, ha_⟩ | ⟨r, rfl, ha_⟩
    · subst e9; exact gs_astore hx hb hn9 hd (hk _ _ _ ha_)
    · subst e9; exact gs_astoreN hx hb hn9 hd (hk _ _ _ ha_)
  | iinc k9 z =>
    obtain ⟨rfl, rfl, rfl, hn9⟩ := of_decide_eq_true hok
    obtain ⟨v9, hv9, ha_⟩ := mi_ld h
    obtain ⟨y9, r9, e1, hb_⟩ := mi_pI ha_
    cases e1
    obtain ⟨n9, r8, e2, hc_⟩ := mi_pI hb_
    cases e2
    exact gs_iinc hx hb hv9 rfl hn9 hd (hk _ _ _ hc_)
  | iadd =>
    obtain rfl : len = 1 := of_decide_eq_true hok
    obtain ⟨x, y, r, rfl, ha_⟩ := mi_pII h
    exact gs_iadd hx hb hd (hk _ _ _ ha_)
  | isub =>
    obtain rfl : len = 1 := of_decide_eq_true hok
    obtain ⟨x, y, r, rfl, ha_⟩ := mi_pII h
    exact gs_isub hx hb hd (hk _ _ _ ha_)
  | imul =>
    obtain rfl : len = 1 := of_decide_eq_true hok
    obtain ⟨x, y, r, rfl, ha_⟩ := mi_pII h
    exact gs_imul hx hb hd (hk _ _ _ ha_)
  | iand =>
    obtain rfl : len = 1 := of_decide_eq_true hok
    obtain ⟨x, y, r, rfl, ha_⟩ := mi_pII h
    exact gs_iand hx hb hd (hk _ _ _ ha_)
  | ior =>
    obtain rfl : len = 1 := of_decide_eq_true hok
    obtain ⟨x, y, r, rfl, ha_⟩ := mi_pII h
    exact gs_ior hx hb hd (hk _ _ _ ha_)
  | ixor =>
    obtain rfl : len = 1 := of_decide_eq_true hok
    obtain ⟨x, y, r, rfl, ha_⟩ := mi_pII h
    exact gs_ixor hx hb hd (hk _ _ _ ha_)
  | ishl =>
    obtain rfl : len = 1 := of_decide_eq_true hok
    obtain ⟨x, y, r, rfl, ha_⟩ := mi_pII h
    exact gs_ishl hx hb hd (hk _ _ _ ha_)
  | ishr =>
    obtain rfl : len = 1 := of_decide_eq_true hok
    obtain ⟨x, y, r, rfl, ha_⟩ := mi_pII h
    exact gs_ishr hx hb hd (hk _ _ _ ha_)
  | iushr =>
    obtain rfl : len = 1 := of_decide_eq_true hok
    obtain ⟨x, y, r, rfl, ha_⟩ := mi_pII h
    exact gs_iushr hx hb hd (hk _ _ _ ha_)
  | idiv =>
    obtain rfl : len = 1 := of_decide_eq_true hok
    obtain ⟨x, y, r, rfl, ha_⟩ := mi_pII h
    by_cases hy0 : y = 0
    · rw [if_pos hy0] at ha_; cases ha_
    · rw [if_neg hy0] at ha_; exact gs_idiv hx hb hy0 hd (hk _ _ _ ha_)
  | irem =>
    obtain rfl : len = 1 := of_decide_eq_true hok
    obtain ⟨x, y, r, rfl, ha_⟩ := mi_pII h
    by_cases hy0 : y = 0
    · rw [if_pos hy0] at ha_; cases ha_
    · rw [if_neg hy0] at ha_; exact gs_irem hx hb hy0 hd (hk _ _ _ ha_)
  | ladd =>
    obtain rfl : len = 1 := of_decide_eq_true hok
    obtain ⟨x, y, r, rfl, ha_⟩ := mi_pJJ h
    exact gs_ladd hx hb hd (hk _ _ _ ha_)
  | lsub =>
    obtain rfl : len = 1 := of_decide_eq_true hok
    obtain ⟨x, y, r, rfl, ha_⟩ := mi_pJJ h
    exact gs_lsub hx hb hd (hk _ _ _ ha_)
  | lmul =>
    obtain rfl : len = 1 := of_decide_eq_true hok
    obtain ⟨x, y, r, rfl, ha_⟩ := mi_pJJ h
    exact gs_lmul hx hb hd (hk _ _ _ ha_)
  | land =>
    obtain rfl : len = 1 := of_decide_eq_true hok
    obtain ⟨x, y, r, rfl, ha_⟩ := mi_pJJ h
    exact gs_land hx hb hd (hk _ _ _ ha_)
  | lor =>
    obtain rfl : len = 1 := of_decide_eq_true hok
    obtain ⟨x, y, r, rfl, ha_⟩ := mi_pJJ h
    exact gs_lor hx hb hd (hk _ _ _ ha_)
  | lcmp =>
    obtain rfl : len = 1 := of_decide_eq_true hok
    obtain ⟨x, y, r, rfl, ha_⟩ := mi_pJJ h
    exact gs_lcmp hx hb hd (hk _ _ _ ha_)
  | ldiv =>
    obtain rfl : len = 1 := of_decide_eq_true hok
    obtain ⟨x, y, r, rfl, ha_⟩ := mi_pJJ h
    by_cases hy0 : y = 0
    · rw [if_pos hy0] at ha_; cases ha_
    · rw [if_neg hy0] at ha_; exact gs_ldiv hx hb hy0 hd (hk _ _ _ ha_)
  | lrem =>
    obtain rfl : len = 1 := of_decide_eq_true hok
    obtain ⟨x, y, r, rfl, ha_⟩ := mi_pJJ h
    by_cases hy0 : y = 0
    · rw [if_pos hy0] at ha_; cases ha_
    · rw [if_neg hy0] at ha_; exact gs_lrem hx hb hy0 hd (hk _ _ _ ha_)
  | lshl =>
    obtain rfl : len = 1 := of_decide_eq_true hok
    obtain ⟨x, y, r, rfl, ha_⟩ := mi_pJI h
    exact gs_lshl hx hb hd (hk _ _ _ ha_)
  | lushr =>
    obtain rfl : len = 1 := of_decide_eq_true hok
    obtain ⟨x, y, r, rfl, ha_⟩ := mi_pJI h
    exact gs_lushr hx hb hd (hk _ _ _ ha_)
  | ineg =>
    obtain rfl : len = 1 := of_decide_eq_true hok
    obtain ⟨x, r, rfl, ha_⟩ := mi_pI h
    exact gs_ineg hx hb hd (hk _ _ _ ha_)
  | i2l =>
    obtain rfl : len = 1 := of_decide_eq_true hok
    obtain ⟨x, r, rfl, ha_⟩ := mi_pI h
    exact gs_i2l hx hb hd (hk _ _ _ ha_)
  | l2i =>
    obtain rfl : len = 1 := of_decide_eq_true hok
    obtain ⟨x, r, rfl, ha_⟩ := mi_pJ h
    exact gs_l2i hx hb hd (hk _ _ _ ha_)
  | dup =>
    obtain rfl : len = 1 := of_decide_eq_true hok
    obtain ⟨x, r, rfl, hc9, ha_⟩ := mi_p1 h
    exact gs_dup hx hb hc9 hd (hk _ _ _ ha_)
  | pop =>
    obtain rfl : len = 1 := of_decide_eq_true hok
    obtain ⟨x, r, rfl, hc9, ha_⟩ := mi_p1 h
    exact gs_pop hx hb hc9 hd (hk _ _ _ ha_)
  | dup2 =>
    obtain rfl : len = 1 := of_decide_eq_true hok
    obtain ⟨x, y, r, rfl, hc8, hc9, ha_⟩ := mi_p11 h
    exact gs_dup2 hx hb hc8 hc9 hd (hk _ _ _ ha_)
  | goto o9 =>
    obtain ⟨rfl, ht⟩ := of_decide_eq_true hok
    exact gs_goto hx hb hd ht (hg _ _ _ _ h)
  | ifCond q9 o9 =>
    obtain ⟨rfl, ht⟩ := of_decide_eq_true hok
    obtain ⟨x, r, rfl, ha_⟩ := mi_pI h
    cases q9 with
    | eq => exact gs_if_eq hx hb hd ht (fun q => hg _ _ _ _ (by simp only [mm_br, if_pos q] at ha_; exact ha_)) (fun q => hk _ _ _ (by simp only [mm_br, if_neg q] at ha_; exact ha_))
    | ne => exact gs_if_ne hx hb hd ht (fun q => hg _ _ _ _ (by simp only [mm_br, if_neg q] at ha_; exact ha_)) (fun q => hk _ _ _ (by simp only [mm_br, if_pos q] at ha_; exact ha_))
    | lt => exact gs_if_lt hx hb hd ht (fun q => hg _ _ _ _ (by simp only [mm_br, if_pos q] at ha_; exact ha_)) (fun q => hk _ _ _ (by simp only [mm_br, if_neg q] at ha_; exact ha_))
    | ge => exact gs_if_ge hx hb hd ht (fun q => hg _ _ _ _ (by simp only [mm_br, if_pos q] at ha_; exact ha_)) (fun q => hk _ _ _ (by simp only [mm_br, if_neg q] at ha_; exact ha_))
    | gt => exact gs_if_gt hx hb hd ht (fun q => hg _ _ _ _ (by simp only [mm_br, if_pos q] at ha_; exact ha_)) (fun q => hk _ _ _ (by simp only [mm_br, if_neg q] at ha_; exact ha_))
    | le => exact gs_if_le hx hb hd ht (fun q => hg _ _ _ _ (by simp only [mm_br, if_pos q] at ha_; exact ha_)) (fun q => hk _ _ _ (by simp only [mm_br, if_neg q] at ha_; exact ha_))
  | if_icmp q9 o9 =>
    obtain ⟨rfl, ht⟩ := of_decide_eq_true hok
    obtain ⟨x, y, r, rfl, ha_⟩ := mi_pII h
    cases q9 with
    | eq => exact gs_icmp_eq hx hb hd ht (fun q => hg _ _ _ _ (by simp only [mm_br, if_pos q] at ha_; exact ha_)) (fun q => hk _ _ _ (by simp only [mm_br, if_neg q] at ha_; exact ha_))
    | ne => exact gs_icmp_ne hx hb hd ht (fun q => hg _ _ _ _ (by simp only [mm_br, if_neg q] at ha_; exact ha_)) (fun q => hk _ _ _ (by simp only [mm_br, if_pos q] at ha_; exact ha_))
    | lt => exact gs_icmp_lt hx hb hd ht (fun q => hg _ _ _ _ (by simp only [mm_br, if_pos q] at ha_; exact ha_)) (fun q => hk _ _ _ (by simp only [mm_br, if_neg q] at ha_; exact ha_))
    | ge => exact gs_icmp_ge hx hb hd ht (fun q => hg _ _ _ _ (by simp only [mm_br, if_pos q] at ha_; exact ha_)) (fun q => hk _ _ _ (by simp only [mm_br, if_neg q] at ha_; exact ha_))
    | gt => exact gs_icmp_gt hx hb hd ht (fun q => hg _ _ _ _ (by simp only [mm_br, if_pos q] at ha_; exact ha_)) (fun q => hk _ _ _ (by simp only [mm_br, if_neg q] at ha_; exact ha_))
    | le => exact gs_icmp_le hx hb hd ht (fun q => hg _ _ _ _ (by simp only [mm_br, if_pos q] at ha_; exact ha_)) (fun q => hk _ _ _ (by simp only [mm_br, if_neg q] at ha_; exact ha_))
  | ifnull o9 =>
    obtain ⟨rfl, ht⟩ := of_decide_eq_true hok
    rcases mi_pN h with ⟨x, r, rfl, ha_⟩ | ⟨r, rfl, ha_⟩
    · exact gs_ifnull_r hx hb hd ht (hk _ _ _ ha_)
    · exact gs_ifnull_n (x := 0) hx hb hd ht (hg _ _ _ _ ha_)
  | ifnonnull o9 =>
    obtain ⟨rfl, ht⟩ := of_decide_eq_true hok
    rcases mi_pN h with ⟨x, r, rfl, ha_⟩ | ⟨r, rfl, ha_⟩
    · exact gs_ifnonnull_r hx hb hd ht (hg _ _ _ _ ha_)
    · exact gs_ifnonnull_n (x := 0) hx hb hd ht (hk _ _ _ ha_)
  | tableswitch d9 lo hi offs =>
    simp only [mm_okI, Bool.and_eq_true, decide_eq_true_eq] at hok
    obtain ⟨x, r, rfl, ha_⟩ := mi_pI h
    exact gc_table hx hb hd hok.1.1 hok.2 hok.1.2 ha_ (fun t ht => hg _ _ _ _ ht)
  | lookupswitch d9 ps9 =>
    simp only [mm_okI, Bool.and_eq_true, decide_eq_true_eq] at hok
    obtain ⟨x, r, rfl, ha_⟩ := mi_pI h
    exact gc_lookup hx hb hd hok.1.1 (by simpa using hok.2) hok.1.2 ha_ (fun t ht => hg _ _ _ _ ht)
  | ireturn =>
    simp only [mm_okI, Bool.and_eq_true, decide_eq_true_eq] at hok
    obtain ⟨rfl, hok⟩ := hok
    obtain ⟨x, r, rfl, ha_⟩ := mi_pI h
    cases r with
    | cons z zs => cases ha_
    | nil =>
      cases b with
      | zero =>
        have hrt2 : rt = some .int := of_decide_eq_true hok
        cases ha_
        exact gc_iret (y := 0) (a := 0) hx hb hA0 hM0 hK hlocks (by rw [hrt]; exact hrt2) hd
      | succ b =>
        have hrt2 : rt = some .boolean := of_decide_eq_true hok
        by_cases h0 : x = 0
        · simp only [mm_sem, h0] at ha_
          cases ha_
          rw [h0]
          exact gc_zret (y := 0) (a := 0) hx hb hA0 hM0 hK hlocks (by rw [hrt]; exact hrt2) (Or.inl rfl) hd
        · by_cases h1 : x = 1
          · subst h1
            cases ha_
            exact gc_zret (y := 0) (a := 0) hx hb hA0 hM0 hK hlocks (by rw [hrt]; exact hrt2) (Or.inr rfl) hd
          · simp only [if_neg h0, if_neg h1] at ha_
            cases ha_
  | lreturn =>
    obtain ⟨rfl, hrt2⟩ := of_decide_eq_true hok
    obtain ⟨x, r, rfl, ha_⟩ := mi_pJ h
    cases r with
    | cons z zs => cases ha_
    | nil =>
      cases ha_
      exact gc_lret (x := 0) (a := 0) hx hb hA0 hM0 hK hlocks (by rw [hrt]; exact hrt2) hd
  | areturn =>
    simp only [mm_okI, Bool.and_eq_true, decide_eq_true_eq] at hok
    obtain ⟨rfl, hok⟩ := hok
    obtain ⟨x, r, rfl, ha_⟩ := mi_pR h
    cases r with
    | cons z zs => cases ha_
    | nil =>
      cases ha_
      cases rt with
      | none => cases hok
      | some t9 =>
        refine gc_aret (x := 0) (y := 0) hx hb hA0 hM0 hK hlocks hrt ?_ hd
        cases t9 with
        | object n9 => exact Or.inl ⟨_, rfl⟩
        | array n9 => exact Or.inr ⟨_, rfl⟩
        | _ => cases hok
  | return_ =>
    obtain ⟨rfl, hrt2⟩ := of_decide_eq_true hok
    cases K with
    | cons z zs => cases h
    | nil =>
      cases h
      exact gc_vret (x := 0) (y := 0) (a := 0) hx hb hA0 hM0 hK hlocks (by rw [hrt]; exact hrt2) hd
  | getfield idx =>
    cases hq : mm_cl[a]? with
    | none => simp only [mm_okI, hq] at hok; cases hok
    | some q =>
      simp only [mm_okI, hq, decide_eq_true_eq] at hok
      obtain ⟨rfl, hb9, htk, hc4⟩ := hok
      have hlink : (Cond.fieldLink own idx (q.2.1 b).1 (q.2.1 b).2.1 (q.2.1 b).2.2.1).before args s = true ∨ ∃ host, (Cond.fieldLinkNest own idx (q.2.1 b).1 (q.2.1 b).2.1 (q.2.1 b).2.2.1 host).before args s = true := by
            rcases (show (c9 / 4) % 4 = 0 ∨ (c9 / 4) % 4 = 1 by omega) with h4 | h4
            · refine Or.inl (hts _ (hTs _ (hws _ ?_)))
              simp only [mm_wds, hq, h4]
              exact List.mem_cons_self
            · refine Or.inr ⟨mm_host, va_Nw.use rfl (hN _ (hns _ ?_))⟩
              simp only [mm_nwd, hq, h4]
              exact List.mem_cons_self
      obtain ⟨o, r, rfl, ha_⟩ := mi_pR h
      obtain ⟨ho, hb_⟩ := mi_cond ha_
      have ho := mm_obj_eq ho
      rcases (show c9 % 4 = 0 ∨ c9 % 4 = 1 ∨ c9 % 4 = 2 ∨ c9 % 4 = 3 by omega) with h4 | h4 | h4 | h4
      · simp only [h4] at hb_
        exact gh_getI hx hb hY hts hown hK hq (fun w hw => hTs w (hlay a q hq w hw)) hb9 hlink ho (Or.inl (mm_tk0 (htk.trans h4))) hd (hk _ _ _ hb_)
      · simp only [h4] at hb_
        exact gh_getJ hx hb hY hts hown hK hq (fun w hw => hTs w (hlay a q hq w hw)) hb9 hlink ho (mm_tk1 (htk.trans h4)) hd (hk _ _ _ hb_)
      · simp only [h4] at hb_
        exact gh_getP hx hb hY hts hown hK hq (fun w hw => hTs w (hlay a q hq w hw)) hb9 hlink ho (htk.trans h4) hd (hk _ _ _ hb_)
      · simp only [h4] at hb_
        exact gh_getI hx hb hY hts hown hK hq (fun w hw => hTs w (hlay a q hq w hw)) hb9 hlink ho (Or.inr (mm_tk3 (htk.trans h4))) hd (hk _ _ _ hb_)
  | putfield idx =>
    cases hq : mm_cl[a]? with
    | none => simp only [mm_okI, hq] at hok; cases hok
    | some q =>
      simp only [mm_okI, hq, decide_eq_true_eq, Bool.and_eq_true, Bool.or_eq_true] at hok
      obtain ⟨⟨rfl, hb9, htk, hc4⟩, hfi⟩ := hok
      have hlink : (Cond.fieldLink own idx (q.2.1 b).1 (q.2.1 b).2.1 (q.2.1 b).2.2.1).before args s = true ∨ ∃ host, (Cond.fieldLinkNest own idx (q.2.1 b).1 (q.2.1 b).2.1 (q.2.1 b).2.2.1 host).before args s = true := by
            rcases (show (c9 / 4) % 4 = 0 ∨ (c9 / 4) % 4 = 1 by omega) with h4 | h4
            · refine Or.inl (hts _ (hTs _ (hws _ ?_)))
              simp only [mm_wds, hq, h4]
              exact List.mem_cons_self
            · refine Or.inr ⟨mm_host, va_Nw.use rfl (hN _ (hns _ ?_))⟩
              simp only [mm_nwd, hq, h4]
              exact List.mem_cons_self
      have hfin : (q.2.1 b).2.2.2 = false ∨ ((q.2.1 b).2.2.2 = true ∧ meth.name = "<init>" ∧ (q.2.1 b).1 = own ∧ (Cond.fieldLink own idx (q.2.1 b).1 (q.2.1 b).2.1 (q.2.1 b).2.2.1).before args s = true) := by
            cases hf9 : (q.2.1 b).2.2.2 with
            | false => exact Or.inl rfl
            | true =>
              rcases hfi with hfi | ⟨e1, e2, e3⟩
              · rw [hf9] at hfi; cases hfi
              · refine Or.inr ⟨rfl, hnm e1, e2, hts _ (hTs _ (hws _ ?_))⟩
                simp only [mm_wds, hq, e3]
                exact List.mem_cons_self
      rcases (show c9 % 4 = 0 ∨ c9 % 4 = 1 ∨ c9 % 4 = 2 ∨ c9 % 4 = 3 by omega) with h4 | h4 | h4 | h4
      · simp only [mm_sem, h4] at h
        obtain ⟨x, r1, rfl, ha_⟩ := mi_pI h
        obtain ⟨o, r, rfl, hb_⟩ := mi_pR ha_
        obtain ⟨ho, hc_⟩ := mi_cond hb_
        have ho := mm_obj_eq ho
        exact gh_putI hx hb hY hts hown hK hq (fun w hw => hTs w (hlay a q hq w hw)) hb9 hlink ho hfin (mm_tk0 (htk.trans h4)) hd (hk _ _ _ hc_)
      · simp only [mm_sem, h4] at h
        obtain ⟨x, r1, rfl, ha_⟩ := mi_pJ h
        obtain ⟨o, r, rfl, hb_⟩ := mi_pR ha_
        obtain ⟨ho, hc_⟩ := mi_cond hb_
        have ho := mm_obj_eq ho
        exact gh_putJ hx hb hY hts hown hK hq (fun w hw => hTs w (hlay a q hq w hw)) hb9 hlink ho hfin (mm_tk1 (htk.trans h4)) hd (hk _ _ _ hc_)
      · simp only [mm_sem, h4] at h
        obtain ⟨x, r1, rfl, ha_⟩ := mi_pR h
        obtain ⟨o, r, rfl, hb_⟩ := mi_pR ha_
        obtain ⟨ho, hc_⟩ := mi_cond hb_
        rw [Bool.and_eq_true] at ho
        obtain ⟨ho, hfr⟩ := ho
        have ho := mm_obj_eq ho
        exact gh_putP hx hb hY hts hown hK hq (fun w hw => hTs w (hlay a q hq w hw)) hb9 hlink ho hfin (htk.trans h4) hfr hd (hk _ _ _ hc_)
      · simp only [mm_sem, h4] at h
        obtain ⟨x, r1, rfl, ha_⟩ := mi_pI h
        obtain ⟨o, r, rfl, hb_⟩ := mi_pR ha_
        obtain ⟨ho, hc_⟩ := mi_cond hb_
        have ho := mm_obj_eq ho
        by_cases h0 : x = 0
        · subst h0
          exact gh_putZ hx hb hY hts hown hK hq (fun w hw => hTs w (hlay a q hq w hw)) hb9 hlink ho hfin (mm_tk3 (htk.trans h4)) (Or.inl rfl) hd (hk _ _ _ hc_)
        · by_cases h1 : x = 1
          · subst h1
            exact gh_putZ hx hb hY hts hown hK hq (fun w hw => hTs w (hlay a q hq w hw)) hb9 hlink ho hfin (mm_tk3 (htk.trans h4)) (Or.inr rfl) hd (hk _ _ _ hc_)
          · rw [if_neg h0, if_neg h1] at hc_; cases hc_
  | getstatic idx =>
    obtain ⟨rfl, ha9⟩ := of_decide_eq_true hok
    obtain ⟨q, hq⟩ : ∃ q, mm_stat[a]? = some q := ⟨_, List.getElem?_eq_getElem (show a < mm_stat.length from ha9)⟩
    refine ga_stat hx hb h16n hZ hown hq (hts _ (hTs _ (hws _ ?_))) hd (hk _ _ _ h)
    simp only [mm_wds, hq]
    exact List.mem_cons_self
  | arraylength =>
    obtain rfl : len = 1 := of_decide_eq_true hok
    obtain ⟨o, r, rfl, ha_⟩ := mi_pR h
    cases ho : mm_s Y M o with
    | inl ci => simp only [ho] at ha_; cases ha_
    | inr q =>
      obtain ⟨ty, n⟩ := q
      simp only [ho] at ha_
      obtain ⟨hty, hb_⟩ := mi_cond ha_
      simp only [Bool.and_eq_true, Bool.or_eq_true, Bool.not_eq_true'] at hty
      exact ga_len hx hb hY hK h16n hT (Nat.le_of_ble_eq_true hty.1) ho (hty.2.elim (fun z => Or.inl fun e => by subst e; cases z) (fun z => Or.inr fun e => absurd (Nat.blt_eq.mp z) (by omega))) hd (hk _ _ _ hb_)
  | iaload =>
    obtain rfl : len = 1 := of_decide_eq_true hok
    obtain ⟨o, i9, r, rfl, ha_⟩ := mi_pRI h
    obtain ⟨n9, ho, hb_⟩ := mi_bind ha_
    obtain ⟨hi, hc_⟩ := mi_cond hb_
    exact ga_iald hx hb hY hK h16n hT (mm_arr_eq ho) (mm_inb_in hi) hd (hk _ _ _ hc_)
  | baload =>
    obtain rfl : len = 1 := of_decide_eq_true hok
    obtain ⟨o, i9, r, rfl, ha_⟩ := mi_pRI h
    obtain ⟨n9, ho, hb_⟩ := mi_bind ha_
    obtain ⟨hi, hc_⟩ := mi_cond hb_
    exact ga_bald hx hb hY hK h16n hT (mm_arr_eq ho) (mm_inb_in hi) hd (hk _ _ _ hc_)
  | caload =>
    obtain rfl : len = 1 := of_decide_eq_true hok
    obtain ⟨o, i9, r, rfl, ha_⟩ := mi_pRI h
    obtain ⟨n9, ho, hb_⟩ := mi_bind ha_
    obtain ⟨hi, hc_⟩ := mi_cond hb_
    rw [Bool.and_eq_true] at hi
    exact ga_cald hx hb hY hK h16n hT (mm_arr_eq ho) (by have := Nat.blt_eq.mp hi.2; omega) (mm_inb_in hi.1) hd (hk _ _ _ hc_)
  | laload =>
    obtain rfl : len = 1 := of_decide_eq_true hok
    obtain ⟨o, i9, r, rfl, ha_⟩ := mi_pRI h
    obtain ⟨n9, ho, hb_⟩ := mi_bind ha_
    obtain ⟨hi, hc_⟩ := mi_cond hb_
    rw [Bool.and_eq_true] at hi
    exact ga_lald hx hb hY hK h16n hT (mm_arr_eq ho) (Nat.le_of_ble_eq_true hi.2) (mm_inb_in hi.1) hd (hk _ _ _ hc_)
  | aaload =>
    obtain ⟨rfl, ha9⟩ := of_decide_eq_true hok
    obtain ⟨o, i9, r, rfl, ha_⟩ := mi_pRI h
    obtain ⟨n9, ho, hb_⟩ := mi_bind ha_
    obtain ⟨hi, hc_⟩ := mi_cond hb_
    rw [Bool.and_eq_true] at hi
    rcases (show a = 0 ∨ a = 1 by omega) with rfl | rfl
    · exact ga_aald4 hx hb hY hK h16n hT (mm_arr_eq ho) (Nat.le_of_ble_eq_true hi.2) (mm_inb_in hi.1) hd (hk _ _ _ hc_)
    · exact ga_aald5 hx hb hY hK h16n hT (mm_arr_eq ho) (Nat.le_of_ble_eq_true hi.2) (mm_inb_in hi.1) hd (hk _ _ _ hc_)
  | iastore =>
    obtain rfl : len = 1 := of_decide_eq_true hok
    obtain ⟨o, i9, x, r, rfl, ha_⟩ := mi_pRII h
    obtain ⟨n9, ho, hb_⟩ := mi_bind ha_
    obtain ⟨hi, hc_⟩ := mi_cond hb_
    rw [Bool.and_eq_true] at hi
    exact ga_iast hx hb hY hK h16n hT (mm_arr_eq ho) (Nat.le_of_ble_eq_true hi.2) (mm_inb_in hi.1) hd (hk _ _ _ hc_)
  | bastore =>
    obtain rfl : len = 1 := of_decide_eq_true hok
    obtain ⟨o, i9, x, r, rfl, ha_⟩ := mi_pRII h
    obtain ⟨n9, ho, hb_⟩ := mi_bind ha_
    obtain ⟨hi, hc_⟩ := mi_cond hb_
    rw [Bool.and_eq_true] at hi
    exact ga_bast hx hb hY hK h16n hT (mm_arr_eq ho) (Nat.le_of_ble_eq_true hi.2) (mm_inb_in hi.1) hd (hk _ _ _ hc_)
  | lastore =>
    obtain rfl : len = 1 := of_decide_eq_true hok
    obtain ⟨o, i9, x, r, rfl, ha_⟩ := mi_pRIJ h
    obtain ⟨n9, ho, hb_⟩ := mi_bind ha_
    obtain ⟨hi, hc_⟩ := mi_cond hb_
    rw [Bool.and_eq_true] at hi
    exact ga_last hx hb hY hK h16n hT (mm_arr_eq ho) (Nat.le_of_ble_eq_true hi.2) (mm_inb_in hi.1) hd (hk _ _ _ hc_)
  | aastore =>
    obtain ⟨rfl, ha9⟩ := of_decide_eq_true hok
    obtain ⟨o, i9, x, r, rfl, ha_⟩ := mi_pRIR h
    obtain ⟨n9, ho, hb_⟩ := mi_bind ha_
    obtain ⟨hi, hc_⟩ := mi_cond hb_
    simp only [Bool.and_eq_true] at hi
    obtain ⟨hi1, ⟨hi2, hi3, hi4⟩, hi5⟩ := hi
    rcases (show a = 0 ∨ a = 1 by omega) with rfl | rfl
    · exact ga_aast4 hx hb hY hK h16n hT hi4 (Nat.le_of_ble_eq_true hi3) (mm_obj_eq hi5) (mm_arr_eq ho) (Nat.le_of_ble_eq_true hi2) (mm_inb_in hi1) hd (hk _ _ _ hc_)
    · cases hx9 : mm_arr (mm_s Y M x) 0 with
      | none => simp only [hx9] at hi5; cases hi5
      | some nx => exact ga_aast5 hx hb hY hK h16n hT h5 hi4 (Nat.le_of_ble_eq_true hi3) (mm_arr_eq hx9) (mm_arr_eq ho) (Nat.le_of_ble_eq_true hi2) (mm_inb_in hi1) hd (hk _ _ _ hc_)
  | newarray at9 =>
    obtain ⟨rfl, hat⟩ := of_decide_eq_true hok
    obtain ⟨x, r, rfl, ha_⟩ := mi_pI h
    obtain ⟨hi, hb_⟩ := mi_cond ha_
    simp only [Bool.and_eq_true, Bool.not_eq_true', decide_eq_false_iff_not] at hi
    exact ga_newa hx hb hY hK h16n hA hRc hRs hat hi.2.1 (Nat.le_of_ble_eq_true hi.2.2) (hts _ (hTs _ (hws _ List.mem_cons_self))) hd (hk _ _ _ hb_)
  | anewarray idx =>
    obtain rfl : len = 3 := of_decide_eq_true hok
    obtain ⟨x, r, rfl, ha_⟩ := mi_pI h
    obtain ⟨hi, hb_⟩ := mi_cond ha_
    simp only [Bool.and_eq_true, Bool.not_eq_true', decide_eq_false_iff_not] at hi
    exact ga_anew hx hb hY hK h16n hA hRc hRs hown (hts _ (hTs _ (hws _ List.mem_cons_self))) hO hi.2.1 (Nat.le_of_ble_eq_true hi.2.2) hd (hk _ _ _ hb_)
  | new idx =>
    obtain ⟨rfl, ha9⟩ := of_decide_eq_true hok
    obtain ⟨q, hq⟩ : ∃ q, mm_cl[a]? = some q := ⟨_, List.getElem?_eq_getElem (show a < mm_cl.length from ha9)⟩
    simp only [mm_sem, (mm_cl_ok a q hq).1] at h
    obtain ⟨hi, ha_⟩ := mi_cond h
    have hw9 : ∀ w ∈ [Cond.classLink own idx q.1, Cond.instantiable q.1 q.2.2, Cond.initialized q.1], w.before args s = true := fun w hw => hts _ (hTs _ (hws _ (by simp only [mm_wds, hq]; exact hw)))
    exact ga_new hx hb hY hK h16n hA hRc hRs hts hown hq (fun w hw => hTs w (hlay a q hq w hw)) (hw9 _ (by simp)) (hw9 _ (by simp)) (hw9 _ (by simp)) hd (hk _ _ _ ha_)
  | invokevirtual idx =>
    cases hy : mth[a]? with
    | none => simp only [mm_okI, hy] at hok; cases hok
    | some y =>
      cases hq : mm_cl[c9 / 16]? with
      | none => simp only [mm_okI, hy, hq] at hok; cases hok
      | some q =>
        simp only [mm_okI, hy, hq, Bool.and_eq_true, decide_eq_true_eq] at hok
        obtain ⟨⟨rfl, hcls, hc4⟩, hpl⟩ := hok
        obtain ⟨p9, hp9, ha_⟩ := mi_bind h
        obtain ⟨as, rest0⟩ := p9
        obtain ⟨bs, e1, rfl, hlen⟩ := mm_pop_eq _ _ _ _ _ hp9
        rw [List.append_nil] at e1
        subst e1
        obtain ⟨o, rest, e2, hb_⟩ := mi_pR ha_
        simp only at e2
        subst e2
        obtain ⟨hi, hc_⟩ := mi_cond hb_
        rw [Bool.and_eq_true] at hi
        obtain ⟨v9, m9, hev, hd_⟩ := mi_ans hc_
        refine sm_callV hx hb hml hown hlocks hrt hnm hTs hts hY hK hnest h16n hA0 hM0 hA hT hZ hN hO h5 hlay hcode hRc hRs hRf hRl hcall hy hq (mm_obj_eq hi.1) hcls hpl (Nat.le_of_ble_eq_true hi.2) hlen hev ?_ hd (hk _ _ _ hd_)
        rcases (show (c9 / 4) % 4 = 0 ∨ (c9 / 4) % 4 = 1 by omega) with h4 | h4
        · simp only [mm_wds, hy, h4] at hws
          exact Or.inl hws
        · simp only [mm_wds, mm_nwd, hy, h4] at hws hns
          exact Or.inr ⟨hws, hns _ List.mem_cons_self⟩
  | invokestatic idx =>
    by_cases h4 : (c9 / 4) % 4 = 2
    · simp only [mm_okI, h4, decide_eq_true_eq] at hok
      subst hok
      simp only [mm_sem, h4] at h
      simp only [mm_wds, h4] at hws
      have hw9 : ∀ w ∈ [Cond.methodLink own idx arraycopyName, Cond.native arraycopyName, Cond.static arraycopyName, Cond.initialized "java/lang/System"], w.before args s = true := fun w hw => hts _ (hTs _ (hws w hw))
      unfold mm_copy at h
      split at h
      · obtain ⟨x1, rfl, ha_⟩ := mi_asR h
        obtain ⟨x2, e2, hb_⟩ := mi_asR ha_
        subst e2
        obtain ⟨nb, hb1, hc_⟩ := mi_bind hb_
        obtain ⟨na, ha1, hd_⟩ := mi_bind hc_
        obtain ⟨hi, he_⟩ := mi_cond hd_
        simp only [Bool.and_eq_true, Bool.not_eq_true', decide_eq_false_iff_not] at hi
        obtain ⟨i1, i2, i3, i4, i5, i6, i7, i8⟩ := hi
        exact gq_copy hx hb hml hY hK hown (hw9 _ (by simp)) (hw9 _ (by simp)) (hw9 _ (by simp)) (hw9 _ (by simp)) (mm_arr_eq hb1) (mm_arr_eq ha1) (Nat.le_of_ble_eq_true i2) (Nat.le_of_ble_eq_true i3) i6 i5 i4 (Nat.le_of_ble_eq_true i7) (Nat.le_of_ble_eq_true i8) (by omega) (Nat.le_trans (show 8 + (nativeFrameWords "java/lang/System" "arraycopy" 5 + 11) ≤ 200 by decide +kernel) (by omega)) (Nat.le_of_ble_eq_true i1) hd (hk _ _ _ he_)
      · cases h
    · cases hy : mth[a]? with
      | none =>
        exfalso
        simp only [mm_okI, hy] at hok
        cases hok
      | some y =>
        have hlk : (decide (len = 3) && mm_plain y.1 b) = true ∧ ((c9 / 4) % 4 = 0 ∨ (c9 / 4) % 4 = 1) := by
          rcases (show (c9 / 4) % 4 = 0 ∨ (c9 / 4) % 4 = 1 ∨ (c9 / 4) % 4 = 3 by omega) with e4 | e4 | e4
          · simp only [mm_okI, hy, e4] at hok; exact ⟨hok, Or.inl e4⟩
          · simp only [mm_okI, hy, e4] at hok; exact ⟨hok, Or.inr e4⟩
          · simp only [mm_okI, hy, e4] at hok; cases hok
        obtain ⟨hok, h04⟩ := hlk
        simp only [Bool.and_eq_true, decide_eq_true_eq] at hok
        obtain ⟨rfl, hpl⟩ := hok
        have ha_ : mm_invS call a b (c9 % 4) L K M k = some res := by rcases h04 with e4 | e4 <;> simpa only [mm_sem, e4] using h
        obtain ⟨p9, hp9, hb_⟩ := mi_bind ha_
        obtain ⟨as, rest⟩ := p9
        obtain ⟨bs, e1, rfl, hlen⟩ := mm_pop_eq _ _ _ _ _ hp9
        rw [List.append_nil] at e1
        subst e1
        obtain ⟨hi, hc_⟩ := mi_cond hb_
        obtain ⟨v9, m9, hev, hd_⟩ := mi_ans hc_
        refine sm_callS hx hb hml hown hlocks hrt hnm hTs hts hY hK hnest h16n hA0 hM0 hA hT hZ hN hO h5 hlay hcode hRc hRs hRf hRl hcall hy hpl (Nat.le_of_ble_eq_true hi) hlen hev ?_ hd (hk _ _ _ hd_)
        rcases h04 with e4 | e4
        · simp only [mm_wds, hy, e4] at hws
          exact Or.inl hws
        · simp only [mm_wds, mm_nwd, hy, e4] at hws hns
          exact Or.inr ⟨hws, hns _ List.mem_cons_self⟩
  | invokespecial idx =>
    by_cases h4 : (c9 / 4) % 4 = 2
    · simp only [mm_okI, h4, decide_eq_true_eq] at hok
      subst hok
      simp only [mm_sem, h4] at h
      simp only [mm_wds, h4] at hws
      have hw9 : ∀ w ∈ [Cond.methodLink own idx Lib.objectInit, Cond.instanceMethod Lib.objectInit, Cond.code Lib.objectInit ⟨#[0xb1]⟩ 1 none], w.before args s = true := fun w hw => hts _ (hTs _ (hws w hw))
      obtain ⟨o, rest, rfl, ha_⟩ := mi_pR h
      obtain ⟨hi, hb_⟩ := mi_cond ha_
      exact gq_obj hx hb hml hown (hw9 _ (by simp)) (hw9 _ (by simp)) (hw9 _ (by simp)) (by omega) (by omega) (Nat.le_of_ble_eq_true hi) hd (hk _ _ _ hb_)
    · cases hy : mth[a]? with
      | none =>
        exfalso
        simp only [mm_okI, hy] at hok
        cases hok
      | some y =>
        have hlk : (decide (len = 3 ∧ y.1.name = "<init>" ∧ y.2.2.2 = none) && mm_plain y.1 b) = true ∧ ((c9 / 4) % 4 = 0 ∨ (c9 / 4) % 4 = 1) := by
          rcases (show (c9 / 4) % 4 = 0 ∨ (c9 / 4) % 4 = 1 ∨ (c9 / 4) % 4 = 3 by omega) with e4 | e4 | e4
          · simp only [mm_okI, hy, e4] at hok; exact ⟨hok, Or.inl e4⟩
          · simp only [mm_okI, hy, e4] at hok; exact ⟨hok, Or.inr e4⟩
          · simp only [mm_okI, hy, e4] at hok; cases hok
        obtain ⟨hok, h04⟩ := hlk
        simp only [Bool.and_eq_true, decide_eq_true_eq] at hok
        obtain ⟨⟨rfl, hin1, hre⟩, hpl⟩ := hok
        have ha_ : mm_inv Y call a b 0 (c9 / 16) L K M k = some res := by rcases h04 with e4 | e4 <;> simpa only [mm_sem, e4] using h
        obtain ⟨p9, hp9, hb_⟩ := mi_bind ha_
        obtain ⟨as, rest0⟩ := p9
        obtain ⟨bs, e1, rfl, hlen⟩ := mm_pop_eq _ _ _ _ _ hp9
        rw [List.append_nil] at e1
        subst e1
        obtain ⟨o, rest, e2, hc_⟩ := mi_pR hb_
        simp only at e2
        subst e2
        obtain ⟨hi, hd_⟩ := mi_cond hc_
        rw [Bool.and_eq_true] at hi
        obtain ⟨v9, m9, hev, he_⟩ := mi_ans hd_
        refine sm_callI hx hb hml hown hlocks hrt hnm hTs hts hY hK hnest h16n hA0 hM0 hA hT hZ hN hO h5 hlay hcode hRc hRs hRf hRl hcall hy hpl hin1 hre (Nat.le_of_ble_eq_true hi.2) hlen hev ?_ hd (hk _ _ _ he_)
        rcases h04 with e4 | e4
        · simp only [mm_wds, hy, e4] at hws
          exact Or.inl hws
        · simp only [mm_wds, mm_nwd, hy, e4] at hws hns
          exact Or.inr ⟨hws, hns _ List.mem_cons_self⟩
  | _ => cases h
end SM
end
section
theorem mm_wf_wP {Y : mmY} {M : mmM} {o k x : Nat} (hw : mm_wf Y M) (hx : x < M.2.1) (hf : mm_free Y o k = true) : mm_wf Y (mm_wP M o k (some x)) := by
  refine ⟨hw.1, fun a j b ha1 ha2 hb2 => ?_⟩
  by_cases e : a = o
  · subst e
    by_cases e2 : j = k
    · subst e2
      rw [mm_p_wP_same hf] at hb2
      cases hb2
      exact hx
    · rw [mm_p_wP_nk e2] at hb2
      exact hw.2 a j b ha1 ha2 hb2
  · rw [mm_p_wP e] at hb2
    exact hw.2 a j b ha1 ha2 hb2
/-- what an evaluation leaves of the memory -/
def mm_Po (Y : mmY) (res : mmR) (n z : Nat) : Prop := mm_wf Y res.2 ∧ n ≤ res.2.2.1 ∧ z ≤ res.2.2.2.1 ∧ ∀ x, res.1 = some x → mm_okv res.2.2.1 x
def mm_Pu (Y : mmY) (res : mmR) (L : mmL) (K : List Value) (M : mmM) : Prop := mm_wf Y M → 16 ≤ M.2.1 → mm_ks M.2.1 K → mm_lk M.2.1 L → mm_Po Y res M.2.1 M.2.2.1
theorem mm_Po_le {Y : mmY} {res : mmR} {n z n' z' : Nat} (h : mm_Po Y res n' z') (h1 : n ≤ n') (h2 : z ≤ z') : mm_Po Y res n z := ⟨h.1, Nat.le_trans h1 h.2.1, Nat.le_trans h2 h.2.2.1, h.2.2.2⟩

theorem mi_br {c : ClassFile.Cond} {x y : Int32} {t f : Option mmR} {res : mmR} (h : mm_br c x y t f = some res) : t = some res ∨ f = some res := by
  unfold mm_br at h
  cases c <;> simp only at h <;> split at h <;> first | exact Or.inl h | exact Or.inr h

theorem mp_inv {Y : mmY} {call : mmC} {res : mmR} (hcall : ∀ (j : Nat) (as : List Value) (M : mmM) (v : Option Value) (M' : mmM), call j as M = some (v, M') → mm_wf Y M → 16 ≤ M.2.1 → mm_ks M.2.1 as → mm_Po Y (v, M') M.2.1 M.2.2.1) {j n c ci : Nat} {L : mmL} {K : List Value} {M : mmM} {k : mmK} (h : mm_inv Y call j n c ci L K M k = some res) (hk : ∀ (L' : mmL) (K' : List Value) (M' : mmM), k L' K' M' = some res → mm_Pu Y res L' K' M') : mm_Pu Y res L K M := by
  intro a1 a2 a3 a4
  obtain ⟨p9, hp9, h1⟩ := mi_bind h
  obtain ⟨as, rest0⟩ := p9
  obtain ⟨bs, e1, rfl, hlen⟩ := mm_pop_eq _ _ _ _ _ hp9
  rw [List.append_nil] at e1
  subst e1
  obtain ⟨o, rest, e2, h2⟩ := mi_pR h1
  simp only at e2
  subst e2
  obtain ⟨hi, h3⟩ := mi_cond h2
  obtain ⟨v9, m9, hev, h4⟩ := mi_ans h3
  have hk9 : mm_ks M.2.1 (.ref o :: as) := fun x hx1 => by
    rcases List.mem_cons.mp hx1 with rfl | hx1
    · exact a3 _ (List.mem_append_right _ List.mem_cons_self)
    · exact a3 _ (List.mem_append_left _ (List.mem_reverse.mpr hx1))
  obtain ⟨c1, c2, c3, c4⟩ := hcall _ _ _ _ _ hev a1 a2 hk9
  refine mm_Po_le (hk _ _ _ h4 c1 (Nat.le_trans a2 c2) (fun x hx1 => ?_) (fun i x hx1 => mm_okv_le (a4 i x hx1) c2)) c2 c3
  rcases List.mem_append.mp hx1 with h9 | h9
  · exact c4 x (by cases v9 with | none => cases h9 | some y => simp at h9; rw [h9])
  · exact mm_okv_le (a3 _ (List.mem_append_right _ (List.mem_cons_of_mem _ h9))) c2
theorem mp_invS {Y : mmY} {call : mmC} {res : mmR} (hcall : ∀ (j : Nat) (as : List Value) (M : mmM) (v : Option Value) (M' : mmM), call j as M = some (v, M') → mm_wf Y M → 16 ≤ M.2.1 → mm_ks M.2.1 as → mm_Po Y (v, M') M.2.1 M.2.2.1) {j n c : Nat} {L : mmL} {K : List Value} {M : mmM} {k : mmK} (h : mm_invS call j n c L K M k = some res) (hk : ∀ (L' : mmL) (K' : List Value) (M' : mmM), k L' K' M' = some res → mm_Pu Y res L' K' M') : mm_Pu Y res L K M := by
  intro a1 a2 a3 a4
  obtain ⟨p9, hp9, h1⟩ := mi_bind h
  obtain ⟨as, rest⟩ := p9
  obtain ⟨bs, e1, rfl, hlen⟩ := mm_pop_eq _ _ _ _ _ hp9
  rw [List.append_nil] at e1
  subst e1
  obtain ⟨hi, h3⟩ := mi_cond h1
  obtain ⟨v9, m9, hev, h4⟩ := mi_ans h3
  have hk9 : mm_ks M.2.1 as := fun x hx1 => a3 _ (List.mem_append_left _ (List.mem_reverse.mpr hx1))
  obtain ⟨c1, c2, c3, c4⟩ := hcall _ _ _ _ _ hev a1 a2 hk9
  refine mm_Po_le (hk _ _ _ h4 c1 (Nat.le_trans a2 c2) (fun x hx1 => ?_) (fun i x hx1 => mm_okv_le (a4 i x hx1) c2)) c2 c3
  rcases List.mem_append.mp hx1 with h9 | h9
  · exact c4 x (by cases v9 with | none => cases h9 | some y => simp at h9; rw [h9])
  · exact mm_okv_le (a3 _ (List.mem_append_right _ h9)) c2

set_option maxHeartbeats 8000000 in
theorem mp_sem {Y : mmY} {call : mmC} {res : mmR} {mth : List mmT} {own nm : String} {rt : Option FieldType} {nL pc : Nat} (hY : mm_wfY Y) (hcall : ∀ (j : Nat) (as : List Value) (M : mmM) (v : Option Value) (M' : mmM), call j as M = some (v, M') → mm_wf Y M → 16 ≤ M.2.1 → mm_ks M.2.1 as → mm_Po Y (v, M') M.2.1 M.2.2.1) {i : Instr} {len a b c9 : Nat} {v : Value} {w : List (Int32 × Nat)} {L : mmL} {K : List Value} {M : mmM} {k : mmK} {g : mmG} (hok : mm_okI mth own nm rt nL pc i len a b c9 v w = true)
    (h : mm_sem Y call i a b c9 v w L K M k g = some res) (hk : ∀ (L' : mmL) (K' : List Value) (M' : mmM), k L' K' M' = some res → mm_Pu Y res L' K' M') (hg : ∀ (t : Nat) (L' : mmL) (K' : List Value) (M' : mmM), g t L' K' M' = some res → mm_Pu Y res L' K' M') : mm_Pu Y res L K M := by
  cases i with
  | iconst z =>
    intro a1 a2 a3 a4
    obtain ⟨-, rfl⟩ := of_decide_eq_true hok
    exact hk _ _ _ h a1 a2 (mm_ks_cons trivial a3) a4
  | bipush z =>
    intro a1 a2 a3 a4
    obtain ⟨-, rfl⟩ := of_decide_eq_true hok
    exact hk _ _ _ h a1 a2 (mm_ks_cons trivial a3) a4
  | sipush z =>
    intro a1 a2 a3 a4
    obtain ⟨-, rfl⟩ := of_decide_eq_true hok
    exact hk _ _ _ h a1 a2 (mm_ks_cons trivial a3) a4
  | lconst z =>
    intro a1 a2 a3 a4
    obtain ⟨-, rfl⟩ := of_decide_eq_true hok
    exact hk _ _ _ h a1 a2 (mm_ks_cons trivial a3) a4
  | ldc idx =>
    intro a1 a2 a3 a4
    simp only [mm_okI, Bool.and_eq_true, decide_eq_true_eq] at hok
    obtain ⟨-, hv⟩ := hok
    cases v with
    | int x => exact hk _ _ _ h a1 a2 (mm_ks_cons trivial a3) a4
    | _ => cases hv
  | ldc_w idx =>
    intro a1 a2 a3 a4
    simp only [mm_okI, Bool.and_eq_true, decide_eq_true_eq] at hok
    obtain ⟨-, hv⟩ := hok
    cases v with
    | int x => exact hk _ _ _ h a1 a2 (mm_ks_cons trivial a3) a4
    | _ => cases hv
  | ldc2_w idx =>
    intro a1 a2 a3 a4
    simp only [mm_okI, Bool.and_eq_true, decide_eq_true_eq] at hok
    obtain ⟨-, hv⟩ := hok
    cases v with
    | long x => exact hk _ _ _ h a1 a2 (mm_ks_cons trivial a3) a4
    | _ => cases hv
  | iload_n k9 =>
    intro a1 a2 a3 a4
    obtain ⟨v9, hv9, h1⟩ := mi_ld h
    obtain ⟨x, e9, h2⟩ := mi_isI h1
    exact hk _ _ _ h2 a1 a2 (mm_ks_cons (a4 _ _ hv9) a3) a4
  | iload k9 =>
    intro a1 a2 a3 a4
    obtain ⟨v9, hv9, h1⟩ := mi_ld h
    obtain ⟨x, e9, h2⟩ := mi_isI h1
    exact hk _ _ _ h2 a1 a2 (mm_ks_cons (a4 _ _ hv9) a3) a4
  | lload_n k9 =>
    intro a1 a2 a3 a4
    obtain ⟨v9, hv9, h1⟩ := mi_ld h
    obtain ⟨x, e9, h2⟩ := mi_isJ h1
    exact hk _ _ _ h2 a1 a2 (mm_ks_cons (a4 _ _ hv9) a3) a4
  | lload k9 =>
    intro a1 a2 a3 a4
    obtain ⟨v9, hv9, h1⟩ := mi_ld h
    obtain ⟨x, e9, h2⟩ := mi_isJ h1
    exact hk _ _ _ h2 a1 a2 (mm_ks_cons (a4 _ _ hv9) a3) a4
  | aload_n k9 =>
    intro a1 a2 a3 a4
    obtain ⟨v9, hv9, h1⟩ := mi_ld h
    obtain ⟨e9, h2⟩ := mi_isA h1
    exact hk _ _ _ h2 a1 a2 (mm_ks_cons (a4 _ _ hv9) a3) a4
  | aload k9 =>
    intro a1 a2 a3 a4
    obtain ⟨v9, hv9, h1⟩ := mi_ld h
    obtain ⟨e9, h2⟩ := mi_isA h1
    exact hk _ _ _ h2 a1 a2 (mm_ks_cons (a4 _ _ hv9) a3) a4
  | istore_n k9 =>
    intro a1 a2 a3 a4
    obtain ⟨x, r, rfl, h1⟩ := mi_pI h
    exact hk _ _ _ h1 a1 a2 (mm_ks_tail a3) (mm_st1_lk a4 trivial)
  | istore k9 =>
    intro a1 a2 a3 a4
    obtain ⟨x, r, rfl, h1⟩ := mi_pI h
    exact hk _ _ _ h1 a1 a2 (mm_ks_tail a3) (mm_st1_lk a4 trivial)
  | lstore_n k9 =>
    intro a1 a2 a3 a4
    obtain ⟨x, r, rfl, h1⟩ := mi_pJ h
    exact hk _ _ _ h1 a1 a2 (mm_ks_tail a3) (mm_st2_lk a4 trivial)
  | lstore k9 =>
    intro a1 a2 a3 a4
    obtain ⟨x, r, rfl, h1⟩ := mi_pJ h
    exact hk _ _ _ h1 a1 a2 (mm_ks_tail a3) (mm_st2_lk a4 trivial)
  | astore_n k9 =>
    intro a1 a2 a3 a4
    rcases mi_pN h with ⟨x, r, rfl, h1⟩ | ⟨r, rfl, h1⟩
    · exact hk _ _ _ h1 a1 a2 (mm_ks_tail a3) (mm_st1_lk a4 (mm_ks_head a3))
    · exact hk _ _ _ h1 a1 a2 (mm_ks_tail a3) (mm_st1_lk a4 trivial)
  | astore k9 =>
    intro a1 a2 a3 a4
    rcases mi_pN h with ⟨x, r, rfl, h1⟩ | ⟨r, rfl, h1⟩
    · exact hk _ _ _ h1 a1 a2 (mm_ks_tail a3) (mm_st1_lk a4 (mm_ks_head a3))
    · exact hk _ _ _ h1 a1 a2 (mm_ks_tail a3) (mm_st1_lk a4 trivial)
  | iinc k9 z =>
    intro a1 a2 a3 a4
    obtain ⟨v9, hv9, h1⟩ := mi_ld h
    obtain ⟨y9, r9, e1, h2⟩ := mi_pI h1
    obtain ⟨n9, r8, e2, h3⟩ := mi_pI h2
    exact hk _ _ _ h3 a1 a2 a3 (mm_st1_lk a4 trivial)
  | iadd =>
    intro a1 a2 a3 a4
    obtain ⟨x, y, r, rfl, h1⟩ := mi_pII h
    exact hk _ _ _ h1 a1 a2 (mm_ks_cons trivial (mm_ks_tail (mm_ks_tail a3))) a4
  | isub =>
    intro a1 a2 a3 a4
    obtain ⟨x, y, r, rfl, h1⟩ := mi_pII h
    exact hk _ _ _ h1 a1 a2 (mm_ks_cons trivial (mm_ks_tail (mm_ks_tail a3))) a4
  | imul =>
    intro a1 a2 a3 a4
    obtain ⟨x, y, r, rfl, h1⟩ := mi_pII h
    exact hk _ _ _ h1 a1 a2 (mm_ks_cons trivial (mm_ks_tail (mm_ks_tail a3))) a4
  | iand =>
    intro a1 a2 a3 a4
    obtain ⟨x, y, r, rfl, h1⟩ := mi_pII h
    exact hk _ _ _ h1 a1 a2 (mm_ks_cons trivial (mm_ks_tail (mm_ks_tail a3))) a4
  | ior =>
    intro a1 a2 a3 a4
    obtain ⟨x, y, r, rfl, h1⟩ := mi_pII h
    exact hk _ _ _ h1 a1 a2 (mm_ks_cons trivial (mm_ks_tail (mm_ks_tail a3))) a4
  | ixor =>
    intro a1 a2 a3 a4
    obtain ⟨x, y, r, rfl, h1⟩ := mi_pII h
    exact hk _ _ _ h1 a1 a2 (mm_ks_cons trivial (mm_ks_tail (mm_ks_tail a3))) a4
  | ishl =>
    intro a1 a2 a3 a4
    obtain ⟨x, y, r, rfl, h1⟩ := mi_pII h
    exact hk _ _ _ h1 a1 a2 (mm_ks_cons trivial (mm_ks_tail (mm_ks_tail a3))) a4
  | ishr =>
    intro a1 a2 a3 a4
    obtain ⟨x, y, r, rfl, h1⟩ := mi_pII h
    exact hk _ _ _ h1 a1 a2 (mm_ks_cons trivial (mm_ks_tail (mm_ks_tail a3))) a4
  | iushr =>
    intro a1 a2 a3 a4
    obtain ⟨x, y, r, rfl, h1⟩ := mi_pII h
    exact hk _ _ _ h1 a1 a2 (mm_ks_cons trivial (mm_ks_tail (mm_ks_tail a3))) a4
  | idiv =>
    intro a1 a2 a3 a4
    obtain ⟨x, y, r, rfl, h1⟩ := mi_pII h
    by_cases hy0 : y = 0
    · rw [if_pos hy0] at h1; cases h1
    · rw [if_neg hy0] at h1; exact hk _ _ _ h1 a1 a2 (mm_ks_cons trivial (mm_ks_tail (mm_ks_tail a3))) a4
  | irem =>
    intro a1 a2 a3 a4
    obtain ⟨x, y, r, rfl, h1⟩ := mi_pII h
    by_cases hy0 : y = 0
    · rw [if_pos hy0] at h1; cases h1
    · rw [if_neg hy0] at h1; exact hk _ _ _ h1 a1 a2 (mm_ks_cons trivial (mm_ks_tail (mm_ks_tail a3))) a4
  | ladd =>
    intro a1 a2 a3 a4
    obtain ⟨x, y, r, rfl, h1⟩ := mi_pJJ h
    exact hk _ _ _ h1 a1 a2 (mm_ks_cons trivial (mm_ks_tail (mm_ks_tail a3))) a4
  | lsub =>
    intro a1 a2 a3 a4
    obtain ⟨x, y, r, rfl, h1⟩ := mi_pJJ h
    exact hk _ _ _ h1 a1 a2 (mm_ks_cons trivial (mm_ks_tail (mm_ks_tail a3))) a4
  | lmul =>
    intro a1 a2 a3 a4
    obtain ⟨x, y, r, rfl, h1⟩ := mi_pJJ h
    exact hk _ _ _ h1 a1 a2 (mm_ks_cons trivial (mm_ks_tail (mm_ks_tail a3))) a4
  | land =>
    intro a1 a2 a3 a4
    obtain ⟨x, y, r, rfl, h1⟩ := mi_pJJ h
    exact hk _ _ _ h1 a1 a2 (mm_ks_cons trivial (mm_ks_tail (mm_ks_tail a3))) a4
  | lor =>
    intro a1 a2 a3 a4
    obtain ⟨x, y, r, rfl, h1⟩ := mi_pJJ h
    exact hk _ _ _ h1 a1 a2 (mm_ks_cons trivial (mm_ks_tail (mm_ks_tail a3))) a4
  | lcmp =>
    intro a1 a2 a3 a4
    obtain ⟨x, y, r, rfl, h1⟩ := mi_pJJ h
    exact hk _ _ _ h1 a1 a2 (mm_ks_cons trivial (mm_ks_tail (mm_ks_tail a3))) a4
  | ldiv =>
    intro a1 a2 a3 a4
    obtain ⟨x, y, r, rfl, h1⟩ := mi_pJJ h
    by_cases hy0 : y = 0
    · rw [if_pos hy0] at h1; cases h1
    · rw [if_neg hy0] at h1; exact hk _ _ _ h1 a1 a2 (mm_ks_cons trivial (mm_ks_tail (mm_ks_tail a3))) a4
  | lrem =>
    intro a1 a2 a3 a4
    obtain ⟨x, y, r, rfl, h1⟩ := mi_pJJ h
    by_cases hy0 : y = 0
    · rw [if_pos hy0] at h1; cases h1
    · rw [if_neg hy0] at h1; exact hk _ _ _ h1 a1 a2 (mm_ks_cons trivial (mm_ks_tail (mm_ks_tail a3))) a4
  | lshl =>
    intro a1 a2 a3 a4
    obtain ⟨x, y, r, rfl, h1⟩ := mi_pJI h
    exact hk _ _ _ h1 a1 a2 (mm_ks_cons trivial (mm_ks_tail (mm_ks_tail a3))) a4
  | lushr =>
    intro a1 a2 a3 a4
    obtain ⟨x, y, r, rfl, h1⟩ := mi_pJI h
    exact hk _ _ _ h1 a1 a2 (mm_ks_cons trivial (mm_ks_tail (mm_ks_tail a3))) a4
  | ineg =>
    intro a1 a2 a3 a4
    obtain ⟨x, r, rfl, h1⟩ := mi_pI h
    exact hk _ _ _ h1 a1 a2 (mm_ks_cons trivial (mm_ks_tail a3)) a4
  | i2l =>
    intro a1 a2 a3 a4
    obtain ⟨x, r, rfl, h1⟩ := mi_pI h
    exact hk _ _ _ h1 a1 a2 (mm_ks_cons trivial (mm_ks_tail a3)) a4
  | l2i =>
    intro a1 a2 a3 a4
    obtain ⟨x, r, rfl, h1⟩ := mi_pJ h
    exact hk _ _ _ h1 a1 a2 (mm_ks_cons trivial (mm_ks_tail a3)) a4
  | dup =>
    intro a1 a2 a3 a4
    obtain ⟨x, r, rfl, hc9, h1⟩ := mi_p1 h
    exact hk _ _ _ h1 a1 a2 (mm_ks_cons (mm_ks_head a3) a3) a4
  | pop =>
    intro a1 a2 a3 a4
    obtain ⟨x, r, rfl, hc9, h1⟩ := mi_p1 h
    exact hk _ _ _ h1 a1 a2 (mm_ks_tail a3) a4
  | dup2 =>
    intro a1 a2 a3 a4
    obtain ⟨x, y, r, rfl, hc8, hc9, h1⟩ := mi_p11 h
    exact hk _ _ _ h1 a1 a2 (mm_ks_cons (mm_ks_head a3) (mm_ks_cons (mm_ks_head (mm_ks_tail a3)) a3)) a4
  | goto o9 =>
    intro a1 a2 a3 a4
    exact hg _ _ _ _ h a1 a2 a3 a4
  | ifCond q9 o9 =>
    intro a1 a2 a3 a4
    obtain ⟨x, r, rfl, h1⟩ := mi_pI h
    rcases mi_br h1 with h2 | h2
    · exact hg _ _ _ _ h2 a1 a2 (mm_ks_tail a3) a4
    · exact hk _ _ _ h2 a1 a2 (mm_ks_tail a3) a4
  | if_icmp q9 o9 =>
    intro a1 a2 a3 a4
    obtain ⟨x, y, r, rfl, h1⟩ := mi_pII h
    rcases mi_br h1 with h2 | h2
    · exact hg _ _ _ _ h2 a1 a2 (mm_ks_tail (mm_ks_tail a3)) a4
    · exact hk _ _ _ h2 a1 a2 (mm_ks_tail (mm_ks_tail a3)) a4
  | ifnull o9 =>
    intro a1 a2 a3 a4
    rcases mi_pN h with ⟨x, r, rfl, h1⟩ | ⟨r, rfl, h1⟩
    · exact hk _ _ _ h1 a1 a2 (mm_ks_tail a3) a4
    · exact hg _ _ _ _ h1 a1 a2 (mm_ks_tail a3) a4
  | ifnonnull o9 =>
    intro a1 a2 a3 a4
    rcases mi_pN h with ⟨x, r, rfl, h1⟩ | ⟨r, rfl, h1⟩
    · exact hg _ _ _ _ h1 a1 a2 (mm_ks_tail a3) a4
    · exact hk _ _ _ h1 a1 a2 (mm_ks_tail a3) a4
  | tableswitch d9 lo hi offs =>
    intro a1 a2 a3 a4
    obtain ⟨x, r, rfl, h1⟩ := mi_pI h
    rcases mm_sw_in _ h1 with ⟨j, q, -, -, -, h4⟩ | ⟨-, h4⟩
    · exact hg _ _ _ _ h4 a1 a2 (mm_ks_tail a3) a4
    · exact hg _ _ _ _ h4 a1 a2 (mm_ks_tail a3) a4
  | lookupswitch d9 ps9 =>
    intro a1 a2 a3 a4
    obtain ⟨x, r, rfl, h1⟩ := mi_pI h
    rcases mm_sw_in _ h1 with ⟨j, q, -, -, -, h4⟩ | ⟨-, h4⟩
    · exact hg _ _ _ _ h4 a1 a2 (mm_ks_tail a3) a4
    · exact hg _ _ _ _ h4 a1 a2 (mm_ks_tail a3) a4
  | ireturn =>
    intro a1 a2 a3 a4
    obtain ⟨x, r, rfl, h1⟩ := mi_pI h
    cases r with
    | cons z zs => cases h1
    | nil =>
      cases b with
      | zero =>
        cases h1
        exact ⟨a1, Nat.le_refl _, Nat.le_refl _, fun z hz => by cases hz; trivial⟩
      | succ b =>
        by_cases h0 : x = 0
        · simp only [h0] at h1
          cases h1
          exact ⟨a1, Nat.le_refl _, Nat.le_refl _, fun z hz => by cases hz; trivial⟩
        · by_cases h2 : x = 1
          · subst h2
            cases h1
            exact ⟨a1, Nat.le_refl _, Nat.le_refl _, fun z hz => by cases hz; trivial⟩
          · simp only [if_neg h0, if_neg h2] at h1
            cases h1
  | lreturn =>
    intro a1 a2 a3 a4
    obtain ⟨x, r, rfl, h1⟩ := mi_pJ h
    cases r with
    | cons z zs => cases h1
    | nil =>
      cases h1
      exact ⟨a1, Nat.le_refl _, Nat.le_refl _, fun z hz => by cases hz; trivial⟩
  | areturn =>
    intro a1 a2 a3 a4
    obtain ⟨x, r, rfl, h1⟩ := mi_pR h
    cases r with
    | cons z zs => cases h1
    | nil =>
      cases h1
      exact ⟨a1, Nat.le_refl _, Nat.le_refl _, fun z hz => by cases hz; exact mm_ks_head a3⟩
  | return_ =>
    intro a1 a2 a3 a4
    cases K with
    | cons z zs => cases h
    | nil =>
      cases h
      exact ⟨a1, Nat.le_refl _, Nat.le_refl _, fun z hz => by cases hz⟩
  | getfield idx =>
    intro a1 a2 a3 a4
    cases hq : mm_cl[a]? with
    | none => simp only [mm_okI, hq] at hok; cases hok
    | some q =>
      obtain ⟨o, r, rfl, h1⟩ := mi_pR h
      obtain ⟨ho, h2⟩ := mi_cond h1
      have ho := mm_obj_eq ho
      have h16 := mm_s_lt hY ho hq
      rcases (show c9 % 4 = 0 ∨ c9 % 4 = 1 ∨ c9 % 4 = 2 ∨ c9 % 4 = 3 by omega) with h4 | h4 | h4 | h4
      · simp only [h4] at h2; exact hk _ _ _ h2 a1 a2 (mm_ks_cons trivial (mm_ks_tail a3)) a4
      · simp only [h4] at h2; exact hk _ _ _ h2 a1 a2 (mm_ks_cons trivial (mm_ks_tail a3)) a4
      · simp only [h4] at h2; exact hk _ _ _ h2 a1 a2 (mm_ks_cons (mm_okv_rv fun b9 hb9 => a1.2 o b b9 h16 (mm_ks_head a3) hb9) (mm_ks_tail a3)) a4
      · simp only [h4] at h2; exact hk _ _ _ h2 a1 a2 (mm_ks_cons trivial (mm_ks_tail a3)) a4
  | putfield idx =>
    intro a1 a2 a3 a4
    rcases (show c9 % 4 = 0 ∨ c9 % 4 = 1 ∨ c9 % 4 = 2 ∨ c9 % 4 = 3 by omega) with h4 | h4 | h4 | h4
    · simp only [mm_sem, h4] at h
      obtain ⟨x, r1, rfl, h1⟩ := mi_pI h
      obtain ⟨o, r, rfl, h2⟩ := mi_pR h1
      obtain ⟨ho, h3⟩ := mi_cond h2
      have z9 := hk _ _ _ h3; exact z9 a1 a2 (mm_ks_tail (mm_ks_tail a3)) a4
    · simp only [mm_sem, h4] at h
      obtain ⟨x, r1, rfl, h1⟩ := mi_pJ h
      obtain ⟨o, r, rfl, h2⟩ := mi_pR h1
      obtain ⟨ho, h3⟩ := mi_cond h2
      have z9 := hk _ _ _ h3; exact z9 a1 a2 (mm_ks_tail (mm_ks_tail a3)) a4
    · simp only [mm_sem, h4] at h
      obtain ⟨x, r1, rfl, h1⟩ := mi_pR h
      obtain ⟨o, r, rfl, h2⟩ := mi_pR h1
      obtain ⟨ho, h3⟩ := mi_cond h2
      rw [Bool.and_eq_true] at ho
      have z9 := hk _ _ _ h3; exact z9 (mm_wf_wP a1 (mm_ks_head a3) ho.2) a2 (mm_ks_tail (mm_ks_tail a3)) a4
    · simp only [mm_sem, h4] at h
      obtain ⟨x, r1, rfl, h1⟩ := mi_pI h
      obtain ⟨o, r, rfl, h2⟩ := mi_pR h1
      obtain ⟨ho, h3⟩ := mi_cond h2
      by_cases h0 : x = 0
      · rw [if_pos h0] at h3; have z9 := hk _ _ _ h3; exact z9 a1 a2 (mm_ks_tail (mm_ks_tail a3)) a4
      · by_cases h5 : x = 1
        · rw [if_neg h0, if_pos h5] at h3; have z9 := hk _ _ _ h3; exact z9 a1 a2 (mm_ks_tail (mm_ks_tail a3)) a4
        · rw [if_neg h0, if_neg h5] at h3; cases h3
  | getstatic idx =>
    intro a1 a2 a3 a4
    obtain ⟨-, ha9⟩ := of_decide_eq_true hok
    exact hk _ _ _ h a1 a2 (mm_ks_cons (show a < M.2.1 by omega) a3) a4
  | arraylength =>
    intro a1 a2 a3 a4
    obtain ⟨o, r, rfl, h1⟩ := mi_pR h
    cases ho : mm_s Y M o with
    | inl ci => simp only [ho] at h1; cases h1
    | inr q =>
      simp only [ho] at h1
      obtain ⟨hty, h2⟩ := mi_cond h1
      exact hk _ _ _ h2 a1 a2 (mm_ks_cons trivial (mm_ks_tail a3)) a4
  | iaload =>
    intro a1 a2 a3 a4
    obtain ⟨o, i9, r, rfl, h1⟩ := mi_pRI h
    obtain ⟨n9, ho, h2⟩ := mi_bind h1
    obtain ⟨hi, h3⟩ := mi_cond h2
    exact hk _ _ _ h3 a1 a2 (mm_ks_cons trivial (mm_ks_tail (mm_ks_tail a3))) a4
  | baload =>
    intro a1 a2 a3 a4
    obtain ⟨o, i9, r, rfl, h1⟩ := mi_pRI h
    obtain ⟨n9, ho, h2⟩ := mi_bind h1
    obtain ⟨hi, h3⟩ := mi_cond h2
    exact hk _ _ _ h3 a1 a2 (mm_ks_cons trivial (mm_ks_tail (mm_ks_tail a3))) a4
  | caload =>
    intro a1 a2 a3 a4
    obtain ⟨o, i9, r, rfl, h1⟩ := mi_pRI h
    obtain ⟨n9, ho, h2⟩ := mi_bind h1
    obtain ⟨hi, h3⟩ := mi_cond h2
    exact hk _ _ _ h3 a1 a2 (mm_ks_cons trivial (mm_ks_tail (mm_ks_tail a3))) a4
  | laload =>
    intro a1 a2 a3 a4
    obtain ⟨o, i9, r, rfl, h1⟩ := mi_pRI h
    obtain ⟨n9, ho, h2⟩ := mi_bind h1
    obtain ⟨hi, h3⟩ := mi_cond h2
    exact hk _ _ _ h3 a1 a2 (mm_ks_cons trivial (mm_ks_tail (mm_ks_tail a3))) a4
  | aaload =>
    intro a1 a2 a3 a4
    obtain ⟨o, i9, r, rfl, h1⟩ := mi_pRI h
    obtain ⟨n9, ho, h2⟩ := mi_bind h1
    obtain ⟨hi, h3⟩ := mi_cond h2
    rw [Bool.and_eq_true] at hi
    exact hk _ _ _ h3 a1 a2 (mm_ks_cons (mm_okv_rv fun b9 hb9 => a1.2 o _ b9 (Nat.le_of_ble_eq_true hi.2) (mm_ks_head (mm_ks_tail a3)) hb9) (mm_ks_tail (mm_ks_tail a3))) a4
  | iastore =>
    intro a1 a2 a3 a4
    obtain ⟨o, i9, x, r, rfl, h1⟩ := mi_pRII h
    obtain ⟨n9, ho, h2⟩ := mi_bind h1
    obtain ⟨hi, h3⟩ := mi_cond h2
    have z9 := hk _ _ _ h3; exact z9 a1 a2 (mm_ks_tail (mm_ks_tail (mm_ks_tail a3))) a4
  | bastore =>
    intro a1 a2 a3 a4
    obtain ⟨o, i9, x, r, rfl, h1⟩ := mi_pRII h
    obtain ⟨n9, ho, h2⟩ := mi_bind h1
    obtain ⟨hi, h3⟩ := mi_cond h2
    have z9 := hk _ _ _ h3; exact z9 a1 a2 (mm_ks_tail (mm_ks_tail (mm_ks_tail a3))) a4
  | lastore =>
    intro a1 a2 a3 a4
    obtain ⟨o, i9, x, r, rfl, h1⟩ := mi_pRIJ h
    obtain ⟨n9, ho, h2⟩ := mi_bind h1
    obtain ⟨hi, h3⟩ := mi_cond h2
    have z9 := hk _ _ _ h3; exact z9 a1 a2 (mm_ks_tail (mm_ks_tail (mm_ks_tail a3))) a4
  | aastore =>
    intro a1 a2 a3 a4
    obtain ⟨o, i9, x, r, rfl, h1⟩ := mi_pRIR h
    obtain ⟨n9, ho, h2⟩ := mi_bind h1
    obtain ⟨hi, h3⟩ := mi_cond h2
    simp only [Bool.and_eq_true] at hi
    obtain ⟨hi1, ⟨hi2, hi3, hi4⟩, hi5⟩ := hi
    have z9 := hk _ _ _ h3; exact z9 (mm_wf_wP a1 (mm_ks_head a3) hi4) a2 (mm_ks_tail (mm_ks_tail (mm_ks_tail a3))) a4
  | newarray at9 =>
    intro a1 a2 a3 a4
    obtain ⟨x, r, rfl, h1⟩ := mi_pI h
    obtain ⟨hi, h2⟩ := mi_cond h1
    exact mm_Po_le (hk _ _ _ h2 (mm_new_wf a1) (Nat.le_succ_of_le a2) (mm_ks_cons (Nat.lt_succ_self _) (mm_ks_le (mm_ks_tail a3) (Nat.le_succ _))) (fun i v hv => mm_okv_le (a4 i v hv) (Nat.le_succ _))) (Nat.le_succ _) (Nat.le_add_right _ _)
  | anewarray idx =>
    intro a1 a2 a3 a4
    obtain ⟨x, r, rfl, h1⟩ := mi_pI h
    obtain ⟨hi, h2⟩ := mi_cond h1
    exact mm_Po_le (hk _ _ _ h2 (mm_new_wf a1) (Nat.le_succ_of_le a2) (mm_ks_cons (Nat.lt_succ_self _) (mm_ks_le (mm_ks_tail a3) (Nat.le_succ _))) (fun i v hv => mm_okv_le (a4 i v hv) (Nat.le_succ _))) (Nat.le_succ _) (Nat.le_add_right _ _)
  | new idx =>
    intro a1 a2 a3 a4
    cases hz : mm_size[a]? with
    | none => simp only [mm_sem, hz] at h; cases h
    | some z =>
      simp only [mm_sem, hz] at h
      obtain ⟨hi, h2⟩ := mi_cond h
      exact mm_Po_le (hk _ _ _ h2 (mm_new_wf a1) (Nat.le_succ_of_le a2) (mm_ks_cons (Nat.lt_succ_self _) (mm_ks_le a3 (Nat.le_succ _))) (fun i v hv => mm_okv_le (a4 i v hv) (Nat.le_succ _))) (Nat.le_succ _) (Nat.le_add_right _ _)
  | invokevirtual idx =>
    exact mp_inv hcall h hk
  | invokestatic idx =>
    by_cases h4 : (c9 / 4) % 4 = 2
    · simp only [mm_sem, h4] at h
      intro a1 a2 a3 a4
      unfold mm_copy at h
      split at h
      · obtain ⟨x1, rfl, h1⟩ := mi_asR h
        obtain ⟨x2, rfl, h2⟩ := mi_asR h1
        obtain ⟨nb, hb1, h3⟩ := mi_bind h2
        obtain ⟨na, ha1, h5⟩ := mi_bind h3
        obtain ⟨hi, h6⟩ := mi_cond h5
        have z9 := hk _ _ _ h6; exact z9 a1 a2 (mm_ks_tail (mm_ks_tail (mm_ks_tail (mm_ks_tail (mm_ks_tail a3))))) a4
      · cases h
    · have h1 : mm_invS call a b (c9 % 4) L K M k = some res := by
        rcases (show (c9 / 4) % 4 = 0 ∨ (c9 / 4) % 4 = 1 ∨ (c9 / 4) % 4 = 3 by omega) with e4 | e4 | e4 <;> simpa only [mm_sem, e4] using h
      exact mp_invS hcall h1 hk
  | invokespecial idx =>
    by_cases h4 : (c9 / 4) % 4 = 2
    · simp only [mm_sem, h4] at h
      intro a1 a2 a3 a4
      obtain ⟨o, rest, rfl, h1⟩ := mi_pR h
      obtain ⟨hi, h2⟩ := mi_cond h1
      exact hk _ _ _ h2 a1 a2 (mm_ks_tail a3) a4
    · have h1 : mm_inv Y call a b 0 (c9 / 16) L K M k = some res := by
        rcases (show (c9 / 4) % 4 = 0 ∨ (c9 / 4) % 4 = 1 ∨ (c9 / 4) % 4 = 3 by omega) with e4 | e4 | e4 <;> simpa only [mm_sem, e4] using h
      exact mp_inv hcall h1 hk
  | _ => cases h
end
section
/-- an entry of the code is right -/
def mm_okE (mth : List mmT) (nest : List Cond) (y : mmT) (e : mmE) : Prop := decode y.2.1 e.1 = .ok (e.2.1, e.2.2.1) ∧ mm_okI mth y.1.cls y.1.name y.2.2.2 y.2.2.1 e.1 e.2.1 e.2.2.1 e.2.2.2.1 e.2.2.2.2.1 e.2.2.2.2.2.1 e.2.2.2.2.2.2.1 e.2.2.2.2.2.2.2 = true ∧ (∀ z ∈ mm_wds mth y.1.cls e.2.1 e.2.2.2.1 e.2.2.2.2.1 e.2.2.2.2.2.1 e.2.2.2.2.2.2.1, z ∈ mm_gw) ∧ ∀ z ∈ mm_nwd mth y.1.cls e.2.1 e.2.2.2.1 e.2.2.2.2.1 e.2.2.2.2.2.1, z ∈ nest
theorem mm_at_in {t : Nat} : ∀ (es : List mmE), (∀ e ∈ mm_at t es, e ∈ es) ∧ ∀ e r, mm_at t es = e :: r → e.1 = t
  | [] => ⟨fun e h => h, fun e r h => by cases h⟩
  | x :: es => by
    obtain ⟨h1, h2⟩ := mm_at_in es
    have hc : mm_at t (x :: es) = cond (Nat.beq x.1 t) (x :: es) (mm_at t es) := rfl
    rw [hc]
    cases hb : Nat.beq x.1 t with
    | true => exact ⟨fun e h => h, fun e r h => by cases h; exact Nat.eq_of_beq_eq_true hb⟩
    | false => exact ⟨fun e h => List.mem_cons_of_mem _ (h1 e h), h2⟩
theorem mx_nil {Y : mmY} {call : mmC} {cs : List (Nat × List Bool)} {j : mmG} {pf : Nat} {L : mmL} {K : List Value} {M : mmM} : mm_ex Y call cs j pf [] L K M = none := by cases pf <;> rfl
theorem mx_cons {Y : mmY} {call : mmC} {cs : List (Nat × List Bool)} {j : mmG} {pf : Nat} {e : mmE} {r : List mmE} {L : mmL} {K : List Value} {M : mmM} : mm_ex Y call cs j (pf + 1) (e :: r) L K M = mm_sem Y call e.2.1 e.2.2.2.1 e.2.2.2.2.1 e.2.2.2.2.2.1 e.2.2.2.2.2.2.1 e.2.2.2.2.2.2.2 L K M
        (fun L K M => match mm_cut cs (e.1 + e.2.2.1) with
          | some m => j (e.1 + e.2.2.1) (mm_msk m L) K M
          | none => mm_ex Y call cs j pf (mm_at (e.1 + e.2.2.1) r) L K M)
        (fun t L K M => match mm_cut cs t with
          | some m => j t (mm_msk m L) K M
          | none => mm_ex Y call cs j pf (mm_at t r) L K M) := rfl
section MX
variable {p : Program} {l : Launch} {e : Env} {R : Room} {s : State} {m : MethodId} {args : Array Value} {below : List Frame} {meth : Method} {c : Code} {D : va_G} {cA : Nat → ClassId} {Y : mmY} {A : Nat → Prop} {nL n0 z0 : Nat} {ρ0 : Nat → Nat} {cc : ByteArray} {pc : Nat} {L : mmL} {M : mmM}
variable {own nm : String} {rt : Option FieldType} {Ts nest : List Cond} {mth : List mmT} {d : Nat} {M0 : mmM} {res : mmR} {call : mmC}
theorem mx_msk {t : Nat} {k : List Bool} {K : List Value} (h : mm_Gd p l e R s m args below meth c (MQ below (mm_Qc D cA Y ρ0 M0 res.1 res.2 s.heap.size) args s (res.2.2.1 - n0) (res.2.2.2.1 - z0) A) D cA Y A nL n0 z0 ρ0 res.2 t (mm_msk k L) K M) : mm_Gd p l e R s m args below meth c (MQ below (mm_Qc D cA Y ρ0 M0 res.1 res.2 s.heap.size) args s (res.2.2.1 - n0) (res.2.2.2.1 - z0) A) D cA Y A nL n0 z0 ρ0 res.2 t L K M := by
  intro a1 a2 a3 a4 a5
  obtain ⟨h1, h2⟩ := h a1 a2 a3 a4 (mm_msk_lk k a5)
  exact ⟨h1, fun ρ H locs ls hr hP hD hS hl => h2 ρ H locs ls hr hP hD hS (mm_msk_ok k hl)⟩
theorem mx_ex (hx : p.tables.exec = Jvm.exec) (hb : c.code = cc) (hml : c.maxLocals = nL) (hown : s.vm.findClass own = some m.cls) (hlocks : meth.locks = false) (hrt : meth.sig.returnType = rt) (hnm : nm = "<init>" → meth.name = "<init>") (hTs : ∀ w ∈ mm_gw, w ∈ Ts) (hts : ∀ w ∈ Ts, w.before args s = true) (hY : mm_wfY Y) (hK : va_K D mm_cl (mm_tysA cA) s) (hnest : ∀ w ∈ nest, mm_isN w = true) (h16n : 16 ≤ n0) (hA0 : A = va_A (mm_enc cA ρ0 Y M0) s.heap.size) (hM0 : M0.2.1 = n0) (hA : ∀ q, s.heap.size ≤ q → A q) (hT : mm_cnT Y ρ0 A s s.heap) (hZ : mm_cnZ ρ0 A s s.heap) (hN : mm_cnN nest s) (hO : va_AO RX0 s) (h5 : mm_c5 cA s) (hlay : ∀ (ci : Nat) (q : vw_C), mm_cl[ci]? = some q → ∀ w ∈ u_ws q.1 q.2.1 q.2.2, w ∈ mm_gw) (hcode : ∀ (j : Nat) (y : mmT), mth[j]? = some y → Cond.code y.1 y.2.1 y.2.2.1 y.2.2.2 ∈ mm_gw ∧ y.2.2.1 ≤ 41) (hRc : res.2.2.1 - n0 ≤ R.cells) (hRs : res.2.2.2.1 - z0 ≤ R.slots) (hRf : d + 1 ≤ R.frames) (hRl : 60 * (d + 1) + 200 ≤ R.locals) (hcall : ∀ (j : Nat) (as : List Value) (M : mmM) (v : Option Value) (M' : mmM), call j as M = some (v, M') → mm_wf Y M → 16 ≤ M.2.1 → mm_ks M.2.1 as → mm_Call l D cA Y nest mth d j as M v M') {cs : List (Nat × List Bool)} {j : mmG} (hj : ∀ (t : Nat) (L : mmL) (K : List Value) (M : mmM), j t L K M = some res → mm_Gd p l e R s m args below meth c (MQ below (mm_Qc D cA Y ρ0 M0 res.1 res.2 s.heap.size) args s (res.2.2.1 - n0) (res.2.2.2.1 - z0) A) D cA Y A nL n0 z0 ρ0 res.2 t L K M) : ∀ (pf : Nat) (e9 : mmE) (es : List mmE), (∀ e ∈ e9 :: es, mm_okE mth nest (⟨own, nm, ""⟩, cc, nL, rt) e) → ∀ (L : mmL) (K : List Value) (M : mmM), mm_ex Y call cs j pf (e9 :: es) L K M = some res → mm_Gd p l e R s m args below meth c (MQ below (mm_Qc D cA Y ρ0 M0 res.1 res.2 s.heap.size) args s (res.2.2.1 - n0) (res.2.2.2.1 - z0) A) D cA Y A nL n0 z0 ρ0 res.2 e9.1 L K M := by
  intro pf
  induction pf with
  | zero => intro e9 es _ L K M h; cases h
  | succ pf ih =>
    intro e9 es hes L K M h
    obtain ⟨o1, o2, o3, o4⟩ := hes e9 List.mem_cons_self
    have hgo : ∀ (t : Nat) (L' : mmL) (K' : List Value) (M' : mmM), (match mm_cut cs t with | some m => j t (mm_msk m L') K' M' | none => mm_ex Y call cs j pf (mm_at t es) L' K' M') = some res → mm_Gd p l e R s m args below meth c (MQ below (mm_Qc D cA Y ρ0 M0 res.1 res.2 s.heap.size) args s (res.2.2.1 - n0) (res.2.2.2.1 - z0) A) D cA Y A nL n0 z0 ρ0 res.2 t L' K' M' := by
      intro t L' K' M' h9
      cases hc : mm_cut cs t with
      | some k => rw [hc] at h9; exact mx_msk (hj _ _ _ _ h9)
      | none =>
        rw [hc] at h9
        simp only at h9
        obtain ⟨m1, m2⟩ := mm_at_in (t := t) es
        cases hm : mm_at t es with
        | nil => rw [hm, mx_nil] at h9; cases h9
        | cons e8 r8 =>
          rw [hm] at h9 m1
          rw [← m2 e8 r8 hm]
          exact ih e8 r8 (fun e he => hes e (List.mem_cons_of_mem _ (m1 e he))) _ _ _ h9
    rw [mx_cons] at h
    exact mm_sem_ok hx hb hml hown hlocks hrt hnm hTs hts hY hK hnest h16n hA0 hM0 hA hT hZ hN hO h5 hlay hcode hRc hRs hRf hRl hcall o1 o2 o3 o4 h (fun L' K' M' h9 => hgo _ _ _ _ h9) (fun t L' K' M' h9 => hgo t _ _ _ h9)
theorem mx_lp (hx : p.tables.exec = Jvm.exec) (hb : c.code = cc) (hml : c.maxLocals = nL) (hown : s.vm.findClass own = some m.cls) (hlocks : meth.locks = false) (hrt : meth.sig.returnType = rt) (hnm : nm = "<init>" → meth.name = "<init>") (hTs : ∀ w ∈ mm_gw, w ∈ Ts) (hts : ∀ w ∈ Ts, w.before args s = true) (hY : mm_wfY Y) (hK : va_K D mm_cl (mm_tysA cA) s) (hnest : ∀ w ∈ nest, mm_isN w = true) (h16n : 16 ≤ n0) (hA0 : A = va_A (mm_enc cA ρ0 Y M0) s.heap.size) (hM0 : M0.2.1 = n0) (hA : ∀ q, s.heap.size ≤ q → A q) (hT : mm_cnT Y ρ0 A s s.heap) (hZ : mm_cnZ ρ0 A s s.heap) (hN : mm_cnN nest s) (hO : va_AO RX0 s) (h5 : mm_c5 cA s) (hlay : ∀ (ci : Nat) (q : vw_C), mm_cl[ci]? = some q → ∀ w ∈ u_ws q.1 q.2.1 q.2.2, w ∈ mm_gw) (hcode : ∀ (j : Nat) (y : mmT), mth[j]? = some y → Cond.code y.1 y.2.1 y.2.2.1 y.2.2.2 ∈ mm_gw ∧ y.2.2.1 ≤ 41) (hRc : res.2.2.1 - n0 ≤ R.cells) (hRs : res.2.2.2.1 - z0 ≤ R.slots) (hRf : d + 1 ≤ R.frames) (hRl : 60 * (d + 1) + 200 ≤ R.locals) (hcall : ∀ (j : Nat) (as : List Value) (M : mmM) (v : Option Value) (M' : mmM), call j as M = some (v, M') → mm_wf Y M → 16 ≤ M.2.1 → mm_ks M.2.1 as → mm_Call l D cA Y nest mth d j as M v M') {cs : List (Nat × List Bool)} {code : List mmE} (hes : ∀ e ∈ code, mm_okE mth nest (⟨own, nm, ""⟩, cc, nL, rt) e) : ∀ (N t : Nat) (L : mmL) (K : List Value) (M : mmM), mm_lp Y call code cs N t L K M = some res → mm_Gd p l e R s m args below meth c (MQ below (mm_Qc D cA Y ρ0 M0 res.1 res.2 s.heap.size) args s (res.2.2.1 - n0) (res.2.2.2.1 - z0) A) D cA Y A nL n0 z0 ρ0 res.2 t L K M := by
  intro N
  induction N with
  | zero => intro t L K M h; cases h
  | succ N ih =>
    intro t L K M h
    have h9 : mm_ex Y call cs (mm_lp Y call code cs N) 1200 (mm_at t code) L K M = some res := h
    obtain ⟨m1, m2⟩ := mm_at_in (t := t) code
    cases hm : mm_at t code with
    | nil => rw [hm, mx_nil] at h9; cases h9
    | cons e8 r8 =>
      rw [hm] at h9 m1
      rw [← m2 e8 r8 hm]
      exact mx_ex hx hb hml hown hlocks hrt hnm hTs hts hY hK hnest h16n hA0 hM0 hA hT hZ hN hO h5 hlay hcode hRc hRs hRf hRl hcall ih 1200 e8 r8 (fun e he => hes e (m1 e he)) _ _ _ h9
end MX

theorem mxp_msk {Y : mmY} {res : mmR} {k : List Bool} {L : mmL} {K : List Value} {M : mmM} (h : mm_Pu Y res (mm_msk k L) K M) : mm_Pu Y res L K M := fun a1 a2 a3 a4 => h a1 a2 a3 (mm_msk_lk k a4)
theorem mxp_ex {Y : mmY} {call : mmC} {res : mmR} {mth : List mmT} {nest : List Cond} {y : mmT} (hY : mm_wfY Y) (hcall : ∀ (j : Nat) (as : List Value) (M : mmM) (v : Option Value) (M' : mmM), call j as M = some (v, M') → mm_wf Y M → 16 ≤ M.2.1 → mm_ks M.2.1 as → mm_Po Y (v, M') M.2.1 M.2.2.1) {cs : List (Nat × List Bool)} {j : mmG} (hj : ∀ (t : Nat) (L : mmL) (K : List Value) (M : mmM), j t L K M = some res → mm_Pu Y res L K M) : ∀ (pf : Nat) (es : List mmE), (∀ e ∈ es, mm_okE mth nest y e) → ∀ (L : mmL) (K : List Value) (M : mmM), mm_ex Y call cs j pf es L K M = some res → mm_Pu Y res L K M := by
  intro pf
  induction pf with
  | zero => intro es _ L K M h; cases h
  | succ pf ih =>
    intro es hes L K M h
    cases es with
    | nil => cases h
    | cons e9 es =>
      obtain ⟨o1, o2, o3, o4⟩ := hes e9 List.mem_cons_self
      have hgo : ∀ (t : Nat) (L' : mmL) (K' : List Value) (M' : mmM), (match mm_cut cs t with | some m => j t (mm_msk m L') K' M' | none => mm_ex Y call cs j pf (mm_at t es) L' K' M') = some res → mm_Pu Y res L' K' M' := by
        intro t L' K' M' h9
        cases hc : mm_cut cs t with
        | some k => rw [hc] at h9; exact mxp_msk (hj _ _ _ _ h9)
        | none =>
          rw [hc] at h9
          exact ih _ (fun e he => hes e (List.mem_cons_of_mem _ ((mm_at_in (t := t) es).1 e he))) _ _ _ h9
      rw [mx_cons] at h
      exact mp_sem hY hcall o2 h (fun L' K' M' h9 => hgo _ _ _ _ h9) (fun t L' K' M' h9 => hgo t _ _ _ h9)
theorem mxp_lp {Y : mmY} {call : mmC} {res : mmR} {mth : List mmT} {nest : List Cond} {y : mmT} (hY : mm_wfY Y) (hcall : ∀ (j : Nat) (as : List Value) (M : mmM) (v : Option Value) (M' : mmM), call j as M = some (v, M') → mm_wf Y M → 16 ≤ M.2.1 → mm_ks M.2.1 as → mm_Po Y (v, M') M.2.1 M.2.2.1) {cs : List (Nat × List Bool)} {code : List mmE} (hes : ∀ e ∈ code, mm_okE mth nest y e) : ∀ (N t : Nat) (L : mmL) (K : List Value) (M : mmM), mm_lp Y call code cs N t L K M = some res → mm_Pu Y res L K M := by
  intro N
  induction N with
  | zero => intro t L K M h; cases h
  | succ N ih =>
    intro t L K M h
    have h9 : mm_ex Y call cs (mm_lp Y call code cs N) 1200 (mm_at t code) L K M = some res := h
    exact mxp_ex hY hcall ih 1200 _ (fun e he => hes e ((mm_at_in (t := t) code).1 e he)) _ _ _ h9
theorem mm_fl_at {ρ : Nat → Nat} : ∀ (k : Nat) (as : List Value) (i : Nat) (v : Value), (mm_fl as)[i]? = some (some v) → (k + i, mm_tr ρ v) ∈ lv_args k (as.map (mm_tr ρ)) ∧ v ∈ as
  | k, [], i, v, h => by simp [mm_fl] at h
  | k, w :: as, i, v, h => by
    have key1 : ∀ (hc : ¬ w.category = 2) (hf : mm_fl (w :: as) = some w :: mm_fl as), (k + i, mm_tr ρ v) ∈ lv_args k ((w :: as).map (mm_tr ρ)) ∧ v ∈ w :: as := by
      intro hc hf
      rw [hf] at h
      have hcat : ¬ (mm_tr ρ w).category = 2 := by cases w <;> exact hc
      simp only [List.map_cons, lv_args, if_neg hcat]
      cases i with
      | zero => cases h; exact ⟨List.mem_cons_self, List.mem_cons_self⟩
      | succ i =>
        rw [List.getElem?_cons_succ] at h
        obtain ⟨a1, a2⟩ := mm_fl_at (ρ := ρ) (k + 1) as i v h
        exact ⟨List.mem_cons_of_mem _ (by rw [show k + (i + 1) = k + 1 + i by omega]; exact a1), List.mem_cons_of_mem _ a2⟩
    have key2 : ∀ (hc : w.category = 2) (hf : mm_fl (w :: as) = some w :: none :: mm_fl as), (k + i, mm_tr ρ v) ∈ lv_args k ((w :: as).map (mm_tr ρ)) ∧ v ∈ w :: as := by
      intro hc hf
      rw [hf] at h
      have hcat : (mm_tr ρ w).category = 2 := by cases w <;> exact hc
      simp only [List.map_cons, lv_args, if_pos hcat]
      match i, h with
      | 0, h => cases h; exact ⟨List.mem_cons_self, List.mem_cons_self⟩
      | 1, h => cases h
      | i + 2, h =>
        rw [List.getElem?_cons_succ, List.getElem?_cons_succ] at h
        obtain ⟨a1, a2⟩ := mm_fl_at (ρ := ρ) (k + 2) as i v h
        exact ⟨List.mem_cons_of_mem _ (by rw [show k + (i + 2) = k + 2 + i by omega]; exact a1), List.mem_cons_of_mem _ a2⟩
    cases w with
    | long x => exact key2 rfl rfl
    | double x => exact key2 rfl rfl
    | int x => exact key1 (by simp [Value.category]) rfl
    | float x => exact key1 (by simp [Value.category]) rfl
    | null => exact key1 (by simp [Value.category]) rfl
    | ref x => exact key1 (by simp [Value.category]) rfl
    | retAddr x => exact key1 (by simp [Value.category]) rfl
theorem mm_fl_len : ∀ (as : List Value), (mm_fl as).length = mm_cat as
  | [] => rfl
  | w :: as => by
    have ih := mm_fl_len as
    have hc : mm_cat (w :: as) = w.category + mm_cat as := by simp [mm_cat]
    rw [hc]
    cases w <;> simp [mm_fl, ih, Value.category] <;> omega
theorem mm_sl_len (ρ : Nat → Nat) : ∀ (as : List Value), (lg_sl (as.map (mm_tr ρ))).length = mm_cat as
  | [] => rfl
  | w :: as => by
    have ih := mm_sl_len ρ as
    have hc : mm_cat (w :: as) = w.category + mm_cat as := by simp [mm_cat]
    rw [hc]
    unfold lg_sl at ih ⊢
    rw [List.map_cons, List.flatMap_cons, List.length_append, ih]
    cases w <;> simp [mm_tr, Value.category]
theorem mm_ent_at {n : Nat} {as : List Value} {i : Nat} {v : Value} (h : (mm_ent n as)[i]? = some (some v)) : (mm_fl as)[i]? = some (some v) := by
  unfold mm_ent at h
  rw [List.getElem?_append] at h
  split at h
  · exact h
  · rw [List.getElem?_replicate] at h
    split at h <;> cases h
theorem mm_ent_lk {n k : Nat} {as : List Value} (h : mm_ks n as) : mm_lk n (mm_ent k as) := fun i v hv => h v (mm_fl_at (ρ := id) 0 as i v (mm_ent_at hv)).2
theorem mm_ent_len {n : Nat} {as : List Value} (h : mm_cat as ≤ n) : (mm_ent n as).length = n := by
  unfold mm_ent
  rw [List.length_append, List.length_replicate, mm_fl_len]
  omega
/-- a method and its code fit -/
def mm_okP (mth : List mmT) (nest : List Cond) (prog : List mmP) : Prop := ∀ (i : Nat) (q : mmP), prog[i]? = some q → ∃ y, mth[i]? = some y ∧ plainName y.1.cls = true ∧ q.2.2 = y.2.2.1 ∧ (∃ e r, q.1 = e :: r ∧ e.1 = 0) ∧ ∀ e ∈ q.1, mm_okE mth nest y e
theorem mm_okE_ren {mth : List mmT} {nest : List Cond} {y : mmT} {e : mmE} (h : mm_okE mth nest y e) : mm_okE mth nest (⟨y.1.cls, y.1.name, ""⟩, y.2.1, y.2.2.1, y.2.2.2) e := h
theorem mv_run {l : Launch} {D : va_G} {cA : Nat → ClassId} {Y : mmY} {nest : List Cond} {mth : List mmT} {prog : List mmP} {N d : Nat} {call : mmC} (hY : mm_wfY Y) (hnest : ∀ w ∈ nest, mm_isN w = true) (hlay : ∀ (ci : Nat) (q : vw_C), mm_cl[ci]? = some q → ∀ w ∈ u_ws q.1 q.2.1 q.2.2, w ∈ mm_gw) (hcode : ∀ (j : Nat) (y : mmT), mth[j]? = some y → Cond.code y.1 y.2.1 y.2.2.1 y.2.2.2 ∈ mm_gw ∧ y.2.2.1 ≤ 41) (hprog : mm_okP mth nest prog)
    (hcall : ∀ (j : Nat) (as : List Value) (M : mmM) (v : Option Value) (M' : mmM), call j as M = some (v, M') → mm_wf Y M → 16 ≤ M.2.1 → mm_ks M.2.1 as → mm_Call l D cA Y nest mth d j as M v M') {i : Nat} {as : List Value} {M M' : mmM} {v : Option Value} (h : mm_run Y prog N call i as M = some (v, M')) (hw : mm_wf Y M) (h16 : 16 ≤ M.2.1) (hks : mm_ks M.2.1 as) : mm_Call l D cA Y nest mth (d + 1) i as M v M' := by
  unfold mm_run at h
  cases hq : prog[i]? with
  | none => rw [hq] at h; cases h
  | some q =>
    rw [hq] at h
    simp only at h
    obtain ⟨hcat, h⟩ := mi_cond h
    have hcat := Nat.le_of_ble_eq_true hcat
    obtain ⟨y, hy, hpl, hnl, ⟨e0, r0, he0, hpc0⟩, hes⟩ := hprog i q hq
    have hpu : mm_Pu Y (v, M') (mm_ent q.2.2 as) [] M := mxp_ex hY (fun j a2 m2 v2 m3 h2 h3 h4 h5 => (hcall j a2 m2 v2 m3 h2 h3 h4 h5).1) (mxp_lp hY (fun j a2 m2 v2 m3 h2 h3 h4 h5 => (hcall j a2 m2 v2 m3 h2 h3 h4 h5).1) hes N) 1200 q.1 hes _ _ _ h
    obtain ⟨p1, p2, p3, p4⟩ := hpu hw h16 (fun x hx => by cases hx) (mm_ent_lk hks)
    refine ⟨⟨p1, p2, p3, p4⟩, fun y2 hy2 ρ sz => ?_⟩
    have e2 : y2 = y := Option.some.inj (hy2.symm.trans hy)
    subst e2
    refine Met.ofW (cc := y2.2.1) (maxL := y2.2.2.1) (ret := y2.2.2.2) hpl rfl ?_
    intro p e s m args below meth c s₁ B hml hv
    obtain ⟨rfl, hsz, hP, hK, hD0, hT, hZ, hN, hO, h5⟩ := hv
    have hts := atoms_spec (ws := mm_ww y2) B.pre
    subst hsz
    have hD := hD0.self (sz := s.heap.size)
    have hl := lv_entry (as.map (mm_tr ρ)) (n := y2.2.2.1) (by rw [mm_sl_len, ← hnl]; exact hcat)
    rw [lg_entry_eq]
    generalize (lg_sl (as.map (mm_tr ρ)) ++ List.replicate (y2.2.2.1 - (lg_sl (as.map (mm_tr ρ))).length) Slot.unset).toArray = ls at hl ⊢
    have hlc : mm_lc ρ M.2.1 (mm_ent q.2.2 as) ls y2.2.2.1 := by
      refine ⟨hl.1, hl.2.1, by rw [mm_ent_len hcat, hnl]; exact Nat.le_refl _, fun j x hx => ?_⟩
      obtain ⟨a1, a2⟩ := mm_fl_at (ρ := ρ) 0 as j x (mm_ent_at hx)
      rw [Nat.zero_add] at a1
      exact ⟨hl.2.2 _ a1, hks x a2⟩
    have hgd := mx_ex (res := (v, M')) (M0 := M) (R := mm_rm (d + 1) (M'.2.1 - M.2.1) (M'.2.2.1 - M.2.2.1)) (z0 := M.2.2.1) (Ts := mm_ww y2) (own := y2.1.cls) (nm := y2.1.name) (rt := y2.2.2.2) (A := va_A (mm_enc cA ρ Y M) s.heap.size) (ρ0 := ρ) (e := e) (below := below) B.exec B.bytes hml (findClass_of_methodNamed B.named) B.notSynchronized B.returns (fun hnm => by rw [(name_of_methodNamed B.named B.method).1]; exact hnm) (fun w hw9 => List.mem_cons_of_mem _ hw9) hts hY hK hnest h16 rfl rfl (fun q9 hq9 => Or.inr hq9) hT hZ hN hO h5 hlay hcode (Nat.le_refl _) (Nat.le_refl _) (Nat.le_refl _) (Nat.le_refl _) hcall
      (mx_lp (res := (v, M')) (M0 := M) (R := mm_rm (d + 1) (M'.2.1 - M.2.1) (M'.2.2.1 - M.2.2.1)) (z0 := M.2.2.1) (Ts := mm_ww y2) (own := y2.1.cls) (nm := y2.1.name) (rt := y2.2.2.2) (A := va_A (mm_enc cA ρ Y M) s.heap.size) (ρ0 := ρ) (e := e) (below := below) B.exec B.bytes hml (findClass_of_methodNamed B.named) B.notSynchronized B.returns (fun hnm => by rw [(name_of_methodNamed B.named B.method).1]; exact hnm) (fun w hw9 => List.mem_cons_of_mem _ hw9) hts hY hK hnest h16 rfl rfl (fun q9 hq9 => Or.inr hq9) hT hZ hN hO h5 hlay hcode (Nat.le_refl _) (Nat.le_refl _) (Nat.le_refl _) (Nat.le_refl _) hcall (fun e9 he9 => mm_okE_ren (hes e9 he9)) N) 1200 e0 r0 (fun e9 he9 => mm_okE_ren (hes e9 (by rw [he0]; exact he9))) (mm_ent q.2.2 as) [] M (by rw [← he0]; exact h)
    have hfin := (hgd hw (Nat.le_refl _) (Nat.le_refl _) (fun x hx => by cases hx) (mm_ent_lk hks)).2 ρ s.heap [] ls (fun _ _ => rfl) hP hD va_S.rf hlc
    rw [Nat.sub_self, Nat.sub_self, hpc0] at hfin
    exact hfin
/-- WHAT THE SMALL MACHINE EVALUATES, THE REAL ONE RUNS -/
theorem mv_ev {l : Launch} {D : va_G} {cA : Nat → ClassId} {Y : mmY} {nest : List Cond} {mth : List mmT} {prog : List mmP} {N : Nat} (hY : mm_wfY Y) (hnest : ∀ w ∈ nest, mm_isN w = true) (hlay : ∀ (ci : Nat) (q : vw_C), mm_cl[ci]? = some q → ∀ w ∈ u_ws q.1 q.2.1 q.2.2, w ∈ mm_gw) (hcode : ∀ (j : Nat) (y : mmT), mth[j]? = some y → Cond.code y.1 y.2.1 y.2.2.1 y.2.2.2 ∈ mm_gw ∧ y.2.2.1 ≤ 41) (hprog : mm_okP mth nest prog) : ∀ (d i : Nat) (as : List Value) (M : mmM) (v : Option Value) (M' : mmM), mm_ev Y prog N d i as M = some (v, M') → mm_wf Y M → 16 ≤ M.2.1 → mm_ks M.2.1 as → mm_Call l D cA Y nest mth d i as M v M' := by
  intro d
  induction d with
  | zero => intro i as M v M' h; cases h
  | succ d ih => intro i as M v M' h hw h16 hks; exact mv_run hY hnest hlay hcode hprog ih h hw h16 hks
end
section
def cd_X0_init : mmP := ([(0, .aload_n 0, 1, 0, 0, 0, .null, []),
  (1, .invokespecial 3, 3, 0, 0, 8, .null, []),
  (4, .aload_n 0, 1, 0, 0, 0, .null, []),
  (5, .iconst 4, 1, 0, 0, 0, .int 4, []),
  (6, .newarray .int, 2, 0, 0, 0, .null, []),
  (8, .putfield 9, 3, 0, 9, 2, .null, []),
  (11, .aload_n 0, 1, 0, 0, 0, .null, []),
  (12, .iconst 4, 1, 0, 0, 0, .int 4, []),
  (13, .newarray .int, 2, 0, 0, 0, .null, []),
  (15, .putfield 15, 3, 0, 10, 2, .null, []),
  (18, .return_, 1, 0, 0, 0, .null, [])], [], 1)
def cd_X0_begin : mmP := ([(0, .aload_n 0, 1, 0, 0, 0, .null, []),
  (1, .invokevirtual 18, 3, 2, 0, 0, .null, []),
  (4, .aload_n 0, 1, 0, 0, 0, .null, []),
  (5, .aload_n 1, 1, 1, 0, 0, .null, []),
  (6, .iconst 0, 1, 0, 0, 0, .int 0, []),
  (7, .iconst 0, 1, 0, 0, 0, .int 0, []),
  (8, .iconst 1, 1, 0, 0, 0, .int 1, []),
  (9, .invokevirtual 21, 3, 94, 3, 161, .null, []),
  (12, .putfield 27, 3, 0, 4, 0, .null, []),
  (15, .aload_n 0, 1, 0, 0, 0, .null, []),
  (16, .aload_n 1, 1, 1, 0, 0, .null, []),
  (17, .iconst 0, 1, 0, 0, 0, .int 0, []),
  (18, .iconst 0, 1, 0, 0, 0, .int 0, []),
  (19, .iconst 3, 1, 0, 0, 0, .int 3, []),
  (20, .invokevirtual 21, 3, 94, 3, 161, .null, []),
  (23, .putfield 31, 3, 0, 5, 0, .null, []),
  (26, .aload_n 0, 1, 0, 0, 0, .null, []),
  (27, .iconst 0, 1, 0, 0, 0, .int 0, []),
  (28, .putfield 34, 3, 0, 6, 0, .null, []),
  (31, .aload_n 0, 1, 0, 0, 0, .null, []),
  (32, .iconst 0, 1, 0, 0, 0, .int 0, []),
  (33, .putfield 37, 3, 0, 7, 0, .null, []),
  (36, .aload_n 0, 1, 0, 0, 0, .null, []),
  (37, .iconst 0, 1, 0, 0, 0, .int 0, []),
  (38, .putfield 40, 3, 0, 8, 0, .null, []),
  (41, .iconst 0, 1, 0, 0, 0, .int 0, []),
  (42, .istore_n 2, 1, 2, 0, 0, .null, []),
  (43, .iload_n 2, 1, 2, 0, 0, .null, []),
  (44, .aload_n 0, 1, 0, 0, 0, .null, []),
  (45, .getfield 15, 3, 0, 10, 2, .null, []),
  (48, .arraylength, 1, 0, 0, 0, .null, []),
  (49, .if_icmp .ge 22, 3, 71, 0, 0, .null, []),
  (52, .aload_n 0, 1, 0, 0, 0, .null, []),
  (53, .getfield 15, 3, 0, 10, 2, .null, []),
  (56, .iload_n 2, 1, 2, 0, 0, .null, []),
  (57, .aload_n 1, 1, 1, 0, 0, .null, []),
  (58, .iconst 1, 1, 0, 0, 0, .int 1, []),
  (59, .iload_n 2, 1, 2, 0, 0, .null, []),
  (60, .iconst 0, 1, 0, 0, 0, .int 0, []),
  (61, .invokevirtual 21, 3, 94, 3, 161, .null, []),
  (64, .iastore, 1, 0, 0, 0, .null, []),
  (65, .iinc 2 1, 3, 2, 0, 0, .int 1, []),
  (68, .goto (-25), 3, 43, 0, 0, .null, []),
  (71, .return_, 1, 0, 0, 0, .null, [])], [(43, [true, true, true])], 3)
def cd_X0_beginMorning : mmP := ([(0, .aload_n 0, 1, 0, 0, 0, .null, []),
  (1, .iconst 0, 1, 0, 0, 0, .int 0, []),
  (2, .putfield 43, 3, 0, 0, 0, .null, []),
  (5, .aload_n 0, 1, 0, 0, 0, .null, []),
  (6, .iconst 0, 1, 0, 0, 0, .int 0, []),
  (7, .putfield 46, 3, 0, 1, 0, .null, []),
  (10, .aload_n 0, 1, 0, 0, 0, .null, []),
  (11, .iconst 0, 1, 0, 0, 0, .int 0, []),
  (12, .putfield 49, 3, 0, 2, 0, .null, []),
  (15, .aload_n 0, 1, 0, 0, 0, .null, []),
  (16, .iconst 0, 1, 0, 0, 0, .int 0, []),
  (17, .putfield 52, 3, 0, 3, 0, .null, []),
  (20, .aload_n 0, 1, 0, 0, 0, .null, []),
  (21, .getfield 9, 3, 0, 9, 2, .null, []),
  (24, .iconst 0, 1, 0, 0, 0, .int 0, []),
  (25, .invokestatic 55, 3, 306, 2, 0, .null, []),
  (28, .return_, 1, 0, 0, 0, .null, [])], [], 1)
def cd_X0_copyFrom : mmP := ([(0, .aload_n 0, 1, 0, 0, 0, .null, []),
  (1, .aload_n 1, 1, 1, 0, 0, .null, []),
  (2, .getfield 43, 3, 0, 0, 0, .null, []),
  (5, .putfield 43, 3, 0, 0, 0, .null, []),
  (8, .aload_n 0, 1, 0, 0, 0, .null, []),
  (9, .aload_n 1, 1, 1, 0, 0, .null, []),
  (10, .getfield 46, 3, 0, 1, 0, .null, []),
  (13, .putfield 46, 3, 0, 1, 0, .null, []),
  (16, .aload_n 0, 1, 0, 0, 0, .null, []),
  (17, .aload_n 1, 1, 1, 0, 0, .null, []),
  (18, .getfield 49, 3, 0, 2, 0, .null, []),
  (21, .putfield 49, 3, 0, 2, 0, .null, []),
  (24, .aload_n 0, 1, 0, 0, 0, .null, []),
  (25, .aload_n 1, 1, 1, 0, 0, .null, []),
  (26, .getfield 52, 3, 0, 3, 0, .null, []),
  (29, .putfield 52, 3, 0, 3, 0, .null, []),
  (32, .aload_n 0, 1, 0, 0, 0, .null, []),
  (33, .aload_n 1, 1, 1, 0, 0, .null, []),
  (34, .getfield 27, 3, 0, 4, 0, .null, []),
  (37, .putfield 27, 3, 0, 4, 0, .null, []),
  (40, .aload_n 0, 1, 0, 0, 0, .null, []),
  (41, .aload_n 1, 1, 1, 0, 0, .null, []),
  (42, .getfield 31, 3, 0, 5, 0, .null, []),
  (45, .putfield 31, 3, 0, 5, 0, .null, []),
  (48, .aload_n 0, 1, 0, 0, 0, .null, []),
  (49, .aload_n 1, 1, 1, 0, 0, .null, []),
  (50, .getfield 34, 3, 0, 6, 0, .null, []),
  (53, .putfield 34, 3, 0, 6, 0, .null, []),
  (56, .aload_n 0, 1, 0, 0, 0, .null, []),
  (57, .aload_n 1, 1, 1, 0, 0, .null, []),
  (58, .getfield 37, 3, 0, 7, 0, .null, []),
  (61, .putfield 37, 3, 0, 7, 0, .null, []),
  (64, .aload_n 0, 1, 0, 0, 0, .null, []),
  (65, .aload_n 1, 1, 1, 0, 0, .null, []),
  (66, .getfield 40, 3, 0, 8, 0, .null, []),
  (69, .putfield 40, 3, 0, 8, 0, .null, []),
  (72, .aload_n 1, 1, 1, 0, 0, .null, []),
  (73, .getfield 9, 3, 0, 9, 2, .null, []),
  (76, .iconst 0, 1, 0, 0, 0, .int 0, []),
  (77, .aload_n 0, 1, 0, 0, 0, .null, []),
  (78, .getfield 9, 3, 0, 9, 2, .null, []),
  (81, .iconst 0, 1, 0, 0, 0, .int 0, []),
  (82, .aload_n 0, 1, 0, 0, 0, .null, []),
  (83, .getfield 9, 3, 0, 9, 2, .null, []),
  (86, .arraylength, 1, 0, 0, 0, .null, []),
  (87, .invokestatic 61, 3, 0, 0, 8, .null, []),
  (90, .aload_n 1, 1, 1, 0, 0, .null, []),
  (91, .getfield 15, 3, 0, 10, 2, .null, []),
  (94, .iconst 0, 1, 0, 0, 0, .int 0, []),
  (95, .aload_n 0, 1, 0, 0, 0, .null, []),
  (96, .getfield 15, 3, 0, 10, 2, .null, []),
  (99, .iconst 0, 1, 0, 0, 0, .int 0, []),
  (100, .aload_n 0, 1, 0, 0, 0, .null, []),
  (101, .getfield 15, 3, 0, 10, 2, .null, []),
  (104, .arraylength, 1, 0, 0, 0, .null, []),
  (105, .invokestatic 61, 3, 0, 0, 8, .null, []),
  (108, .return_, 1, 0, 0, 0, .null, [])], [], 2)
def cd_X0_tiredOf : mmP := ([(0, .iload_n 1, 1, 1, 0, 0, .null, []),
  (1, .ifCond .lt 21, 3, 22, 0, 0, .null, []),
  (4, .iload_n 1, 1, 1, 0, 0, .null, []),
  (5, .aload_n 0, 1, 0, 0, 0, .null, []),
  (6, .getfield 9, 3, 0, 9, 2, .null, []),
  (9, .arraylength, 1, 0, 0, 0, .null, []),
  (10, .if_icmp .ge 12, 3, 22, 0, 0, .null, []),
  (13, .aload_n 0, 1, 0, 0, 0, .null, []),
  (14, .getfield 9, 3, 0, 9, 2, .null, []),
  (17, .iload_n 1, 1, 1, 0, 0, .null, []),
  (18, .iaload, 1, 0, 0, 0, .null, []),
  (19, .goto 4, 3, 23, 0, 0, .null, []),
  (22, .iconst 0, 1, 0, 0, 0, .int 0, []),
  (23, .ireturn, 1, 0, 0, 0, .null, [])], [], 2)
def cd_X0_wristOf : mmP := ([(0, .iload_n 1, 1, 1, 0, 0, .null, []),
  (1, .ifCond .lt 21, 3, 22, 0, 0, .null, []),
  (4, .iload_n 1, 1, 1, 0, 0, .null, []),
  (5, .aload_n 0, 1, 0, 0, 0, .null, []),
  (6, .getfield 15, 3, 0, 10, 2, .null, []),
  (9, .arraylength, 1, 0, 0, 0, .null, []),
  (10, .if_icmp .ge 12, 3, 22, 0, 0, .null, []),
  (13, .aload_n 0, 1, 0, 0, 0, .null, []),
  (14, .getfield 15, 3, 0, 10, 2, .null, []),
  (17, .iload_n 1, 1, 1, 0, 0, .null, []),
  (18, .iaload, 1, 0, 0, 0, .null, []),
  (19, .goto 4, 3, 23, 0, 0, .null, []),
  (22, .iconst 0, 1, 0, 0, 0, .int 0, []),
  (23, .ireturn, 1, 0, 0, 0, .null, [])], [], 2)
def cd_X0_tire : mmP := ([(0, .iload_n 1, 1, 1, 0, 0, .null, []),
  (1, .ifCond .lt 22, 3, 23, 0, 0, .null, []),
  (4, .iload_n 1, 1, 1, 0, 0, .null, []),
  (5, .aload_n 0, 1, 0, 0, 0, .null, []),
  (6, .getfield 9, 3, 0, 9, 2, .null, []),
  (9, .arraylength, 1, 0, 0, 0, .null, []),
  (10, .if_icmp .ge 13, 3, 23, 0, 0, .null, []),
  (13, .aload_n 0, 1, 0, 0, 0, .null, []),
  (14, .getfield 9, 3, 0, 9, 2, .null, []),
  (17, .iload_n 1, 1, 1, 0, 0, .null, []),
  (18, .dup2, 1, 0, 0, 0, .null, []),
  (19, .iaload, 1, 0, 0, 0, .null, []),
  (20, .iload_n 2, 1, 2, 0, 0, .null, []),
  (21, .iadd, 1, 0, 0, 0, .null, []),
  (22, .iastore, 1, 0, 0, 0, .null, []),
  (23, .return_, 1, 0, 0, 0, .null, [])], [], 3)
def cd_X0_strengthen : mmP := ([(0, .iload_n 1, 1, 1, 0, 0, .null, []),
  (1, .ifCond .lt 22, 3, 23, 0, 0, .null, []),
  (4, .iload_n 1, 1, 1, 0, 0, .null, []),
  (5, .aload_n 0, 1, 0, 0, 0, .null, []),
  (6, .getfield 15, 3, 0, 10, 2, .null, []),
  (9, .arraylength, 1, 0, 0, 0, .null, []),
  (10, .if_icmp .ge 13, 3, 23, 0, 0, .null, []),
  (13, .aload_n 0, 1, 0, 0, 0, .null, []),
  (14, .getfield 15, 3, 0, 10, 2, .null, []),
  (17, .iload_n 1, 1, 1, 0, 0, .null, []),
  (18, .dup2, 1, 0, 0, 0, .null, []),
  (19, .iaload, 1, 0, 0, 0, .null, []),
  (20, .iconst 1, 1, 0, 0, 0, .int 1, []),
  (21, .iadd, 1, 0, 0, 0, .null, []),
  (22, .iastore, 1, 0, 0, 0, .null, []),
  (23, .return_, 1, 0, 0, 0, .null, [])], [], 2)
def cd_X1_init : mmP := ([(0, .aload_n 0, 1, 0, 0, 0, .null, []),
  (1, .invokespecial 1, 3, 0, 0, 8, .null, []),
  (4, .return_, 1, 0, 0, 0, .null, [])], [], 1)
def cd_X1_begin : mmP := ([(0, .aload_n 0, 1, 0, 0, 0, .null, []),
  (1, .lload_n 1, 1, 1, 0, 0, .null, []),
  (2, .putfield 7, 3, 1, 0, 1, .null, []),
  (5, .return_, 1, 0, 0, 0, .null, [])], [], 3)
def cd_X1_below : mmP := ([(0, .aload_n 0, 1, 0, 0, 0, .null, []),
  (1, .aload_n 0, 1, 0, 0, 0, .null, []),
  (2, .getfield 7, 3, 1, 0, 1, .null, []),
  (5, .ldc2_w 13, 3, 0, 0, 0, .long 6364136223846793005, []),
  (8, .lmul, 1, 0, 0, 0, .null, []),
  (9, .ldc2_w 15, 3, 0, 0, 0, .long 1442695040888963407, []),
  (12, .ladd, 1, 0, 0, 0, .null, []),
  (13, .putfield 7, 3, 1, 0, 1, .null, []),
  (16, .iload_n 1, 1, 1, 0, 0, .null, []),
  (17, .ifCond .le 17, 3, 34, 0, 0, .null, []),
  (20, .aload_n 0, 1, 0, 0, 0, .null, []),
  (21, .getfield 7, 3, 1, 0, 1, .null, []),
  (24, .bipush 33, 2, 0, 0, 0, .int 33, []),
  (26, .lushr, 1, 0, 0, 0, .null, []),
  (27, .iload_n 1, 1, 1, 0, 0, .null, []),
  (28, .i2l, 1, 0, 0, 0, .null, []),
  (29, .lrem, 1, 0, 0, 0, .null, []),
  (30, .l2i, 1, 0, 0, 0, .null, []),
  (31, .goto 4, 3, 35, 0, 0, .null, []),
  (34, .iconst 0, 1, 0, 0, 0, .int 0, []),
  (35, .ireturn, 1, 0, 0, 0, .null, [])], [], 2)
def cd_X2_init : mmP := ([(0, .aload_n 0, 1, 0, 0, 0, .null, []),
  (1, .invokespecial 3, 3, 0, 0, 8, .null, []),
  (4, .aload_n 0, 1, 0, 0, 0, .null, []),
  (5, .new 9, 3, 10, 0, 0, .null, []),
  (8, .dup, 1, 0, 0, 0, .null, []),
  (9, .invokespecial 11, 3, 83, 0, 164, .null, []),
  (12, .putfield 12, 3, 2, 1, 2, .null, []),
  (15, .aload_n 0, 1, 0, 0, 0, .null, []),
  (16, .aload_n 1, 1, 1, 0, 0, .null, []),
  (17, .putfield 18, 3, 2, 0, 2, .null, []),
  (20, .return_, 1, 0, 0, 0, .null, [])], [], 2)
def cd_X2_read : mmP := ([(0, .aload_n 0, 1, 0, 0, 0, .null, []),
  (1, .getfield 12, 3, 2, 1, 2, .null, []),
  (4, .areturn, 1, 0, 0, 0, .null, [])], [], 1)
def cd_X2_firstFault : mmP := ([(0, .aload_n 0, 1, 0, 0, 0, .null, []),
  (1, .getfield 12, 3, 2, 1, 2, .null, []),
  (4, .invokevirtual 22, 3, 84, 0, 160, .null, []),
  (7, .aload_n 0, 1, 0, 0, 0, .null, []),
  (8, .getfield 18, 3, 2, 0, 2, .null, []),
  (11, .invokevirtual 25, 3, 74, 0, 144, .null, []),
  (14, .iconst 0, 1, 0, 0, 0, .int 0, []),
  (15, .istore_n 1, 1, 1, 0, 0, .null, []),
  (16, .iload_n 1, 1, 1, 0, 0, .null, []),
  (17, .sipush 240, 3, 0, 0, 0, .int 240, []),
  (20, .if_icmp .gt 39, 3, 59, 0, 0, .null, []),
  (23, .aload_n 0, 1, 0, 0, 0, .null, []),
  (24, .invokevirtual 30, 3, 14, 0, 33, .null, []),
  (27, .ifCond .ne 11, 3, 38, 0, 0, .null, []),
  (30, .aload_n 0, 1, 0, 0, 0, .null, []),
  (31, .getfield 18, 3, 2, 0, 2, .null, []),
  (34, .invokevirtual 34, 3, 75, 0, 145, .null, []),
  (37, .ireturn, 1, 0, 0, 0, .null, []),
  (38, .aload_n 0, 1, 0, 0, 0, .null, []),
  (39, .getfield 18, 3, 2, 0, 2, .null, []),
  (42, .bipush 59, 2, 0, 0, 0, .int 59, []),
  (44, .invokevirtual 38, 3, 79, 1, 145, .null, []),
  (47, .ifCond .ne 6, 3, 53, 0, 0, .null, []),
  (50, .goto 9, 3, 59, 0, 0, .null, []),
  (53, .iinc 1 1, 3, 1, 0, 0, .int 1, []),
  (56, .goto (-40), 3, 16, 0, 0, .null, []),
  (59, .aload_n 0, 1, 0, 0, 0, .null, []),
  (60, .getfield 12, 3, 2, 1, 2, .null, []),
  (63, .iconst 1, 1, 0, 0, 0, .int 1, []),
  (64, .invokevirtual 42, 3, 86, 1, 161, .null, []),
  (67, .ifCond .le 18, 3, 85, 0, 0, .null, []),
  (70, .aload_n 0, 1, 0, 0, 0, .null, []),
  (71, .getfield 12, 3, 2, 1, 2, .null, []),
  (74, .iconst 2, 1, 0, 0, 0, .int 2, []),
  (75, .invokevirtual 42, 3, 86, 1, 161, .null, []),
  (78, .ifCond .le 7, 3, 85, 0, 0, .null, []),
  (81, .iconst 1, 1, 0, 0, 0, .int 1, []),
  (82, .goto 4, 3, 86, 0, 0, .null, []),
  (85, .iconst 0, 1, 0, 0, 0, .int 0, []),
  (86, .istore_n 1, 1, 1, 0, 0, .null, []),
  (87, .aload_n 0, 1, 0, 0, 0, .null, []),
  (88, .getfield 18, 3, 2, 0, 2, .null, []),
  (91, .invokevirtual 46, 3, 76, 0, 145, .null, []),
  (94, .iconst (-1), 1, 0, 0, 0, .int (-1), []),
  (95, .if_icmp .ne 11, 3, 106, 0, 0, .null, []),
  (98, .iload_n 1, 1, 1, 0, 0, .null, []),
  (99, .ifCond .eq 7, 3, 106, 0, 0, .null, []),
  (102, .iconst (-1), 1, 0, 0, 0, .int (-1), []),
  (103, .goto 10, 3, 113, 0, 0, .null, []),
  (106, .aload_n 0, 1, 0, 0, 0, .null, []),
  (107, .getfield 18, 3, 2, 0, 2, .null, []),
  (110, .invokevirtual 34, 3, 75, 0, 145, .null, []),
  (113, .ireturn, 1, 0, 0, 0, .null, [])], [(16, [true, true])], 2)
def cd_X2_isClauseNext : mmP := ([(0, .aload_n 0, 1, 0, 0, 0, .null, []),
  (1, .getfield 18, 3, 2, 0, 2, .null, []),
  (4, .invokevirtual 46, 3, 76, 0, 145, .null, []),
  (7, .invokestatic 49, 3, 88, 1, 1, .null, []),
  (10, .istore_n 1, 1, 1, 0, 0, .null, []),
  (11, .iload_n 1, 1, 1, 0, 0, .null, []),
  (12, .iconst (-1), 1, 0, 0, 0, .int (-1), []),
  (13, .if_icmp .eq 14, 3, 27, 0, 0, .null, []),
  (16, .aload_n 0, 1, 0, 0, 0, .null, []),
  (17, .getfield 12, 3, 2, 1, 2, .null, []),
  (20, .iload_n 1, 1, 1, 0, 0, .null, []),
  (21, .invokevirtual 52, 3, 87, 1, 161, .null, []),
  (24, .ifCond .eq 5, 3, 29, 0, 0, .null, []),
  (27, .iconst 0, 1, 0, 0, 0, .int 0, []),
  (28, .ireturn, 1, 0, 1, 0, .null, []),
  (29, .aload_n 0, 1, 0, 0, 0, .null, []),
  (30, .getfield 18, 3, 2, 0, 2, .null, []),
  (33, .invokevirtual 56, 3, 77, 0, 144, .null, []),
  (36, .aload_n 0, 1, 0, 0, 0, .null, []),
  (37, .getfield 12, 3, 2, 1, 2, .null, []),
  (40, .iload_n 1, 1, 1, 0, 0, .null, []),
  (41, .invokevirtual 59, 3, 91, 1, 161, .null, []),
  (44, .istore_n 2, 1, 2, 0, 0, .null, []),
  (45, .iconst 0, 1, 0, 0, 0, .int 0, []),
  (46, .istore_n 3, 1, 3, 0, 0, .null, []),
  (47, .iconst 0, 1, 0, 0, 0, .int 0, []),
  (48, .istore 4, 2, 4, 0, 0, .null, []),
  (50, .iload 4, 2, 4, 0, 0, .null, []),
  (52, .sipush 240, 3, 0, 0, 0, .int 240, []),
  (55, .if_icmp .gt 68, 3, 123, 0, 0, .null, []),
  (58, .iload_n 1, 1, 1, 0, 0, .null, []),
  (59, .aload_n 0, 1, 0, 0, 0, .null, []),
  (60, .getfield 18, 3, 2, 0, 2, .null, []),
  (63, .invokevirtual 46, 3, 76, 0, 145, .null, []),
  (66, .invokestatic 62, 3, 89, 2, 1, .null, []),
  (69, .istore 5, 2, 5, 0, 0, .null, []),
  (71, .iload 5, 2, 5, 0, 0, .null, []),
  (73, .iconst (-1), 1, 0, 0, 0, .int (-1), []),
  (74, .if_icmp .ne 5, 3, 79, 0, 0, .null, []),
  (77, .iconst 1, 1, 0, 0, 0, .int 1, []),
  (78, .ireturn, 1, 0, 1, 0, .null, []),
  (79, .iload_n 3, 1, 3, 0, 0, .null, []),
  (80, .iload 5, 2, 5, 0, 0, .null, []),
  (82, .ishr, 1, 0, 0, 0, .null, []),
  (83, .iconst 1, 1, 0, 0, 0, .int 1, []),
  (84, .iand, 1, 0, 0, 0, .null, []),
  (85, .ifCond .eq 5, 3, 90, 0, 0, .null, []),
  (88, .iconst 0, 1, 0, 0, 0, .int 0, []),
  (89, .ireturn, 1, 0, 1, 0, .null, []),
  (90, .iload_n 3, 1, 3, 0, 0, .null, []),
  (91, .iconst 1, 1, 0, 0, 0, .int 1, []),
  (92, .iload 5, 2, 5, 0, 0, .null, []),
  (94, .ishl, 1, 0, 0, 0, .null, []),
  (95, .ior, 1, 0, 0, 0, .null, []),
  (96, .istore_n 3, 1, 3, 0, 0, .null, []),
  (97, .aload_n 0, 1, 0, 0, 0, .null, []),
  (98, .getfield 18, 3, 2, 0, 2, .null, []),
  (101, .invokevirtual 56, 3, 77, 0, 144, .null, []),
  (104, .aload_n 0, 1, 0, 0, 0, .null, []),
  (105, .iload_n 1, 1, 1, 0, 0, .null, []),
  (106, .iload_n 2, 1, 2, 0, 0, .null, []),
  (107, .iload 5, 2, 5, 0, 0, .null, []),
  (109, .invokevirtual 66, 3, 15, 3, 33, .null, []),
  (112, .ifCond .ne 5, 3, 117, 0, 0, .null, []),
  (115, .iconst 0, 1, 0, 0, 0, .int 0, []),
  (116, .ireturn, 1, 0, 1, 0, .null, []),
  (117, .iinc 4 1, 3, 4, 0, 0, .int 1, []),
  (120, .goto (-70), 3, 50, 0, 0, .null, []),
  (123, .iconst 1, 1, 0, 0, 0, .int 1, []),
  (124, .ireturn, 1, 0, 1, 0, .null, [])], [(50, [true, true, true, true, true, false])], 6)
def cd_X2_isValueNext : mmP := ([(0, .aload_n 0, 1, 0, 0, 0, .null, []),
  (1, .getfield 18, 3, 2, 0, 2, .null, []),
  (4, .invokevirtual 46, 3, 76, 0, 145, .null, []),
  (7, .invokestatic 70, 3, 82, 1, 1, .null, []),
  (10, .ifCond .eq 14, 3, 24, 0, 0, .null, []),
  (13, .aload_n 0, 1, 0, 0, 0, .null, []),
  (14, .getfield 18, 3, 2, 0, 2, .null, []),
  (17, .iconst 2, 1, 0, 0, 0, .int 2, []),
  (18, .invokevirtual 73, 3, 80, 1, 145, .null, []),
  (21, .goto 4, 3, 25, 0, 0, .null, []),
  (24, .iconst (-1), 1, 0, 0, 0, .int (-1), []),
  (25, .istore 4, 2, 4, 0, 0, .null, []),
  (27, .iload 4, 2, 4, 0, 0, .null, []),
  (29, .iconst (-1), 1, 0, 0, 0, .int (-1), []),
  (30, .if_icmp .ne 5, 3, 35, 0, 0, .null, []),
  (33, .iconst 0, 1, 0, 0, 0, .int 0, []),
  (34, .ireturn, 1, 0, 1, 0, .null, []),
  (35, .iload_n 1, 1, 1, 0, 0, .null, []),
  (36, .iload_n 3, 1, 3, 0, 0, .null, []),
  (37, .iload 4, 2, 4, 0, 0, .null, []),
  (39, .invokestatic 76, 3, 90, 3, 1, .null, []),
  (42, .ifCond .ne 12, 3, 54, 0, 0, .null, []),
  (45, .aload_n 0, 1, 0, 0, 0, .null, []),
  (46, .getfield 18, 3, 2, 0, 2, .null, []),
  (49, .invokevirtual 79, 3, 78, 0, 144, .null, []),
  (52, .iconst 0, 1, 0, 0, 0, .int 0, []),
  (53, .ireturn, 1, 0, 1, 0, .null, []),
  (54, .aload_n 0, 1, 0, 0, 0, .null, []),
  (55, .getfield 12, 3, 2, 1, 2, .null, []),
  (58, .iload_n 1, 1, 1, 0, 0, .null, []),
  (59, .iload_n 2, 1, 2, 0, 0, .null, []),
  (60, .iload_n 3, 1, 3, 0, 0, .null, []),
  (61, .iload 4, 2, 4, 0, 0, .null, []),
  (63, .invokevirtual 82, 3, 93, 4, 160, .null, []),
  (66, .iconst 1, 1, 0, 0, 0, .int 1, []),
  (67, .ireturn, 1, 0, 1, 0, .null, [])], [], 5)
def cd_X3_init : mmP := ([(0, .aload_n 0, 1, 0, 0, 0, .null, []),
  (1, .invokespecial 3, 3, 0, 0, 8, .null, []),
  (4, .aload_n 0, 1, 0, 0, 0, .null, []),
  (5, .sipush 240, 3, 0, 0, 0, .int 240, []),
  (8, .newarray .int, 2, 0, 0, 0, .null, []),
  (10, .putfield 11, 3, 3, 1, 2, .null, []),
  (13, .aload_n 0, 1, 0, 0, 0, .null, []),
  (14, .aload_n 1, 1, 1, 0, 0, .null, []),
  (15, .putfield 17, 3, 3, 0, 2, .null, []),
  (18, .return_, 1, 0, 0, 0, .null, [])], [], 2)
def cd_X3_code : mmP := ([(0, .aload_n 0, 1, 0, 0, 0, .null, []),
  (1, .getfield 11, 3, 3, 1, 2, .null, []),
  (4, .aload_n 0, 1, 0, 0, 0, .null, []),
  (5, .getfield 21, 3, 3, 2, 0, .null, []),
  (8, .invokestatic 25, 3, 307, 2, 3, .null, []),
  (11, .areturn, 1, 0, 0, 0, .null, [])], [], 1)
def cd_X3_write : mmP := ([(0, .aload_n 0, 1, 0, 0, 0, .null, []),
  (1, .getfield 21, 3, 3, 2, 0, .null, []),
  (4, .ifCond .lt 35, 3, 39, 0, 0, .null, []),
  (7, .aload_n 0, 1, 0, 0, 0, .null, []),
  (8, .getfield 21, 3, 3, 2, 0, .null, []),
  (11, .aload_n 0, 1, 0, 0, 0, .null, []),
  (12, .getfield 11, 3, 3, 1, 2, .null, []),
  (15, .arraylength, 1, 0, 0, 0, .null, []),
  (16, .if_icmp .ge 23, 3, 39, 0, 0, .null, []),
  (19, .aload_n 0, 1, 0, 0, 0, .null, []),
  (20, .getfield 11, 3, 3, 1, 2, .null, []),
  (23, .aload_n 0, 1, 0, 0, 0, .null, []),
  (24, .getfield 21, 3, 3, 2, 0, .null, []),
  (27, .iload_n 1, 1, 1, 0, 0, .null, []),
  (28, .iastore, 1, 0, 0, 0, .null, []),
  (29, .aload_n 0, 1, 0, 0, 0, .null, []),
  (30, .dup, 1, 0, 0, 0, .null, []),
  (31, .getfield 21, 3, 3, 2, 0, .null, []),
  (34, .iconst 1, 1, 0, 0, 0, .int 1, []),
  (35, .iadd, 1, 0, 0, 0, .null, []),
  (36, .putfield 21, 3, 3, 2, 0, .null, []),
  (39, .return_, 1, 0, 0, 0, .null, [])], [], 2)
def cd_X3_firstFault : mmP := ([(0, .aload_n 0, 1, 0, 0, 0, .null, []),
  (1, .iconst 0, 1, 0, 0, 0, .int 0, []),
  (2, .putfield 21, 3, 3, 2, 0, .null, []),
  (5, .aload_n 0, 1, 0, 0, 0, .null, []),
  (6, .getfield 17, 3, 3, 0, 2, .null, []),
  (9, .invokevirtual 31, 3, 74, 0, 144, .null, []),
  (12, .iconst 0, 1, 0, 0, 0, .int 0, []),
  (13, .istore_n 1, 1, 1, 0, 0, .null, []),
  (14, .iload_n 1, 1, 1, 0, 0, .null, []),
  (15, .sipush 240, 3, 0, 0, 0, .int 240, []),
  (18, .if_icmp .gt 45, 3, 63, 0, 0, .null, []),
  (21, .aload_n 0, 1, 0, 0, 0, .null, []),
  (22, .invokevirtual 34, 3, 20, 0, 49, .null, []),
  (25, .ifCond .ne 11, 3, 36, 0, 0, .null, []),
  (28, .aload_n 0, 1, 0, 0, 0, .null, []),
  (29, .getfield 17, 3, 3, 0, 2, .null, []),
  (32, .invokevirtual 38, 3, 75, 0, 145, .null, []),
  (35, .ireturn, 1, 0, 0, 0, .null, []),
  (36, .aload_n 0, 1, 0, 0, 0, .null, []),
  (37, .bipush (-59), 2, 0, 0, 0, .int (-59), []),
  (39, .invokevirtual 42, 3, 18, 1, 48, .null, []),
  (42, .aload_n 0, 1, 0, 0, 0, .null, []),
  (43, .getfield 17, 3, 3, 0, 2, .null, []),
  (46, .bipush 59, 2, 0, 0, 0, .int 59, []),
  (48, .invokevirtual 46, 3, 79, 1, 145, .null, []),
  (51, .ifCond .ne 6, 3, 57, 0, 0, .null, []),
  (54, .goto 9, 3, 63, 0, 0, .null, []),
  (57, .iinc 1 1, 3, 1, 0, 0, .int 1, []),
  (60, .goto (-46), 3, 14, 0, 0, .null, []),
  (63, .aload_n 0, 1, 0, 0, 0, .null, []),
  (64, .getfield 17, 3, 3, 0, 2, .null, []),
  (67, .invokevirtual 50, 3, 76, 0, 145, .null, []),
  (70, .iconst (-1), 1, 0, 0, 0, .int (-1), []),
  (71, .if_icmp .ne 7, 3, 78, 0, 0, .null, []),
  (74, .iconst (-1), 1, 0, 0, 0, .int (-1), []),
  (75, .goto 10, 3, 85, 0, 0, .null, []),
  (78, .aload_n 0, 1, 0, 0, 0, .null, []),
  (79, .getfield 17, 3, 3, 0, 2, .null, []),
  (82, .invokevirtual 38, 3, 75, 0, 145, .null, []),
  (85, .ireturn, 1, 0, 0, 0, .null, [])], [(14, [true, true])], 2)
def cd_X3_isClauseNext : mmP := ([(0, .aload_n 0, 1, 0, 0, 0, .null, []),
  (1, .getfield 17, 3, 3, 0, 2, .null, []),
  (4, .bipush 121, 2, 0, 0, 0, .int 121, []),
  (6, .invokevirtual 46, 3, 79, 1, 145, .null, []),
  (9, .ifCond .eq 15, 3, 24, 0, 0, .null, []),
  (12, .aload_n 0, 1, 0, 0, 0, .null, []),
  (13, .getfield 17, 3, 3, 0, 2, .null, []),
  (16, .bipush 58, 2, 0, 0, 0, .int 58, []),
  (18, .invokevirtual 46, 3, 79, 1, 145, .null, []),
  (21, .ifCond .ne 5, 3, 26, 0, 0, .null, []),
  (24, .iconst 0, 1, 0, 0, 0, .int 0, []),
  (25, .ireturn, 1, 0, 1, 0, .null, []),
  (26, .aload_n 0, 1, 0, 0, 0, .null, []),
  (27, .getfield 17, 3, 3, 0, 2, .null, []),
  (30, .invokevirtual 50, 3, 76, 0, 145, .null, []),
  (33, .istore_n 1, 1, 1, 0, 0, .null, []),
  (34, .iload_n 1, 1, 1, 0, 0, .null, []),
  (35, .bipush 33, 2, 0, 0, 0, .int 33, []),
  (37, .if_icmp .eq 9, 3, 46, 0, 0, .null, []),
  (40, .iload_n 1, 1, 1, 0, 0, .null, []),
  (41, .bipush 40, 2, 0, 0, 0, .int 40, []),
  (43, .if_icmp .ne 24, 3, 67, 0, 0, .null, []),
  (46, .aload_n 0, 1, 0, 0, 0, .null, []),
  (47, .iconst 0, 1, 0, 0, 0, .int 0, []),
  (48, .invokevirtual 53, 3, 22, 1, 49, .null, []),
  (51, .ifCond .eq 14, 3, 65, 0, 0, .null, []),
  (54, .aload_n 0, 1, 0, 0, 0, .null, []),
  (55, .invokevirtual 57, 3, 21, 0, 49, .null, []),
  (58, .ifCond .eq 7, 3, 65, 0, 0, .null, []),
  (61, .iconst 1, 1, 0, 0, 0, .int 1, []),
  (62, .goto 4, 3, 66, 0, 0, .null, []),
  (65, .iconst 0, 1, 0, 0, 0, .int 0, []),
  (66, .ireturn, 1, 0, 1, 0, .null, []),
  (67, .aload_n 0, 1, 0, 0, 0, .null, []),
  (68, .iconst 0, 1, 0, 0, 0, .int 0, []),
  (69, .invokevirtual 60, 3, 29, 1, 49, .null, []),
  (72, .ifCond .ne 5, 3, 77, 0, 0, .null, []),
  (75, .iconst 0, 1, 0, 0, 0, .int 0, []),
  (76, .ireturn, 1, 0, 1, 0, .null, []),
  (77, .aload_n 0, 1, 0, 0, 0, .null, []),
  (78, .getfield 17, 3, 3, 0, 2, .null, []),
  (81, .invokevirtual 50, 3, 76, 0, 145, .null, []),
  (84, .invokestatic 63, 3, 28, 1, 1, .null, []),
  (87, .ifCond .ne 5, 3, 92, 0, 0, .null, []),
  (90, .iconst 1, 1, 0, 0, 0, .int 1, []),
  (91, .ireturn, 1, 0, 1, 0, .null, []),
  (92, .aload_n 0, 1, 0, 0, 0, .null, []),
  (93, .iconst 0, 1, 0, 0, 0, .int 0, []),
  (94, .invokevirtual 66, 3, 27, 1, 49, .null, []),
  (97, .ifCond .eq 30, 3, 127, 0, 0, .null, []),
  (100, .aload_n 0, 1, 0, 0, 0, .null, []),
  (101, .iconst 0, 1, 0, 0, 0, .int 0, []),
  (102, .invokevirtual 69, 3, 25, 1, 49, .null, []),
  (105, .ifCond .eq 22, 3, 127, 0, 0, .null, []),
  (108, .aload_n 0, 1, 0, 0, 0, .null, []),
  (109, .iconst 0, 1, 0, 0, 0, .int 0, []),
  (110, .invokevirtual 72, 3, 23, 1, 49, .null, []),
  (113, .ifCond .eq 14, 3, 127, 0, 0, .null, []),
  (116, .aload_n 0, 1, 0, 0, 0, .null, []),
  (117, .invokevirtual 57, 3, 21, 0, 49, .null, []),
  (120, .ifCond .eq 7, 3, 127, 0, 0, .null, []),
  (123, .iconst 1, 1, 0, 0, 0, .int 1, []),
  (124, .goto 4, 3, 128, 0, 0, .null, []),
  (127, .iconst 0, 1, 0, 0, 0, .int 0, []),
  (128, .ireturn, 1, 0, 1, 0, .null, [])], [], 2)
def cd_X3_isSumBehindCondition : mmP := ([(0, .aload_n 0, 1, 0, 0, 0, .null, []),
  (1, .getfield 17, 3, 3, 0, 2, .null, []),
  (4, .bipush 63, 2, 0, 0, 0, .int 63, []),
  (6, .invokevirtual 46, 3, 79, 1, 145, .null, []),
  (9, .ifCond .ne 5, 3, 14, 0, 0, .null, []),
  (12, .iconst 0, 1, 0, 0, 0, .int 0, []),
  (13, .ireturn, 1, 0, 1, 0, .null, []),
  (14, .aload_n 0, 1, 0, 0, 0, .null, []),
  (15, .bipush (-63), 2, 0, 0, 0, .int (-63), []),
  (17, .invokevirtual 42, 3, 18, 1, 48, .null, []),
  (20, .aload_n 0, 1, 0, 0, 0, .null, []),
  (21, .iconst 0, 1, 0, 0, 0, .int 0, []),
  (22, .invokevirtual 60, 3, 29, 1, 49, .null, []),
  (25, .ireturn, 1, 0, 1, 0, .null, [])], [], 1)
def cd_X3_isConditionNext : mmP := ([(0, .aload_n 0, 1, 0, 0, 0, .null, []),
  (1, .iload_n 1, 1, 1, 0, 0, .null, []),
  (2, .invokevirtual 75, 3, 24, 1, 49, .null, []),
  (5, .ifCond .eq 15, 3, 20, 0, 0, .null, []),
  (8, .aload_n 0, 1, 0, 0, 0, .null, []),
  (9, .iload_n 1, 1, 1, 0, 0, .null, []),
  (10, .invokevirtual 72, 3, 23, 1, 49, .null, []),
  (13, .ifCond .eq 7, 3, 20, 0, 0, .null, []),
  (16, .iconst 1, 1, 0, 0, 0, .int 1, []),
  (17, .goto 4, 3, 21, 0, 0, .null, []),
  (20, .iconst 0, 1, 0, 0, 0, .int 0, []),
  (21, .ireturn, 1, 0, 1, 0, .null, [])], [], 2)
def cd_X3_areTruthsNext : mmP := ([(0, .iconst 0, 1, 0, 0, 0, .int 0, []),
  (1, .istore_n 2, 1, 2, 0, 0, .null, []),
  (2, .iload_n 2, 1, 2, 0, 0, .null, []),
  (3, .sipush 240, 3, 0, 0, 0, .int 240, []),
  (6, .if_icmp .ge 37, 3, 43, 0, 0, .null, []),
  (9, .aload_n 0, 1, 0, 0, 0, .null, []),
  (10, .getfield 17, 3, 3, 0, 2, .null, []),
  (13, .bipush 124, 2, 0, 0, 0, .int 124, []),
  (15, .invokevirtual 46, 3, 79, 1, 145, .null, []),
  (18, .ifCond .eq 25, 3, 43, 0, 0, .null, []),
  (21, .aload_n 0, 1, 0, 0, 0, .null, []),
  (22, .iload_n 1, 1, 1, 0, 0, .null, []),
  (23, .invokevirtual 75, 3, 24, 1, 49, .null, []),
  (26, .ifCond .ne 5, 3, 31, 0, 0, .null, []),
  (29, .iconst 0, 1, 0, 0, 0, .int 0, []),
  (30, .ireturn, 1, 0, 1, 0, .null, []),
  (31, .aload_n 0, 1, 0, 0, 0, .null, []),
  (32, .bipush (-124), 2, 0, 0, 0, .int (-124), []),
  (34, .invokevirtual 42, 3, 18, 1, 48, .null, []),
  (37, .iinc 2 1, 3, 2, 0, 0, .int 1, []),
  (40, .goto (-38), 3, 2, 0, 0, .null, []),
  (43, .iconst 1, 1, 0, 0, 0, .int 1, []),
  (44, .ireturn, 1, 0, 1, 0, .null, [])], [(2, [true, true, true])], 3)
def cd_X3_isTruthNext : mmP := ([(0, .aload_n 0, 1, 0, 0, 0, .null, []),
  (1, .iload_n 1, 1, 1, 0, 0, .null, []),
  (2, .invokevirtual 78, 3, 26, 1, 49, .null, []),
  (5, .ifCond .eq 15, 3, 20, 0, 0, .null, []),
  (8, .aload_n 0, 1, 0, 0, 0, .null, []),
  (9, .iload_n 1, 1, 1, 0, 0, .null, []),
  (10, .invokevirtual 69, 3, 25, 1, 49, .null, []),
  (13, .ifCond .eq 7, 3, 20, 0, 0, .null, []),
  (16, .iconst 1, 1, 0, 0, 0, .int 1, []),
  (17, .goto 4, 3, 21, 0, 0, .null, []),
  (20, .iconst 0, 1, 0, 0, 0, .int 0, []),
  (21, .ireturn, 1, 0, 1, 0, .null, [])], [], 2)
def cd_X3_areUnitsNext : mmP := ([(0, .iconst 0, 1, 0, 0, 0, .int 0, []),
  (1, .istore_n 2, 1, 2, 0, 0, .null, []),
  (2, .iload_n 2, 1, 2, 0, 0, .null, []),
  (3, .sipush 240, 3, 0, 0, 0, .int 240, []),
  (6, .if_icmp .ge 37, 3, 43, 0, 0, .null, []),
  (9, .aload_n 0, 1, 0, 0, 0, .null, []),
  (10, .getfield 17, 3, 3, 0, 2, .null, []),
  (13, .bipush 38, 2, 0, 0, 0, .int 38, []),
  (15, .invokevirtual 46, 3, 79, 1, 145, .null, []),
  (18, .ifCond .eq 25, 3, 43, 0, 0, .null, []),
  (21, .aload_n 0, 1, 0, 0, 0, .null, []),
  (22, .iload_n 1, 1, 1, 0, 0, .null, []),
  (23, .invokevirtual 78, 3, 26, 1, 49, .null, []),
  (26, .ifCond .ne 5, 3, 31, 0, 0, .null, []),
  (29, .iconst 0, 1, 0, 0, 0, .int 0, []),
  (30, .ireturn, 1, 0, 1, 0, .null, []),
  (31, .aload_n 0, 1, 0, 0, 0, .null, []),
  (32, .bipush (-38), 2, 0, 0, 0, .int (-38), []),
  (34, .invokevirtual 42, 3, 18, 1, 48, .null, []),
  (37, .iinc 2 1, 3, 2, 0, 0, .int 1, []),
  (40, .goto (-38), 3, 2, 0, 0, .null, []),
  (43, .iconst 1, 1, 0, 0, 0, .int 1, []),
  (44, .ireturn, 1, 0, 1, 0, .null, [])], [(2, [true, true, true])], 3)
def cd_X3_isUnitNext : mmP := ([(0, .aload_n 0, 1, 0, 0, 0, .null, []),
  (1, .getfield 17, 3, 3, 0, 2, .null, []),
  (4, .invokevirtual 50, 3, 76, 0, 145, .null, []),
  (7, .istore_n 2, 1, 2, 0, 0, .null, []),
  (8, .iload_n 2, 1, 2, 0, 0, .null, []),
  (9, .bipush 33, 2, 0, 0, 0, .int 33, []),
  (11, .if_icmp .eq 31, 3, 42, 0, 0, .null, []),
  (14, .iload_n 2, 1, 2, 0, 0, .null, []),
  (15, .bipush 40, 2, 0, 0, 0, .int 40, []),
  (17, .if_icmp .eq 25, 3, 42, 0, 0, .null, []),
  (20, .aload_n 0, 1, 0, 0, 0, .null, []),
  (21, .iload_n 1, 1, 1, 0, 0, .null, []),
  (22, .invokevirtual 60, 3, 29, 1, 49, .null, []),
  (25, .ifCond .eq 15, 3, 40, 0, 0, .null, []),
  (28, .aload_n 0, 1, 0, 0, 0, .null, []),
  (29, .iload_n 1, 1, 1, 0, 0, .null, []),
  (30, .invokevirtual 66, 3, 27, 1, 49, .null, []),
  (33, .ifCond .eq 7, 3, 40, 0, 0, .null, []),
  (36, .iconst 1, 1, 0, 0, 0, .int 1, []),
  (37, .goto 4, 3, 41, 0, 0, .null, []),
  (40, .iconst 0, 1, 0, 0, 0, .int 0, []),
  (41, .ireturn, 1, 0, 1, 0, .null, []),
  (42, .iload_n 1, 1, 1, 0, 0, .null, []),
  (43, .bipush 6, 2, 0, 0, 0, .int 6, []),
  (45, .if_icmp .lt 5, 3, 50, 0, 0, .null, []),
  (48, .iconst 0, 1, 0, 0, 0, .int 0, []),
  (49, .ireturn, 1, 0, 1, 0, .null, []),
  (50, .aload_n 0, 1, 0, 0, 0, .null, []),
  (51, .getfield 17, 3, 3, 0, 2, .null, []),
  (54, .invokevirtual 81, 3, 77, 0, 144, .null, []),
  (57, .iload_n 2, 1, 2, 0, 0, .null, []),
  (58, .bipush 40, 2, 0, 0, 0, .int 40, []),
  (60, .if_icmp .ne 31, 3, 91, 0, 0, .null, []),
  (63, .aload_n 0, 1, 0, 0, 0, .null, []),
  (64, .iload_n 1, 1, 1, 0, 0, .null, []),
  (65, .iconst 1, 1, 0, 0, 0, .int 1, []),
  (66, .iadd, 1, 0, 0, 0, .null, []),
  (67, .invokevirtual 53, 3, 22, 1, 49, .null, []),
  (70, .ifCond .eq 19, 3, 89, 0, 0, .null, []),
  (73, .aload_n 0, 1, 0, 0, 0, .null, []),
  (74, .getfield 17, 3, 3, 0, 2, .null, []),
  (77, .bipush 41, 2, 0, 0, 0, .int 41, []),
  (79, .invokevirtual 46, 3, 79, 1, 145, .null, []),
  (82, .ifCond .eq 7, 3, 89, 0, 0, .null, []),
  (85, .iconst 1, 1, 0, 0, 0, .int 1, []),
  (86, .goto 4, 3, 90, 0, 0, .null, []),
  (89, .iconst 0, 1, 0, 0, 0, .int 0, []),
  (90, .ireturn, 1, 0, 1, 0, .null, []),
  (91, .aload_n 0, 1, 0, 0, 0, .null, []),
  (92, .iload_n 1, 1, 1, 0, 0, .null, []),
  (93, .iconst 1, 1, 0, 0, 0, .int 1, []),
  (94, .iadd, 1, 0, 0, 0, .null, []),
  (95, .invokevirtual 78, 3, 26, 1, 49, .null, []),
  (98, .ifCond .ne 5, 3, 103, 0, 0, .null, []),
  (101, .iconst 0, 1, 0, 0, 0, .int 0, []),
  (102, .ireturn, 1, 0, 1, 0, .null, []),
  (103, .aload_n 0, 1, 0, 0, 0, .null, []),
  (104, .bipush (-33), 2, 0, 0, 0, .int (-33), []),
  (106, .invokevirtual 42, 3, 18, 1, 48, .null, []),
  (109, .iconst 1, 1, 0, 0, 0, .int 1, []),
  (110, .ireturn, 1, 0, 1, 0, .null, [])], [], 3)
def cd_X3_isComparedNext : mmP := ([(0, .aload_n 0, 1, 0, 0, 0, .null, []),
  (1, .getfield 17, 3, 3, 0, 2, .null, []),
  (4, .invokevirtual 50, 3, 76, 0, 145, .null, []),
  (7, .istore_n 2, 1, 2, 0, 0, .null, []),
  (8, .iload_n 2, 1, 2, 0, 0, .null, []),
  (9, .invokestatic 63, 3, 28, 1, 1, .null, []),
  (12, .ifCond .ne 5, 3, 17, 0, 0, .null, []),
  (15, .iconst 0, 1, 0, 0, 0, .int 0, []),
  (16, .ireturn, 1, 0, 1, 0, .null, []),
  (17, .aload_n 0, 1, 0, 0, 0, .null, []),
  (18, .getfield 17, 3, 3, 0, 2, .null, []),
  (21, .invokevirtual 81, 3, 77, 0, 144, .null, []),
  (24, .aload_n 0, 1, 0, 0, 0, .null, []),
  (25, .iload_n 1, 1, 1, 0, 0, .null, []),
  (26, .invokevirtual 60, 3, 29, 1, 49, .null, []),
  (29, .ifCond .ne 5, 3, 34, 0, 0, .null, []),
  (32, .iconst 0, 1, 0, 0, 0, .int 0, []),
  (33, .ireturn, 1, 0, 1, 0, .null, []),
  (34, .aload_n 0, 1, 0, 0, 0, .null, []),
  (35, .iload_n 2, 1, 2, 0, 0, .null, []),
  (36, .ineg, 1, 0, 0, 0, .null, []),
  (37, .invokevirtual 42, 3, 18, 1, 48, .null, []),
  (40, .iconst 1, 1, 0, 0, 0, .int 1, []),
  (41, .ireturn, 1, 0, 1, 0, .null, [])], [], 3)
def cd_X3_isComparison : mmP := ([(0, .iload_n 0, 1, 0, 0, 0, .null, []),
  (1, .bipush 61, 2, 0, 0, 0, .int 61, []),
  (3, .if_icmp .eq 15, 3, 18, 0, 0, .null, []),
  (6, .iload_n 0, 1, 0, 0, 0, .null, []),
  (7, .bipush 60, 2, 0, 0, 0, .int 60, []),
  (9, .if_icmp .eq 9, 3, 18, 0, 0, .null, []),
  (12, .iload_n 0, 1, 0, 0, 0, .null, []),
  (13, .bipush 62, 2, 0, 0, 0, .int 62, []),
  (15, .if_icmp .ne 7, 3, 22, 0, 0, .null, []),
  (18, .iconst 1, 1, 0, 0, 0, .int 1, []),
  (19, .goto 4, 3, 23, 0, 0, .null, []),
  (22, .iconst 0, 1, 0, 0, 0, .int 0, []),
  (23, .ireturn, 1, 0, 1, 0, .null, [])], [], 1)
def cd_X3_isSumNext : mmP := ([(0, .aload_n 0, 1, 0, 0, 0, .null, []),
  (1, .iload_n 1, 1, 1, 0, 0, .null, []),
  (2, .invokevirtual 84, 3, 30, 1, 49, .null, []),
  (5, .ifCond .ne 5, 3, 10, 0, 0, .null, []),
  (8, .iconst 0, 1, 0, 0, 0, .int 0, []),
  (9, .ireturn, 1, 0, 1, 0, .null, []),
  (10, .iconst 0, 1, 0, 0, 0, .int 0, []),
  (11, .istore_n 2, 1, 2, 0, 0, .null, []),
  (12, .iload_n 2, 1, 2, 0, 0, .null, []),
  (13, .sipush 240, 3, 0, 0, 0, .int 240, []),
  (16, .if_icmp .ge 55, 3, 71, 0, 0, .null, []),
  (19, .aload_n 0, 1, 0, 0, 0, .null, []),
  (20, .getfield 17, 3, 3, 0, 2, .null, []),
  (23, .invokevirtual 50, 3, 76, 0, 145, .null, []),
  (26, .istore_n 3, 1, 3, 0, 0, .null, []),
  (27, .iload_n 3, 1, 3, 0, 0, .null, []),
  (28, .bipush 43, 2, 0, 0, 0, .int 43, []),
  (30, .if_icmp .eq 12, 3, 42, 0, 0, .null, []),
  (33, .iload_n 3, 1, 3, 0, 0, .null, []),
  (34, .bipush 45, 2, 0, 0, 0, .int 45, []),
  (36, .if_icmp .eq 6, 3, 42, 0, 0, .null, []),
  (39, .goto 32, 3, 71, 0, 0, .null, []),
  (42, .aload_n 0, 1, 0, 0, 0, .null, []),
  (43, .getfield 17, 3, 3, 0, 2, .null, []),
  (46, .invokevirtual 81, 3, 77, 0, 144, .null, []),
  (49, .aload_n 0, 1, 0, 0, 0, .null, []),
  (50, .iload_n 1, 1, 1, 0, 0, .null, []),
  (51, .invokevirtual 84, 3, 30, 1, 49, .null, []),
  (54, .ifCond .ne 5, 3, 59, 0, 0, .null, []),
  (57, .iconst 0, 1, 0, 0, 0, .int 0, []),
  (58, .ireturn, 1, 0, 1, 0, .null, []),
  (59, .aload_n 0, 1, 0, 0, 0, .null, []),
  (60, .iload_n 3, 1, 3, 0, 0, .null, []),
  (61, .ineg, 1, 0, 0, 0, .null, []),
  (62, .invokevirtual 42, 3, 18, 1, 48, .null, []),
  (65, .iinc 2 1, 3, 2, 0, 0, .int 1, []),
  (68, .goto (-56), 3, 12, 0, 0, .null, []),
  (71, .iconst 1, 1, 0, 0, 0, .int 1, []),
  (72, .ireturn, 1, 0, 1, 0, .null, [])], [(12, [true, true, true, false])], 4)
def cd_X3_isTermNext : mmP := ([(0, .aload_n 0, 1, 0, 0, 0, .null, []),
  (1, .iload_n 1, 1, 1, 0, 0, .null, []),
  (2, .invokevirtual 87, 3, 31, 1, 49, .null, []),
  (5, .ifCond .ne 5, 3, 10, 0, 0, .null, []),
  (8, .iconst 0, 1, 0, 0, 0, .int 0, []),
  (9, .ireturn, 1, 0, 1, 0, .null, []),
  (10, .iconst 0, 1, 0, 0, 0, .int 0, []),
  (11, .istore_n 2, 1, 2, 0, 0, .null, []),
  (12, .iload_n 2, 1, 2, 0, 0, .null, []),
  (13, .sipush 240, 3, 0, 0, 0, .int 240, []),
  (16, .if_icmp .ge 55, 3, 71, 0, 0, .null, []),
  (19, .aload_n 0, 1, 0, 0, 0, .null, []),
  (20, .getfield 17, 3, 3, 0, 2, .null, []),
  (23, .invokevirtual 50, 3, 76, 0, 145, .null, []),
  (26, .istore_n 3, 1, 3, 0, 0, .null, []),
  (27, .iload_n 3, 1, 3, 0, 0, .null, []),
  (28, .bipush 42, 2, 0, 0, 0, .int 42, []),
  (30, .if_icmp .eq 12, 3, 42, 0, 0, .null, []),
  (33, .iload_n 3, 1, 3, 0, 0, .null, []),
  (34, .bipush 47, 2, 0, 0, 0, .int 47, []),
  (36, .if_icmp .eq 6, 3, 42, 0, 0, .null, []),
  (39, .goto 32, 3, 71, 0, 0, .null, []),
  (42, .aload_n 0, 1, 0, 0, 0, .null, []),
  (43, .getfield 17, 3, 3, 0, 2, .null, []),
  (46, .invokevirtual 81, 3, 77, 0, 144, .null, []),
  (49, .aload_n 0, 1, 0, 0, 0, .null, []),
  (50, .iload_n 1, 1, 1, 0, 0, .null, []),
  (51, .invokevirtual 87, 3, 31, 1, 49, .null, []),
  (54, .ifCond .ne 5, 3, 59, 0, 0, .null, []),
  (57, .iconst 0, 1, 0, 0, 0, .int 0, []),
  (58, .ireturn, 1, 0, 1, 0, .null, []),
  (59, .aload_n 0, 1, 0, 0, 0, .null, []),
  (60, .iload_n 3, 1, 3, 0, 0, .null, []),
  (61, .ineg, 1, 0, 0, 0, .null, []),
  (62, .invokevirtual 42, 3, 18, 1, 48, .null, []),
  (65, .iinc 2 1, 3, 2, 0, 0, .int 1, []),
  (68, .goto (-56), 3, 12, 0, 0, .null, []),
  (71, .iconst 1, 1, 0, 0, 0, .int 1, []),
  (72, .ireturn, 1, 0, 1, 0, .null, [])], [(12, [true, true, true, false])], 4)
def cd_X3_isAtomNext : mmP := ([(0, .aload_n 0, 1, 0, 0, 0, .null, []),
  (1, .getfield 17, 3, 3, 0, 2, .null, []),
  (4, .invokevirtual 50, 3, 76, 0, 145, .null, []),
  (7, .istore_n 2, 1, 2, 0, 0, .null, []),
  (8, .iload_n 2, 1, 2, 0, 0, .null, []),
  (9, .invokestatic 90, 3, 82, 1, 1, .null, []),
  (12, .ifCond .eq 28, 3, 40, 0, 0, .null, []),
  (15, .aload_n 0, 1, 0, 0, 0, .null, []),
  (16, .getfield 17, 3, 3, 0, 2, .null, []),
  (19, .iconst 4, 1, 0, 0, 0, .int 4, []),
  (20, .invokevirtual 93, 3, 80, 1, 145, .null, []),
  (23, .istore_n 3, 1, 3, 0, 0, .null, []),
  (24, .aload_n 0, 1, 0, 0, 0, .null, []),
  (25, .iload_n 3, 1, 3, 0, 0, .null, []),
  (26, .invokevirtual 42, 3, 18, 1, 48, .null, []),
  (29, .iload_n 3, 1, 3, 0, 0, .null, []),
  (30, .iconst (-1), 1, 0, 0, 0, .int (-1), []),
  (31, .if_icmp .eq 7, 3, 38, 0, 0, .null, []),
  (34, .iconst 1, 1, 0, 0, 0, .int 1, []),
  (35, .goto 4, 3, 39, 0, 0, .null, []),
  (38, .iconst 0, 1, 0, 0, 0, .int 0, []),
  (39, .ireturn, 1, 0, 1, 0, .null, []),
  (40, .iload_n 2, 1, 2, 0, 0, .null, []),
  (41, .invokestatic 97, 3, 32, 1, 1, .null, []),
  (44, .ifCond .eq 18, 3, 62, 0, 0, .null, []),
  (47, .aload_n 0, 1, 0, 0, 0, .null, []),
  (48, .getfield 17, 3, 3, 0, 2, .null, []),
  (51, .invokevirtual 81, 3, 77, 0, 144, .null, []),
  (54, .aload_n 0, 1, 0, 0, 0, .null, []),
  (55, .iload_n 2, 1, 2, 0, 0, .null, []),
  (56, .ineg, 1, 0, 0, 0, .null, []),
  (57, .invokevirtual 42, 3, 18, 1, 48, .null, []),
  (60, .iconst 1, 1, 0, 0, 0, .int 1, []),
  (61, .ireturn, 1, 0, 1, 0, .null, []),
  (62, .iload_n 2, 1, 2, 0, 0, .null, []),
  (63, .bipush 91, 2, 0, 0, 0, .int 91, []),
  (65, .if_icmp .ne 9, 3, 74, 0, 0, .null, []),
  (68, .iload_n 1, 1, 1, 0, 0, .null, []),
  (69, .bipush 6, 2, 0, 0, 0, .int 6, []),
  (71, .if_icmp .lt 5, 3, 76, 0, 0, .null, []),
  (74, .iconst 0, 1, 0, 0, 0, .int 0, []),
  (75, .ireturn, 1, 0, 1, 0, .null, []),
  (76, .aload_n 0, 1, 0, 0, 0, .null, []),
  (77, .getfield 17, 3, 3, 0, 2, .null, []),
  (80, .invokevirtual 81, 3, 77, 0, 144, .null, []),
  (83, .aload_n 0, 1, 0, 0, 0, .null, []),
  (84, .iload_n 1, 1, 1, 0, 0, .null, []),
  (85, .iconst 1, 1, 0, 0, 0, .int 1, []),
  (86, .iadd, 1, 0, 0, 0, .null, []),
  (87, .invokevirtual 60, 3, 29, 1, 49, .null, []),
  (90, .ifCond .eq 19, 3, 109, 0, 0, .null, []),
  (93, .aload_n 0, 1, 0, 0, 0, .null, []),
  (94, .getfield 17, 3, 3, 0, 2, .null, []),
  (97, .bipush 93, 2, 0, 0, 0, .int 93, []),
  (99, .invokevirtual 46, 3, 79, 1, 145, .null, []),
  (102, .ifCond .eq 7, 3, 109, 0, 0, .null, []),
  (105, .iconst 1, 1, 0, 0, 0, .int 1, []),
  (106, .goto 4, 3, 110, 0, 0, .null, []),
  (109, .iconst 0, 1, 0, 0, 0, .int 0, []),
  (110, .ireturn, 1, 0, 1, 0, .null, [])], [], 4)
def cd_X3_isLetter : mmP := ([(0, .iload_n 0, 1, 0, 0, 0, .null, []),
  (1, .bipush 119, 2, 0, 0, 0, .int 119, []),
  (3, .if_icmp .eq 33, 3, 36, 0, 0, .null, []),
  (6, .iload_n 0, 1, 0, 0, 0, .null, []),
  (7, .bipush 115, 2, 0, 0, 0, .int 115, []),
  (9, .if_icmp .eq 27, 3, 36, 0, 0, .null, []),
  (12, .iload_n 0, 1, 0, 0, 0, .null, []),
  (13, .bipush 110, 2, 0, 0, 0, .int 110, []),
  (15, .if_icmp .eq 21, 3, 36, 0, 0, .null, []),
  (18, .iload_n 0, 1, 0, 0, 0, .null, []),
  (19, .bipush 121, 2, 0, 0, 0, .int 121, []),
  (21, .if_icmp .eq 15, 3, 36, 0, 0, .null, []),
  (24, .iload_n 0, 1, 0, 0, 0, .null, []),
  (25, .bipush 97, 2, 0, 0, 0, .int 97, []),
  (27, .if_icmp .eq 9, 3, 36, 0, 0, .null, []),
  (30, .iload_n 0, 1, 0, 0, 0, .null, []),
  (31, .bipush 99, 2, 0, 0, 0, .int 99, []),
  (33, .if_icmp .ne 7, 3, 40, 0, 0, .null, []),
  (36, .iconst 1, 1, 0, 0, 0, .int 1, []),
  (37, .goto 4, 3, 41, 0, 0, .null, []),
  (40, .iconst 0, 1, 0, 0, 0, .int 0, []),
  (41, .ireturn, 1, 0, 1, 0, .null, [])], [], 1)
def cd_X4_init : mmP := ([(0, .aload_n 0, 1, 0, 0, 0, .null, []),
  (1, .invokespecial 3, 3, 0, 0, 8, .null, []),
  (4, .aload_n 0, 1, 0, 0, 0, .null, []),
  (5, .iconst 4, 1, 0, 0, 0, .int 4, []),
  (6, .iconst 0, 1, 0, 0, 0, .int 0, [])], [], 1)
def cd_X4_size : mmP := ([(0, .aload_n 0, 1, 0, 0, 0, .null, []),
  (1, .getfield 24, 3, 4, 1, 0, .null, []),
  (4, .ireturn, 1, 0, 0, 0, .null, [])], [], 1)
def cd_X4_isFull : mmP := ([(0, .aload_n 0, 1, 0, 0, 0, .null, []),
  (1, .getfield 24, 3, 4, 1, 0, .null, []),
  (4, .iconst 4, 1, 0, 0, 0, .int 4, []),
  (5, .if_icmp .lt 7, 3, 12, 0, 0, .null, []),
  (8, .iconst 1, 1, 0, 0, 0, .int 1, []),
  (9, .goto 4, 3, 13, 0, 0, .null, []),
  (12, .iconst 0, 1, 0, 0, 0, .int 0, []),
  (13, .ireturn, 1, 0, 1, 0, .null, [])], [], 1)
def cd_X4_chosen : mmP := ([(0, .aload_n 0, 1, 0, 0, 0, .null, []),
  (1, .getfield 16, 3, 4, 2, 0, .null, []),
  (4, .ireturn, 1, 0, 0, 0, .null, [])], [], 1)
def cd_X4_add : mmP := ([(0, .aload_n 0, 1, 0, 0, 0, .null, []),
  (1, .invokevirtual 27, 3, 35, 0, 65, .null, []),
  (4, .ifCond .eq 5, 3, 9, 0, 0, .null, []),
  (7, .iconst (-1), 1, 0, 0, 0, .int (-1), []),
  (8, .ireturn, 1, 0, 0, 0, .null, []),
  (9, .aload_n 0, 1, 0, 0, 0, .null, []),
  (10, .getfield 13, 3, 4, 0, 2, .null, []),
  (13, .aload_n 0, 1, 0, 0, 0, .null, []),
  (14, .getfield 24, 3, 4, 1, 0, .null, []),
  (17, .aload_n 1, 1, 1, 0, 0, .null, []),
  (18, .aastore, 1, 1, 0, 0, .null, []),
  (19, .aload_n 0, 1, 0, 0, 0, .null, []),
  (20, .dup, 1, 0, 0, 0, .null, []),
  (21, .getfield 24, 3, 4, 1, 0, .null, []),
  (24, .iconst 1, 1, 0, 0, 0, .int 1, []),
  (25, .iadd, 1, 0, 0, 0, .null, []),
  (26, .putfield 24, 3, 4, 1, 0, .null, []),
  (29, .aload_n 0, 1, 0, 0, 0, .null, []),
  (30, .getfield 24, 3, 4, 1, 0, .null, []),
  (33, .iconst 1, 1, 0, 0, 0, .int 1, []),
  (34, .isub, 1, 0, 0, 0, .null, []),
  (35, .ireturn, 1, 0, 0, 0, .null, [])], [], 2)
def cd_X4_choose : mmP := ([(0, .iload_n 1, 1, 1, 0, 0, .null, []),
  (1, .iconst (-1), 1, 0, 0, 0, .int (-1), []),
  (2, .if_icmp .lt 11, 3, 13, 0, 0, .null, []),
  (5, .iload_n 1, 1, 1, 0, 0, .null, []),
  (6, .aload_n 0, 1, 0, 0, 0, .null, []),
  (7, .getfield 24, 3, 4, 1, 0, .null, []),
  (10, .if_icmp .lt 5, 3, 15, 0, 0, .null, []),
  (13, .iconst 0, 1, 0, 0, 0, .int 0, []),
  (14, .ireturn, 1, 0, 1, 0, .null, []),
  (15, .aload_n 0, 1, 0, 0, 0, .null, []),
  (16, .iload_n 1, 1, 1, 0, 0, .null, []),
  (17, .putfield 16, 3, 4, 2, 0, .null, []),
  (20, .iconst 1, 1, 0, 0, 0, .int 1, []),
  (21, .ireturn, 1, 0, 1, 0, .null, [])], [], 2)
def cd_X4_worth : mmP := ([(0, .aload_n 0, 1, 0, 0, 0, .null, []),
  (1, .iload_n 1, 1, 1, 0, 0, .null, []),
  (2, .putfield 31, 3, 4, 5, 0, .null, []),
  (5, .aload_n 0, 1, 0, 0, 0, .null, []),
  (6, .iload_n 2, 1, 2, 0, 0, .null, []),
  (7, .putfield 34, 3, 4, 6, 0, .null, []),
  (10, .aload_n 0, 1, 0, 0, 0, .null, []),
  (11, .iload_n 3, 1, 3, 0, 0, .null, []),
  (12, .putfield 37, 3, 4, 7, 0, .null, []),
  (15, .aload_n 0, 1, 0, 0, 0, .null, []),
  (16, .iload 4, 2, 4, 0, 0, .null, []),
  (18, .putfield 40, 3, 4, 8, 0, .null, []),
  (21, .aload_n 0, 1, 0, 0, 0, .null, []),
  (22, .iload 5, 2, 5, 0, 0, .null, []),
  (24, .putfield 43, 3, 4, 9, 0, .null, []),
  (27, .aload_n 0, 1, 0, 0, 0, .null, []),
  (28, .iload 6, 2, 6, 0, 0, .null, []),
  (30, .putfield 46, 3, 4, 10, 0, .null, []),
  (33, .aload_n 0, 1, 0, 0, 0, .null, []),
  (34, .iconst 0, 1, 0, 0, 0, .int 0, []),
  (35, .putfield 49, 3, 4, 4, 0, .null, []),
  (38, .iconst 0, 1, 0, 0, 0, .int 0, []),
  (39, .istore 7, 2, 7, 0, 0, .null, []),
  (41, .aload_n 0, 1, 0, 0, 0, .null, []),
  (42, .getfield 16, 3, 4, 2, 0, .null, []),
  (45, .ifCond .lt 28, 3, 73, 0, 0, .null, []),
  (48, .aload_n 0, 1, 0, 0, 0, .null, []),
  (49, .getfield 16, 3, 4, 2, 0, .null, []),
  (52, .aload_n 0, 1, 0, 0, 0, .null, []),
  (53, .getfield 13, 3, 4, 0, 2, .null, []),
  (56, .arraylength, 1, 0, 0, 0, .null, []),
  (57, .if_icmp .ge 16, 3, 73, 0, 0, .null, []),
  (60, .aload_n 0, 1, 0, 0, 0, .null, []),
  (61, .getfield 13, 3, 4, 0, 2, .null, []),
  (64, .aload_n 0, 1, 0, 0, 0, .null, []),
  (65, .getfield 16, 3, 4, 2, 0, .null, []),
  (68, .aaload, 1, 1, 0, 0, .null, []),
  (69, .arraylength, 1, 0, 0, 0, .null, []),
  (70, .goto 4, 3, 74, 0, 0, .null, []),
  (73, .iconst 0, 1, 0, 0, 0, .int 0, []),
  (74, .istore 8, 2, 8, 0, 0, .null, []),
  (76, .iconst 0, 1, 0, 0, 0, .int 0, []),
  (77, .istore 9, 2, 9, 0, 0, .null, []),
  (79, .iload 9, 2, 9, 0, 0, .null, []),
  (81, .iload 8, 2, 8, 0, 0, .null, []),
  (83, .if_icmp .ge 103, 3, 186, 0, 0, .null, []),
  (86, .aload_n 0, 1, 0, 0, 0, .null, []),
  (87, .getfield 13, 3, 4, 0, 2, .null, []),
  (90, .aload_n 0, 1, 0, 0, 0, .null, []),
  (91, .getfield 16, 3, 4, 2, 0, .null, []),
  (94, .aaload, 1, 1, 0, 0, .null, []),
  (95, .iload 9, 2, 9, 0, 0, .null, []),
  (97, .iaload, 1, 0, 0, 0, .null, []),
  (98, .istore 10, 2, 10, 0, 0, .null, []),
  (100, .iload 7, 2, 7, 0, 0, .null, []),
  (102, .ifCond .eq 20, 3, 122, 0, 0, .null, []),
  (105, .iload 10, 2, 10, 0, 0, .null, []),
  (107, .bipush (-59), 2, 0, 0, 0, .int (-59), []),
  (109, .if_icmp .eq 7, 3, 116, 0, 0, .null, []),
  (112, .iconst 1, 1, 0, 0, 0, .int 1, []),
  (113, .goto 4, 3, 117, 0, 0, .null, []),
  (116, .iconst 0, 1, 0, 0, 0, .int 0, []),
  (117, .istore 7, 2, 7, 0, 0, .null, []),
  (119, .goto 61, 3, 180, 0, 0, .null, []),
  (122, .iload 10, 2, 10, 0, 0, .null, []),
  (124, .bipush (-59), 2, 0, 0, 0, .int (-59), []),
  (126, .if_icmp .ne 8, 3, 134, 0, 0, .null, []),
  (129, .aload_n 0, 1, 0, 0, 0, .null, []),
  (130, .invokevirtual 52, 3, 41, 0, 65, .null, []),
  (133, .ireturn, 1, 0, 0, 0, .null, []),
  (134, .iload 10, 2, 10, 0, 0, .null, []),
  (136, .bipush (-63), 2, 0, 0, 0, .int (-63), []),
  (138, .if_icmp .ne 20, 3, 158, 0, 0, .null, []),
  (141, .aload_n 0, 1, 0, 0, 0, .null, []),
  (142, .invokevirtual 52, 3, 41, 0, 65, .null, []),
  (145, .ifCond .ne 7, 3, 152, 0, 0, .null, []),
  (148, .iconst 1, 1, 0, 0, 0, .int 1, []),
  (149, .goto 4, 3, 153, 0, 0, .null, []),
  (152, .iconst 0, 1, 0, 0, 0, .int 0, []),
  (153, .istore 7, 2, 7, 0, 0, .null, []),
  (155, .goto 25, 3, 180, 0, 0, .null, []),
  (158, .iload 10, 2, 10, 0, 0, .null, []),
  (160, .ifCond .lt 13, 3, 173, 0, 0, .null, []),
  (163, .aload_n 0, 1, 0, 0, 0, .null, []),
  (164, .iload 10, 2, 10, 0, 0, .null, []),
  (166, .i2l, 1, 0, 0, 0, .null, []),
  (167, .invokevirtual 56, 3, 40, 1, 64, .null, []),
  (170, .goto 10, 3, 180, 0, 0, .null, []),
  (173, .aload_n 0, 1, 0, 0, 0, .null, []),
  (174, .iload 10, 2, 10, 0, 0, .null, []),
  (176, .ineg, 1, 0, 0, 0, .null, []),
  (177, .invokevirtual 60, 3, 42, 1, 64, .null, []),
  (180, .iinc 9 1, 3, 9, 0, 0, .int 1, []),
  (183, .goto (-104), 3, 79, 0, 0, .null, []),
  (186, .iconst 0, 1, 0, 0, 0, .int 0, []),
  (187, .ireturn, 1, 0, 0, 0, .null, [])], [(79, [true, false, false, false, false, false, false, true, true, true, false])], 11)
def cd_X4_push : mmP := ([(0, .aload_n 0, 1, 0, 0, 0, .null, []),
  (1, .getfield 49, 3, 4, 4, 0, .null, []),
  (4, .ifCond .lt 48, 3, 52, 0, 0, .null, []),
  (7, .aload_n 0, 1, 0, 0, 0, .null, []),
  (8, .getfield 49, 3, 4, 4, 0, .null, []),
  (11, .aload_n 0, 1, 0, 0, 0, .null, []),
  (12, .getfield 20, 3, 4, 3, 2, .null, []),
  (15, .arraylength, 1, 0, 0, 0, .null, []),
  (16, .if_icmp .ge 36, 3, 52, 0, 0, .null, []),
  (19, .aload_n 0, 1, 0, 0, 0, .null, []),
  (20, .getfield 20, 3, 4, 3, 2, .null, []),
  (23, .aload_n 0, 1, 0, 0, 0, .null, []),
  (24, .getfield 49, 3, 4, 4, 0, .null, []),
  (27, .ldc2_w 64, 3, 0, 0, 0, .long (-1000000), []),
  (30, .ldc2_w 66, 3, 0, 0, 0, .long 1000000, []),
  (33, .lload_n 1, 1, 1, 0, 0, .null, []),
  (34, .invokestatic 68, 3, 305, 2, 2, .null, []),
  (37, .invokestatic 74, 3, 303, 2, 2, .null, []),
  (40, .l2i, 1, 0, 0, 0, .null, []),
  (41, .iastore, 1, 0, 0, 0, .null, []),
  (42, .aload_n 0, 1, 0, 0, 0, .null, []),
  (43, .dup, 1, 0, 0, 0, .null, []),
  (44, .getfield 49, 3, 4, 4, 0, .null, []),
  (47, .iconst 1, 1, 0, 0, 0, .int 1, []),
  (48, .iadd, 1, 0, 0, 0, .null, []),
  (49, .putfield 49, 3, 4, 4, 0, .null, []),
  (52, .return_, 1, 0, 0, 0, .null, [])], [], 3)
def cd_X4_pop : mmP := ([(0, .aload_n 0, 1, 0, 0, 0, .null, []),
  (1, .getfield 49, 3, 4, 4, 0, .null, []),
  (4, .ifCond .le 15, 3, 19, 0, 0, .null, []),
  (7, .aload_n 0, 1, 0, 0, 0, .null, []),
  (8, .getfield 49, 3, 4, 4, 0, .null, []),
  (11, .aload_n 0, 1, 0, 0, 0, .null, []),
  (12, .getfield 20, 3, 4, 3, 2, .null, []),
  (15, .arraylength, 1, 0, 0, 0, .null, []),
  (16, .if_icmp .le 5, 3, 21, 0, 0, .null, []),
  (19, .iconst 0, 1, 0, 0, 0, .int 0, []),
  (20, .ireturn, 1, 0, 0, 0, .null, []),
  (21, .aload_n 0, 1, 0, 0, 0, .null, []),
  (22, .dup, 1, 0, 0, 0, .null, []),
  (23, .getfield 49, 3, 4, 4, 0, .null, []),
  (26, .iconst 1, 1, 0, 0, 0, .int 1, []),
  (27, .isub, 1, 0, 0, 0, .null, []),
  (28, .putfield 49, 3, 4, 4, 0, .null, []),
  (31, .aload_n 0, 1, 0, 0, 0, .null, []),
  (32, .getfield 20, 3, 4, 3, 2, .null, []),
  (35, .aload_n 0, 1, 0, 0, 0, .null, []),
  (36, .getfield 49, 3, 4, 4, 0, .null, []),
  (39, .iaload, 1, 0, 0, 0, .null, []),
  (40, .ireturn, 1, 0, 0, 0, .null, [])], [], 1)
def cd_X4_apply : mmP := ([(0, .iload_n 1, 1, 1, 0, 0, .null, []),
  (1, .lookupswitch 158 #[(33, 139), (97, 115), (99, 127), (110, 91), (115, 79), (119, 67), (121, 103)], 67, 159, 0, 0, .null, [(33, 140), (97, 116), (99, 128), (110, 92), (115, 80), (119, 68), (121, 104)]),
  (68, .aload_n 0, 1, 0, 0, 0, .null, []),
  (69, .aload_n 0, 1, 0, 0, 0, .null, []),
  (70, .getfield 31, 3, 4, 5, 0, .null, []),
  (73, .i2l, 1, 0, 0, 0, .null, []),
  (74, .invokevirtual 56, 3, 40, 1, 64, .null, []),
  (77, .goto 106, 3, 183, 0, 0, .null, []),
  (80, .aload_n 0, 1, 0, 0, 0, .null, []),
  (81, .aload_n 0, 1, 0, 0, 0, .null, []),
  (82, .getfield 34, 3, 4, 6, 0, .null, []),
  (85, .i2l, 1, 0, 0, 0, .null, []),
  (86, .invokevirtual 56, 3, 40, 1, 64, .null, []),
  (89, .goto 94, 3, 183, 0, 0, .null, []),
  (92, .aload_n 0, 1, 0, 0, 0, .null, []),
  (93, .aload_n 0, 1, 0, 0, 0, .null, []),
  (94, .getfield 37, 3, 4, 7, 0, .null, []),
  (97, .i2l, 1, 0, 0, 0, .null, []),
  (98, .invokevirtual 56, 3, 40, 1, 64, .null, []),
  (101, .goto 82, 3, 183, 0, 0, .null, []),
  (104, .aload_n 0, 1, 0, 0, 0, .null, []),
  (105, .aload_n 0, 1, 0, 0, 0, .null, []),
  (106, .getfield 40, 3, 4, 8, 0, .null, []),
  (109, .i2l, 1, 0, 0, 0, .null, []),
  (110, .invokevirtual 56, 3, 40, 1, 64, .null, []),
  (113, .goto 70, 3, 183, 0, 0, .null, []),
  (116, .aload_n 0, 1, 0, 0, 0, .null, []),
  (117, .aload_n 0, 1, 0, 0, 0, .null, []),
  (118, .getfield 43, 3, 4, 9, 0, .null, []),
  (121, .i2l, 1, 0, 0, 0, .null, []),
  (122, .invokevirtual 56, 3, 40, 1, 64, .null, []),
  (125, .goto 58, 3, 183, 0, 0, .null, []),
  (128, .aload_n 0, 1, 0, 0, 0, .null, []),
  (129, .aload_n 0, 1, 0, 0, 0, .null, []),
  (130, .getfield 46, 3, 4, 10, 0, .null, []),
  (133, .i2l, 1, 0, 0, 0, .null, []),
  (134, .invokevirtual 56, 3, 40, 1, 64, .null, []),
  (137, .goto 46, 3, 183, 0, 0, .null, []),
  (140, .aload_n 0, 1, 0, 0, 0, .null, []),
  (141, .aload_n 0, 1, 0, 0, 0, .null, []),
  (142, .invokevirtual 52, 3, 41, 0, 65, .null, []),
  (145, .ifCond .ne 7, 3, 152, 0, 0, .null, []),
  (148, .lconst 1, 1, 0, 0, 0, .long 1, []),
  (149, .goto 4, 3, 153, 0, 0, .null, []),
  (152, .lconst 0, 1, 0, 0, 0, .long 0, []),
  (153, .invokevirtual 56, 3, 40, 1, 64, .null, []),
  (156, .goto 27, 3, 183, 0, 0, .null, []),
  (159, .aload_n 0, 1, 0, 0, 0, .null, []),
  (160, .invokevirtual 52, 3, 41, 0, 65, .null, []),
  (163, .i2l, 1, 0, 0, 0, .null, []),
  (164, .lstore_n 2, 1, 2, 0, 0, .null, []),
  (165, .aload_n 0, 1, 0, 0, 0, .null, []),
  (166, .invokevirtual 52, 3, 41, 0, 65, .null, []),
  (169, .i2l, 1, 0, 0, 0, .null, []),
  (170, .lstore 4, 2, 4, 0, 0, .null, []),
  (172, .aload_n 0, 1, 0, 0, 0, .null, []),
  (173, .iload_n 1, 1, 1, 0, 0, .null, []),
  (174, .lload 4, 2, 4, 0, 0, .null, []),
  (176, .lload_n 2, 1, 2, 0, 0, .null, []),
  (177, .invokestatic 77, 3, 43, 3, 2, .null, []),
  (180, .invokevirtual 56, 3, 40, 1, 64, .null, []),
  (183, .return_, 1, 0, 0, 0, .null, [])], [], 6)
def cd_X4_joined : mmP := ([(0, .iload_n 0, 1, 0, 0, 0, .null, []),
  (1, .lookupswitch 153 #[(38, 145), (42, 91), (43, 83), (45, 87), (47, 95), (60, 121), (61, 109), (62, 133), (124, 149)], 83, 154, 0, 0, .null, [(38, 146), (42, 92), (43, 84), (45, 88), (47, 96), (60, 122), (61, 110), (62, 134), (124, 150)]),
  (84, .lload_n 1, 1, 1, 0, 0, .null, []),
  (85, .lload_n 3, 1, 3, 0, 0, .null, []),
  (86, .ladd, 1, 0, 0, 0, .null, []),
  (87, .lreturn, 1, 0, 0, 0, .null, []),
  (88, .lload_n 1, 1, 1, 0, 0, .null, []),
  (89, .lload_n 3, 1, 3, 0, 0, .null, []),
  (90, .lsub, 1, 0, 0, 0, .null, []),
  (91, .lreturn, 1, 0, 0, 0, .null, []),
  (92, .lload_n 1, 1, 1, 0, 0, .null, []),
  (93, .lload_n 3, 1, 3, 0, 0, .null, []),
  (94, .lmul, 1, 0, 0, 0, .null, []),
  (95, .lreturn, 1, 0, 0, 0, .null, []),
  (96, .lload_n 3, 1, 3, 0, 0, .null, []),
  (97, .lconst 0, 1, 0, 0, 0, .long 0, []),
  (98, .lcmp, 1, 0, 0, 0, .null, []),
  (99, .ifCond .ne 7, 3, 106, 0, 0, .null, []),
  (102, .lconst 0, 1, 0, 0, 0, .long 0, []),
  (103, .goto 6, 3, 109, 0, 0, .null, []),
  (106, .lload_n 1, 1, 1, 0, 0, .null, []),
  (107, .lload_n 3, 1, 3, 0, 0, .null, []),
  (108, .ldiv, 1, 0, 0, 0, .null, []),
  (109, .lreturn, 1, 0, 0, 0, .null, []),
  (110, .lload_n 1, 1, 1, 0, 0, .null, []),
  (111, .lload_n 3, 1, 3, 0, 0, .null, []),
  (112, .lcmp, 1, 0, 0, 0, .null, []),
  (113, .ifCond .ne 7, 3, 120, 0, 0, .null, []),
  (116, .lconst 1, 1, 0, 0, 0, .long 1, []),
  (117, .goto 4, 3, 121, 0, 0, .null, []),
  (120, .lconst 0, 1, 0, 0, 0, .long 0, []),
  (121, .lreturn, 1, 0, 0, 0, .null, []),
  (122, .lload_n 1, 1, 1, 0, 0, .null, []),
  (123, .lload_n 3, 1, 3, 0, 0, .null, []),
  (124, .lcmp, 1, 0, 0, 0, .null, []),
  (125, .ifCond .ge 7, 3, 132, 0, 0, .null, []),
  (128, .lconst 1, 1, 0, 0, 0, .long 1, []),
  (129, .goto 4, 3, 133, 0, 0, .null, []),
  (132, .lconst 0, 1, 0, 0, 0, .long 0, []),
  (133, .lreturn, 1, 0, 0, 0, .null, []),
  (134, .lload_n 1, 1, 1, 0, 0, .null, []),
  (135, .lload_n 3, 1, 3, 0, 0, .null, []),
  (136, .lcmp, 1, 0, 0, 0, .null, []),
  (137, .ifCond .le 7, 3, 144, 0, 0, .null, []),
  (140, .lconst 1, 1, 0, 0, 0, .long 1, []),
  (141, .goto 4, 3, 145, 0, 0, .null, []),
  (144, .lconst 0, 1, 0, 0, 0, .long 0, []),
  (145, .lreturn, 1, 0, 0, 0, .null, []),
  (146, .lload_n 1, 1, 1, 0, 0, .null, []),
  (147, .lload_n 3, 1, 3, 0, 0, .null, []),
  (148, .land, 1, 0, 0, 0, .null, []),
  (149, .lreturn, 1, 0, 0, 0, .null, []),
  (150, .lload_n 1, 1, 1, 0, 0, .null, []),
  (151, .lload_n 3, 1, 3, 0, 0, .null, []),
  (152, .lor, 1, 0, 0, 0, .null, []),
  (153, .lreturn, 1, 0, 0, 0, .null, []),
  (154, .lconst 0, 1, 0, 0, 0, .long 0, []),
  (155, .lreturn, 1, 0, 0, 0, .null, [])], [], 5)
def cd_X5_init : mmP := ([(0, .aload_n 0, 1, 0, 0, 0, .null, []),
  (1, .invokespecial 3, 3, 0, 0, 8, .null, []),
  (4, .aload_n 0, 1, 0, 0, 0, .null, []),
  (5, .sipush 300, 3, 0, 0, 0, .int 300, []),
  (8, .newarray .int, 2, 0, 0, 0, .null, []),
  (10, .putfield 11, 3, 5, 0, 2, .null, []),
  (13, .return_, 1, 0, 0, 0, .null, [])], [], 1)
def cd_X5_write : mmP := ([(0, .iload_n 1, 1, 1, 0, 0, .null, []),
  (1, .invokestatic 15, 3, 48, 1, 1, .null, []),
  (4, .istore 5, 2, 5, 0, 0, .null, []),
  (6, .iload 5, 2, 5, 0, 0, .null, []),
  (8, .ifCond .lt 44, 3, 52, 0, 0, .null, []),
  (11, .iload 5, 2, 5, 0, 0, .null, []),
  (13, .iconst 2, 1, 0, 0, 0, .int 2, []),
  (14, .iadd, 1, 0, 0, 0, .null, []),
  (15, .aload_n 0, 1, 0, 0, 0, .null, []),
  (16, .getfield 11, 3, 5, 0, 2, .null, []),
  (19, .arraylength, 1, 0, 0, 0, .null, []),
  (20, .if_icmp .ge 32, 3, 52, 0, 0, .null, []),
  (23, .aload_n 0, 1, 0, 0, 0, .null, []),
  (24, .getfield 11, 3, 5, 0, 2, .null, []),
  (27, .iload 5, 2, 5, 0, 0, .null, []),
  (29, .iload_n 2, 1, 2, 0, 0, .null, []),
  (30, .iastore, 1, 0, 0, 0, .null, []),
  (31, .aload_n 0, 1, 0, 0, 0, .null, []),
  (32, .getfield 11, 3, 5, 0, 2, .null, []),
  (35, .iload 5, 2, 5, 0, 0, .null, []),
  (37, .iconst 1, 1, 0, 0, 0, .int 1, []),
  (38, .iadd, 1, 0, 0, 0, .null, []),
  (39, .iload_n 3, 1, 3, 0, 0, .null, []),
  (40, .iastore, 1, 0, 0, 0, .null, []),
  (41, .aload_n 0, 1, 0, 0, 0, .null, []),
  (42, .getfield 11, 3, 5, 0, 2, .null, []),
  (45, .iload 5, 2, 5, 0, 0, .null, []),
  (47, .iconst 2, 1, 0, 0, 0, .int 2, []),
  (48, .iadd, 1, 0, 0, 0, .null, []),
  (49, .iload 4, 2, 4, 0, 0, .null, []),
  (51, .iastore, 1, 0, 0, 0, .null, []),
  (52, .return_, 1, 0, 0, 0, .null, [])], [], 6)
def cd_X5_read : mmP := ([(0, .iload_n 1, 1, 1, 0, 0, .null, []),
  (1, .invokestatic 15, 3, 48, 1, 1, .null, []),
  (4, .iload_n 2, 1, 2, 0, 0, .null, []),
  (5, .iadd, 1, 0, 0, 0, .null, []),
  (6, .istore_n 3, 1, 3, 0, 0, .null, []),
  (7, .iload_n 3, 1, 3, 0, 0, .null, []),
  (8, .ifCond .lt 21, 3, 29, 0, 0, .null, []),
  (11, .iload_n 3, 1, 3, 0, 0, .null, []),
  (12, .aload_n 0, 1, 0, 0, 0, .null, []),
  (13, .getfield 11, 3, 5, 0, 2, .null, []),
  (16, .arraylength, 1, 0, 0, 0, .null, []),
  (17, .if_icmp .ge 12, 3, 29, 0, 0, .null, []),
  (20, .aload_n 0, 1, 0, 0, 0, .null, []),
  (21, .getfield 11, 3, 5, 0, 2, .null, []),
  (24, .iload_n 3, 1, 3, 0, 0, .null, []),
  (25, .iaload, 1, 0, 0, 0, .null, []),
  (26, .goto 4, 3, 30, 0, 0, .null, []),
  (29, .iconst (-1), 1, 0, 0, 0, .int (-1), []),
  (30, .ireturn, 1, 0, 0, 0, .null, [])], [], 4)
def cd_X5_copyFrom : mmP := ([(0, .aload_n 1, 1, 1, 0, 0, .null, []),
  (1, .getfield 11, 3, 5, 0, 2, .null, []),
  (4, .iconst 0, 1, 0, 0, 0, .int 0, []),
  (5, .aload_n 0, 1, 0, 0, 0, .null, []),
  (6, .getfield 11, 3, 5, 0, 2, .null, []),
  (9, .iconst 0, 1, 0, 0, 0, .int 0, []),
  (10, .aload_n 0, 1, 0, 0, 0, .null, []),
  (11, .getfield 11, 3, 5, 0, 2, .null, []),
  (14, .arraylength, 1, 0, 0, 0, .null, []),
  (15, .invokestatic 19, 3, 0, 0, 8, .null, []),
  (18, .return_, 1, 0, 0, 0, .null, [])], [], 2)
def cd_X5_placeOf : mmP := ([(0, .iload_n 0, 1, 0, 0, 0, .null, []),
  (1, .bipush 100, 2, 0, 0, 0, .int 100, []),
  (3, .invokestatic 25, 3, 300, 2, 1, .null, []),
  (6, .iconst 3, 1, 0, 0, 0, .int 3, []),
  (7, .imul, 1, 0, 0, 0, .null, []),
  (8, .ireturn, 1, 0, 0, 0, .null, [])], [], 1)
def cd_X6_init : mmP := ([(0, .aload_n 0, 1, 0, 0, 0, .null, []),
  (1, .invokespecial 1, 3, 0, 0, 8, .null, []),
  (4, .aload_n 0, 1, 0, 0, 0, .null, []),
  (5, .bipush 40, 2, 0, 0, 0, .int 40, []),
  (7, .anewarray 9, 3, 0, 0, 0, .null, []),
  (10, .putfield 11, 3, 6, 0, 2, .null, []),
  (13, .return_, 1, 0, 0, 0, .null, [])], [], 1)
def cd_X6_size : mmP := ([(0, .aload_n 0, 1, 0, 0, 0, .null, []),
  (1, .getfield 15, 3, 6, 1, 0, .null, []),
  (4, .ireturn, 1, 0, 0, 0, .null, [])], [], 1)
def cd_X6_clear : mmP := ([(0, .aload_n 0, 1, 0, 0, 0, .null, []),
  (1, .iconst 0, 1, 0, 0, 0, .int 0, []),
  (2, .putfield 15, 3, 6, 1, 0, .null, []),
  (5, .return_, 1, 0, 0, 0, .null, [])], [], 1)
def cd_X6_keep : mmP := ([(0, .aload_n 0, 1, 0, 0, 0, .null, []),
  (1, .getfield 19, 3, 6, 2, 0, .null, []),
  (4, .ifCond .lt 15, 3, 19, 0, 0, .null, []),
  (7, .aload_n 0, 1, 0, 0, 0, .null, []),
  (8, .getfield 19, 3, 6, 2, 0, .null, []),
  (11, .aload_n 0, 1, 0, 0, 0, .null, []),
  (12, .getfield 11, 3, 6, 0, 2, .null, []),
  (15, .arraylength, 1, 0, 0, 0, .null, []),
  (16, .if_icmp .lt 4, 3, 20, 0, 0, .null, []),
  (19, .return_, 1, 0, 0, 0, .null, []),
  (20, .aload_n 0, 1, 0, 0, 0, .null, []),
  (21, .getfield 11, 3, 6, 0, 2, .null, []),
  (24, .aload_n 0, 1, 0, 0, 0, .null, []),
  (25, .getfield 19, 3, 6, 2, 0, .null, []),
  (28, .aaload, 1, 0, 0, 0, .null, []),
  (29, .ifnonnull 19, 3, 48, 0, 0, .null, []),
  (32, .aload_n 0, 1, 0, 0, 0, .null, []),
  (33, .getfield 11, 3, 6, 0, 2, .null, []),
  (36, .aload_n 0, 1, 0, 0, 0, .null, []),
  (37, .getfield 19, 3, 6, 2, 0, .null, []),
  (40, .new 9, 3, 0, 0, 0, .null, []),
  (43, .dup, 1, 0, 0, 0, .null, []),
  (44, .invokespecial 22, 3, 0, 0, 4, .null, []),
  (47, .aastore, 1, 0, 0, 0, .null, []),
  (48, .aload_n 0, 1, 0, 0, 0, .null, []),
  (49, .getfield 11, 3, 6, 0, 2, .null, []),
  (52, .aload_n 0, 1, 0, 0, 0, .null, []),
  (53, .getfield 19, 3, 6, 2, 0, .null, []),
  (56, .aaload, 1, 0, 0, 0, .null, []),
  (57, .aload_n 1, 1, 1, 0, 0, .null, []),
  (58, .invokevirtual 23, 3, 3, 1, 0, .null, []),
  (61, .aload_n 0, 1, 0, 0, 0, .null, []),
  (62, .aload_n 0, 1, 0, 0, 0, .null, []),
  (63, .getfield 19, 3, 6, 2, 0, .null, []),
  (66, .iconst 1, 1, 0, 0, 0, .int 1, []),
  (67, .iadd, 1, 0, 0, 0, .null, []),
  (68, .bipush 40, 2, 0, 0, 0, .int 40, []),
  (70, .irem, 1, 0, 0, 0, .null, []),
  (71, .putfield 19, 3, 6, 2, 0, .null, []),
  (74, .aload_n 0, 1, 0, 0, 0, .null, []),
  (75, .bipush 40, 2, 0, 0, 0, .int 40, []),
  (77, .aload_n 0, 1, 0, 0, 0, .null, []),
  (78, .getfield 15, 3, 6, 1, 0, .null, []),
  (81, .iconst 1, 1, 0, 0, 0, .int 1, []),
  (82, .iadd, 1, 0, 0, 0, .null, []),
  (83, .invokestatic 27, 3, 304, 2, 1, .null, []),
  (86, .putfield 15, 3, 6, 1, 0, .null, []),
  (89, .return_, 1, 0, 0, 0, .null, [])], [], 2)
def cd_X6_takeBack : mmP := ([(0, .aload_n 0, 1, 0, 0, 0, .null, []),
  (1, .getfield 19, 3, 6, 2, 0, .null, []),
  (4, .bipush 40, 2, 0, 0, 0, .int 40, []),
  (6, .iadd, 1, 0, 0, 0, .null, []),
  (7, .iconst 1, 1, 0, 0, 0, .int 1, []),
  (8, .isub, 1, 0, 0, 0, .null, []),
  (9, .bipush 40, 2, 0, 0, 0, .int 40, []),
  (11, .irem, 1, 0, 0, 0, .null, []),
  (12, .istore_n 2, 1, 2, 0, 0, .null, []),
  (13, .aload_n 0, 1, 0, 0, 0, .null, []),
  (14, .getfield 15, 3, 6, 1, 0, .null, []),
  (17, .ifCond .le 25, 3, 42, 0, 0, .null, []),
  (20, .iload_n 2, 1, 2, 0, 0, .null, []),
  (21, .ifCond .lt 21, 3, 42, 0, 0, .null, []),
  (24, .iload_n 2, 1, 2, 0, 0, .null, []),
  (25, .aload_n 0, 1, 0, 0, 0, .null, []),
  (26, .getfield 11, 3, 6, 0, 2, .null, []),
  (29, .arraylength, 1, 0, 0, 0, .null, []),
  (30, .if_icmp .ge 12, 3, 42, 0, 0, .null, []),
  (33, .aload_n 0, 1, 0, 0, 0, .null, []),
  (34, .getfield 11, 3, 6, 0, 2, .null, []),
  (37, .iload_n 2, 1, 2, 0, 0, .null, []),
  (38, .aaload, 1, 0, 0, 0, .null, []),
  (39, .ifnonnull 5, 3, 44, 0, 0, .null, []),
  (42, .iconst 0, 1, 0, 0, 0, .int 0, []),
  (43, .ireturn, 1, 0, 1, 0, .null, []),
  (44, .aload_n 1, 1, 1, 0, 0, .null, []),
  (45, .aload_n 0, 1, 0, 0, 0, .null, []),
  (46, .getfield 11, 3, 6, 0, 2, .null, []),
  (49, .iload_n 2, 1, 2, 0, 0, .null, []),
  (50, .aaload, 1, 0, 0, 0, .null, []),
  (51, .invokevirtual 23, 3, 3, 1, 0, .null, []),
  (54, .aload_n 0, 1, 0, 0, 0, .null, []),
  (55, .iload_n 2, 1, 2, 0, 0, .null, []),
  (56, .putfield 19, 3, 6, 2, 0, .null, []),
  (59, .aload_n 0, 1, 0, 0, 0, .null, []),
  (60, .dup, 1, 0, 0, 0, .null, []),
  (61, .getfield 15, 3, 6, 1, 0, .null, []),
  (64, .iconst 1, 1, 0, 0, 0, .int 1, []),
  (65, .isub, 1, 0, 0, 0, .null, []),
  (66, .putfield 15, 3, 6, 1, 0, .null, []),
  (69, .iconst 1, 1, 0, 0, 0, .int 1, []),
  (70, .ireturn, 1, 0, 1, 0, .null, [])], [], 3)
def cd_X7_init : mmP := ([(0, .aload_n 0, 1, 0, 0, 0, .null, []),
  (1, .invokespecial 3, 3, 0, 0, 8, .null, []),
  (4, .aload_n 0, 1, 0, 0, 0, .null, []),
  (5, .sipush 128, 3, 0, 0, 0, .int 128, []),
  (8, .newarray .int, 2, 0, 0, 0, .null, []),
  (10, .putfield 11, 3, 7, 2, 2, .null, []),
  (13, .aload_n 0, 1, 0, 0, 0, .null, []),
  (14, .sipush 128, 3, 0, 0, 0, .int 128, []),
  (17, .newarray .int, 2, 0, 0, 0, .null, []),
  (19, .putfield 15, 3, 7, 3, 2, .null, []),
  (22, .aload_n 0, 1, 0, 0, 0, .null, []),
  (23, .sipush 128, 3, 0, 0, 0, .int 128, []),
  (26, .newarray .int, 2, 0, 0, 0, .null, []),
  (28, .putfield 18, 3, 7, 4, 2, .null, []),
  (31, .aload_n 0, 1, 0, 0, 0, .null, []),
  (32, .aload_n 1, 1, 1, 0, 0, .null, []),
  (33, .putfield 21, 3, 7, 0, 2, .null, []),
  (36, .aload_n 0, 1, 0, 0, 0, .null, []),
  (37, .aload_n 2, 1, 2, 0, 0, .null, []),
  (38, .putfield 25, 3, 7, 1, 2, .null, []),
  (41, .return_, 1, 0, 0, 0, .null, [])], [], 3)
def cd_X7_bestSet : mmP := ([(0, .iconst 0, 1, 0, 0, 0, .int 0, []),
  (1, .istore_n 1, 1, 1, 0, 0, .null, []),
  (2, .sipush 128, 3, 0, 0, 0, .int 128, []),
  (5, .iconst 1, 1, 0, 0, 0, .int 1, []),
  (6, .aload_n 0, 1, 0, 0, 0, .null, []),
  (7, .getfield 21, 3, 7, 0, 2, .null, []),
  (10, .iconst 2, 1, 0, 0, 0, .int 2, []),
  (11, .invokevirtual 29, 3, 86, 1, 161, .null, []),
  (14, .ishl, 1, 0, 0, 0, .null, []),
  (15, .invokestatic 35, 3, 304, 2, 1, .null, []),
  (18, .istore_n 2, 1, 2, 0, 0, .null, []),
  (19, .aload_n 0, 1, 0, 0, 0, .null, []),
  (20, .getfield 11, 3, 7, 2, 2, .null, []),
  (23, .iconst 0, 1, 0, 0, 0, .int 0, []),
  (24, .iconst 0, 1, 0, 0, 0, .int 0, []),
  (25, .iastore, 1, 0, 0, 0, .null, []),
  (26, .iconst 1, 1, 0, 0, 0, .int 1, []),
  (27, .istore_n 3, 1, 3, 0, 0, .null, []),
  (28, .iload_n 3, 1, 3, 0, 0, .null, []),
  (29, .iload_n 2, 1, 2, 0, 0, .null, []),
  (30, .if_icmp .ge 104, 3, 134, 0, 0, .null, []),
  (33, .iload_n 3, 1, 3, 0, 0, .null, []),
  (34, .invokestatic 41, 3, 298, 1, 1, .null, []),
  (37, .istore 4, 2, 4, 0, 0, .null, []),
  (39, .iload_n 3, 1, 3, 0, 0, .null, []),
  (40, .iload_n 3, 1, 3, 0, 0, .null, []),
  (41, .iconst 1, 1, 0, 0, 0, .int 1, []),
  (42, .isub, 1, 0, 0, 0, .null, []),
  (43, .iand, 1, 0, 0, 0, .null, []),
  (44, .istore 5, 2, 5, 0, 0, .null, []),
  (46, .aload_n 0, 1, 0, 0, 0, .null, []),
  (47, .getfield 15, 3, 7, 3, 2, .null, []),
  (50, .iload_n 3, 1, 3, 0, 0, .null, []),
  (51, .aload_n 0, 1, 0, 0, 0, .null, []),
  (52, .getfield 15, 3, 7, 3, 2, .null, []),
  (55, .iload 5, 2, 5, 0, 0, .null, []),
  (57, .iaload, 1, 0, 0, 0, .null, []),
  (58, .aload_n 0, 1, 0, 0, 0, .null, []),
  (59, .getfield 21, 3, 7, 0, 2, .null, []),
  (62, .iconst 2, 1, 0, 0, 0, .int 2, []),
  (63, .iload 4, 2, 4, 0, 0, .null, []),
  (65, .iconst 3, 1, 0, 0, 0, .int 3, []),
  (66, .invokevirtual 46, 3, 94, 3, 161, .null, []),
  (69, .iadd, 1, 0, 0, 0, .null, []),
  (70, .iastore, 1, 0, 0, 0, .null, []),
  (71, .aload_n 0, 1, 0, 0, 0, .null, []),
  (72, .getfield 18, 3, 7, 4, 2, .null, []),
  (75, .iload_n 3, 1, 3, 0, 0, .null, []),
  (76, .aload_n 0, 1, 0, 0, 0, .null, []),
  (77, .getfield 18, 3, 7, 4, 2, .null, []),
  (80, .iload 5, 2, 5, 0, 0, .null, []),
  (82, .iaload, 1, 0, 0, 0, .null, []),
  (83, .aload_n 0, 1, 0, 0, 0, .null, []),
  (84, .getfield 21, 3, 7, 0, 2, .null, []),
  (87, .iconst 2, 1, 0, 0, 0, .int 2, []),
  (88, .iload 4, 2, 4, 0, 0, .null, []),
  (90, .iconst 1, 1, 0, 0, 0, .int 1, []),
  (91, .invokevirtual 46, 3, 94, 3, 161, .null, []),
  (94, .iadd, 1, 0, 0, 0, .null, []),
  (95, .iastore, 1, 0, 0, 0, .null, []),
  (96, .aload_n 0, 1, 0, 0, 0, .null, []),
  (97, .getfield 11, 3, 7, 2, 2, .null, []),
  (100, .iload_n 3, 1, 3, 0, 0, .null, []),
  (101, .aload_n 0, 1, 0, 0, 0, .null, []),
  (102, .iload_n 3, 1, 3, 0, 0, .null, []),
  (103, .invokevirtual 50, 3, 59, 1, 113, .null, []),
  (106, .iastore, 1, 0, 0, 0, .null, []),
  (107, .aload_n 0, 1, 0, 0, 0, .null, []),
  (108, .getfield 11, 3, 7, 2, 2, .null, []),
  (111, .iload_n 3, 1, 3, 0, 0, .null, []),
  (112, .iaload, 1, 0, 0, 0, .null, []),
  (113, .iconst (-1), 1, 0, 0, 0, .int (-1), []),
  (114, .if_icmp .eq 14, 3, 128, 0, 0, .null, []),
  (117, .aload_n 0, 1, 0, 0, 0, .null, []),
  (118, .iload_n 3, 1, 3, 0, 0, .null, []),
  (119, .iload_n 1, 1, 1, 0, 0, .null, []),
  (120, .invokevirtual 53, 3, 61, 2, 113, .null, []),
  (123, .ifCond .eq 5, 3, 128, 0, 0, .null, []),
  (126, .iload_n 3, 1, 3, 0, 0, .null, []),
  (127, .istore_n 1, 1, 1, 0, 0, .null, []),
  (128, .iinc 3 1, 3, 3, 0, 0, .int 1, []),
  (131, .goto (-103), 3, 28, 0, 0, .null, []),
  (134, .iload_n 1, 1, 1, 0, 0, .null, []),
  (135, .ireturn, 1, 0, 0, 0, .null, [])], [(28, [true, true, true, true, false, false])], 6)
def cd_X7_leastRowOf : mmP := ([(0, .iload_n 1, 1, 1, 0, 0, .null, []),
  (1, .ifCond .lt 19, 3, 20, 0, 0, .null, []),
  (4, .iload_n 1, 1, 1, 0, 0, .null, []),
  (5, .sipush 128, 3, 0, 0, 0, .int 128, []),
  (8, .if_icmp .ge 12, 3, 20, 0, 0, .null, []),
  (11, .aload_n 0, 1, 0, 0, 0, .null, []),
  (12, .getfield 11, 3, 7, 2, 2, .null, []),
  (15, .iload_n 1, 1, 1, 0, 0, .null, []),
  (16, .iaload, 1, 0, 0, 0, .null, []),
  (17, .goto 4, 3, 21, 0, 0, .null, []),
  (20, .iconst (-1), 1, 0, 0, 0, .int (-1), []),
  (21, .ireturn, 1, 0, 0, 0, .null, [])], [], 2)
def cd_X7_valueOf : mmP := ([(0, .iload_n 1, 1, 1, 0, 0, .null, []),
  (1, .ifCond .lt 19, 3, 20, 0, 0, .null, []),
  (4, .iload_n 1, 1, 1, 0, 0, .null, []),
  (5, .sipush 128, 3, 0, 0, 0, .int 128, []),
  (8, .if_icmp .ge 12, 3, 20, 0, 0, .null, []),
  (11, .aload_n 0, 1, 0, 0, 0, .null, []),
  (12, .getfield 18, 3, 7, 4, 2, .null, []),
  (15, .iload_n 1, 1, 1, 0, 0, .null, []),
  (16, .iaload, 1, 0, 0, 0, .null, []),
  (17, .goto 4, 3, 21, 0, 0, .null, []),
  (20, .iconst 0, 1, 0, 0, 0, .int 0, []),
  (21, .ireturn, 1, 0, 0, 0, .null, [])], [], 2)
def cd_X7_standsBehind : mmP := ([(0, .iload_n 1, 1, 1, 0, 0, .null, []),
  (1, .ifCond .lt 31, 3, 32, 0, 0, .null, []),
  (4, .iload_n 1, 1, 1, 0, 0, .null, []),
  (5, .sipush 128, 3, 0, 0, 0, .int 128, []),
  (8, .if_icmp .ge 24, 3, 32, 0, 0, .null, []),
  (11, .iconst 0, 1, 0, 0, 0, .int 0, []),
  (12, .aload_n 0, 1, 0, 0, 0, .null, []),
  (13, .getfield 25, 3, 7, 1, 2, .null, []),
  (16, .getfield 57, 3, 0, 0, 4, .null, []),
  (19, .aload_n 0, 1, 0, 0, 0, .null, []),
  (20, .getfield 15, 3, 7, 3, 2, .null, []),
  (23, .iload_n 1, 1, 1, 0, 0, .null, []),
  (24, .iaload, 1, 0, 0, 0, .null, []),
  (25, .isub, 1, 0, 0, 0, .null, []),
  (26, .invokestatic 63, 3, 302, 2, 1, .null, []),
  (29, .goto 4, 3, 33, 0, 0, .null, []),
  (32, .iconst 0, 1, 0, 0, 0, .int 0, []),
  (33, .ireturn, 1, 0, 0, 0, .null, [])], [], 2)
def cd_X7_leastRowTo : mmP := ([(0, .iload_n 1, 1, 1, 0, 0, .null, []),
  (1, .aload_n 0, 1, 0, 0, 0, .null, []),
  (2, .getfield 25, 3, 7, 1, 2, .null, []),
  (5, .getfield 66, 3, 0, 2, 4, .null, []),
  (8, .iand, 1, 0, 0, 0, .null, []),
  (9, .ifCond .eq 5, 3, 14, 0, 0, .null, []),
  (12, .iconst (-1), 1, 0, 0, 0, .int (-1), []),
  (13, .ireturn, 1, 0, 0, 0, .null, []),
  (14, .iconst (-1), 1, 0, 0, 0, .int (-1), []),
  (15, .istore_n 2, 1, 2, 0, 0, .null, []),
  (16, .iconst 0, 1, 0, 0, 0, .int 0, []),
  (17, .istore_n 3, 1, 3, 0, 0, .null, []),
  (18, .iload_n 3, 1, 3, 0, 0, .null, []),
  (19, .aload_n 0, 1, 0, 0, 0, .null, []),
  (20, .getfield 21, 3, 7, 0, 2, .null, []),
  (23, .iconst 2, 1, 0, 0, 0, .int 2, []),
  (24, .invokevirtual 29, 3, 86, 1, 161, .null, []),
  (27, .if_icmp .ge 61, 3, 88, 0, 0, .null, []),
  (30, .iload_n 1, 1, 1, 0, 0, .null, []),
  (31, .iload_n 3, 1, 3, 0, 0, .null, []),
  (32, .ishr, 1, 0, 0, 0, .null, []),
  (33, .iconst 1, 1, 0, 0, 0, .int 1, []),
  (34, .iand, 1, 0, 0, 0, .null, []),
  (35, .ifCond .eq 47, 3, 82, 0, 0, .null, []),
  (38, .aload_n 0, 1, 0, 0, 0, .null, []),
  (39, .iload_n 1, 1, 1, 0, 0, .null, []),
  (40, .iload_n 3, 1, 3, 0, 0, .null, []),
  (41, .invokevirtual 69, 3, 60, 2, 113, .null, []),
  (44, .ifCond .eq 38, 3, 82, 0, 0, .null, []),
  (47, .bipush 10, 2, 0, 0, 0, .int 10, []),
  (49, .aload_n 0, 1, 0, 0, 0, .null, []),
  (50, .iload_n 1, 1, 1, 0, 0, .null, []),
  (51, .iconst 1, 1, 0, 0, 0, .int 1, []),
  (52, .iload_n 3, 1, 3, 0, 0, .null, []),
  (53, .ishl, 1, 0, 0, 0, .null, []),
  (54, .iconst (-1), 1, 0, 0, 0, .int (-1), []),
  (55, .ixor, 1, 0, 0, 0, .null, []),
  (56, .iand, 1, 0, 0, 0, .null, []),
  (57, .invokevirtual 72, 3, 56, 1, 113, .null, []),
  (60, .imul, 1, 0, 0, 0, .null, []),
  (61, .iload_n 3, 1, 3, 0, 0, .null, []),
  (62, .iadd, 1, 0, 0, 0, .null, []),
  (63, .istore 4, 2, 4, 0, 0, .null, []),
  (65, .iload_n 2, 1, 2, 0, 0, .null, []),
  (66, .iconst (-1), 1, 0, 0, 0, .int (-1), []),
  (67, .if_icmp .ne 8, 3, 75, 0, 0, .null, []),
  (70, .iload 4, 2, 4, 0, 0, .null, []),
  (72, .goto 9, 3, 81, 0, 0, .null, []),
  (75, .iload_n 2, 1, 2, 0, 0, .null, []),
  (76, .iload 4, 2, 4, 0, 0, .null, []),
  (78, .invokestatic 35, 3, 304, 2, 1, .null, []),
  (81, .istore_n 2, 1, 2, 0, 0, .null, []),
  (82, .iinc 3 1, 3, 3, 0, 0, .int 1, []),
  (85, .goto (-67), 3, 18, 0, 0, .null, []),
  (88, .iload_n 2, 1, 2, 0, 0, .null, []),
  (89, .ireturn, 1, 0, 0, 0, .null, [])], [(18, [true, true, true, true, false])], 5)
def cd_X7_canEnd : mmP := ([(0, .iload_n 1, 1, 1, 0, 0, .null, []),
  (1, .iconst 1, 1, 0, 0, 0, .int 1, []),
  (2, .iload_n 2, 1, 2, 0, 0, .null, []),
  (3, .ishl, 1, 0, 0, 0, .null, []),
  (4, .iconst (-1), 1, 0, 0, 0, .int (-1), []),
  (5, .ixor, 1, 0, 0, 0, .null, []),
  (6, .iand, 1, 0, 0, 0, .null, []),
  (7, .istore_n 3, 1, 3, 0, 0, .null, []),
  (8, .aload_n 0, 1, 0, 0, 0, .null, []),
  (9, .iload_n 3, 1, 3, 0, 0, .null, []),
  (10, .invokevirtual 72, 3, 56, 1, 113, .null, []),
  (13, .iconst (-1), 1, 0, 0, 0, .int (-1), []),
  (14, .if_icmp .eq 25, 3, 39, 0, 0, .null, []),
  (17, .aload_n 0, 1, 0, 0, 0, .null, []),
  (18, .iload_n 3, 1, 3, 0, 0, .null, []),
  (19, .invokevirtual 75, 3, 58, 1, 113, .null, []),
  (22, .aload_n 0, 1, 0, 0, 0, .null, []),
  (23, .getfield 21, 3, 7, 0, 2, .null, []),
  (26, .iconst 2, 1, 0, 0, 0, .int 2, []),
  (27, .iload_n 2, 1, 2, 0, 0, .null, []),
  (28, .iconst 2, 1, 0, 0, 0, .int 2, []),
  (29, .invokevirtual 46, 3, 94, 3, 161, .null, []),
  (32, .if_icmp .lt 7, 3, 39, 0, 0, .null, []),
  (35, .iconst 1, 1, 0, 0, 0, .int 1, []),
  (36, .goto 4, 3, 40, 0, 0, .null, []),
  (39, .iconst 0, 1, 0, 0, 0, .int 0, []),
  (40, .ireturn, 1, 0, 1, 0, .null, [])], [], 4)
def cd_X7_isBetter : mmP := ([(0, .aload_n 0, 1, 0, 0, 0, .null, []),
  (1, .iload_n 1, 1, 1, 0, 0, .null, []),
  (2, .invokevirtual 78, 3, 57, 1, 113, .null, []),
  (5, .aload_n 0, 1, 0, 0, 0, .null, []),
  (6, .iload_n 2, 1, 2, 0, 0, .null, []),
  (7, .invokevirtual 78, 3, 57, 1, 113, .null, []),
  (10, .isub, 1, 0, 0, 0, .null, []),
  (11, .istore_n 3, 1, 3, 0, 0, .null, []),
  (12, .iload_n 3, 1, 3, 0, 0, .null, []),
  (13, .ifCond .eq 13, 3, 26, 0, 0, .null, []),
  (16, .iload_n 3, 1, 3, 0, 0, .null, []),
  (17, .ifCond .le 7, 3, 24, 0, 0, .null, []),
  (20, .iconst 1, 1, 0, 0, 0, .int 1, []),
  (21, .goto 4, 3, 25, 0, 0, .null, []),
  (24, .iconst 0, 1, 0, 0, 0, .int 0, []),
  (25, .ireturn, 1, 0, 1, 0, .null, []),
  (26, .aload_n 0, 1, 0, 0, 0, .null, []),
  (27, .iload_n 1, 1, 1, 0, 0, .null, []),
  (28, .invokevirtual 75, 3, 58, 1, 113, .null, []),
  (31, .aload_n 0, 1, 0, 0, 0, .null, []),
  (32, .iload_n 2, 1, 2, 0, 0, .null, []),
  (33, .invokevirtual 75, 3, 58, 1, 113, .null, []),
  (36, .isub, 1, 0, 0, 0, .null, []),
  (37, .istore 4, 2, 4, 0, 0, .null, []),
  (39, .iload 4, 2, 4, 0, 0, .null, []),
  (41, .ifCond .eq 14, 3, 55, 0, 0, .null, []),
  (44, .iload 4, 2, 4, 0, 0, .null, []),
  (46, .ifCond .le 7, 3, 53, 0, 0, .null, []),
  (49, .iconst 1, 1, 0, 0, 0, .int 1, []),
  (50, .goto 4, 3, 54, 0, 0, .null, []),
  (53, .iconst 0, 1, 0, 0, 0, .int 0, []),
  (54, .ireturn, 1, 0, 1, 0, .null, []),
  (55, .iload_n 1, 1, 1, 0, 0, .null, []),
  (56, .invokestatic 81, 3, 299, 1, 1, .null, []),
  (59, .iload_n 2, 1, 2, 0, 0, .null, []),
  (60, .invokestatic 81, 3, 299, 1, 1, .null, []),
  (63, .isub, 1, 0, 0, 0, .null, []),
  (64, .istore 5, 2, 5, 0, 0, .null, []),
  (66, .iload 5, 2, 5, 0, 0, .null, []),
  (68, .ifCond .eq 14, 3, 82, 0, 0, .null, []),
  (71, .iload 5, 2, 5, 0, 0, .null, []),
  (73, .ifCond .ge 7, 3, 80, 0, 0, .null, []),
  (76, .iconst 1, 1, 0, 0, 0, .int 1, []),
  (77, .goto 4, 3, 81, 0, 0, .null, []),
  (80, .iconst 0, 1, 0, 0, 0, .int 0, []),
  (81, .ireturn, 1, 0, 1, 0, .null, []),
  (82, .aload_n 0, 1, 0, 0, 0, .null, []),
  (83, .iload_n 1, 1, 1, 0, 0, .null, []),
  (84, .invokevirtual 72, 3, 56, 1, 113, .null, []),
  (87, .aload_n 0, 1, 0, 0, 0, .null, []),
  (88, .iload_n 2, 1, 2, 0, 0, .null, []),
  (89, .invokevirtual 72, 3, 56, 1, 113, .null, []),
  (92, .if_icmp .ge 7, 3, 99, 0, 0, .null, []),
  (95, .iconst 1, 1, 0, 0, 0, .int 1, []),
  (96, .goto 4, 3, 100, 0, 0, .null, []),
  (99, .iconst 0, 1, 0, 0, 0, .int 0, []),
  (100, .ireturn, 1, 0, 1, 0, .null, [])], [], 6)
def cd_X8_init : mmP := ([(0, .aload_n 0, 1, 0, 0, 0, .null, []),
  (1, .invokespecial 1, 3, 0, 0, 8, .null, []),
  (4, .aload_n 0, 1, 0, 0, 0, .null, []),
  (5, .bipush 10, 2, 0, 0, 0, .int 10, []),
  (7, .newarray .int, 2, 0, 0, 0, .null, []),
  (9, .putfield 9, 3, 8, 0, 2, .null, []),
  (12, .aload_n 0, 1, 0, 0, 0, .null, []),
  (13, .bipush 10, 2, 0, 0, 0, .int 10, []),
  (15, .newarray .int, 2, 0, 0, 0, .null, []),
  (17, .putfield 13, 3, 8, 1, 2, .null, []),
  (20, .aload_n 0, 1, 0, 0, 0, .null, []),
  (21, .bipush 10, 2, 0, 0, 0, .int 10, []),
  (23, .newarray .int, 2, 0, 0, 0, .null, []),
  (25, .putfield 16, 3, 8, 2, 2, .null, []),
  (28, .aload_n 0, 1, 0, 0, 0, .null, []),
  (29, .bipush 10, 2, 0, 0, 0, .int 10, []),
  (31, .newarray .boolean, 2, 1, 0, 0, .null, []),
  (33, .putfield 19, 3, 8, 3, 2, .null, []),
  (36, .return_, 1, 0, 0, 0, .null, [])], [], 1)
def cd_X8_size : mmP := ([(0, .aload_n 0, 1, 0, 0, 0, .null, []),
  (1, .getfield 23, 3, 8, 4, 0, .null, []),
  (4, .ireturn, 1, 0, 0, 0, .null, [])], [], 1)
def cd_X8_isFull : mmP := ([(0, .aload_n 0, 1, 0, 0, 0, .null, []),
  (1, .getfield 23, 3, 8, 4, 0, .null, []),
  (4, .bipush 10, 2, 0, 0, 0, .int 10, []),
  (6, .if_icmp .lt 7, 3, 13, 0, 0, .null, []),
  (9, .iconst 1, 1, 0, 0, 0, .int 1, []),
  (10, .goto 4, 3, 14, 0, 0, .null, []),
  (13, .iconst 0, 1, 0, 0, 0, .int 0, []),
  (14, .ireturn, 1, 0, 1, 0, .null, [])], [], 1)
def cd_X8_clear : mmP := ([(0, .aload_n 0, 1, 0, 0, 0, .null, []),
  (1, .iconst 0, 1, 0, 0, 0, .int 0, []),
  (2, .putfield 23, 3, 8, 4, 0, .null, []),
  (5, .return_, 1, 0, 0, 0, .null, [])], [], 1)
def cd_X8_add : mmP := ([(0, .aload_n 0, 1, 0, 0, 0, .null, []),
  (1, .getfield 23, 3, 8, 4, 0, .null, []),
  (4, .ifCond .lt 12, 3, 16, 0, 0, .null, []),
  (7, .aload_n 0, 1, 0, 0, 0, .null, []),
  (8, .getfield 23, 3, 8, 4, 0, .null, []),
  (11, .bipush 10, 2, 0, 0, 0, .int 10, []),
  (13, .if_icmp .lt 4, 3, 17, 0, 0, .null, []),
  (16, .return_, 1, 0, 0, 0, .null, []),
  (17, .aload_n 0, 1, 0, 0, 0, .null, []),
  (18, .getfield 9, 3, 8, 0, 2, .null, []),
  (21, .aload_n 0, 1, 0, 0, 0, .null, []),
  (22, .getfield 23, 3, 8, 4, 0, .null, []),
  (25, .iload_n 1, 1, 1, 0, 0, .null, []),
  (26, .iastore, 1, 0, 0, 0, .null, []),
  (27, .aload_n 0, 1, 0, 0, 0, .null, []),
  (28, .getfield 13, 3, 8, 1, 2, .null, []),
  (31, .aload_n 0, 1, 0, 0, 0, .null, []),
  (32, .getfield 23, 3, 8, 4, 0, .null, []),
  (35, .iload_n 2, 1, 2, 0, 0, .null, []),
  (36, .iastore, 1, 0, 0, 0, .null, []),
  (37, .aload_n 0, 1, 0, 0, 0, .null, []),
  (38, .getfield 16, 3, 8, 2, 2, .null, []),
  (41, .aload_n 0, 1, 0, 0, 0, .null, []),
  (42, .getfield 23, 3, 8, 4, 0, .null, []),
  (45, .iload_n 3, 1, 3, 0, 0, .null, []),
  (46, .iastore, 1, 0, 0, 0, .null, []),
  (47, .aload_n 0, 1, 0, 0, 0, .null, []),
  (48, .getfield 19, 3, 8, 3, 2, .null, []),
  (51, .aload_n 0, 1, 0, 0, 0, .null, []),
  (52, .getfield 23, 3, 8, 4, 0, .null, []),
  (55, .iload 4, 2, 4, 0, 0, .null, []),
  (57, .bastore, 1, 0, 0, 0, .null, []),
  (58, .aload_n 0, 1, 0, 0, 0, .null, []),
  (59, .dup, 1, 0, 0, 0, .null, []),
  (60, .getfield 23, 3, 8, 4, 0, .null, []),
  (63, .iconst 1, 1, 0, 0, 0, .int 1, []),
  (64, .iadd, 1, 0, 0, 0, .null, []),
  (65, .putfield 23, 3, 8, 4, 0, .null, []),
  (68, .return_, 1, 0, 0, 0, .null, [])], [], 5)
def cd_X8_furthestOf : mmP := ([(0, .iconst 0, 1, 0, 0, 0, .int 0, []),
  (1, .istore_n 2, 1, 2, 0, 0, .null, []),
  (2, .iconst 0, 1, 0, 0, 0, .int 0, []),
  (3, .istore_n 3, 1, 3, 0, 0, .null, []),
  (4, .iload_n 3, 1, 3, 0, 0, .null, []),
  (5, .aload_n 0, 1, 0, 0, 0, .null, []),
  (6, .getfield 23, 3, 8, 4, 0, .null, []),
  (9, .if_icmp .ge 40, 3, 49, 0, 0, .null, []),
  (12, .iload_n 3, 1, 3, 0, 0, .null, []),
  (13, .bipush 10, 2, 0, 0, 0, .int 10, []),
  (15, .if_icmp .ge 34, 3, 49, 0, 0, .null, []),
  (18, .aload_n 0, 1, 0, 0, 0, .null, []),
  (19, .getfield 9, 3, 8, 0, 2, .null, []),
  (22, .iload_n 3, 1, 3, 0, 0, .null, []),
  (23, .iaload, 1, 0, 0, 0, .null, []),
  (24, .iload_n 1, 1, 1, 0, 0, .null, []),
  (25, .if_icmp .ne 16, 3, 41, 0, 0, .null, []),
  (28, .iload_n 2, 1, 2, 0, 0, .null, []),
  (29, .aload_n 0, 1, 0, 0, 0, .null, []),
  (30, .getfield 13, 3, 8, 1, 2, .null, []),
  (33, .iload_n 3, 1, 3, 0, 0, .null, []),
  (34, .iaload, 1, 0, 0, 0, .null, []),
  (35, .invokestatic 27, 3, 302, 2, 1, .null, []),
  (38, .goto 4, 3, 42, 0, 0, .null, []),
  (41, .iload_n 2, 1, 2, 0, 0, .null, []),
  (42, .istore_n 2, 1, 2, 0, 0, .null, []),
  (43, .iinc 3 1, 3, 3, 0, 0, .int 1, []),
  (46, .goto (-42), 3, 4, 0, 0, .null, []),
  (49, .iload_n 2, 1, 2, 0, 0, .null, []),
  (50, .ireturn, 1, 0, 0, 0, .null, [])], [(4, [true, true, true, true])], 4)
def cd_X8_isAgainst : mmP := ([(0, .iconst 0, 1, 0, 0, 0, .int 0, []),
  (1, .istore 4, 2, 4, 0, 0, .null, []),
  (3, .iload 4, 2, 4, 0, 0, .null, []),
  (5, .aload_n 0, 1, 0, 0, 0, .null, []),
  (6, .getfield 23, 3, 8, 4, 0, .null, []),
  (9, .if_icmp .ge 66, 3, 75, 0, 0, .null, []),
  (12, .iload 4, 2, 4, 0, 0, .null, []),
  (14, .bipush 10, 2, 0, 0, 0, .int 10, []),
  (16, .if_icmp .ge 59, 3, 75, 0, 0, .null, []),
  (19, .aload_n 0, 1, 0, 0, 0, .null, []),
  (20, .getfield 9, 3, 8, 0, 2, .null, []),
  (23, .iload 4, 2, 4, 0, 0, .null, []),
  (25, .iaload, 1, 0, 0, 0, .null, []),
  (26, .iload_n 1, 1, 1, 0, 0, .null, []),
  (27, .if_icmp .ne 42, 3, 69, 0, 0, .null, []),
  (30, .aload_n 0, 1, 0, 0, 0, .null, []),
  (31, .getfield 13, 3, 8, 1, 2, .null, []),
  (34, .iload 4, 2, 4, 0, 0, .null, []),
  (36, .iaload, 1, 0, 0, 0, .null, []),
  (37, .iload_n 2, 1, 2, 0, 0, .null, []),
  (38, .if_icmp .ne 31, 3, 69, 0, 0, .null, []),
  (41, .iload_n 3, 1, 3, 0, 0, .null, []),
  (42, .aload_n 0, 1, 0, 0, 0, .null, []),
  (43, .getfield 16, 3, 8, 2, 2, .null, []),
  (46, .iload 4, 2, 4, 0, 0, .null, []),
  (48, .iaload, 1, 0, 0, 0, .null, []),
  (49, .if_icmp .lt 7, 3, 56, 0, 0, .null, []),
  (52, .iconst 1, 1, 0, 0, 0, .int 1, []),
  (53, .goto 4, 3, 57, 0, 0, .null, []),
  (56, .iconst 0, 1, 0, 0, 0, .int 0, []),
  (57, .aload_n 0, 1, 0, 0, 0, .null, []),
  (58, .getfield 19, 3, 8, 3, 2, .null, []),
  (61, .iload 4, 2, 4, 0, 0, .null, []),
  (63, .baload, 1, 0, 0, 0, .null, []),
  (64, .if_icmp .eq 5, 3, 69, 0, 0, .null, []),
  (67, .iconst 1, 1, 0, 0, 0, .int 1, []),
  (68, .ireturn, 1, 0, 1, 0, .null, []),
  (69, .iinc 4 1, 3, 4, 0, 0, .int 1, []),
  (72, .goto (-69), 3, 3, 0, 0, .null, []),
  (75, .iconst 0, 1, 0, 0, 0, .int 0, []),
  (76, .ireturn, 1, 0, 1, 0, .null, [])], [(3, [true, true, true, true, true])], 5)
def cd_X9_init : mmP := ([(0, .aload_n 0, 1, 0, 0, 0, .null, []),
  (1, .invokespecial 3, 3, 0, 0, 8, .null, []),
  (4, .aload_n 0, 1, 0, 0, 0, .null, []),
  (5, .sipush 240, 3, 0, 0, 0, .int 240, []),
  (8, .newarray .int, 2, 0, 0, 0, .null, []),
  (10, .putfield 11, 3, 9, 0, 2, .null, []),
  (13, .return_, 1, 0, 0, 0, .null, [])], [], 1)
def cd_X9_size : mmP := ([(0, .aload_n 0, 1, 0, 0, 0, .null, []),
  (1, .getfield 15, 3, 9, 1, 0, .null, []),
  (4, .ireturn, 1, 0, 0, 0, .null, [])], [], 1)
def cd_X9_signsIn : mmP := ([(0, .iconst 0, 1, 0, 0, 0, .int 0, []),
  (1, .istore_n 1, 1, 1, 0, 0, .null, []),
  (2, .bipush 24, 2, 0, 0, 0, .int 24, []),
  (4, .istore_n 2, 1, 2, 0, 0, .null, []),
  (5, .iload_n 2, 1, 2, 0, 0, .null, []),
  (6, .ifCond .lt 27, 3, 33, 0, 0, .null, []),
  (9, .iload_n 1, 1, 1, 0, 0, .null, []),
  (10, .iload_n 0, 1, 0, 0, 0, .null, []),
  (11, .iload_n 2, 1, 2, 0, 0, .null, []),
  (12, .iushr, 1, 0, 0, 0, .null, []),
  (13, .sipush 255, 3, 0, 0, 0, .int 255, []),
  (16, .iand, 1, 0, 0, 0, .null, []),
  (17, .ifCond .eq 7, 3, 24, 0, 0, .null, []),
  (20, .iconst 1, 1, 0, 0, 0, .int 1, []),
  (21, .goto 4, 3, 25, 0, 0, .null, []),
  (24, .iconst 0, 1, 0, 0, 0, .int 0, []),
  (25, .iadd, 1, 0, 0, 0, .null, []),
  (26, .istore_n 1, 1, 1, 0, 0, .null, []),
  (27, .iinc 2 (-8), 3, 2, 0, 0, .int (-8), []),
  (30, .goto (-25), 3, 5, 0, 0, .null, []),
  (33, .iload_n 1, 1, 1, 0, 0, .null, []),
  (34, .ireturn, 1, 0, 0, 0, .null, [])], [(5, [true, true, true])], 3)
def cd_X9_put : mmP := ([(0, .bipush 24, 2, 0, 0, 0, .int 24, []),
  (2, .istore_n 2, 1, 2, 0, 0, .null, []),
  (3, .iload_n 2, 1, 2, 0, 0, .null, []),
  (4, .ifCond .lt 53, 3, 57, 0, 0, .null, []),
  (7, .iload_n 1, 1, 1, 0, 0, .null, []),
  (8, .iload_n 2, 1, 2, 0, 0, .null, []),
  (9, .iushr, 1, 0, 0, 0, .null, []),
  (10, .sipush 255, 3, 0, 0, 0, .int 255, []),
  (13, .iand, 1, 0, 0, 0, .null, []),
  (14, .istore_n 3, 1, 3, 0, 0, .null, []),
  (15, .iload_n 3, 1, 3, 0, 0, .null, []),
  (16, .ifCond .eq 35, 3, 51, 0, 0, .null, []),
  (19, .aload_n 0, 1, 0, 0, 0, .null, []),
  (20, .getfield 15, 3, 9, 1, 0, .null, []),
  (23, .aload_n 0, 1, 0, 0, 0, .null, []),
  (24, .getfield 11, 3, 9, 0, 2, .null, []),
  (27, .arraylength, 1, 0, 0, 0, .null, []),
  (28, .if_icmp .ge 23, 3, 51, 0, 0, .null, []),
  (31, .aload_n 0, 1, 0, 0, 0, .null, []),
  (32, .getfield 11, 3, 9, 0, 2, .null, []),
  (35, .aload_n 0, 1, 0, 0, 0, .null, []),
  (36, .getfield 15, 3, 9, 1, 0, .null, []),
  (39, .iload_n 3, 1, 3, 0, 0, .null, []),
  (40, .iastore, 1, 0, 0, 0, .null, []),
  (41, .aload_n 0, 1, 0, 0, 0, .null, []),
  (42, .dup, 1, 0, 0, 0, .null, []),
  (43, .getfield 15, 3, 9, 1, 0, .null, []),
  (46, .iconst 1, 1, 0, 0, 0, .int 1, []),
  (47, .iadd, 1, 0, 0, 0, .null, []),
  (48, .putfield 15, 3, 9, 1, 0, .null, []),
  (51, .iinc 2 (-8), 3, 2, 0, 0, .int (-8), []),
  (54, .goto (-51), 3, 3, 0, 0, .null, []),
  (57, .return_, 1, 0, 0, 0, .null, [])], [(3, [true, true, true, false])], 4)
def cd_X9_cutBehind : mmP := ([(0, .iload_n 1, 1, 1, 0, 0, .null, []),
  (1, .ifCond .lt 11, 3, 12, 0, 0, .null, []),
  (4, .iload_n 1, 1, 1, 0, 0, .null, []),
  (5, .aload_n 0, 1, 0, 0, 0, .null, []),
  (6, .getfield 15, 3, 9, 1, 0, .null, []),
  (9, .if_icmp .le 5, 3, 14, 0, 0, .null, []),
  (12, .iconst 0, 1, 0, 0, 0, .int 0, []),
  (13, .ireturn, 1, 0, 1, 0, .null, []),
  (14, .aload_n 0, 1, 0, 0, 0, .null, []),
  (15, .iload_n 1, 1, 1, 0, 0, .null, []),
  (16, .putfield 15, 3, 9, 1, 0, .null, []),
  (19, .iconst 1, 1, 0, 0, 0, .int 1, []),
  (20, .ireturn, 1, 0, 1, 0, .null, [])], [], 2)
def cd_X9_rewind : mmP := ([(0, .aload_n 0, 1, 0, 0, 0, .null, []),
  (1, .iconst 0, 1, 0, 0, 0, .int 0, []),
  (2, .putfield 19, 3, 9, 2, 0, .null, []),
  (5, .return_, 1, 0, 0, 0, .null, [])], [], 1)
def cd_X9_at : mmP := ([(0, .aload_n 0, 1, 0, 0, 0, .null, []),
  (1, .getfield 19, 3, 9, 2, 0, .null, []),
  (4, .ireturn, 1, 0, 0, 0, .null, [])], [], 1)
def cd_X9_look : mmP := ([(0, .aload_n 0, 1, 0, 0, 0, .null, []),
  (1, .getfield 19, 3, 9, 2, 0, .null, []),
  (4, .ifCond .lt 53, 3, 57, 0, 0, .null, []),
  (7, .aload_n 0, 1, 0, 0, 0, .null, []),
  (8, .getfield 19, 3, 9, 2, 0, .null, []),
  (11, .aload_n 0, 1, 0, 0, 0, .null, []),
  (12, .getfield 15, 3, 9, 1, 0, .null, []),
  (15, .if_icmp .ge 42, 3, 57, 0, 0, .null, []),
  (18, .aload_n 0, 1, 0, 0, 0, .null, []),
  (19, .getfield 19, 3, 9, 2, 0, .null, []),
  (22, .aload_n 0, 1, 0, 0, 0, .null, []),
  (23, .getfield 11, 3, 9, 0, 2, .null, []),
  (26, .arraylength, 1, 0, 0, 0, .null, []),
  (27, .if_icmp .ge 30, 3, 57, 0, 0, .null, []),
  (30, .aload_n 0, 1, 0, 0, 0, .null, []),
  (31, .getfield 11, 3, 9, 0, 2, .null, []),
  (34, .aload_n 0, 1, 0, 0, 0, .null, []),
  (35, .getfield 19, 3, 9, 2, 0, .null, []),
  (38, .iaload, 1, 0, 0, 0, .null, []),
  (39, .bipush 32, 2, 0, 0, 0, .int 32, []),
  (41, .if_icmp .ne 16, 3, 57, 0, 0, .null, []),
  (44, .aload_n 0, 1, 0, 0, 0, .null, []),
  (45, .dup, 1, 0, 0, 0, .null, []),
  (46, .getfield 19, 3, 9, 2, 0, .null, []),
  (49, .iconst 1, 1, 0, 0, 0, .int 1, []),
  (50, .iadd, 1, 0, 0, 0, .null, []),
  (51, .putfield 19, 3, 9, 2, 0, .null, []),
  (54, .goto (-54), 3, 0, 0, 0, .null, []),
  (57, .aload_n 0, 1, 0, 0, 0, .null, []),
  (58, .getfield 19, 3, 9, 2, 0, .null, []),
  (61, .ifCond .lt 38, 3, 99, 0, 0, .null, []),
  (64, .aload_n 0, 1, 0, 0, 0, .null, []),
  (65, .getfield 19, 3, 9, 2, 0, .null, []),
  (68, .aload_n 0, 1, 0, 0, 0, .null, []),
  (69, .getfield 15, 3, 9, 1, 0, .null, []),
  (72, .if_icmp .ge 27, 3, 99, 0, 0, .null, []),
  (75, .aload_n 0, 1, 0, 0, 0, .null, []),
  (76, .getfield 19, 3, 9, 2, 0, .null, []),
  (79, .aload_n 0, 1, 0, 0, 0, .null, []),
  (80, .getfield 11, 3, 9, 0, 2, .null, []),
  (83, .arraylength, 1, 0, 0, 0, .null, []),
  (84, .if_icmp .ge 15, 3, 99, 0, 0, .null, []),
  (87, .aload_n 0, 1, 0, 0, 0, .null, []),
  (88, .getfield 11, 3, 9, 0, 2, .null, []),
  (91, .aload_n 0, 1, 0, 0, 0, .null, []),
  (92, .getfield 19, 3, 9, 2, 0, .null, []),
  (95, .iaload, 1, 0, 0, 0, .null, []),
  (96, .goto 4, 3, 100, 0, 0, .null, []),
  (99, .iconst (-1), 1, 0, 0, 0, .int (-1), []),
  (100, .ireturn, 1, 0, 0, 0, .null, [])], [(0, [true])], 1)
def cd_X9_step : mmP := ([(0, .aload_n 0, 1, 0, 0, 0, .null, []),
  (1, .dup, 1, 0, 0, 0, .null, []),
  (2, .getfield 19, 3, 9, 2, 0, .null, []),
  (5, .iconst 1, 1, 0, 0, 0, .int 1, []),
  (6, .iadd, 1, 0, 0, 0, .null, []),
  (7, .putfield 19, 3, 9, 2, 0, .null, []),
  (10, .return_, 1, 0, 0, 0, .null, [])], [], 1)
def cd_X9_stepBack : mmP := ([(0, .aload_n 0, 1, 0, 0, 0, .null, []),
  (1, .dup, 1, 0, 0, 0, .null, []),
  (2, .getfield 19, 3, 9, 2, 0, .null, []),
  (5, .iconst 1, 1, 0, 0, 0, .int 1, []),
  (6, .isub, 1, 0, 0, 0, .null, []),
  (7, .putfield 19, 3, 9, 2, 0, .null, []),
  (10, .return_, 1, 0, 0, 0, .null, [])], [], 1)
def cd_X9_take : mmP := ([(0, .aload_n 0, 1, 0, 0, 0, .null, []),
  (1, .invokevirtual 22, 3, 76, 0, 145, .null, []),
  (4, .iload_n 1, 1, 1, 0, 0, .null, []),
  (5, .if_icmp .eq 5, 3, 10, 0, 0, .null, []),
  (8, .iconst 0, 1, 0, 0, 0, .int 0, []),
  (9, .ireturn, 1, 0, 1, 0, .null, []),
  (10, .aload_n 0, 1, 0, 0, 0, .null, []),
  (11, .dup, 1, 0, 0, 0, .null, []),
  (12, .getfield 19, 3, 9, 2, 0, .null, []),
  (15, .iconst 1, 1, 0, 0, 0, .int 1, []),
  (16, .iadd, 1, 0, 0, 0, .null, []),
  (17, .putfield 19, 3, 9, 2, 0, .null, []),
  (20, .iconst 1, 1, 0, 0, 0, .int 1, []),
  (21, .ireturn, 1, 0, 1, 0, .null, [])], [], 2)
def cd_X9_number : mmP := ([(0, .iconst (-1), 1, 0, 0, 0, .int (-1), []),
  (1, .istore_n 2, 1, 2, 0, 0, .null, []),
  (2, .iconst 0, 1, 0, 0, 0, .int 0, []),
  (3, .istore_n 3, 1, 3, 0, 0, .null, []),
  (4, .iload_n 3, 1, 3, 0, 0, .null, []),
  (5, .iload_n 1, 1, 1, 0, 0, .null, []),
  (6, .if_icmp .ge 48, 3, 54, 0, 0, .null, []),
  (9, .aload_n 0, 1, 0, 0, 0, .null, []),
  (10, .invokevirtual 26, 3, 81, 0, 145, .null, []),
  (13, .ifCond .eq 41, 3, 54, 0, 0, .null, []),
  (16, .bipush 10, 2, 0, 0, 0, .int 10, []),
  (18, .iconst 0, 1, 0, 0, 0, .int 0, []),
  (19, .iload_n 2, 1, 2, 0, 0, .null, []),
  (20, .invokestatic 30, 3, 302, 2, 1, .null, []),
  (23, .imul, 1, 0, 0, 0, .null, []),
  (24, .aload_n 0, 1, 0, 0, 0, .null, []),
  (25, .getfield 11, 3, 9, 0, 2, .null, []),
  (28, .aload_n 0, 1, 0, 0, 0, .null, []),
  (29, .getfield 19, 3, 9, 2, 0, .null, []),
  (32, .iaload, 1, 0, 0, 0, .null, []),
  (33, .iadd, 1, 0, 0, 0, .null, []),
  (34, .bipush 48, 2, 0, 0, 0, .int 48, []),
  (36, .isub, 1, 0, 0, 0, .null, []),
  (37, .istore_n 2, 1, 2, 0, 0, .null, []),
  (38, .aload_n 0, 1, 0, 0, 0, .null, []),
  (39, .dup, 1, 0, 0, 0, .null, []),
  (40, .getfield 19, 3, 9, 2, 0, .null, []),
  (43, .iconst 1, 1, 0, 0, 0, .int 1, []),
  (44, .iadd, 1, 0, 0, 0, .null, []),
  (45, .putfield 19, 3, 9, 2, 0, .null, []),
  (48, .iinc 3 1, 3, 3, 0, 0, .int 1, []),
  (51, .goto (-47), 3, 4, 0, 0, .null, []),
  (54, .aload_n 0, 1, 0, 0, 0, .null, []),
  (55, .invokevirtual 26, 3, 81, 0, 145, .null, []),
  (58, .ifCond .eq 7, 3, 65, 0, 0, .null, []),
  (61, .iconst (-1), 1, 0, 0, 0, .int (-1), []),
  (62, .goto 4, 3, 66, 0, 0, .null, []),
  (65, .iload_n 2, 1, 2, 0, 0, .null, []),
  (66, .ireturn, 1, 0, 0, 0, .null, [])], [(4, [true, true, true, true])], 4)
def cd_X9_isDigitHere : mmP := ([(0, .aload_n 0, 1, 0, 0, 0, .null, []),
  (1, .getfield 19, 3, 9, 2, 0, .null, []),
  (4, .ifCond .lt 58, 3, 62, 0, 0, .null, []),
  (7, .aload_n 0, 1, 0, 0, 0, .null, []),
  (8, .getfield 19, 3, 9, 2, 0, .null, []),
  (11, .aload_n 0, 1, 0, 0, 0, .null, []),
  (12, .getfield 15, 3, 9, 1, 0, .null, []),
  (15, .if_icmp .ge 47, 3, 62, 0, 0, .null, []),
  (18, .aload_n 0, 1, 0, 0, 0, .null, []),
  (19, .getfield 19, 3, 9, 2, 0, .null, []),
  (22, .aload_n 0, 1, 0, 0, 0, .null, []),
  (23, .getfield 11, 3, 9, 0, 2, .null, []),
  (26, .arraylength, 1, 0, 0, 0, .null, []),
  (27, .if_icmp .ge 35, 3, 62, 0, 0, .null, []),
  (30, .aload_n 0, 1, 0, 0, 0, .null, []),
  (31, .getfield 11, 3, 9, 0, 2, .null, []),
  (34, .aload_n 0, 1, 0, 0, 0, .null, []),
  (35, .getfield 19, 3, 9, 2, 0, .null, []),
  (38, .iaload, 1, 0, 0, 0, .null, []),
  (39, .bipush 48, 2, 0, 0, 0, .int 48, []),
  (41, .if_icmp .lt 21, 3, 62, 0, 0, .null, []),
  (44, .aload_n 0, 1, 0, 0, 0, .null, []),
  (45, .getfield 11, 3, 9, 0, 2, .null, []),
  (48, .aload_n 0, 1, 0, 0, 0, .null, []),
  (49, .getfield 19, 3, 9, 2, 0, .null, []),
  (52, .iaload, 1, 0, 0, 0, .null, []),
  (53, .bipush 57, 2, 0, 0, 0, .int 57, []),
  (55, .if_icmp .gt 7, 3, 62, 0, 0, .null, []),
  (58, .iconst 1, 1, 0, 0, 0, .int 1, []),
  (59, .goto 4, 3, 63, 0, 0, .null, []),
  (62, .iconst 0, 1, 0, 0, 0, .int 0, []),
  (63, .ireturn, 1, 0, 1, 0, .null, [])], [], 1)
def cd_X9_isDigit : mmP := ([(0, .iload_n 0, 1, 0, 0, 0, .null, []),
  (1, .bipush 48, 2, 0, 0, 0, .int 48, []),
  (3, .if_icmp .lt 13, 3, 16, 0, 0, .null, []),
  (6, .iload_n 0, 1, 0, 0, 0, .null, []),
  (7, .bipush 57, 2, 0, 0, 0, .int 57, []),
  (9, .if_icmp .gt 7, 3, 16, 0, 0, .null, []),
  (12, .iconst 1, 1, 0, 0, 0, .int 1, []),
  (13, .goto 4, 3, 17, 0, 0, .null, []),
  (16, .iconst 0, 1, 0, 0, 0, .int 0, []),
  (17, .ireturn, 1, 0, 1, 0, .null, [])], [], 1)
def cd_X10_init : mmP := ([(0, .aload_n 0, 1, 0, 0, 0, .null, []),
  (1, .invokespecial 3, 3, 0, 0, 8, .null, []),
  (4, .aload_n 0, 1, 0, 0, 0, .null, []),
  (5, .bipush 40, 2, 0, 0, 0, .int 40, []),
  (7, .newarray .int, 2, 0, 0, 0, .null, []),
  (9, .putfield 11, 3, 10, 0, 2, .null, []),
  (12, .aload_n 0, 1, 0, 0, 0, .null, []),
  (13, .iconst 3, 1, 0, 0, 0, .int 3, []),
  (14, .newarray .int, 2, 0, 0, 0, .null, []),
  (16, .putfield 15, 3, 10, 1, 2, .null, []),
  (19, .return_, 1, 0, 0, 0, .null, [])], [], 1)
def cd_X10_clear : mmP := ([(0, .aload_n 0, 1, 0, 0, 0, .null, []),
  (1, .getfield 15, 3, 10, 1, 2, .null, []),
  (4, .iconst 0, 1, 0, 0, 0, .int 0, []),
  (5, .invokestatic 18, 3, 306, 2, 0, .null, []),
  (8, .aload_n 0, 1, 0, 0, 0, .null, []),
  (9, .iconst 0, 1, 0, 0, 0, .int 0, []),
  (10, .iconst 0, 1, 0, 0, 0, .int 0, []),
  (11, .invokevirtual 24, 3, 92, 2, 160, .null, []),
  (14, .return_, 1, 0, 0, 0, .null, [])], [], 1)
def cd_X10_copyFrom : mmP := ([(0, .aload_n 1, 1, 1, 0, 0, .null, []),
  (1, .getfield 11, 3, 10, 0, 2, .null, []),
  (4, .iconst 0, 1, 0, 0, 0, .int 0, []),
  (5, .aload_n 0, 1, 0, 0, 0, .null, []),
  (6, .getfield 11, 3, 10, 0, 2, .null, []),
  (9, .iconst 0, 1, 0, 0, 0, .int 0, []),
  (10, .bipush 40, 2, 0, 0, 0, .int 40, []),
  (12, .invokestatic 28, 3, 0, 0, 8, .null, []),
  (15, .aload_n 1, 1, 1, 0, 0, .null, []),
  (16, .getfield 15, 3, 10, 1, 2, .null, []),
  (19, .iconst 0, 1, 0, 0, 0, .int 0, []),
  (20, .aload_n 0, 1, 0, 0, 0, .null, []),
  (21, .getfield 15, 3, 10, 1, 2, .null, []),
  (24, .iconst 0, 1, 0, 0, 0, .int 0, []),
  (25, .iconst 3, 1, 0, 0, 0, .int 3, []),
  (26, .invokestatic 28, 3, 0, 0, 8, .null, []),
  (29, .return_, 1, 0, 0, 0, .null, [])], [], 2)
def cd_X10_howMany : mmP := ([(0, .iload_n 1, 1, 1, 0, 0, .null, []),
  (1, .invokestatic 34, 3, 95, 1, 1, .null, []),
  (4, .ifCond .eq 12, 3, 16, 0, 0, .null, []),
  (7, .aload_n 0, 1, 0, 0, 0, .null, []),
  (8, .getfield 15, 3, 10, 1, 2, .null, []),
  (11, .iload_n 1, 1, 1, 0, 0, .null, []),
  (12, .iaload, 1, 0, 0, 0, .null, []),
  (13, .goto 4, 3, 17, 0, 0, .null, []),
  (16, .iconst 0, 1, 0, 0, 0, .int 0, []),
  (17, .ireturn, 1, 0, 0, 0, .null, [])], [], 2)
def cd_X10_isFull : mmP := ([(0, .iload_n 1, 1, 1, 0, 0, .null, []),
  (1, .invokestatic 34, 3, 95, 1, 1, .null, []),
  (4, .ifCond .eq 17, 3, 21, 0, 0, .null, []),
  (7, .aload_n 0, 1, 0, 0, 0, .null, []),
  (8, .getfield 15, 3, 10, 1, 2, .null, []),
  (11, .iload_n 1, 1, 1, 0, 0, .null, []),
  (12, .iaload, 1, 0, 0, 0, .null, []),
  (13, .getstatic 38, 3, 1, 0, 0, .null, []),
  (16, .iload_n 1, 1, 1, 0, 0, .null, []),
  (17, .iaload, 1, 0, 0, 0, .null, []),
  (18, .if_icmp .lt 7, 3, 25, 0, 0, .null, []),
  (21, .iconst 1, 1, 0, 0, 0, .int 1, []),
  (22, .goto 4, 3, 26, 0, 0, .null, []),
  (25, .iconst 0, 1, 0, 0, 0, .int 0, []),
  (26, .ireturn, 1, 0, 1, 0, .null, [])], [], 2)
def cd_X10_kindBy : mmP := ([(0, .iconst 0, 1, 0, 0, 0, .int 0, []),
  (1, .istore_n 1, 1, 1, 0, 0, .null, []),
  (2, .iload_n 1, 1, 1, 0, 0, .null, []),
  (3, .getstatic 41, 3, 7, 0, 0, .null, []),
  (6, .arraylength, 1, 0, 0, 0, .null, []),
  (7, .if_icmp .ge 20, 3, 27, 0, 0, .null, []),
  (10, .getstatic 41, 3, 7, 0, 0, .null, []),
  (13, .iload_n 1, 1, 1, 0, 0, .null, []),
  (14, .caload, 1, 0, 0, 0, .null, []),
  (15, .iload_n 0, 1, 0, 0, 0, .null, []),
  (16, .if_icmp .ne 5, 3, 21, 0, 0, .null, []),
  (19, .iload_n 1, 1, 1, 0, 0, .null, []),
  (20, .ireturn, 1, 0, 0, 0, .null, []),
  (21, .iinc 1 1, 3, 1, 0, 0, .int 1, []),
  (24, .goto (-22), 3, 2, 0, 0, .null, []),
  (27, .iconst (-1), 1, 0, 0, 0, .int (-1), []),
  (28, .ireturn, 1, 0, 0, 0, .null, [])], [(2, [true, true])], 2)
def cd_X10_itemBy : mmP := ([(0, .iload_n 0, 1, 0, 0, 0, .null, []),
  (1, .invokestatic 34, 3, 95, 1, 1, .null, []),
  (4, .ifCond .eq 11, 3, 15, 0, 0, .null, []),
  (7, .getstatic 45, 3, 0, 0, 0, .null, []),
  (10, .iload_n 0, 1, 0, 0, 0, .null, []),
  (11, .iaload, 1, 0, 0, 0, .null, []),
  (12, .goto 4, 3, 16, 0, 0, .null, []),
  (15, .iconst 0, 1, 0, 0, 0, .int 0, []),
  (16, .istore_n 2, 1, 2, 0, 0, .null, []),
  (17, .iconst 0, 1, 0, 0, 0, .int 0, []),
  (18, .istore_n 3, 1, 3, 0, 0, .null, []),
  (19, .iload_n 3, 1, 3, 0, 0, .null, []),
  (20, .iload_n 2, 1, 2, 0, 0, .null, []),
  (21, .if_icmp .ge 34, 3, 55, 0, 0, .null, []),
  (24, .iload_n 0, 1, 0, 0, 0, .null, []),
  (25, .iload_n 3, 1, 3, 0, 0, .null, []),
  (26, .invokestatic 48, 3, 96, 2, 1, .null, []),
  (29, .istore 4, 2, 4, 0, 0, .null, []),
  (31, .iload 4, 2, 4, 0, 0, .null, []),
  (33, .iconst (-1), 1, 0, 0, 0, .int (-1), []),
  (34, .if_icmp .eq 15, 3, 49, 0, 0, .null, []),
  (37, .getstatic 52, 3, 8, 0, 0, .null, []),
  (40, .iload 4, 2, 4, 0, 0, .null, []),
  (42, .caload, 1, 0, 0, 0, .null, []),
  (43, .iload_n 1, 1, 1, 0, 0, .null, []),
  (44, .if_icmp .ne 5, 3, 49, 0, 0, .null, []),
  (47, .iload_n 3, 1, 3, 0, 0, .null, []),
  (48, .ireturn, 1, 0, 0, 0, .null, []),
  (49, .iinc 3 1, 3, 3, 0, 0, .int 1, []),
  (52, .goto (-33), 3, 19, 0, 0, .null, []),
  (55, .iconst (-1), 1, 0, 0, 0, .int (-1), []),
  (56, .ireturn, 1, 0, 0, 0, .null, [])], [(19, [true, true, true, true, false])], 5)
def cd_X10_isAllowed : mmP := ([(0, .iload_n 0, 1, 0, 0, 0, .null, []),
  (1, .iload_n 1, 1, 1, 0, 0, .null, []),
  (2, .invokestatic 48, 3, 96, 2, 1, .null, []),
  (5, .istore_n 3, 1, 3, 0, 0, .null, []),
  (6, .iload_n 3, 1, 3, 0, 0, .null, []),
  (7, .iconst (-1), 1, 0, 0, 0, .int (-1), []),
  (8, .if_icmp .eq 24, 3, 32, 0, 0, .null, []),
  (11, .getstatic 55, 3, 3, 0, 0, .null, []),
  (14, .iload_n 3, 1, 3, 0, 0, .null, []),
  (15, .iaload, 1, 0, 0, 0, .null, []),
  (16, .iload_n 2, 1, 2, 0, 0, .null, []),
  (17, .getstatic 58, 3, 4, 0, 0, .null, []),
  (20, .iload_n 3, 1, 3, 0, 0, .null, []),
  (21, .iaload, 1, 0, 0, 0, .null, []),
  (22, .invokestatic 61, 3, 176, 3, 5, .null, []),
  (25, .ifCond .eq 7, 3, 32, 0, 0, .null, []),
  (28, .iconst 1, 1, 0, 0, 0, .int 1, []),
  (29, .goto 4, 3, 33, 0, 0, .null, []),
  (32, .iconst 0, 1, 0, 0, 0, .int 0, []),
  (33, .ireturn, 1, 0, 1, 0, .null, [])], [], 4)
def cd_X10_add : mmP := ([(0, .aload_n 0, 1, 0, 0, 0, .null, []),
  (1, .iload_n 1, 1, 1, 0, 0, .null, []),
  (2, .invokevirtual 65, 3, 87, 1, 161, .null, []),
  (5, .ifCond .eq 5, 3, 10, 0, 0, .null, []),
  (8, .iconst (-1), 1, 0, 0, 0, .int (-1), []),
  (9, .ireturn, 1, 0, 0, 0, .null, []),
  (10, .aload_n 0, 1, 0, 0, 0, .null, []),
  (11, .getfield 15, 3, 10, 1, 2, .null, []),
  (14, .iload_n 1, 1, 1, 0, 0, .null, []),
  (15, .iaload, 1, 0, 0, 0, .null, []),
  (16, .istore_n 2, 1, 2, 0, 0, .null, []),
  (17, .aload_n 0, 1, 0, 0, 0, .null, []),
  (18, .getfield 15, 3, 10, 1, 2, .null, []),
  (21, .iload_n 1, 1, 1, 0, 0, .null, []),
  (22, .dup2, 1, 0, 0, 0, .null, []),
  (23, .iaload, 1, 0, 0, 0, .null, []),
  (24, .iconst 1, 1, 0, 0, 0, .int 1, []),
  (25, .iadd, 1, 0, 0, 0, .null, []),
  (26, .iastore, 1, 0, 0, 0, .null, []),
  (27, .aload_n 0, 1, 0, 0, 0, .null, []),
  (28, .iload_n 1, 1, 1, 0, 0, .null, []),
  (29, .iload_n 2, 1, 2, 0, 0, .null, []),
  (30, .invokevirtual 24, 3, 92, 2, 160, .null, []),
  (33, .iload_n 2, 1, 2, 0, 0, .null, []),
  (34, .ireturn, 1, 0, 0, 0, .null, [])], [], 3)
def cd_X10_fillWithout : mmP := ([(0, .iload_n 1, 1, 1, 0, 0, .null, []),
  (1, .invokestatic 34, 3, 95, 1, 1, .null, []),
  (4, .ifCond .eq 11, 3, 15, 0, 0, .null, []),
  (7, .getstatic 45, 3, 0, 0, 0, .null, []),
  (10, .iload_n 1, 1, 1, 0, 0, .null, []),
  (11, .iaload, 1, 0, 0, 0, .null, []),
  (12, .goto 4, 3, 16, 0, 0, .null, []),
  (15, .iconst 0, 1, 0, 0, 0, .int 0, []),
  (16, .istore_n 3, 1, 3, 0, 0, .null, []),
  (17, .iconst 0, 1, 0, 0, 0, .int 0, []),
  (18, .istore 4, 2, 4, 0, 0, .null, []),
  (20, .iload 4, 2, 4, 0, 0, .null, []),
  (22, .iload_n 3, 1, 3, 0, 0, .null, []),
  (23, .if_icmp .ge 41, 3, 64, 0, 0, .null, []),
  (26, .iload_n 1, 1, 1, 0, 0, .null, []),
  (27, .iload 4, 2, 4, 0, 0, .null, []),
  (29, .invokestatic 48, 3, 96, 2, 1, .null, []),
  (32, .istore 5, 2, 5, 0, 0, .null, []),
  (34, .aload_n 0, 1, 0, 0, 0, .null, []),
  (35, .iload_n 1, 1, 1, 0, 0, .null, []),
  (36, .iload_n 2, 1, 2, 0, 0, .null, []),
  (37, .iload 4, 2, 4, 0, 0, .null, []),
  (39, .iload 5, 2, 5, 0, 0, .null, []),
  (41, .iconst (-1), 1, 0, 0, 0, .int (-1), []),
  (42, .if_icmp .ne 7, 3, 49, 0, 0, .null, []),
  (45, .iconst 0, 1, 0, 0, 0, .int 0, []),
  (46, .goto 9, 3, 55, 0, 0, .null, []),
  (49, .getstatic 68, 3, 5, 0, 0, .null, []),
  (52, .iload 5, 2, 5, 0, 0, .null, []),
  (54, .iaload, 1, 0, 0, 0, .null, []),
  (55, .invokevirtual 71, 3, 93, 4, 160, .null, []),
  (58, .iinc 4 1, 3, 4, 0, 0, .int 1, []),
  (61, .goto (-41), 3, 20, 0, 0, .null, []),
  (64, .return_, 1, 0, 0, 0, .null, [])], [(20, [true, true, true, true, true, false])], 6)
def cd_X10_set : mmP := ([(0, .iload_n 1, 1, 1, 0, 0, .null, []),
  (1, .iload_n 2, 1, 2, 0, 0, .null, []),
  (2, .iload_n 3, 1, 3, 0, 0, .null, []),
  (3, .invokestatic 75, 3, 97, 3, 1, .null, []),
  (6, .istore 5, 2, 5, 0, 0, .null, []),
  (8, .iload 5, 2, 5, 0, 0, .null, []),
  (10, .iconst (-1), 1, 0, 0, 0, .int (-1), []),
  (11, .if_icmp .eq 12, 3, 23, 0, 0, .null, []),
  (14, .aload_n 0, 1, 0, 0, 0, .null, []),
  (15, .getfield 11, 3, 10, 0, 2, .null, []),
  (18, .iload 5, 2, 5, 0, 0, .null, []),
  (20, .iload 4, 2, 4, 0, 0, .null, []),
  (22, .iastore, 1, 0, 0, 0, .null, []),
  (23, .return_, 1, 0, 0, 0, .null, [])], [], 6)
def cd_X10_item : mmP := ([(0, .iload_n 1, 1, 1, 0, 0, .null, []),
  (1, .iload_n 2, 1, 2, 0, 0, .null, []),
  (2, .iload_n 3, 1, 3, 0, 0, .null, []),
  (3, .invokestatic 75, 3, 97, 3, 1, .null, []),
  (6, .istore 4, 2, 4, 0, 0, .null, []),
  (8, .iload 4, 2, 4, 0, 0, .null, []),
  (10, .iconst (-1), 1, 0, 0, 0, .int (-1), []),
  (11, .if_icmp .ne 7, 3, 18, 0, 0, .null, []),
  (14, .iconst 0, 1, 0, 0, 0, .int 0, []),
  (15, .goto 10, 3, 25, 0, 0, .null, []),
  (18, .aload_n 0, 1, 0, 0, 0, .null, []),
  (19, .getfield 11, 3, 10, 0, 2, .null, []),
  (22, .iload 4, 2, 4, 0, 0, .null, []),
  (24, .iaload, 1, 0, 0, 0, .null, []),
  (25, .ireturn, 1, 0, 0, 0, .null, [])], [], 5)
def cd_X10_isKind : mmP := ([(0, .iload_n 0, 1, 0, 0, 0, .null, []),
  (1, .ifCond .lt 12, 3, 13, 0, 0, .null, []),
  (4, .iload_n 0, 1, 0, 0, 0, .null, []),
  (5, .iconst 2, 1, 0, 0, 0, .int 2, []),
  (6, .if_icmp .gt 7, 3, 13, 0, 0, .null, []),
  (9, .iconst 1, 1, 0, 0, 0, .int 1, []),
  (10, .goto 4, 3, 14, 0, 0, .null, []),
  (13, .iconst 0, 1, 0, 0, 0, .int 0, []),
  (14, .ireturn, 1, 0, 1, 0, .null, [])], [], 1)
def cd_X10_lineOf : mmP := ([(0, .iload_n 0, 1, 0, 0, 0, .null, []),
  (1, .invokestatic 34, 3, 95, 1, 1, .null, []),
  (4, .ifCond .eq 16, 3, 20, 0, 0, .null, []),
  (7, .iload_n 1, 1, 1, 0, 0, .null, []),
  (8, .ifCond .lt 12, 3, 20, 0, 0, .null, []),
  (11, .iload_n 1, 1, 1, 0, 0, .null, []),
  (12, .getstatic 45, 3, 0, 0, 0, .null, []),
  (15, .iload_n 0, 1, 0, 0, 0, .null, []),
  (16, .iaload, 1, 0, 0, 0, .null, []),
  (17, .if_icmp .lt 5, 3, 22, 0, 0, .null, []),
  (20, .iconst (-1), 1, 0, 0, 0, .int (-1), []),
  (21, .ireturn, 1, 0, 0, 0, .null, []),
  (22, .getstatic 79, 3, 2, 0, 0, .null, []),
  (25, .iload_n 0, 1, 0, 0, 0, .null, []),
  (26, .iaload, 1, 0, 0, 0, .null, []),
  (27, .iload_n 1, 1, 1, 0, 0, .null, []),
  (28, .iadd, 1, 0, 0, 0, .null, []),
  (29, .ireturn, 1, 0, 0, 0, .null, [])], [], 2)
def cd_X10_placeOf : mmP := ([(0, .iload_n 0, 1, 0, 0, 0, .null, []),
  (1, .invokestatic 34, 3, 95, 1, 1, .null, []),
  (4, .ifCond .eq 29, 3, 33, 0, 0, .null, []),
  (7, .iload_n 1, 1, 1, 0, 0, .null, []),
  (8, .ifCond .lt 25, 3, 33, 0, 0, .null, []),
  (11, .iload_n 1, 1, 1, 0, 0, .null, []),
  (12, .getstatic 38, 3, 1, 0, 0, .null, []),
  (15, .iload_n 0, 1, 0, 0, 0, .null, []),
  (16, .iaload, 1, 0, 0, 0, .null, []),
  (17, .if_icmp .ge 16, 3, 33, 0, 0, .null, []),
  (20, .iload_n 2, 1, 2, 0, 0, .null, []),
  (21, .ifCond .lt 12, 3, 33, 0, 0, .null, []),
  (24, .iload_n 2, 1, 2, 0, 0, .null, []),
  (25, .getstatic 45, 3, 0, 0, 0, .null, []),
  (28, .iload_n 0, 1, 0, 0, 0, .null, []),
  (29, .iaload, 1, 0, 0, 0, .null, []),
  (30, .if_icmp .lt 5, 3, 35, 0, 0, .null, []),
  (33, .iconst (-1), 1, 0, 0, 0, .int (-1), []),
  (34, .ireturn, 1, 0, 0, 0, .null, []),
  (35, .getstatic 82, 3, 6, 0, 0, .null, []),
  (38, .iload_n 0, 1, 0, 0, 0, .null, []),
  (39, .iaload, 1, 0, 0, 0, .null, []),
  (40, .iload_n 1, 1, 1, 0, 0, .null, []),
  (41, .getstatic 45, 3, 0, 0, 0, .null, []),
  (44, .iload_n 0, 1, 0, 0, 0, .null, []),
  (45, .iaload, 1, 0, 0, 0, .null, []),
  (46, .imul, 1, 0, 0, 0, .null, []),
  (47, .iadd, 1, 0, 0, 0, .null, []),
  (48, .iload_n 2, 1, 2, 0, 0, .null, []),
  (49, .iadd, 1, 0, 0, 0, .null, []),
  (50, .ireturn, 1, 0, 0, 0, .null, [])], [], 3)
def cd_X11_init : mmP := ([(0, .aload_n 0, 1, 0, 0, 0, .null, []),
  (1, .invokespecial 1, 3, 0, 0, 8, .null, []),
  (4, .aload_n 0, 1, 0, 0, 0, .null, []),
  (5, .new 7, 3, 9, 0, 0, .null, []),
  (8, .dup, 1, 0, 0, 0, .null, []),
  (9, .invokespecial 9, 3, 69, 0, 148, .null, []),
  (12, .putfield 10, 3, 11, 0, 2, .null, []),
  (15, .aload_n 0, 1, 0, 0, 0, .null, []),
  (16, .new 16, 3, 2, 0, 0, .null, []),
  (19, .dup, 1, 0, 0, 0, .null, []),
  (20, .aload_n 0, 1, 0, 0, 0, .null, []),
  (21, .getfield 10, 3, 11, 0, 2, .null, []),
  (24, .invokespecial 18, 3, 11, 1, 32, .null, []),
  (27, .putfield 21, 3, 11, 1, 2, .null, []),
  (30, .aload_n 0, 1, 0, 0, 0, .null, []),
  (31, .new 25, 3, 3, 0, 0, .null, []),
  (34, .dup, 1, 0, 0, 0, .null, []),
  (35, .aload_n 0, 1, 0, 0, 0, .null, []),
  (36, .getfield 10, 3, 11, 0, 2, .null, []),
  (39, .invokespecial 27, 3, 16, 1, 48, .null, []),
  (42, .putfield 28, 3, 11, 2, 2, .null, []),
  (45, .aload_n 0, 1, 0, 0, 0, .null, []),
  (46, .new 32, 3, 4, 0, 0, .null, []),
  (49, .dup, 1, 0, 0, 0, .null, []),
  (50, .invokespecial 34, 3, 33, 0, 68, .null, []),
  (53, .putfield 35, 3, 11, 3, 2, .null, []),
  (56, .aload_n 0, 1, 0, 0, 0, .null, []),
  (57, .new 39, 3, 10, 0, 0, .null, []),
  (60, .dup, 1, 0, 0, 0, .null, []),
  (61, .invokespecial 41, 3, 83, 0, 164, .null, []),
  (64, .putfield 42, 3, 11, 4, 2, .null, []),
  (67, .aload_n 0, 1, 0, 0, 0, .null, []),
  (68, .new 46, 3, 0, 0, 0, .null, []),
  (71, .dup, 1, 0, 0, 0, .null, []),
  (72, .invokespecial 48, 3, 0, 0, 4, .null, []),
  (75, .putfield 49, 3, 11, 5, 2, .null, []),
  (78, .aload_n 0, 1, 0, 0, 0, .null, []),
  (79, .new 53, 3, 6, 0, 0, .null, []),
  (82, .dup, 1, 0, 0, 0, .null, []),
  (83, .invokespecial 55, 3, 49, 0, 100, .null, []),
  (86, .putfield 56, 3, 11, 6, 2, .null, []),
  (89, .aload_n 0, 1, 0, 0, 0, .null, []),
  (90, .new 60, 3, 5, 0, 0, .null, []),
  (93, .dup, 1, 0, 0, 0, .null, []),
  (94, .invokespecial 62, 3, 44, 0, 84, .null, []),
  (97, .putfield 63, 3, 11, 7, 2, .null, []),
  (100, .aload_n 0, 1, 0, 0, 0, .null, []),
  (101, .new 46, 3, 0, 0, 0, .null, []),
  (104, .dup, 1, 0, 0, 0, .null, []),
  (105, .invokespecial 48, 3, 0, 0, 4, .null, []),
  (108, .putfield 67, 3, 11, 8, 2, .null, []),
  (111, .aload_n 0, 1, 0, 0, 0, .null, []),
  (112, .new 60, 3, 5, 0, 0, .null, []),
  (115, .dup, 1, 0, 0, 0, .null, []),
  (116, .invokespecial 62, 3, 44, 0, 84, .null, []),
  (119, .putfield 70, 3, 11, 9, 2, .null, []),
  (122, .aload_n 0, 1, 0, 0, 0, .null, []),
  (123, .new 73, 3, 8, 0, 0, .null, []),
  (126, .dup, 1, 0, 0, 0, .null, []),
  (127, .invokespecial 75, 3, 62, 0, 132, .null, []),
  (130, .putfield 76, 3, 11, 10, 2, .null, []),
  (133, .aload_n 0, 1, 0, 0, 0, .null, []),
  (134, .new 80, 3, 7, 0, 0, .null, []),
  (137, .dup, 1, 0, 0, 0, .null, []),
  (138, .aload_n 0, 1, 0, 0, 0, .null, []),
  (139, .getfield 42, 3, 11, 4, 2, .null, []),
  (142, .aload_n 0, 1, 0, 0, 0, .null, []),
  (143, .getfield 49, 3, 11, 5, 2, .null, []),
  (146, .invokespecial 82, 3, 54, 2, 112, .null, []),
  (149, .putfield 85, 3, 11, 11, 2, .null, []),
  (152, .aload_n 0, 1, 0, 0, 0, .null, []),
  (153, .new 89, 3, 1, 0, 0, .null, []),
  (156, .dup, 1, 0, 0, 0, .null, []),
  (157, .invokespecial 91, 3, 8, 0, 20, .null, []),
  (160, .putfield 92, 3, 11, 12, 2, .null, []),
  (163, .aload_n 0, 1, 0, 0, 0, .null, []),
  (164, .iconst 5, 1, 0, 0, 0, .int 5, []),
  (165, .newarray .int, 2, 0, 0, 0, .null, []),
  (167, .putfield 96, 3, 11, 13, 2, .null, []),
  (170, .aload_n 0, 1, 0, 0, 0, .null, []),
  (171, .bipush 10, 2, 0, 0, 0, .int 10, []),
  (173, .newarray .int, 2, 0, 0, 0, .null, []),
  (175, .putfield 100, 3, 11, 14, 2, .null, []),
  (178, .aload_n 0, 1, 0, 0, 0, .null, []),
  (179, .bipush 36, 2, 0, 0, 0, .int 36, []),
  (181, .newarray .int, 2, 0, 0, 0, .null, []),
  (183, .putfield 103, 3, 11, 15, 2, .null, []),
  (186, .aload_n 0, 1, 0, 0, 0, .null, []),
  (187, .iconst 2, 1, 0, 0, 0, .int 2, []),
  (188, .putfield 106, 3, 11, 18, 0, .null, []),
  (191, .return_, 1, 0, 0, 0, .null, [])], [], 1)
def cd_X11_feed : mmP := ([(0, .iload_n 1, 1, 1, 0, 0, .null, []),
  (1, .invokestatic 110, 3, 71, 1, 1, .null, []),
  (4, .iload_n 2, 1, 2, 0, 0, .null, []),
  (5, .invokestatic 110, 3, 71, 1, 1, .null, []),
  (8, .iadd, 1, 0, 0, 0, .null, []),
  (9, .iload_n 3, 1, 3, 0, 0, .null, []),
  (10, .invokestatic 110, 3, 71, 1, 1, .null, []),
  (13, .iadd, 1, 0, 0, 0, .null, []),
  (14, .iload 4, 2, 4, 0, 0, .null, []),
  (16, .invokestatic 110, 3, 71, 1, 1, .null, []),
  (19, .iadd, 1, 0, 0, 0, .null, []),
  (20, .iload 5, 2, 5, 0, 0, .null, []),
  (22, .invokestatic 110, 3, 71, 1, 1, .null, []),
  (25, .iadd, 1, 0, 0, 0, .null, []),
  (26, .istore 6, 2, 6, 0, 0, .null, []),
  (28, .aload_n 0, 1, 0, 0, 0, .null, []),
  (29, .getfield 10, 3, 11, 0, 2, .null, []),
  (32, .invokevirtual 114, 3, 70, 0, 145, .null, []),
  (35, .iload 6, 2, 6, 0, 0, .null, []),
  (37, .iadd, 1, 0, 0, 0, .null, []),
  (38, .sipush 240, 3, 0, 0, 0, .int 240, []),
  (41, .if_icmp .le 5, 3, 46, 0, 0, .null, []),
  (44, .iconst (-1), 1, 0, 0, 0, .int (-1), []),
  (45, .ireturn, 1, 0, 0, 0, .null, []),
  (46, .aload_n 0, 1, 0, 0, 0, .null, []),
  (47, .getfield 10, 3, 11, 0, 2, .null, []),
  (50, .iload_n 1, 1, 1, 0, 0, .null, []),
  (51, .invokevirtual 118, 3, 72, 1, 144, .null, []),
  (54, .aload_n 0, 1, 0, 0, 0, .null, []),
  (55, .getfield 10, 3, 11, 0, 2, .null, []),
  (58, .iload_n 2, 1, 2, 0, 0, .null, []),
  (59, .invokevirtual 118, 3, 72, 1, 144, .null, []),
  (62, .aload_n 0, 1, 0, 0, 0, .null, []),
  (63, .getfield 10, 3, 11, 0, 2, .null, []),
  (66, .iload_n 3, 1, 3, 0, 0, .null, []),
  (67, .invokevirtual 118, 3, 72, 1, 144, .null, []),
  (70, .aload_n 0, 1, 0, 0, 0, .null, []),
  (71, .getfield 10, 3, 11, 0, 2, .null, []),
  (74, .iload 4, 2, 4, 0, 0, .null, []),
  (76, .invokevirtual 118, 3, 72, 1, 144, .null, []),
  (79, .aload_n 0, 1, 0, 0, 0, .null, []),
  (80, .getfield 10, 3, 11, 0, 2, .null, []),
  (83, .iload 5, 2, 5, 0, 0, .null, []),
  (85, .invokevirtual 118, 3, 72, 1, 144, .null, []),
  (88, .aload_n 0, 1, 0, 0, 0, .null, []),
  (89, .getfield 10, 3, 11, 0, 2, .null, []),
  (92, .invokevirtual 114, 3, 70, 0, 145, .null, []),
  (95, .ireturn, 1, 0, 0, 0, .null, [])], [], 7)
def cd_X11_end : mmP := ([(0, .aload_n 0, 1, 0, 0, 0, .null, []),
  (1, .getfield 10, 3, 11, 0, 2, .null, []),
  (4, .iload_n 1, 1, 1, 0, 0, .null, []),
  (5, .invokevirtual 122, 3, 73, 1, 145, .null, []),
  (8, .ireturn, 1, 0, 1, 0, .null, [])], [], 2)
def cd_X11_fault : mmP := ([(0, .iload_n 1, 1, 1, 0, 0, .null, []),
  (1, .ifCond .ne 11, 3, 12, 0, 0, .null, []),
  (4, .aload_n 0, 1, 0, 0, 0, .null, []),
  (5, .getfield 21, 3, 11, 1, 2, .null, []),
  (8, .invokevirtual 126, 3, 13, 0, 33, .null, []),
  (11, .ireturn, 1, 0, 0, 0, .null, []),
  (12, .iload_n 1, 1, 1, 0, 0, .null, []),
  (13, .iconst 1, 1, 0, 0, 0, .int 1, []),
  (14, .if_icmp .ne 13, 3, 27, 0, 0, .null, []),
  (17, .aload_n 0, 1, 0, 0, 0, .null, []),
  (18, .getfield 28, 3, 11, 2, 2, .null, []),
  (21, .invokevirtual 129, 3, 19, 0, 49, .null, []),
  (24, .goto 5, 3, 29, 0, 0, .null, []),
  (27, .bipush (-2), 2, 0, 0, 0, .int (-2), []),
  (29, .ireturn, 1, 0, 0, 0, .null, [])], [], 2)
def cd_X11_text : mmP := ([(0, .iload_n 1, 1, 1, 0, 0, .null, []),
  (1, .ifCond .ne 36, 3, 37, 0, 0, .null, []),
  (4, .aload_n 0, 1, 0, 0, 0, .null, []),
  (5, .getfield 21, 3, 11, 1, 2, .null, []),
  (8, .invokevirtual 126, 3, 13, 0, 33, .null, []),
  (11, .iconst (-1), 1, 0, 0, 0, .int (-1), []),
  (12, .if_icmp .ne 25, 3, 37, 0, 0, .null, []),
  (15, .aload_n 0, 1, 0, 0, 0, .null, []),
  (16, .getfield 10, 3, 11, 0, 2, .null, []),
  (19, .iconst 0, 1, 0, 0, 0, .int 0, []),
  (20, .invokevirtual 122, 3, 73, 1, 145, .null, []),
  (23, .pop, 1, 0, 0, 0, .null, []),
  (24, .aload_n 0, 1, 0, 0, 0, .null, []),
  (25, .invokevirtual 130, 3, 103, 0, 176, .null, []),
  (28, .aload_n 0, 1, 0, 0, 0, .null, []),
  (29, .getfield 42, 3, 11, 4, 2, .null, []),
  (32, .iconst 2, 1, 0, 0, 0, .int 2, []),
  (33, .invokevirtual 133, 3, 86, 1, 161, .null, []),
  (36, .ireturn, 1, 0, 0, 0, .null, []),
  (37, .iload_n 1, 1, 1, 0, 0, .null, []),
  (38, .iconst 1, 1, 0, 0, 0, .int 1, []),
  (39, .if_icmp .ne 48, 3, 87, 0, 0, .null, []),
  (42, .aload_n 0, 1, 0, 0, 0, .null, []),
  (43, .getfield 35, 3, 11, 3, 2, .null, []),
  (46, .invokevirtual 136, 3, 35, 0, 65, .null, []),
  (49, .ifCond .ne 38, 3, 87, 0, 0, .null, []),
  (52, .aload_n 0, 1, 0, 0, 0, .null, []),
  (53, .getfield 28, 3, 11, 2, 2, .null, []),
  (56, .invokevirtual 129, 3, 19, 0, 49, .null, []),
  (59, .iconst (-1), 1, 0, 0, 0, .int (-1), []),
  (60, .if_icmp .ne 27, 3, 87, 0, 0, .null, []),
  (63, .aload_n 0, 1, 0, 0, 0, .null, []),
  (64, .getfield 10, 3, 11, 0, 2, .null, []),
  (67, .iconst 0, 1, 0, 0, 0, .int 0, []),
  (68, .invokevirtual 122, 3, 73, 1, 145, .null, []),
  (71, .pop, 1, 0, 0, 0, .null, []),
  (72, .aload_n 0, 1, 0, 0, 0, .null, []),
  (73, .getfield 35, 3, 11, 3, 2, .null, []),
  (76, .aload_n 0, 1, 0, 0, 0, .null, []),
  (77, .getfield 28, 3, 11, 2, 2, .null, []),
  (80, .invokevirtual 140, 3, 17, 0, 51, .null, []),
  (83, .invokevirtual 144, 3, 37, 1, 65, .null, []),
  (86, .ireturn, 1, 0, 0, 0, .null, []),
  (87, .iconst (-1), 1, 0, 0, 0, .int (-1), []),
  (88, .ireturn, 1, 0, 0, 0, .null, [])], [], 2)
def cd_X11_beginDuchy : mmP := ([(0, .aload_n 0, 1, 0, 0, 0, .null, []),
  (1, .getfield 42, 3, 11, 4, 2, .null, []),
  (4, .aload_n 0, 1, 0, 0, 0, .null, []),
  (5, .getfield 21, 3, 11, 1, 2, .null, []),
  (8, .invokevirtual 148, 3, 12, 0, 35, .null, []),
  (11, .invokevirtual 152, 3, 85, 1, 160, .null, []),
  (14, .aload_n 0, 1, 0, 0, 0, .null, []),
  (15, .getfield 49, 3, 11, 5, 2, .null, []),
  (18, .aload_n 0, 1, 0, 0, 0, .null, []),
  (19, .getfield 42, 3, 11, 4, 2, .null, []),
  (22, .invokevirtual 156, 3, 1, 1, 0, .null, []),
  (25, .aload_n 0, 1, 0, 0, 0, .null, []),
  (26, .getfield 56, 3, 11, 6, 2, .null, []),
  (29, .invokevirtual 159, 3, 51, 0, 96, .null, []),
  (32, .aload_n 0, 1, 0, 0, 0, .null, []),
  (33, .getfield 76, 3, 11, 10, 2, .null, []),
  (36, .invokevirtual 162, 3, 65, 0, 128, .null, []),
  (39, .aload_n 0, 1, 0, 0, 0, .null, []),
  (40, .iconst 1, 1, 0, 0, 0, .int 1, []),
  (41, .putfield 163, 3, 11, 16, 3, .null, []),
  (44, .aload_n 0, 1, 0, 0, 0, .null, []),
  (45, .iconst 0, 1, 0, 0, 0, .int 0, []),
  (46, .putfield 167, 3, 11, 17, 3, .null, []),
  (49, .return_, 1, 0, 0, 0, .null, [])], [], 1)
def cd_X11_law : mmP := ([(0, .aload_n 0, 1, 0, 0, 0, .null, []),
  (1, .getfield 35, 3, 11, 3, 2, .null, []),
  (4, .iload_n 1, 1, 1, 0, 0, .null, []),
  (5, .invokevirtual 170, 3, 38, 1, 65, .null, []),
  (8, .ireturn, 1, 0, 1, 0, .null, [])], [], 2)
end
section
def cd_X11_rule : mmP := ([(0, .aload_n 0, 1, 0, 0, 0, .null, []),
  (1, .getfield 163, 3, 11, 16, 3, .null, []),
  (4, .ifCond .ne 5, 3, 9, 0, 0, .null, []),
  (7, .iconst (-1), 1, 0, 0, 0, .int (-1), []),
  (8, .ireturn, 1, 0, 0, 0, .null, []),
  (9, .iload_n 1, 1, 1, 0, 0, .null, []),
  (10, .tableswitch 57 0 3 #[30, 41, 30, 49], 30, 67, 0, 0, .null, [(0, 40), (1, 51), (2, 40), (3, 59)]),
  (40, .aload_n 0, 1, 0, 0, 0, .null, []),
  (41, .getfield 42, 3, 11, 4, 2, .null, []),
  (44, .iconst 0, 1, 0, 0, 0, .int 0, []),
  (45, .iconst 0, 1, 0, 0, 0, .int 0, []),
  (46, .iload_n 1, 1, 1, 0, 0, .null, []),
  (47, .invokevirtual 173, 3, 94, 3, 161, .null, []),
  (50, .ireturn, 1, 0, 0, 0, .null, []),
  (51, .aload_n 0, 1, 0, 0, 0, .null, []),
  (52, .getfield 49, 3, 11, 5, 2, .null, []),
  (55, .getfield 177, 3, 0, 4, 4, .null, []),
  (58, .ireturn, 1, 0, 0, 0, .null, []),
  (59, .aload_n 0, 1, 0, 0, 0, .null, []),
  (60, .getfield 49, 3, 11, 5, 2, .null, []),
  (63, .getfield 180, 3, 0, 5, 4, .null, []),
  (66, .ireturn, 1, 0, 0, 0, .null, []),
  (67, .iconst (-1), 1, 0, 0, 0, .int (-1), []),
  (68, .ireturn, 1, 0, 0, 0, .null, [])], [], 2)
def cd_X11_cook : mmP := ([(0, .aload_n 0, 1, 0, 0, 0, .null, []),
  (1, .iload_n 1, 1, 1, 0, 0, .null, []),
  (2, .invokevirtual 183, 3, 108, 1, 177, .null, []),
  (5, .ifCond .ne 5, 3, 10, 0, 0, .null, []),
  (8, .iconst (-1), 1, 0, 0, 0, .int (-1), []),
  (9, .ireturn, 1, 0, 0, 0, .null, []),
  (10, .iload_n 2, 1, 2, 0, 0, .null, []),
  (11, .tableswitch 54 0 2 #[25, 34, 45], 25, 65, 0, 0, .null, [(0, 36), (1, 45), (2, 56)]),
  (36, .aload_n 0, 1, 0, 0, 0, .null, []),
  (37, .getfield 49, 3, 11, 5, 2, .null, []),
  (40, .iload_n 1, 1, 1, 0, 0, .null, []),
  (41, .invokevirtual 186, 3, 5, 1, 1, .null, []),
  (44, .ireturn, 1, 0, 0, 0, .null, []),
  (45, .aload_n 0, 1, 0, 0, 0, .null, []),
  (46, .getfield 42, 3, 11, 4, 2, .null, []),
  (49, .iconst 1, 1, 0, 0, 0, .int 1, []),
  (50, .iload_n 1, 1, 1, 0, 0, .null, []),
  (51, .iconst 1, 1, 0, 0, 0, .int 1, []),
  (52, .invokevirtual 173, 3, 94, 3, 161, .null, []),
  (55, .ireturn, 1, 0, 0, 0, .null, []),
  (56, .aload_n 0, 1, 0, 0, 0, .null, []),
  (57, .getfield 49, 3, 11, 5, 2, .null, []),
  (60, .iload_n 1, 1, 1, 0, 0, .null, []),
  (61, .invokevirtual 189, 3, 4, 1, 1, .null, []),
  (64, .ireturn, 1, 0, 0, 0, .null, []),
  (65, .iconst (-1), 1, 0, 0, 0, .int (-1), []),
  (66, .ireturn, 1, 0, 0, 0, .null, [])], [], 3)
def cd_X11_minister : mmP := ([(0, .aload_n 0, 1, 0, 0, 0, .null, []),
  (1, .iload_n 1, 1, 1, 0, 0, .null, []),
  (2, .invokevirtual 192, 3, 110, 1, 177, .null, []),
  (5, .ifCond .eq 12, 3, 17, 0, 0, .null, []),
  (8, .iconst 0, 1, 0, 0, 0, .int 0, []),
  (9, .iload_n 2, 1, 2, 0, 0, .null, []),
  (10, .iconst 4, 1, 0, 0, 0, .int 4, []),
  (11, .invokestatic 195, 3, 176, 3, 1, .null, []),
  (14, .ifCond .ne 13, 3, 27, 0, 0, .null, []),
  (27, .iload_n 2, 1, 2, 0, 0, .null, []),
  (28, .iconst 4, 1, 0, 0, 0, .int 4, []),
  (29, .if_icmp .ne 17, 3, 46, 0, 0, .null, []),
  (32, .aload_n 0, 1, 0, 0, 0, .null, []),
  (33, .iload_n 1, 1, 1, 0, 0, .null, []),
  (34, .invokevirtual 206, 3, 111, 1, 177, .null, []),
  (37, .ifCond .eq 7, 3, 44, 0, 0, .null, []),
  (40, .iconst 1, 1, 0, 0, 0, .int 1, []),
  (41, .goto 4, 3, 45, 0, 0, .null, []),
  (44, .iconst 0, 1, 0, 0, 0, .int 0, []),
  (45, .ireturn, 1, 0, 0, 0, .null, []),
  (46, .aload_n 0, 1, 0, 0, 0, .null, []),
  (47, .getfield 42, 3, 11, 4, 2, .null, []),
  (50, .iconst 2, 1, 0, 0, 0, .int 2, []),
  (51, .iload_n 1, 1, 1, 0, 0, .null, []),
  (52, .iload_n 2, 1, 2, 0, 0, .null, []),
  (53, .invokevirtual 173, 3, 94, 3, 161, .null, []),
  (56, .ireturn, 1, 0, 0, 0, .null, [])], [], 3)
def cd_X11_hasCook : mmP := ([(0, .aload_n 0, 1, 0, 0, 0, .null, []),
  (1, .getfield 163, 3, 11, 16, 3, .null, []),
  (4, .ifCond .eq 25, 3, 29, 0, 0, .null, []),
  (7, .iconst 0, 1, 0, 0, 0, .int 0, []),
  (8, .iload_n 1, 1, 1, 0, 0, .null, []),
  (9, .aload_n 0, 1, 0, 0, 0, .null, []),
  (10, .getfield 42, 3, 11, 4, 2, .null, []),
  (13, .iconst 1, 1, 0, 0, 0, .int 1, []),
  (14, .invokevirtual 133, 3, 86, 1, 161, .null, []),
  (17, .iconst 1, 1, 0, 0, 0, .int 1, []),
  (18, .isub, 1, 0, 0, 0, .null, []),
  (19, .invokestatic 195, 3, 176, 3, 1, .null, []),
  (22, .ifCond .eq 7, 3, 29, 0, 0, .null, []),
  (25, .iconst 1, 1, 0, 0, 0, .int 1, []),
  (26, .goto 4, 3, 30, 0, 0, .null, []),
  (29, .iconst 0, 1, 0, 0, 0, .int 0, []),
  (30, .ireturn, 1, 0, 1, 0, .null, [])], [], 2)
def cd_X11_hasTwoCooks : mmP := ([(0, .aload_n 0, 1, 0, 0, 0, .null, []),
  (1, .iload_n 1, 1, 1, 0, 0, .null, []),
  (2, .invokevirtual 183, 3, 108, 1, 177, .null, []),
  (5, .ifCond .eq 20, 3, 25, 0, 0, .null, []),
  (8, .aload_n 0, 1, 0, 0, 0, .null, []),
  (9, .iload_n 2, 1, 2, 0, 0, .null, []),
  (10, .invokevirtual 183, 3, 108, 1, 177, .null, []),
  (13, .ifCond .eq 12, 3, 25, 0, 0, .null, []),
  (16, .iload_n 1, 1, 1, 0, 0, .null, []),
  (17, .iload_n 2, 1, 2, 0, 0, .null, []),
  (18, .if_icmp .eq 7, 3, 25, 0, 0, .null, []),
  (21, .iconst 1, 1, 0, 0, 0, .int 1, []),
  (22, .goto 4, 3, 26, 0, 0, .null, []),
  (25, .iconst 0, 1, 0, 0, 0, .int 0, []),
  (26, .ireturn, 1, 0, 1, 0, .null, [])], [], 3)
def cd_X11_hasMinister : mmP := ([(0, .aload_n 0, 1, 0, 0, 0, .null, []),
  (1, .getfield 163, 3, 11, 16, 3, .null, []),
  (4, .ifCond .eq 25, 3, 29, 0, 0, .null, []),
  (7, .iconst 0, 1, 0, 0, 0, .int 0, []),
  (8, .iload_n 1, 1, 1, 0, 0, .null, []),
  (9, .aload_n 0, 1, 0, 0, 0, .null, []),
  (10, .getfield 42, 3, 11, 4, 2, .null, []),
  (13, .iconst 2, 1, 0, 0, 0, .int 2, []),
  (14, .invokevirtual 133, 3, 86, 1, 161, .null, []),
  (17, .iconst 1, 1, 0, 0, 0, .int 1, []),
  (18, .isub, 1, 0, 0, 0, .null, []),
  (19, .invokestatic 195, 3, 176, 3, 1, .null, []),
  (22, .ifCond .eq 7, 3, 29, 0, 0, .null, []),
  (25, .iconst 1, 1, 0, 0, 0, .int 1, []),
  (26, .goto 4, 3, 30, 0, 0, .null, []),
  (29, .iconst 0, 1, 0, 0, 0, .int 0, []),
  (30, .ireturn, 1, 0, 1, 0, .null, [])], [], 2)
def cd_X11_isInside : mmP := ([(0, .aload_n 0, 1, 0, 0, 0, .null, []),
  (1, .getfield 49, 3, 11, 5, 2, .null, []),
  (4, .getfield 209, 3, 0, 2, 4, .null, []),
  (7, .iload_n 1, 1, 1, 0, 0, .null, []),
  (8, .ishr, 1, 0, 0, 0, .null, []),
  (9, .iconst 1, 1, 0, 0, 0, .int 1, []),
  (10, .iand, 1, 0, 0, 0, .null, []),
  (11, .ifCond .eq 7, 3, 18, 0, 0, .null, []),
  (14, .iconst 1, 1, 0, 0, 0, .int 1, []),
  (15, .goto 4, 3, 19, 0, 0, .null, []),
  (18, .iconst 0, 1, 0, 0, 0, .int 0, []),
  (19, .ireturn, 1, 0, 1, 0, .null, [])], [], 2)
def cd_X11_sumInside : mmP := ([(0, .iconst 0, 1, 0, 0, 0, .int 0, []),
  (1, .istore_n 2, 1, 2, 0, 0, .null, []),
  (2, .iconst 0, 1, 0, 0, 0, .int 0, []),
  (3, .istore_n 3, 1, 3, 0, 0, .null, []),
  (4, .iload_n 3, 1, 3, 0, 0, .null, []),
  (5, .aload_n 0, 1, 0, 0, 0, .null, []),
  (6, .getfield 42, 3, 11, 4, 2, .null, []),
  (9, .iconst 2, 1, 0, 0, 0, .int 2, []),
  (10, .invokevirtual 133, 3, 86, 1, 161, .null, []),
  (13, .if_icmp .ge 34, 3, 47, 0, 0, .null, []),
  (16, .iload_n 2, 1, 2, 0, 0, .null, []),
  (17, .aload_n 0, 1, 0, 0, 0, .null, []),
  (18, .iload_n 3, 1, 3, 0, 0, .null, []),
  (19, .invokevirtual 206, 3, 111, 1, 177, .null, []),
  (22, .ifCond .eq 16, 3, 38, 0, 0, .null, []),
  (25, .aload_n 0, 1, 0, 0, 0, .null, []),
  (26, .getfield 42, 3, 11, 4, 2, .null, []),
  (29, .iconst 2, 1, 0, 0, 0, .int 2, []),
  (30, .iload_n 3, 1, 3, 0, 0, .null, []),
  (31, .iload_n 1, 1, 1, 0, 0, .null, []),
  (32, .invokevirtual 173, 3, 94, 3, 161, .null, []),
  (35, .goto 4, 3, 39, 0, 0, .null, []),
  (38, .iconst 0, 1, 0, 0, 0, .int 0, []),
  (39, .iadd, 1, 0, 0, 0, .null, []),
  (40, .istore_n 2, 1, 2, 0, 0, .null, []),
  (41, .iinc 3 1, 3, 3, 0, 0, .int 1, []),
  (44, .goto (-40), 3, 4, 0, 0, .null, []),
  (47, .iload_n 2, 1, 2, 0, 0, .null, []),
  (48, .ireturn, 1, 0, 0, 0, .null, [])], [(4, [true, true, true, true])], 4)
def cd_X11_strokesLeft : mmP := ([(0, .aload_n 0, 1, 0, 0, 0, .null, []),
  (1, .getfield 42, 3, 11, 4, 2, .null, []),
  (4, .iconst 1, 1, 0, 0, 0, .int 1, []),
  (5, .iload_n 1, 1, 1, 0, 0, .null, []),
  (6, .iconst 1, 1, 0, 0, 0, .int 1, []),
  (7, .invokevirtual 173, 3, 94, 3, 161, .null, []),
  (10, .aload_n 0, 1, 0, 0, 0, .null, []),
  (11, .getfield 49, 3, 11, 5, 2, .null, []),
  (14, .iload_n 1, 1, 1, 0, 0, .null, []),
  (15, .invokevirtual 189, 3, 4, 1, 1, .null, []),
  (18, .isub, 1, 0, 0, 0, .null, []),
  (19, .ireturn, 1, 0, 0, 0, .null, [])], [], 2)
def cd_X11_canFold : mmP := ([(0, .aload_n 0, 1, 0, 0, 0, .null, []),
  (1, .iload_n 1, 1, 1, 0, 0, .null, []),
  (2, .invokevirtual 206, 3, 111, 1, 177, .null, []),
  (5, .ifCond .ne 27, 3, 32, 0, 0, .null, []),
  (8, .aload_n 0, 1, 0, 0, 0, .null, []),
  (9, .getfield 49, 3, 11, 5, 2, .null, []),
  (12, .getfield 212, 3, 0, 0, 4, .null, []),
  (15, .aload_n 0, 1, 0, 0, 0, .null, []),
  (16, .getfield 42, 3, 11, 4, 2, .null, []),
  (19, .iconst 2, 1, 0, 0, 0, .int 2, []),
  (20, .iload_n 1, 1, 1, 0, 0, .null, []),
  (21, .iconst 2, 1, 0, 0, 0, .int 2, []),
  (22, .invokevirtual 173, 3, 94, 3, 161, .null, []),
  (25, .if_icmp .lt 7, 3, 32, 0, 0, .null, []),
  (28, .iconst 1, 1, 0, 0, 0, .int 1, []),
  (29, .goto 4, 3, 33, 0, 0, .null, []),
  (32, .iconst 0, 1, 0, 0, 0, .int 0, []),
  (33, .ireturn, 1, 0, 1, 0, .null, [])], [], 2)
def cd_X11_couldFold : mmP := ([(0, .iconst 0, 1, 0, 0, 0, .int 0, []),
  (1, .istore_n 1, 1, 1, 0, 0, .null, []),
  (2, .iconst 0, 1, 0, 0, 0, .int 0, []),
  (3, .istore_n 2, 1, 2, 0, 0, .null, []),
  (4, .iload_n 2, 1, 2, 0, 0, .null, []),
  (5, .aload_n 0, 1, 0, 0, 0, .null, []),
  (6, .getfield 42, 3, 11, 4, 2, .null, []),
  (9, .iconst 2, 1, 0, 0, 0, .int 2, []),
  (10, .invokevirtual 133, 3, 86, 1, 161, .null, []),
  (13, .if_icmp .ge 27, 3, 40, 0, 0, .null, []),
  (16, .iload_n 1, 1, 1, 0, 0, .null, []),
  (17, .aload_n 0, 1, 0, 0, 0, .null, []),
  (18, .iload_n 2, 1, 2, 0, 0, .null, []),
  (19, .invokevirtual 215, 3, 114, 1, 177, .null, []),
  (22, .ifCond .eq 9, 3, 31, 0, 0, .null, []),
  (25, .iconst 1, 1, 0, 0, 0, .int 1, []),
  (26, .iload_n 2, 1, 2, 0, 0, .null, []),
  (27, .ishl, 1, 0, 0, 0, .null, []),
  (28, .goto 4, 3, 32, 0, 0, .null, []),
  (31, .iconst 0, 1, 0, 0, 0, .int 0, []),
  (32, .ior, 1, 0, 0, 0, .null, []),
  (33, .istore_n 1, 1, 1, 0, 0, .null, []),
  (34, .iinc 2 1, 3, 2, 0, 0, .int 1, []),
  (37, .goto (-33), 3, 4, 0, 0, .null, []),
  (40, .iload_n 1, 1, 1, 0, 0, .null, []),
  (41, .ireturn, 1, 0, 0, 0, .null, [])], [(4, [true, true, true])], 3)
def cd_X11_whisked : mmP := ([(0, .aload_n 0, 1, 0, 0, 0, .null, []),
  (1, .getfield 42, 3, 11, 4, 2, .null, []),
  (4, .iconst 0, 1, 0, 0, 0, .int 0, []),
  (5, .iconst 0, 1, 0, 0, 0, .int 0, []),
  (6, .iconst 0, 1, 0, 0, 0, .int 0, []),
  (7, .invokevirtual 173, 3, 94, 3, 161, .null, []),
  (10, .istore 5, 2, 5, 0, 0, .null, []),
  (12, .aload_n 0, 1, 0, 0, 0, .null, []),
  (13, .getfield 42, 3, 11, 4, 2, .null, []),
  (16, .iconst 0, 1, 0, 0, 0, .int 0, []),
  (17, .iconst 0, 1, 0, 0, 0, .int 0, []),
  (18, .iconst 2, 1, 0, 0, 0, .int 2, []),
  (19, .invokevirtual 173, 3, 94, 3, 161, .null, []),
  (22, .istore 6, 2, 6, 0, 0, .null, []),
  (24, .aload_n 0, 1, 0, 0, 0, .null, []),
  (25, .getfield 35, 3, 11, 3, 2, .null, []),
  (28, .invokevirtual 218, 3, 36, 0, 65, .null, []),
  (31, .iconst (-1), 1, 0, 0, 0, .int (-1), []),
  (32, .if_icmp .ne 22, 3, 54, 0, 0, .null, []),
  (35, .iload_n 1, 1, 1, 0, 0, .null, []),
  (36, .iconst 2, 1, 0, 0, 0, .int 2, []),
  (37, .iload 6, 2, 6, 0, 0, .null, []),
  (39, .imul, 1, 0, 0, 0, .null, []),
  (40, .iadd, 1, 0, 0, 0, .null, []),
  (41, .iload 4, 2, 4, 0, 0, .null, []),
  (43, .isub, 1, 0, 0, 0, .null, []),
  (44, .iconst 3, 1, 0, 0, 0, .int 3, []),
  (45, .iload_n 3, 1, 3, 0, 0, .null, []),
  (46, .bipush 10, 2, 0, 0, 0, .int 10, []),
  (48, .idiv, 1, 0, 0, 0, .null, []),
  (49, .imul, 1, 0, 0, 0, .null, []),
  (50, .isub, 1, 0, 0, 0, .null, []),
  (51, .goto 19, 3, 70, 0, 0, .null, []),
  (54, .aload_n 0, 1, 0, 0, 0, .null, []),
  (55, .getfield 35, 3, 11, 3, 2, .null, []),
  (58, .iload_n 1, 1, 1, 0, 0, .null, []),
  (59, .iload_n 2, 1, 2, 0, 0, .null, []),
  (60, .iload_n 3, 1, 3, 0, 0, .null, []),
  (61, .iload 4, 2, 4, 0, 0, .null, []),
  (63, .iload 5, 2, 5, 0, 0, .null, []),
  (65, .iload 6, 2, 6, 0, 0, .null, []),
  (67, .invokevirtual 221, 3, 39, 6, 65, .null, []),
  (70, .istore 7, 2, 7, 0, 0, .null, []),
  (72, .bipush (-9), 2, 0, 0, 0, .int (-9), []),
  (74, .iload 7, 2, 7, 0, 0, .null, []),
  (76, .bipush 9, 2, 0, 0, 0, .int 9, []),
  (78, .invokestatic 225, 3, 178, 3, 1, .null, []),
  (81, .istore 8, 2, 8, 0, 0, .null, []),
  (83, .iconst 0, 1, 0, 0, 0, .int 0, []),
  (84, .iload_n 2, 1, 2, 0, 0, .null, []),
  (85, .iload 8, 2, 8, 0, 0, .null, []),
  (87, .iadd, 1, 0, 0, 0, .null, []),
  (88, .bipush 99, 2, 0, 0, 0, .int 99, []),
  (90, .invokestatic 225, 3, 178, 3, 1, .null, []),
  (93, .ireturn, 1, 0, 0, 0, .null, [])], [], 9)
def cd_X11_whisk : mmP := ([(0, .aload_n 0, 1, 0, 0, 0, .null, []),
  (1, .getfield 49, 3, 11, 5, 2, .null, []),
  (4, .iload_n 1, 1, 1, 0, 0, .null, []),
  (5, .invokevirtual 186, 3, 5, 1, 1, .null, []),
  (8, .istore_n 3, 1, 3, 0, 0, .null, []),
  (9, .iconst 0, 1, 0, 0, 0, .int 0, []),
  (10, .istore 4, 2, 4, 0, 0, .null, []),
  (12, .iload 4, 2, 4, 0, 0, .null, []),
  (14, .iload_n 2, 1, 2, 0, 0, .null, []),
  (15, .if_icmp .ge 55, 3, 70, 0, 0, .null, []),
  (18, .aload_n 0, 1, 0, 0, 0, .null, []),
  (19, .getfield 49, 3, 11, 5, 2, .null, []),
  (22, .aload_n 0, 1, 0, 0, 0, .null, []),
  (23, .iload_n 3, 1, 3, 0, 0, .null, []),
  (24, .aload_n 0, 1, 0, 0, 0, .null, []),
  (25, .getfield 49, 3, 11, 5, 2, .null, []),
  (28, .getfield 212, 3, 0, 0, 4, .null, []),
  (31, .aload_n 0, 1, 0, 0, 0, .null, []),
  (32, .getfield 49, 3, 11, 5, 2, .null, []),
  (35, .getfield 228, 3, 0, 1, 4, .null, []),
  (38, .aload_n 0, 1, 0, 0, 0, .null, []),
  (39, .getfield 49, 3, 11, 5, 2, .null, []),
  (42, .getfield 177, 3, 0, 4, 4, .null, []),
  (45, .invokevirtual 231, 3, 116, 4, 177, .null, []),
  (48, .putfield 212, 3, 0, 0, 4, .null, []),
  (51, .aload_n 0, 1, 0, 0, 0, .null, []),
  (52, .getfield 49, 3, 11, 5, 2, .null, []),
  (55, .dup, 1, 0, 0, 0, .null, []),
  (56, .getfield 228, 3, 0, 1, 4, .null, []),
  (59, .iconst 1, 1, 0, 0, 0, .int 1, []),
  (60, .iadd, 1, 0, 0, 0, .null, []),
  (61, .putfield 228, 3, 0, 1, 4, .null, []),
  (64, .iinc 4 1, 3, 4, 0, 0, .int 1, []),
  (67, .goto (-55), 3, 12, 0, 0, .null, []),
  (70, .aload_n 0, 1, 0, 0, 0, .null, []),
  (71, .getfield 49, 3, 11, 5, 2, .null, []),
  (74, .iload_n 1, 1, 1, 0, 0, .null, []),
  (75, .iload_n 2, 1, 2, 0, 0, .null, []),
  (76, .invokevirtual 235, 3, 6, 2, 0, .null, []),
  (79, .return_, 1, 0, 0, 0, .null, [])], [(12, [true, true, true, true, true])], 5)
def cd_X11_foldIn : mmP := ([(0, .aload_n 0, 1, 0, 0, 0, .null, []),
  (1, .getfield 49, 3, 11, 5, 2, .null, []),
  (4, .iconst 0, 1, 0, 0, 0, .int 0, []),
  (5, .aload_n 0, 1, 0, 0, 0, .null, []),
  (6, .getfield 49, 3, 11, 5, 2, .null, []),
  (9, .getfield 212, 3, 0, 0, 4, .null, []),
  (12, .aload_n 0, 1, 0, 0, 0, .null, []),
  (13, .getfield 42, 3, 11, 4, 2, .null, []),
  (16, .iconst 2, 1, 0, 0, 0, .int 2, []),
  (17, .iload_n 1, 1, 1, 0, 0, .null, []),
  (18, .iconst 3, 1, 0, 0, 0, .int 3, []),
  (19, .invokevirtual 173, 3, 94, 3, 161, .null, []),
  (22, .isub, 1, 0, 0, 0, .null, []),
  (23, .invokestatic 239, 3, 302, 2, 1, .null, []),
  (26, .putfield 212, 3, 0, 0, 4, .null, []),
  (29, .aload_n 0, 1, 0, 0, 0, .null, []),
  (30, .getfield 49, 3, 11, 5, 2, .null, []),
  (33, .dup, 1, 0, 0, 0, .null, []),
  (34, .getfield 209, 3, 0, 2, 4, .null, []),
  (37, .iconst 1, 1, 0, 0, 0, .int 1, []),
  (38, .iload_n 1, 1, 1, 0, 0, .null, []),
  (39, .ishl, 1, 0, 0, 0, .null, []),
  (40, .ior, 1, 0, 0, 0, .null, []),
  (41, .putfield 209, 3, 0, 2, 4, .null, []),
  (44, .return_, 1, 0, 0, 0, .null, [])], [], 2)
def cd_X11_openDoor : mmP := ([(0, .aload_n 0, 1, 0, 0, 0, .null, []),
  (1, .getfield 49, 3, 11, 5, 2, .null, []),
  (4, .aload_n 0, 1, 0, 0, 0, .null, []),
  (5, .getfield 49, 3, 11, 5, 2, .null, []),
  (8, .getfield 212, 3, 0, 0, 4, .null, []),
  (11, .iconst 2, 1, 0, 0, 0, .int 2, []),
  (12, .idiv, 1, 0, 0, 0, .null, []),
  (13, .putfield 212, 3, 0, 0, 4, .null, []),
  (16, .aload_n 0, 1, 0, 0, 0, .null, []),
  (17, .invokevirtual 245, 3, 123, 0, 176, .null, []),
  (20, .return_, 1, 0, 0, 0, .null, [])], [], 1)
def cd_X11_passHour : mmP := ([(0, .aload_n 0, 1, 0, 0, 0, .null, []),
  (1, .getfield 49, 3, 11, 5, 2, .null, []),
  (4, .aload_n 0, 1, 0, 0, 0, .null, []),
  (5, .getfield 49, 3, 11, 5, 2, .null, []),
  (8, .getfield 212, 3, 0, 0, 4, .null, []),
  (11, .aload_n 0, 1, 0, 0, 0, .null, []),
  (12, .invokevirtual 248, 3, 121, 0, 177, .null, []),
  (15, .invokestatic 251, 3, 122, 2, 1, .null, []),
  (18, .putfield 212, 3, 0, 0, 4, .null, []),
  (21, .aload_n 0, 1, 0, 0, 0, .null, []),
  (22, .invokevirtual 245, 3, 123, 0, 176, .null, []),
  (25, .return_, 1, 0, 0, 0, .null, [])], [], 1)
def cd_X11_sinksBy : mmP := ([(0, .aload_n 0, 1, 0, 0, 0, .null, []),
  (1, .iconst 0, 1, 0, 0, 0, .int 0, []),
  (2, .invokevirtual 254, 3, 112, 1, 177, .null, []),
  (5, .iconst 4, 1, 0, 0, 0, .int 4, []),
  (6, .idiv, 1, 0, 0, 0, .null, []),
  (7, .istore_n 1, 1, 1, 0, 0, .null, []),
  (8, .iconst 0, 1, 0, 0, 0, .int 0, []),
  (9, .iconst 1, 1, 0, 0, 0, .int 1, []),
  (10, .aload_n 0, 1, 0, 0, 0, .null, []),
  (11, .getfield 42, 3, 11, 4, 2, .null, []),
  (14, .iconst 0, 1, 0, 0, 0, .int 0, []),
  (15, .iconst 0, 1, 0, 0, 0, .int 0, []),
  (16, .iconst 0, 1, 0, 0, 0, .int 0, []),
  (17, .invokevirtual 173, 3, 94, 3, 161, .null, []),
  (20, .iconst 3, 1, 0, 0, 0, .int 3, []),
  (21, .idiv, 1, 0, 0, 0, .null, []),
  (22, .iadd, 1, 0, 0, 0, .null, []),
  (23, .iload_n 1, 1, 1, 0, 0, .null, []),
  (24, .iadd, 1, 0, 0, 0, .null, []),
  (25, .aload_n 0, 1, 0, 0, 0, .null, []),
  (26, .getfield 49, 3, 11, 5, 2, .null, []),
  (29, .getfield 257, 3, 0, 3, 4, .null, []),
  (32, .isub, 1, 0, 0, 0, .null, []),
  (33, .invokestatic 239, 3, 302, 2, 1, .null, []),
  (36, .ireturn, 1, 0, 0, 0, .null, [])], [], 2)
def cd_X11_sunk : mmP := ([(0, .iconst 0, 1, 0, 0, 0, .int 0, []),
  (1, .iload_n 0, 1, 0, 0, 0, .null, []),
  (2, .iload_n 1, 1, 1, 0, 0, .null, []),
  (3, .isub, 1, 0, 0, 0, .null, []),
  (4, .invokestatic 239, 3, 302, 2, 1, .null, []),
  (7, .ireturn, 1, 0, 0, 0, .null, [])], [], 2)
def cd_X11_fallIfFlat : mmP := ([(0, .aload_n 0, 1, 0, 0, 0, .null, []),
  (1, .getfield 49, 3, 11, 5, 2, .null, []),
  (4, .getfield 212, 3, 0, 0, 4, .null, []),
  (7, .ifCond .ne 34, 3, 41, 0, 0, .null, []),
  (10, .aload_n 0, 1, 0, 0, 0, .null, []),
  (11, .getfield 49, 3, 11, 5, 2, .null, []),
  (14, .getfield 209, 3, 0, 2, 4, .null, []),
  (17, .ifCond .eq 24, 3, 41, 0, 0, .null, []),
  (20, .aload_n 0, 1, 0, 0, 0, .null, []),
  (21, .getfield 49, 3, 11, 5, 2, .null, []),
  (24, .iconst 0, 1, 0, 0, 0, .int 0, []),
  (25, .putfield 209, 3, 0, 2, 4, .null, []),
  (28, .aload_n 0, 1, 0, 0, 0, .null, []),
  (29, .getfield 49, 3, 11, 5, 2, .null, []),
  (32, .dup, 1, 0, 0, 0, .null, []),
  (33, .getfield 260, 3, 0, 7, 4, .null, []),
  (36, .iconst 1, 1, 0, 0, 0, .int 1, []),
  (37, .iadd, 1, 0, 0, 0, .null, []),
  (38, .putfield 260, 3, 0, 7, 4, .null, []),
  (41, .return_, 1, 0, 0, 0, .null, [])], [], 1)
def cd_X11_passDay : mmP := ([(0, .aload_n 0, 1, 0, 0, 0, .null, []),
  (1, .getfield 49, 3, 11, 5, 2, .null, []),
  (4, .sipush 9999, 3, 0, 0, 0, .int 9999, []),
  (7, .aload_n 0, 1, 0, 0, 0, .null, []),
  (8, .getfield 49, 3, 11, 5, 2, .null, []),
  (11, .getfield 263, 3, 0, 6, 4, .null, []),
  (14, .aload_n 0, 1, 0, 0, 0, .null, []),
  (15, .iconst 1, 1, 0, 0, 0, .int 1, []),
  (16, .invokevirtual 254, 3, 112, 1, 177, .null, []),
  (19, .iadd, 1, 0, 0, 0, .null, []),
  (20, .invokestatic 266, 3, 304, 2, 1, .null, []),
  (23, .putfield 263, 3, 0, 6, 4, .null, []),
  (26, .aload_n 0, 1, 0, 0, 0, .null, []),
  (27, .getfield 49, 3, 11, 5, 2, .null, []),
  (30, .sipush 999, 3, 0, 0, 0, .int 999, []),
  (33, .aload_n 0, 1, 0, 0, 0, .null, []),
  (34, .getfield 49, 3, 11, 5, 2, .null, []),
  (37, .getfield 180, 3, 0, 5, 4, .null, []),
  (40, .iconst 2, 1, 0, 0, 0, .int 2, []),
  (41, .iadd, 1, 0, 0, 0, .null, []),
  (42, .invokestatic 266, 3, 304, 2, 1, .null, []),
  (45, .putfield 180, 3, 0, 5, 4, .null, []),
  (48, .aload_n 0, 1, 0, 0, 0, .null, []),
  (49, .getfield 63, 3, 11, 7, 2, .null, []),
  (52, .aload_n 0, 1, 0, 0, 0, .null, []),
  (53, .getfield 49, 3, 11, 5, 2, .null, []),
  (56, .getfield 269, 3, 0, 8, 4, .null, []),
  (59, .aload_n 0, 1, 0, 0, 0, .null, []),
  (60, .getfield 49, 3, 11, 5, 2, .null, []),
  (63, .getfield 212, 3, 0, 0, 4, .null, []),
  (66, .aload_n 0, 1, 0, 0, 0, .null, []),
  (67, .getfield 49, 3, 11, 5, 2, .null, []),
  (70, .getfield 209, 3, 0, 2, 4, .null, []),
  (73, .aload_n 0, 1, 0, 0, 0, .null, []),
  (74, .getfield 49, 3, 11, 5, 2, .null, []),
  (77, .getfield 228, 3, 0, 1, 4, .null, []),
  (80, .invokevirtual 272, 3, 45, 4, 80, .null, []),
  (83, .aload_n 0, 1, 0, 0, 0, .null, []),
  (84, .getfield 49, 3, 11, 5, 2, .null, []),
  (87, .dup, 1, 0, 0, 0, .null, []),
  (88, .getfield 269, 3, 0, 8, 4, .null, []),
  (91, .iconst 1, 1, 0, 0, 0, .int 1, []),
  (92, .iadd, 1, 0, 0, 0, .null, []),
  (93, .putfield 269, 3, 0, 8, 4, .null, []),
  (96, .aload_n 0, 1, 0, 0, 0, .null, []),
  (97, .getfield 49, 3, 11, 5, 2, .null, []),
  (100, .invokevirtual 276, 3, 2, 0, 0, .null, []),
  (103, .return_, 1, 0, 0, 0, .null, [])], [], 1)
def cd_X11_passDrawnDay : mmP := ([(0, .aload_n 0, 1, 0, 0, 0, .null, []),
  (1, .getfield 92, 3, 11, 12, 2, .null, []),
  (4, .aload_n 0, 1, 0, 0, 0, .null, []),
  (5, .getfield 42, 3, 11, 4, 2, .null, []),
  (8, .iconst 1, 1, 0, 0, 0, .int 1, []),
  (9, .invokevirtual 133, 3, 86, 1, 161, .null, []),
  (12, .invokevirtual 279, 3, 10, 1, 17, .null, []),
  (15, .istore_n 1, 1, 1, 0, 0, .null, []),
  (16, .aload_n 0, 1, 0, 0, 0, .null, []),
  (17, .getfield 92, 3, 11, 12, 2, .null, []),
  (20, .bipush 10, 2, 0, 0, 0, .int 10, []),
  (22, .invokevirtual 279, 3, 10, 1, 17, .null, []),
  (25, .iconst 5, 1, 0, 0, 0, .int 5, []),
  (26, .iadd, 1, 0, 0, 0, .null, []),
  (27, .istore_n 2, 1, 2, 0, 0, .null, []),
  (28, .aload_n 0, 1, 0, 0, 0, .null, []),
  (29, .iload_n 1, 1, 1, 0, 0, .null, []),
  (30, .iload_n 2, 1, 2, 0, 0, .null, []),
  (31, .aload_n 0, 1, 0, 0, 0, .null, []),
  (32, .iload_n 1, 1, 1, 0, 0, .null, []),
  (33, .invokevirtual 282, 3, 113, 1, 177, .null, []),
  (36, .invokestatic 266, 3, 304, 2, 1, .null, []),
  (39, .invokevirtual 285, 3, 117, 2, 176, .null, []),
  (42, .aload_n 0, 1, 0, 0, 0, .null, []),
  (43, .getfield 42, 3, 11, 4, 2, .null, []),
  (46, .iconst 2, 1, 0, 0, 0, .int 2, []),
  (47, .invokevirtual 133, 3, 86, 1, 161, .null, []),
  (50, .istore_n 3, 1, 3, 0, 0, .null, []),
  (51, .iconst 0, 1, 0, 0, 0, .int 0, []),
  (52, .istore 4, 2, 4, 0, 0, .null, []),
  (54, .iload 4, 2, 4, 0, 0, .null, []),
  (56, .iload_n 3, 1, 3, 0, 0, .null, []),
  (57, .if_icmp .ge 34, 3, 91, 0, 0, .null, []),
  (60, .aload_n 0, 1, 0, 0, 0, .null, []),
  (61, .getfield 92, 3, 11, 12, 2, .null, []),
  (64, .iload_n 3, 1, 3, 0, 0, .null, []),
  (65, .invokevirtual 279, 3, 10, 1, 17, .null, []),
  (68, .istore 5, 2, 5, 0, 0, .null, []),
  (70, .aload_n 0, 1, 0, 0, 0, .null, []),
  (71, .iload 5, 2, 5, 0, 0, .null, []),
  (73, .invokevirtual 215, 3, 114, 1, 177, .null, []),
  (76, .ifCond .eq 9, 3, 85, 0, 0, .null, []),
  (79, .aload_n 0, 1, 0, 0, 0, .null, []),
  (80, .iload 5, 2, 5, 0, 0, .null, []),
  (82, .invokevirtual 288, 3, 118, 1, 176, .null, []),
  (85, .iinc 4 1, 3, 4, 0, 0, .int 1, []),
  (88, .goto (-34), 3, 54, 0, 0, .null, []),
  (91, .aload_n 0, 1, 0, 0, 0, .null, []),
  (92, .getfield 92, 3, 11, 12, 2, .null, []),
  (95, .bipush 10, 2, 0, 0, 0, .int 10, []),
  (97, .invokevirtual 279, 3, 10, 1, 17, .null, []),
  (100, .aload_n 0, 1, 0, 0, 0, .null, []),
  (101, .getfield 106, 3, 11, 18, 0, .null, []),
  (104, .if_icmp .ge 7, 3, 111, 0, 0, .null, []),
  (107, .aload_n 0, 1, 0, 0, 0, .null, []),
  (108, .invokevirtual 291, 3, 119, 0, 176, .null, []),
  (111, .aload_n 0, 1, 0, 0, 0, .null, []),
  (112, .invokevirtual 294, 3, 124, 0, 176, .null, []),
  (115, .return_, 1, 0, 0, 0, .null, [])], [(54, [true, false, false, true, true, false])], 6)
def cd_X11_refuse : mmP := ([(0, .iconst 0, 1, 0, 0, 0, .int 0, []),
  (1, .iload_n 1, 1, 1, 0, 0, .null, []),
  (2, .aload_n 0, 1, 0, 0, 0, .null, []),
  (3, .getfield 96, 3, 11, 13, 2, .null, []),
  (6, .arraylength, 1, 0, 0, 0, .null, []),
  (7, .iconst 1, 1, 0, 0, 0, .int 1, []),
  (8, .isub, 1, 0, 0, 0, .null, []),
  (9, .invokestatic 195, 3, 176, 3, 1, .null, []),
  (12, .ifCond .eq 13, 3, 25, 0, 0, .null, []),
  (15, .aload_n 0, 1, 0, 0, 0, .null, []),
  (16, .getfield 96, 3, 11, 13, 2, .null, []),
  (19, .iload_n 1, 1, 1, 0, 0, .null, []),
  (20, .dup2, 1, 0, 0, 0, .null, []),
  (21, .iaload, 1, 0, 0, 0, .null, []),
  (22, .iconst 1, 1, 0, 0, 0, .int 1, []),
  (23, .iadd, 1, 0, 0, 0, .null, []),
  (24, .iastore, 1, 0, 0, 0, .null, []),
  (25, .iconst (-1), 1, 0, 0, 0, .int (-1), []),
  (26, .ireturn, 1, 0, 0, 0, .null, [])], [], 2)
def cd_X11_strokes : mmP := ([(0, .aload_n 0, 1, 0, 0, 0, .null, []),
  (1, .iload_n 1, 1, 1, 0, 0, .null, []),
  (2, .invokevirtual 183, 3, 108, 1, 177, .null, []),
  (5, .ifCond .ne 9, 3, 14, 0, 0, .null, []),
  (8, .aload_n 0, 1, 0, 0, 0, .null, []),
  (9, .iconst 0, 1, 0, 0, 0, .int 0, []),
  (10, .invokevirtual 297, 3, 126, 1, 177, .null, []),
  (13, .ireturn, 1, 0, 0, 0, .null, []),
  (14, .iconst 1, 1, 0, 0, 0, .int 1, []),
  (15, .iload_n 2, 1, 2, 0, 0, .null, []),
  (16, .bipush 40, 2, 0, 0, 0, .int 40, []),
  (18, .invokestatic 195, 3, 176, 3, 1, .null, []),
  (21, .ifCond .ne 9, 3, 30, 0, 0, .null, []),
  (24, .aload_n 0, 1, 0, 0, 0, .null, []),
  (25, .iconst 1, 1, 0, 0, 0, .int 1, []),
  (26, .invokevirtual 297, 3, 126, 1, 177, .null, []),
  (29, .ireturn, 1, 0, 0, 0, .null, []),
  (30, .iload_n 2, 1, 2, 0, 0, .null, []),
  (31, .aload_n 0, 1, 0, 0, 0, .null, []),
  (32, .iload_n 1, 1, 1, 0, 0, .null, []),
  (33, .invokevirtual 282, 3, 113, 1, 177, .null, []),
  (36, .if_icmp .le 9, 3, 45, 0, 0, .null, []),
  (39, .aload_n 0, 1, 0, 0, 0, .null, []),
  (40, .iconst 3, 1, 0, 0, 0, .int 3, []),
  (41, .invokevirtual 297, 3, 126, 1, 177, .null, []),
  (44, .ireturn, 1, 0, 0, 0, .null, []),
  (45, .aload_n 0, 1, 0, 0, 0, .null, []),
  (46, .getfield 56, 3, 11, 6, 2, .null, []),
  (49, .aload_n 0, 1, 0, 0, 0, .null, []),
  (50, .getfield 49, 3, 11, 5, 2, .null, []),
  (53, .invokevirtual 300, 3, 52, 1, 96, .null, []),
  (56, .aload_n 0, 1, 0, 0, 0, .null, []),
  (57, .iload_n 1, 1, 1, 0, 0, .null, []),
  (58, .iload_n 2, 1, 2, 0, 0, .null, []),
  (59, .invokevirtual 285, 3, 117, 2, 176, .null, []),
  (62, .aload_n 0, 1, 0, 0, 0, .null, []),
  (63, .getfield 49, 3, 11, 5, 2, .null, []),
  (66, .getfield 212, 3, 0, 0, 4, .null, []),
  (69, .ireturn, 1, 0, 0, 0, .null, [])], [], 3)
def cd_X11_fold : mmP := ([(0, .aload_n 0, 1, 0, 0, 0, .null, []),
  (1, .iload_n 1, 1, 1, 0, 0, .null, []),
  (2, .invokevirtual 192, 3, 110, 1, 177, .null, []),
  (5, .ifCond .ne 9, 3, 14, 0, 0, .null, []),
  (8, .aload_n 0, 1, 0, 0, 0, .null, []),
  (9, .iconst 0, 1, 0, 0, 0, .int 0, []),
  (10, .invokevirtual 297, 3, 126, 1, 177, .null, []),
  (13, .ireturn, 1, 0, 0, 0, .null, []),
  (14, .aload_n 0, 1, 0, 0, 0, .null, []),
  (15, .iload_n 1, 1, 1, 0, 0, .null, []),
  (16, .invokevirtual 206, 3, 111, 1, 177, .null, []),
  (19, .ifCond .eq 9, 3, 28, 0, 0, .null, []),
  (22, .aload_n 0, 1, 0, 0, 0, .null, []),
  (23, .iconst 2, 1, 0, 0, 0, .int 2, []),
  (24, .invokevirtual 297, 3, 126, 1, 177, .null, []),
  (27, .ireturn, 1, 0, 0, 0, .null, []),
  (28, .aload_n 0, 1, 0, 0, 0, .null, []),
  (29, .iload_n 1, 1, 1, 0, 0, .null, []),
  (30, .invokevirtual 215, 3, 114, 1, 177, .null, []),
  (33, .ifCond .ne 9, 3, 42, 0, 0, .null, []),
  (36, .aload_n 0, 1, 0, 0, 0, .null, []),
  (37, .iconst 3, 1, 0, 0, 0, .int 3, []),
  (38, .invokevirtual 297, 3, 126, 1, 177, .null, []),
  (41, .ireturn, 1, 0, 0, 0, .null, []),
  (42, .aload_n 0, 1, 0, 0, 0, .null, []),
  (43, .getfield 56, 3, 11, 6, 2, .null, []),
  (46, .aload_n 0, 1, 0, 0, 0, .null, []),
  (47, .getfield 49, 3, 11, 5, 2, .null, []),
  (50, .invokevirtual 300, 3, 52, 1, 96, .null, []),
  (53, .aload_n 0, 1, 0, 0, 0, .null, []),
  (54, .iload_n 1, 1, 1, 0, 0, .null, []),
  (55, .invokevirtual 288, 3, 118, 1, 176, .null, []),
  (58, .aload_n 0, 1, 0, 0, 0, .null, []),
  (59, .getfield 49, 3, 11, 5, 2, .null, []),
  (62, .getfield 212, 3, 0, 0, 4, .null, []),
  (65, .ireturn, 1, 0, 0, 0, .null, [])], [], 2)
def cd_X11_sugar : mmP := ([(0, .aload_n 0, 1, 0, 0, 0, .null, []),
  (1, .getfield 163, 3, 11, 16, 3, .null, []),
  (4, .ifCond .ne 9, 3, 13, 0, 0, .null, []),
  (7, .aload_n 0, 1, 0, 0, 0, .null, []),
  (8, .iconst 0, 1, 0, 0, 0, .int 0, []),
  (9, .invokevirtual 297, 3, 126, 1, 177, .null, []),
  (12, .ireturn, 1, 0, 0, 0, .null, []),
  (13, .aload_n 0, 1, 0, 0, 0, .null, []),
  (14, .getfield 49, 3, 11, 5, 2, .null, []),
  (17, .getfield 257, 3, 0, 3, 4, .null, []),
  (20, .bipush 9, 2, 0, 0, 0, .int 9, []),
  (22, .if_icmp .lt 9, 3, 31, 0, 0, .null, []),
  (25, .aload_n 0, 1, 0, 0, 0, .null, []),
  (26, .iconst 2, 1, 0, 0, 0, .int 2, []),
  (27, .invokevirtual 297, 3, 126, 1, 177, .null, []),
  (30, .ireturn, 1, 0, 0, 0, .null, []),
  (31, .aload_n 0, 1, 0, 0, 0, .null, []),
  (32, .getfield 49, 3, 11, 5, 2, .null, []),
  (35, .getfield 180, 3, 0, 5, 4, .null, []),
  (38, .iconst 2, 1, 0, 0, 0, .int 2, []),
  (39, .if_icmp .ge 9, 3, 48, 0, 0, .null, []),
  (42, .aload_n 0, 1, 0, 0, 0, .null, []),
  (43, .iconst 3, 1, 0, 0, 0, .int 3, []),
  (44, .invokevirtual 297, 3, 126, 1, 177, .null, []),
  (47, .ireturn, 1, 0, 0, 0, .null, []),
  (48, .aload_n 0, 1, 0, 0, 0, .null, []),
  (49, .getfield 56, 3, 11, 6, 2, .null, []),
  (52, .aload_n 0, 1, 0, 0, 0, .null, []),
  (53, .getfield 49, 3, 11, 5, 2, .null, []),
  (56, .invokevirtual 300, 3, 52, 1, 96, .null, []),
  (59, .aload_n 0, 1, 0, 0, 0, .null, []),
  (60, .getfield 49, 3, 11, 5, 2, .null, []),
  (63, .dup, 1, 0, 0, 0, .null, []),
  (64, .getfield 180, 3, 0, 5, 4, .null, []),
  (67, .iconst 2, 1, 0, 0, 0, .int 2, []),
  (68, .isub, 1, 0, 0, 0, .null, []),
  (69, .putfield 180, 3, 0, 5, 4, .null, []),
  (72, .aload_n 0, 1, 0, 0, 0, .null, []),
  (73, .getfield 49, 3, 11, 5, 2, .null, []),
  (76, .dup, 1, 0, 0, 0, .null, []),
  (77, .getfield 257, 3, 0, 3, 4, .null, []),
  (80, .iconst 1, 1, 0, 0, 0, .int 1, []),
  (81, .iadd, 1, 0, 0, 0, .null, []),
  (82, .putfield 257, 3, 0, 3, 4, .null, []),
  (85, .aload_n 0, 1, 0, 0, 0, .null, []),
  (86, .getfield 49, 3, 11, 5, 2, .null, []),
  (89, .getfield 257, 3, 0, 3, 4, .null, []),
  (92, .ireturn, 1, 0, 0, 0, .null, [])], [], 1)
def cd_X11_door : mmP := ([(0, .aload_n 0, 1, 0, 0, 0, .null, []),
  (1, .getfield 163, 3, 11, 16, 3, .null, []),
  (4, .ifCond .ne 9, 3, 13, 0, 0, .null, []),
  (7, .aload_n 0, 1, 0, 0, 0, .null, []),
  (8, .iconst 0, 1, 0, 0, 0, .int 0, []),
  (9, .invokevirtual 297, 3, 126, 1, 177, .null, []),
  (12, .ireturn, 1, 0, 0, 0, .null, []),
  (13, .aload_n 0, 1, 0, 0, 0, .null, []),
  (14, .getfield 56, 3, 11, 6, 2, .null, []),
  (17, .aload_n 0, 1, 0, 0, 0, .null, []),
  (18, .getfield 49, 3, 11, 5, 2, .null, []),
  (21, .invokevirtual 300, 3, 52, 1, 96, .null, []),
  (24, .aload_n 0, 1, 0, 0, 0, .null, []),
  (25, .invokevirtual 291, 3, 119, 0, 176, .null, []),
  (28, .aload_n 0, 1, 0, 0, 0, .null, []),
  (29, .getfield 49, 3, 11, 5, 2, .null, []),
  (32, .getfield 212, 3, 0, 0, 4, .null, []),
  (35, .ireturn, 1, 0, 0, 0, .null, [])], [], 1)
def cd_X11_hours : mmP := ([(0, .aload_n 0, 1, 0, 0, 0, .null, []),
  (1, .getfield 163, 3, 11, 16, 3, .null, []),
  (4, .ifCond .ne 9, 3, 13, 0, 0, .null, []),
  (7, .aload_n 0, 1, 0, 0, 0, .null, []),
  (8, .iconst 0, 1, 0, 0, 0, .int 0, []),
  (9, .invokevirtual 297, 3, 126, 1, 177, .null, []),
  (12, .ireturn, 1, 0, 0, 0, .null, []),
  (13, .iconst 1, 1, 0, 0, 0, .int 1, []),
  (14, .iload_n 1, 1, 1, 0, 0, .null, []),
  (15, .bipush 20, 2, 0, 0, 0, .int 20, []),
  (17, .invokestatic 195, 3, 176, 3, 1, .null, []),
  (20, .ifCond .ne 9, 3, 29, 0, 0, .null, []),
  (23, .aload_n 0, 1, 0, 0, 0, .null, []),
  (24, .iconst 1, 1, 0, 0, 0, .int 1, []),
  (25, .invokevirtual 297, 3, 126, 1, 177, .null, []),
  (28, .ireturn, 1, 0, 0, 0, .null, []),
  (29, .iconst 0, 1, 0, 0, 0, .int 0, []),
  (30, .istore_n 2, 1, 2, 0, 0, .null, []),
  (31, .iload_n 2, 1, 2, 0, 0, .null, []),
  (32, .iload_n 1, 1, 1, 0, 0, .null, []),
  (33, .if_icmp .ge 24, 3, 57, 0, 0, .null, []),
  (36, .aload_n 0, 1, 0, 0, 0, .null, []),
  (37, .getfield 56, 3, 11, 6, 2, .null, []),
  (40, .aload_n 0, 1, 0, 0, 0, .null, []),
  (41, .getfield 49, 3, 11, 5, 2, .null, []),
  (44, .invokevirtual 300, 3, 52, 1, 96, .null, []),
  (47, .aload_n 0, 1, 0, 0, 0, .null, []),
  (48, .invokevirtual 304, 3, 120, 0, 176, .null, []),
  (51, .iinc 2 1, 3, 2, 0, 0, .int 1, []),
  (54, .goto (-23), 3, 31, 0, 0, .null, []),
  (57, .aload_n 0, 1, 0, 0, 0, .null, []),
  (58, .getfield 49, 3, 11, 5, 2, .null, []),
  (61, .getfield 212, 3, 0, 0, 4, .null, []),
  (64, .ireturn, 1, 0, 0, 0, .null, [])], [(31, [true, true, true])], 3)
def cd_X11_practise : mmP := ([(0, .aload_n 0, 1, 0, 0, 0, .null, []),
  (1, .iload_n 1, 1, 1, 0, 0, .null, []),
  (2, .invokevirtual 183, 3, 108, 1, 177, .null, []),
  (5, .ifCond .ne 9, 3, 14, 0, 0, .null, []),
  (8, .aload_n 0, 1, 0, 0, 0, .null, []),
  (9, .iconst 0, 1, 0, 0, 0, .int 0, []),
  (10, .invokevirtual 297, 3, 126, 1, 177, .null, []),
  (13, .ireturn, 1, 0, 0, 0, .null, []),
  (14, .aload_n 0, 1, 0, 0, 0, .null, []),
  (15, .getfield 49, 3, 11, 5, 2, .null, []),
  (18, .iload_n 1, 1, 1, 0, 0, .null, []),
  (19, .invokevirtual 186, 3, 5, 1, 1, .null, []),
  (22, .bipush 9, 2, 0, 0, 0, .int 9, []),
  (24, .if_icmp .lt 9, 3, 33, 0, 0, .null, []),
  (27, .aload_n 0, 1, 0, 0, 0, .null, []),
  (28, .iconst 2, 1, 0, 0, 0, .int 2, []),
  (29, .invokevirtual 297, 3, 126, 1, 177, .null, []),
  (32, .ireturn, 1, 0, 0, 0, .null, []),
  (33, .aload_n 0, 1, 0, 0, 0, .null, []),
  (34, .getfield 49, 3, 11, 5, 2, .null, []),
  (37, .getfield 180, 3, 0, 5, 4, .null, []),
  (40, .iconst 4, 1, 0, 0, 0, .int 4, []),
  (41, .if_icmp .ge 9, 3, 50, 0, 0, .null, []),
  (44, .aload_n 0, 1, 0, 0, 0, .null, []),
  (45, .iconst 3, 1, 0, 0, 0, .int 3, []),
  (46, .invokevirtual 297, 3, 126, 1, 177, .null, []),
  (49, .ireturn, 1, 0, 0, 0, .null, []),
  (50, .aload_n 0, 1, 0, 0, 0, .null, []),
  (51, .getfield 56, 3, 11, 6, 2, .null, []),
  (54, .aload_n 0, 1, 0, 0, 0, .null, []),
  (55, .getfield 49, 3, 11, 5, 2, .null, []),
  (58, .invokevirtual 300, 3, 52, 1, 96, .null, []),
  (61, .aload_n 0, 1, 0, 0, 0, .null, []),
  (62, .getfield 49, 3, 11, 5, 2, .null, []),
  (65, .dup, 1, 0, 0, 0, .null, []),
  (66, .getfield 180, 3, 0, 5, 4, .null, []),
  (69, .iconst 4, 1, 0, 0, 0, .int 4, []),
  (70, .isub, 1, 0, 0, 0, .null, []),
  (71, .putfield 180, 3, 0, 5, 4, .null, []),
  (74, .aload_n 0, 1, 0, 0, 0, .null, []),
  (75, .getfield 49, 3, 11, 5, 2, .null, []),
  (78, .iload_n 1, 1, 1, 0, 0, .null, []),
  (79, .invokevirtual 307, 3, 7, 1, 0, .null, []),
  (82, .aload_n 0, 1, 0, 0, 0, .null, []),
  (83, .getfield 49, 3, 11, 5, 2, .null, []),
  (86, .iload_n 1, 1, 1, 0, 0, .null, []),
  (87, .invokevirtual 186, 3, 5, 1, 1, .null, []),
  (90, .ireturn, 1, 0, 0, 0, .null, [])], [], 2)
def cd_X11_yolk : mmP := ([(0, .aload_n 0, 1, 0, 0, 0, .null, []),
  (1, .getfield 163, 3, 11, 16, 3, .null, []),
  (4, .ifCond .ne 9, 3, 13, 0, 0, .null, []),
  (7, .aload_n 0, 1, 0, 0, 0, .null, []),
  (8, .iconst 0, 1, 0, 0, 0, .int 0, []),
  (9, .invokevirtual 297, 3, 126, 1, 177, .null, []),
  (12, .ireturn, 1, 0, 0, 0, .null, []),
  (13, .aload_n 0, 1, 0, 0, 0, .null, []),
  (14, .getfield 49, 3, 11, 5, 2, .null, []),
  (17, .getfield 177, 3, 0, 4, 4, .null, []),
  (20, .ifCond .gt 9, 3, 29, 0, 0, .null, []),
  (23, .aload_n 0, 1, 0, 0, 0, .null, []),
  (24, .iconst 2, 1, 0, 0, 0, .int 2, []),
  (25, .invokevirtual 297, 3, 126, 1, 177, .null, []),
  (28, .ireturn, 1, 0, 0, 0, .null, []),
  (29, .aload_n 0, 1, 0, 0, 0, .null, []),
  (30, .getfield 49, 3, 11, 5, 2, .null, []),
  (33, .getfield 180, 3, 0, 5, 4, .null, []),
  (36, .iconst 3, 1, 0, 0, 0, .int 3, []),
  (37, .if_icmp .ge 9, 3, 46, 0, 0, .null, []),
  (40, .aload_n 0, 1, 0, 0, 0, .null, []),
  (41, .iconst 3, 1, 0, 0, 0, .int 3, []),
  (42, .invokevirtual 297, 3, 126, 1, 177, .null, []),
  (45, .ireturn, 1, 0, 0, 0, .null, []),
  (46, .aload_n 0, 1, 0, 0, 0, .null, []),
  (47, .getfield 56, 3, 11, 6, 2, .null, []),
  (50, .aload_n 0, 1, 0, 0, 0, .null, []),
  (51, .getfield 49, 3, 11, 5, 2, .null, []),
  (54, .invokevirtual 300, 3, 52, 1, 96, .null, []),
  (57, .aload_n 0, 1, 0, 0, 0, .null, []),
  (58, .getfield 49, 3, 11, 5, 2, .null, []),
  (61, .dup, 1, 0, 0, 0, .null, []),
  (62, .getfield 180, 3, 0, 5, 4, .null, []),
  (65, .iconst 3, 1, 0, 0, 0, .int 3, []),
  (66, .isub, 1, 0, 0, 0, .null, []),
  (67, .putfield 180, 3, 0, 5, 4, .null, []),
  (70, .aload_n 0, 1, 0, 0, 0, .null, []),
  (71, .getfield 49, 3, 11, 5, 2, .null, []),
  (74, .dup, 1, 0, 0, 0, .null, []),
  (75, .getfield 177, 3, 0, 4, 4, .null, []),
  (78, .iconst 1, 1, 0, 0, 0, .int 1, []),
  (79, .isub, 1, 0, 0, 0, .null, []),
  (80, .putfield 177, 3, 0, 4, 4, .null, []),
  (83, .aload_n 0, 1, 0, 0, 0, .null, []),
  (84, .getfield 49, 3, 11, 5, 2, .null, []),
  (87, .getfield 177, 3, 0, 4, 4, .null, []),
  (90, .ireturn, 1, 0, 0, 0, .null, [])], [], 1)
def cd_X11_give : mmP := ([(0, .aload_n 0, 1, 0, 0, 0, .null, []),
  (1, .getfield 163, 3, 11, 16, 3, .null, []),
  (4, .ifCond .ne 9, 3, 13, 0, 0, .null, []),
  (7, .aload_n 0, 1, 0, 0, 0, .null, []),
  (8, .iconst 0, 1, 0, 0, 0, .int 0, []),
  (9, .invokevirtual 297, 3, 126, 1, 177, .null, []),
  (12, .ireturn, 1, 0, 0, 0, .null, []),
  (13, .iconst 1, 1, 0, 0, 0, .int 1, []),
  (14, .iload_n 1, 1, 1, 0, 0, .null, []),
  (15, .bipush 50, 2, 0, 0, 0, .int 50, []),
  (17, .invokestatic 195, 3, 176, 3, 1, .null, []),
  (20, .ifCond .eq 18, 3, 38, 0, 0, .null, []),
  (23, .aload_n 0, 1, 0, 0, 0, .null, []),
  (24, .getfield 49, 3, 11, 5, 2, .null, []),
  (27, .getfield 180, 3, 0, 5, 4, .null, []),
  (30, .iload_n 1, 1, 1, 0, 0, .null, []),
  (31, .iadd, 1, 0, 0, 0, .null, []),
  (32, .sipush 999, 3, 0, 0, 0, .int 999, []),
  (35, .if_icmp .le 9, 3, 44, 0, 0, .null, []),
  (38, .aload_n 0, 1, 0, 0, 0, .null, []),
  (39, .iconst 1, 1, 0, 0, 0, .int 1, []),
  (40, .invokevirtual 297, 3, 126, 1, 177, .null, []),
  (43, .ireturn, 1, 0, 0, 0, .null, []),
  (44, .aload_n 0, 1, 0, 0, 0, .null, []),
  (45, .getfield 56, 3, 11, 6, 2, .null, []),
  (48, .aload_n 0, 1, 0, 0, 0, .null, []),
  (49, .getfield 49, 3, 11, 5, 2, .null, []),
  (52, .invokevirtual 300, 3, 52, 1, 96, .null, []),
  (55, .aload_n 0, 1, 0, 0, 0, .null, []),
  (56, .getfield 49, 3, 11, 5, 2, .null, []),
  (59, .dup, 1, 0, 0, 0, .null, []),
  (60, .getfield 180, 3, 0, 5, 4, .null, []),
  (63, .iload_n 1, 1, 1, 0, 0, .null, []),
  (64, .iadd, 1, 0, 0, 0, .null, []),
  (65, .putfield 180, 3, 0, 5, 4, .null, []),
  (68, .aload_n 0, 1, 0, 0, 0, .null, []),
  (69, .getfield 49, 3, 11, 5, 2, .null, []),
  (72, .getfield 180, 3, 0, 5, 4, .null, []),
  (75, .ireturn, 1, 0, 0, 0, .null, [])], [], 2)
def cd_X11_days : mmP := ([(0, .aload_n 0, 1, 0, 0, 0, .null, []),
  (1, .getfield 163, 3, 11, 16, 3, .null, []),
  (4, .ifCond .ne 9, 3, 13, 0, 0, .null, []),
  (7, .aload_n 0, 1, 0, 0, 0, .null, []),
  (8, .iconst 0, 1, 0, 0, 0, .int 0, []),
  (9, .invokevirtual 297, 3, 126, 1, 177, .null, []),
  (12, .ireturn, 1, 0, 0, 0, .null, []),
  (13, .iconst 1, 1, 0, 0, 0, .int 1, []),
  (14, .iload_n 1, 1, 1, 0, 0, .null, []),
  (15, .bipush 60, 2, 0, 0, 0, .int 60, []),
  (17, .invokestatic 195, 3, 176, 3, 1, .null, []),
  (20, .ifCond .ne 9, 3, 29, 0, 0, .null, []),
  (23, .aload_n 0, 1, 0, 0, 0, .null, []),
  (24, .iconst 1, 1, 0, 0, 0, .int 1, []),
  (25, .invokevirtual 297, 3, 126, 1, 177, .null, []),
  (28, .ireturn, 1, 0, 0, 0, .null, []),
  (29, .aload_n 0, 1, 0, 0, 0, .null, []),
  (30, .getfield 49, 3, 11, 5, 2, .null, []),
  (33, .getfield 269, 3, 0, 8, 4, .null, []),
  (36, .iload_n 1, 1, 1, 0, 0, .null, []),
  (37, .iadd, 1, 0, 0, 0, .null, []),
  (38, .sipush 999, 3, 0, 0, 0, .int 999, []),
  (41, .if_icmp .le 9, 3, 50, 0, 0, .null, []),
  (44, .aload_n 0, 1, 0, 0, 0, .null, []),
  (45, .iconst 4, 1, 0, 0, 0, .int 4, []),
  (46, .invokevirtual 297, 3, 126, 1, 177, .null, []),
  (49, .ireturn, 1, 0, 0, 0, .null, []),
  (50, .iconst 0, 1, 0, 0, 0, .int 0, []),
  (51, .istore_n 2, 1, 2, 0, 0, .null, []),
  (52, .iload_n 2, 1, 2, 0, 0, .null, []),
  (53, .iload_n 1, 1, 1, 0, 0, .null, []),
  (54, .if_icmp .ge 24, 3, 78, 0, 0, .null, []),
  (57, .aload_n 0, 1, 0, 0, 0, .null, []),
  (58, .getfield 56, 3, 11, 6, 2, .null, []),
  (61, .aload_n 0, 1, 0, 0, 0, .null, []),
  (62, .getfield 49, 3, 11, 5, 2, .null, []),
  (65, .invokevirtual 300, 3, 52, 1, 96, .null, []),
  (68, .aload_n 0, 1, 0, 0, 0, .null, []),
  (69, .invokevirtual 294, 3, 124, 0, 176, .null, []),
  (72, .iinc 2 1, 3, 2, 0, 0, .int 1, []),
  (75, .goto (-23), 3, 52, 0, 0, .null, []),
  (78, .aload_n 0, 1, 0, 0, 0, .null, []),
  (79, .getfield 49, 3, 11, 5, 2, .null, []),
  (82, .getfield 269, 3, 0, 8, 4, .null, []),
  (85, .ireturn, 1, 0, 0, 0, .null, [])], [(52, [true, true, true])], 3)
def cd_X11_draught : mmP := ([(0, .iconst 0, 1, 0, 0, 0, .int 0, []),
  (1, .iload_n 1, 1, 1, 0, 0, .null, []),
  (2, .bipush 9, 2, 0, 0, 0, .int 9, []),
  (4, .invokestatic 195, 3, 176, 3, 1, .null, []),
  (7, .ifCond .eq 11, 3, 18, 0, 0, .null, []),
  (10, .iload_n 1, 1, 1, 0, 0, .null, []),
  (11, .aload_n 0, 1, 0, 0, 0, .null, []),
  (12, .getfield 106, 3, 11, 18, 0, .null, []),
  (15, .if_icmp .ne 5, 3, 20, 0, 0, .null, []),
  (18, .iconst 0, 1, 0, 0, 0, .int 0, []),
  (19, .ireturn, 1, 0, 1, 0, .null, []),
  (20, .aload_n 0, 1, 0, 0, 0, .null, []),
  (21, .iload_n 1, 1, 1, 0, 0, .null, []),
  (22, .putfield 106, 3, 11, 18, 0, .null, []),
  (25, .iconst 1, 1, 0, 0, 0, .int 1, []),
  (26, .ireturn, 1, 0, 1, 0, .null, [])], [], 2)
def cd_X11_years : mmP := ([(0, .aload_n 0, 1, 0, 0, 0, .null, []),
  (1, .getfield 163, 3, 11, 16, 3, .null, []),
  (4, .ifCond .eq 28, 3, 32, 0, 0, .null, []),
  (7, .iconst 1, 1, 0, 0, 0, .int 1, []),
  (8, .iload_n 1, 1, 1, 0, 0, .null, []),
  (9, .bipush 60, 2, 0, 0, 0, .int 60, []),
  (11, .invokestatic 195, 3, 176, 3, 1, .null, []),
  (14, .ifCond .eq 18, 3, 32, 0, 0, .null, []),
  (17, .aload_n 0, 1, 0, 0, 0, .null, []),
  (18, .getfield 49, 3, 11, 5, 2, .null, []),
  (21, .getfield 269, 3, 0, 8, 4, .null, []),
  (24, .iload_n 1, 1, 1, 0, 0, .null, []),
  (25, .iadd, 1, 0, 0, 0, .null, []),
  (26, .sipush 999, 3, 0, 0, 0, .int 999, []),
  (29, .if_icmp .le 5, 3, 34, 0, 0, .null, []),
  (32, .iconst (-1), 1, 0, 0, 0, .int (-1), []),
  (33, .ireturn, 1, 0, 0, 0, .null, []),
  (34, .aload_n 0, 1, 0, 0, 0, .null, []),
  (35, .getfield 92, 3, 11, 12, 2, .null, []),
  (38, .lload_n 2, 1, 2, 0, 0, .null, []),
  (39, .invokevirtual 310, 3, 9, 1, 16, .null, []),
  (42, .iconst 0, 1, 0, 0, 0, .int 0, []),
  (43, .istore 4, 2, 4, 0, 0, .null, []),
  (45, .iload 4, 2, 4, 0, 0, .null, []),
  (47, .iload_n 1, 1, 1, 0, 0, .null, []),
  (48, .if_icmp .ge 24, 3, 72, 0, 0, .null, []),
  (51, .aload_n 0, 1, 0, 0, 0, .null, []),
  (52, .getfield 56, 3, 11, 6, 2, .null, []),
  (55, .aload_n 0, 1, 0, 0, 0, .null, []),
  (56, .getfield 49, 3, 11, 5, 2, .null, []),
  (59, .invokevirtual 300, 3, 52, 1, 96, .null, []),
  (62, .aload_n 0, 1, 0, 0, 0, .null, []),
  (63, .invokevirtual 313, 3, 125, 0, 176, .null, []),
  (66, .iinc 4 1, 3, 4, 0, 0, .int 1, []),
  (69, .goto (-24), 3, 45, 0, 0, .null, []),
  (72, .aload_n 0, 1, 0, 0, 0, .null, []),
  (73, .getfield 49, 3, 11, 5, 2, .null, []),
  (76, .getfield 269, 3, 0, 8, 4, .null, []),
  (79, .ireturn, 1, 0, 0, 0, .null, [])], [(45, [true, true, false, false, true])], 5)
def cd_X11_status : mmP := ([(0, .iconst 0, 1, 0, 0, 0, .int 0, []),
  (1, .iload_n 1, 1, 1, 0, 0, .null, []),
  (2, .aload_n 0, 1, 0, 0, 0, .null, []),
  (3, .getfield 96, 3, 11, 13, 2, .null, []),
  (6, .arraylength, 1, 0, 0, 0, .null, []),
  (7, .iconst 1, 1, 0, 0, 0, .int 1, []),
  (8, .isub, 1, 0, 0, 0, .null, []),
  (9, .invokestatic 195, 3, 176, 3, 1, .null, []),
  (12, .ifCond .eq 12, 3, 24, 0, 0, .null, []),
  (15, .aload_n 0, 1, 0, 0, 0, .null, []),
  (16, .getfield 96, 3, 11, 13, 2, .null, []),
  (19, .iload_n 1, 1, 1, 0, 0, .null, []),
  (20, .iaload, 1, 0, 0, 0, .null, []),
  (21, .goto 4, 3, 25, 0, 0, .null, []),
  (24, .iconst (-1), 1, 0, 0, 0, .int (-1), []),
  (25, .ireturn, 1, 0, 0, 0, .null, [])], [], 2)
def cd_X11_undo : mmP := ([(0, .aload_n 0, 1, 0, 0, 0, .null, []),
  (1, .getfield 56, 3, 11, 6, 2, .null, []),
  (4, .aload_n 0, 1, 0, 0, 0, .null, []),
  (5, .getfield 49, 3, 11, 5, 2, .null, []),
  (8, .invokevirtual 316, 3, 53, 1, 97, .null, []),
  (11, .ifCond .eq 13, 3, 24, 0, 0, .null, []),
  (14, .aload_n 0, 1, 0, 0, 0, .null, []),
  (15, .getfield 56, 3, 11, 6, 2, .null, []),
  (18, .invokevirtual 320, 3, 50, 0, 97, .null, []),
  (21, .goto 4, 3, 25, 0, 0, .null, []),
  (24, .iconst (-1), 1, 0, 0, 0, .int (-1), []),
  (25, .ireturn, 1, 0, 0, 0, .null, [])], [], 1)
def cd_X11_log : mmP := ([(0, .iconst 0, 1, 0, 0, 0, .int 0, []),
  (1, .iload_n 1, 1, 1, 0, 0, .null, []),
  (2, .aload_n 0, 1, 0, 0, 0, .null, []),
  (3, .invokevirtual 321, 3, 141, 0, 177, .null, []),
  (6, .iconst 1, 1, 0, 0, 0, .int 1, []),
  (7, .isub, 1, 0, 0, 0, .null, []),
  (8, .invokestatic 195, 3, 176, 3, 1, .null, []),
  (11, .ifCond .eq 12, 3, 23, 0, 0, .null, []),
  (14, .iconst 0, 1, 0, 0, 0, .int 0, []),
  (15, .iload_n 2, 1, 2, 0, 0, .null, []),
  (16, .iconst 2, 1, 0, 0, 0, .int 2, []),
  (17, .invokestatic 195, 3, 176, 3, 1, .null, []),
  (20, .ifCond .ne 5, 3, 25, 0, 0, .null, []),
  (23, .iconst (-1), 1, 0, 0, 0, .int (-1), []),
  (24, .ireturn, 1, 0, 0, 0, .null, []),
  (25, .aload_n 0, 1, 0, 0, 0, .null, []),
  (26, .getfield 63, 3, 11, 7, 2, .null, []),
  (29, .aload_n 0, 1, 0, 0, 0, .null, []),
  (30, .getfield 49, 3, 11, 5, 2, .null, []),
  (33, .getfield 269, 3, 0, 8, 4, .null, []),
  (36, .iconst 1, 1, 0, 0, 0, .int 1, []),
  (37, .isub, 1, 0, 0, 0, .null, []),
  (38, .iload_n 1, 1, 1, 0, 0, .null, []),
  (39, .isub, 1, 0, 0, 0, .null, []),
  (40, .iload_n 2, 1, 2, 0, 0, .null, []),
  (41, .invokevirtual 324, 3, 46, 2, 81, .null, []),
  (44, .ireturn, 1, 0, 0, 0, .null, [])], [], 3)
def cd_X11_logSize : mmP := ([(0, .bipush 60, 2, 0, 0, 0, .int 60, []),
  (2, .aload_n 0, 1, 0, 0, 0, .null, []),
  (3, .getfield 49, 3, 11, 5, 2, .null, []),
  (6, .getfield 269, 3, 0, 8, 4, .null, []),
  (9, .invokestatic 266, 3, 304, 2, 1, .null, []),
  (12, .ireturn, 1, 0, 0, 0, .null, [])], [], 1)
def cd_X11_behind : mmP := ([(0, .aload_n 0, 1, 0, 0, 0, .null, []),
  (1, .iload_n 1, 1, 1, 0, 0, .null, []),
  (2, .invokevirtual 183, 3, 108, 1, 177, .null, []),
  (5, .ifCond .eq 13, 3, 18, 0, 0, .null, []),
  (8, .iconst 0, 1, 0, 0, 0, .int 0, []),
  (9, .iload_n 2, 1, 2, 0, 0, .null, []),
  (10, .bipush 40, 2, 0, 0, 0, .int 40, []),
  (12, .invokestatic 195, 3, 176, 3, 1, .null, []),
  (15, .ifCond .ne 5, 3, 20, 0, 0, .null, []),
  (18, .iconst (-1), 1, 0, 0, 0, .int (-1), []),
  (19, .ireturn, 1, 0, 0, 0, .null, []),
  (20, .iload_n 2, 1, 2, 0, 0, .null, []),
  (21, .aload_n 0, 1, 0, 0, 0, .null, []),
  (22, .iload_n 1, 1, 1, 0, 0, .null, []),
  (23, .invokevirtual 282, 3, 113, 1, 177, .null, []),
  (26, .invokestatic 266, 3, 304, 2, 1, .null, []),
  (29, .istore_n 3, 1, 3, 0, 0, .null, []),
  (30, .aload_n 0, 1, 0, 0, 0, .null, []),
  (31, .aload_n 0, 1, 0, 0, 0, .null, []),
  (32, .getfield 49, 3, 11, 5, 2, .null, []),
  (35, .iload_n 1, 1, 1, 0, 0, .null, []),
  (36, .invokevirtual 186, 3, 5, 1, 1, .null, []),
  (39, .aload_n 0, 1, 0, 0, 0, .null, []),
  (40, .getfield 49, 3, 11, 5, 2, .null, []),
  (43, .getfield 212, 3, 0, 0, 4, .null, []),
  (46, .aload_n 0, 1, 0, 0, 0, .null, []),
  (47, .getfield 49, 3, 11, 5, 2, .null, []),
  (50, .getfield 228, 3, 0, 1, 4, .null, []),
  (53, .aload_n 0, 1, 0, 0, 0, .null, []),
  (54, .getfield 49, 3, 11, 5, 2, .null, []),
  (57, .getfield 177, 3, 0, 4, 4, .null, []),
  (60, .iload_n 3, 1, 3, 0, 0, .null, []),
  (61, .invokevirtual 326, 3, 143, 5, 177, .null, []),
  (64, .ireturn, 1, 0, 0, 0, .null, [])], [], 4)
def cd_X11_whiskedOften : mmP := ([(0, .iload_n 2, 1, 2, 0, 0, .null, []),
  (1, .istore 6, 2, 6, 0, 0, .null, []),
  (3, .iconst 0, 1, 0, 0, 0, .int 0, []),
  (4, .istore 7, 2, 7, 0, 0, .null, []),
  (6, .iload 7, 2, 7, 0, 0, .null, []),
  (8, .iload 5, 2, 5, 0, 0, .null, []),
  (10, .if_icmp .ge 24, 3, 34, 0, 0, .null, []),
  (13, .aload_n 0, 1, 0, 0, 0, .null, []),
  (14, .iload_n 1, 1, 1, 0, 0, .null, []),
  (15, .iload 6, 2, 6, 0, 0, .null, []),
  (17, .iload_n 3, 1, 3, 0, 0, .null, []),
  (18, .iload 7, 2, 7, 0, 0, .null, []),
  (20, .iadd, 1, 0, 0, 0, .null, []),
  (21, .iload 4, 2, 4, 0, 0, .null, []),
  (23, .invokevirtual 231, 3, 116, 4, 177, .null, []),
  (26, .istore 6, 2, 6, 0, 0, .null, []),
  (28, .iinc 7 1, 3, 7, 0, 0, .int 1, []),
  (31, .goto (-25), 3, 6, 0, 0, .null, []),
  (34, .iload 6, 2, 6, 0, 0, .null, []),
  (36, .ireturn, 1, 0, 0, 0, .null, [])], [(6, [true, true, false, true, true, true, true, true])], 8)
def cd_X11_soonest : mmP := ([(0, .aload_n 0, 1, 0, 0, 0, .null, []),
  (1, .iload_n 1, 1, 1, 0, 0, .null, []),
  (2, .invokevirtual 183, 3, 108, 1, 177, .null, []),
  (5, .ifCond .eq 19, 3, 24, 0, 0, .null, []),
  (8, .iload_n 2, 1, 2, 0, 0, .null, []),
  (9, .invokestatic 330, 3, 177, 1, 1, .null, []),
  (12, .ifCond .eq 12, 3, 24, 0, 0, .null, []),
  (15, .aload_n 0, 1, 0, 0, 0, .null, []),
  (16, .iload_n 1, 1, 1, 0, 0, .null, []),
  (17, .iload_n 2, 1, 2, 0, 0, .null, []),
  (18, .invokevirtual 333, 3, 145, 2, 177, .null, []),
  (21, .goto 4, 3, 25, 0, 0, .null, []),
  (24, .iconst (-1), 1, 0, 0, 0, .int (-1), []),
  (25, .ireturn, 1, 0, 0, 0, .null, [])], [], 3)
def cd_X11_soonestOf : mmP := ([(0, .aload_n 0, 1, 0, 0, 0, .null, []),
  (1, .getfield 49, 3, 11, 5, 2, .null, []),
  (4, .iload_n 1, 1, 1, 0, 0, .null, []),
  (5, .invokevirtual 186, 3, 5, 1, 1, .null, []),
  (8, .istore_n 3, 1, 3, 0, 0, .null, []),
  (9, .aload_n 0, 1, 0, 0, 0, .null, []),
  (10, .iload_n 1, 1, 1, 0, 0, .null, []),
  (11, .invokevirtual 282, 3, 113, 1, 177, .null, []),
  (14, .istore 4, 2, 4, 0, 0, .null, []),
  (16, .aload_n 0, 1, 0, 0, 0, .null, []),
  (17, .getfield 49, 3, 11, 5, 2, .null, []),
  (20, .getfield 212, 3, 0, 0, 4, .null, []),
  (23, .istore 5, 2, 5, 0, 0, .null, []),
  (25, .iconst 0, 1, 0, 0, 0, .int 0, []),
  (26, .istore 6, 2, 6, 0, 0, .null, []),
  (28, .iload 6, 2, 6, 0, 0, .null, []),
  (30, .iload 4, 2, 4, 0, 0, .null, []),
  (32, .if_icmp .gt 44, 3, 76, 0, 0, .null, []),
  (35, .iload 5, 2, 5, 0, 0, .null, []),
  (37, .iload_n 2, 1, 2, 0, 0, .null, []),
  (38, .if_icmp .lt 6, 3, 44, 0, 0, .null, []),
  (41, .iload 6, 2, 6, 0, 0, .null, []),
  (43, .ireturn, 1, 0, 0, 0, .null, []),
  (44, .aload_n 0, 1, 0, 0, 0, .null, []),
  (45, .iload_n 3, 1, 3, 0, 0, .null, []),
  (46, .iload 5, 2, 5, 0, 0, .null, []),
  (48, .aload_n 0, 1, 0, 0, 0, .null, []),
  (49, .getfield 49, 3, 11, 5, 2, .null, []),
  (52, .getfield 228, 3, 0, 1, 4, .null, []),
  (55, .iload 6, 2, 6, 0, 0, .null, []),
  (57, .iadd, 1, 0, 0, 0, .null, []),
  (58, .aload_n 0, 1, 0, 0, 0, .null, []),
  (59, .getfield 49, 3, 11, 5, 2, .null, []),
  (62, .getfield 177, 3, 0, 4, 4, .null, []),
  (65, .invokevirtual 231, 3, 116, 4, 177, .null, []),
  (68, .istore 5, 2, 5, 0, 0, .null, []),
  (70, .iinc 6 1, 3, 6, 0, 0, .int 1, []),
  (73, .goto (-45), 3, 28, 0, 0, .null, []),
  (76, .iconst (-1), 1, 0, 0, 0, .int (-1), []),
  (77, .ireturn, 1, 0, 0, 0, .null, [])], [(28, [true, false, true, true, true, true, true])], 7)
def cd_X11_stop : mmP := ([(0, .aload_n 0, 1, 0, 0, 0, .null, []),
  (1, .iload_n 1, 1, 1, 0, 0, .null, []),
  (2, .invokevirtual 183, 3, 108, 1, 177, .null, []),
  (5, .ifCond .eq 12, 3, 17, 0, 0, .null, []),
  (8, .iconst 0, 1, 0, 0, 0, .int 0, []),
  (9, .iload_n 2, 1, 2, 0, 0, .null, []),
  (10, .iconst 1, 1, 0, 0, 0, .int 1, []),
  (11, .invokestatic 195, 3, 176, 3, 1, .null, []),
  (14, .ifCond .ne 5, 3, 19, 0, 0, .null, []),
  (17, .iconst (-1), 1, 0, 0, 0, .int (-1), []),
  (18, .ireturn, 1, 0, 0, 0, .null, []),
  (19, .aload_n 0, 1, 0, 0, 0, .null, []),
  (20, .getfield 49, 3, 11, 5, 2, .null, []),
  (23, .iload_n 1, 1, 1, 0, 0, .null, []),
  (24, .invokevirtual 186, 3, 5, 1, 1, .null, []),
  (27, .istore_n 3, 1, 3, 0, 0, .null, []),
  (28, .aload_n 0, 1, 0, 0, 0, .null, []),
  (29, .iload_n 1, 1, 1, 0, 0, .null, []),
  (30, .invokevirtual 282, 3, 113, 1, 177, .null, []),
  (33, .istore 4, 2, 4, 0, 0, .null, []),
  (35, .aload_n 0, 1, 0, 0, 0, .null, []),
  (36, .getfield 49, 3, 11, 5, 2, .null, []),
  (39, .getfield 212, 3, 0, 0, 4, .null, []),
  (42, .istore 5, 2, 5, 0, 0, .null, []),
  (44, .iload 5, 2, 5, 0, 0, .null, []),
  (46, .istore 6, 2, 6, 0, 0, .null, []),
  (48, .iconst 0, 1, 0, 0, 0, .int 0, []),
  (49, .istore 7, 2, 7, 0, 0, .null, []),
  (51, .iconst 1, 1, 0, 0, 0, .int 1, []),
  (52, .istore 8, 2, 8, 0, 0, .null, []),
  (54, .iload 8, 2, 8, 0, 0, .null, []),
  (56, .iload 4, 2, 4, 0, 0, .null, []),
  (58, .if_icmp .gt 52, 3, 110, 0, 0, .null, []),
  (61, .aload_n 0, 1, 0, 0, 0, .null, []),
  (62, .iload_n 3, 1, 3, 0, 0, .null, []),
  (63, .iload 5, 2, 5, 0, 0, .null, []),
  (65, .aload_n 0, 1, 0, 0, 0, .null, []),
  (66, .getfield 49, 3, 11, 5, 2, .null, []),
  (69, .getfield 228, 3, 0, 1, 4, .null, []),
  (72, .iload 8, 2, 8, 0, 0, .null, []),
  (74, .iadd, 1, 0, 0, 0, .null, []),
  (75, .iconst 1, 1, 0, 0, 0, .int 1, []),
  (76, .isub, 1, 0, 0, 0, .null, []),
  (77, .aload_n 0, 1, 0, 0, 0, .null, []),
  (78, .getfield 49, 3, 11, 5, 2, .null, []),
  (81, .getfield 177, 3, 0, 4, 4, .null, []),
  (84, .invokevirtual 231, 3, 116, 4, 177, .null, []),
  (87, .istore 5, 2, 5, 0, 0, .null, []),
  (89, .iload 5, 2, 5, 0, 0, .null, []),
  (91, .iload 6, 2, 6, 0, 0, .null, []),
  (93, .if_icmp .le 11, 3, 104, 0, 0, .null, []),
  (96, .iload 5, 2, 5, 0, 0, .null, []),
  (98, .istore 6, 2, 6, 0, 0, .null, []),
  (100, .iload 8, 2, 8, 0, 0, .null, []),
  (102, .istore 7, 2, 7, 0, 0, .null, []),
  (104, .iinc 8 1, 3, 8, 0, 0, .int 1, []),
  (107, .goto (-53), 3, 54, 0, 0, .null, []),
  (110, .iload_n 2, 1, 2, 0, 0, .null, []),
  (111, .ifCond .ne 8, 3, 119, 0, 0, .null, []),
  (114, .iload 7, 2, 7, 0, 0, .null, []),
  (116, .goto 5, 3, 121, 0, 0, .null, []),
  (119, .iload 6, 2, 6, 0, 0, .null, []),
  (121, .ireturn, 1, 0, 0, 0, .null, [])], [(54, [true, false, true, true, true, true, true, true, true])], 9)
def cd_X11_best : mmP := ([(0, .aload_n 0, 1, 0, 0, 0, .null, []),
  (1, .getfield 163, 3, 11, 16, 3, .null, []),
  (4, .ifCond .eq 10, 3, 14, 0, 0, .null, []),
  (7, .iload_n 1, 1, 1, 0, 0, .null, []),
  (8, .invokestatic 330, 3, 177, 1, 1, .null, []),
  (11, .ifCond .ne 5, 3, 16, 0, 0, .null, []),
  (14, .iconst (-1), 1, 0, 0, 0, .int (-1), []),
  (15, .ireturn, 1, 0, 0, 0, .null, []),
  (16, .iconst (-1), 1, 0, 0, 0, .int (-1), []),
  (17, .istore_n 2, 1, 2, 0, 0, .null, []),
  (18, .iconst 0, 1, 0, 0, 0, .int 0, []),
  (19, .istore_n 3, 1, 3, 0, 0, .null, []),
  (20, .iconst 0, 1, 0, 0, 0, .int 0, []),
  (21, .istore 4, 2, 4, 0, 0, .null, []),
  (23, .iload 4, 2, 4, 0, 0, .null, []),
  (25, .aload_n 0, 1, 0, 0, 0, .null, []),
  (26, .getfield 42, 3, 11, 4, 2, .null, []),
  (29, .iconst 1, 1, 0, 0, 0, .int 1, []),
  (30, .invokevirtual 133, 3, 86, 1, 161, .null, []),
  (33, .if_icmp .ge 41, 3, 74, 0, 0, .null, []),
  (36, .aload_n 0, 1, 0, 0, 0, .null, []),
  (37, .iload 4, 2, 4, 0, 0, .null, []),
  (39, .iload_n 1, 1, 1, 0, 0, .null, []),
  (40, .invokevirtual 333, 3, 145, 2, 177, .null, []),
  (43, .istore 5, 2, 5, 0, 0, .null, []),
  (45, .iload 5, 2, 5, 0, 0, .null, []),
  (47, .iconst (-1), 1, 0, 0, 0, .int (-1), []),
  (48, .if_icmp .eq 20, 3, 68, 0, 0, .null, []),
  (51, .iload_n 2, 1, 2, 0, 0, .null, []),
  (52, .iconst (-1), 1, 0, 0, 0, .int (-1), []),
  (53, .if_icmp .eq 9, 3, 62, 0, 0, .null, []),
  (56, .iload 5, 2, 5, 0, 0, .null, []),
  (58, .iload_n 3, 1, 3, 0, 0, .null, []),
  (59, .if_icmp .ge 9, 3, 68, 0, 0, .null, []),
  (62, .iload 4, 2, 4, 0, 0, .null, []),
  (64, .istore_n 2, 1, 2, 0, 0, .null, []),
  (65, .iload 5, 2, 5, 0, 0, .null, []),
  (67, .istore_n 3, 1, 3, 0, 0, .null, []),
  (68, .iinc 4 1, 3, 4, 0, 0, .int 1, []),
  (71, .goto (-48), 3, 23, 0, 0, .null, []),
  (74, .iload_n 2, 1, 2, 0, 0, .null, []),
  (75, .ireturn, 1, 0, 0, 0, .null, [])], [(23, [true, true, true, true, true, false])], 6)
def cd_X11_byTurns : mmP := ([(0, .aload_n 0, 1, 0, 0, 0, .null, []),
  (1, .iload_n 1, 1, 1, 0, 0, .null, []),
  (2, .iload_n 2, 1, 2, 0, 0, .null, []),
  (3, .invokevirtual 336, 3, 109, 2, 177, .null, []),
  (6, .ifCond .eq 10, 3, 16, 0, 0, .null, []),
  (9, .iload_n 3, 1, 3, 0, 0, .null, []),
  (10, .invokestatic 330, 3, 177, 1, 1, .null, []),
  (13, .ifCond .ne 5, 3, 18, 0, 0, .null, []),
  (16, .iconst (-1), 1, 0, 0, 0, .int (-1), []),
  (17, .ireturn, 1, 0, 0, 0, .null, []),
  (18, .aload_n 0, 1, 0, 0, 0, .null, []),
  (19, .iload_n 1, 1, 1, 0, 0, .null, []),
  (20, .invokevirtual 282, 3, 113, 1, 177, .null, []),
  (23, .istore 4, 2, 4, 0, 0, .null, []),
  (25, .aload_n 0, 1, 0, 0, 0, .null, []),
  (26, .iload_n 2, 1, 2, 0, 0, .null, []),
  (27, .invokevirtual 282, 3, 113, 1, 177, .null, []),
  (30, .istore 5, 2, 5, 0, 0, .null, []),
  (32, .iload 4, 2, 4, 0, 0, .null, []),
  (34, .iload 5, 2, 5, 0, 0, .null, []),
  (36, .iadd, 1, 0, 0, 0, .null, []),
  (37, .istore 6, 2, 6, 0, 0, .null, []),
  (39, .aload_n 0, 1, 0, 0, 0, .null, []),
  (40, .getfield 49, 3, 11, 5, 2, .null, []),
  (43, .getfield 212, 3, 0, 0, 4, .null, []),
  (46, .istore 7, 2, 7, 0, 0, .null, []),
  (48, .iconst 1, 1, 0, 0, 0, .int 1, []),
  (49, .istore 8, 2, 8, 0, 0, .null, []),
  (51, .iconst 0, 1, 0, 0, 0, .int 0, []),
  (52, .istore 9, 2, 9, 0, 0, .null, []),
  (54, .iload 9, 2, 9, 0, 0, .null, []),
  (56, .iload 6, 2, 6, 0, 0, .null, []),
  (58, .if_icmp .gt 124, 3, 182, 0, 0, .null, []),
  (61, .iload 7, 2, 7, 0, 0, .null, []),
  (63, .iload_n 3, 1, 3, 0, 0, .null, []),
  (64, .if_icmp .lt 6, 3, 70, 0, 0, .null, []),
  (67, .iload 9, 2, 9, 0, 0, .null, []),
  (69, .ireturn, 1, 0, 0, 0, .null, []),
  (70, .iload 5, 2, 5, 0, 0, .null, []),
  (72, .ifCond .le 13, 3, 85, 0, 0, .null, []),
  (75, .iload 8, 2, 8, 0, 0, .null, []),
  (77, .ifCond .eq 12, 3, 89, 0, 0, .null, []),
  (80, .iload 4, 2, 4, 0, 0, .null, []),
  (82, .ifCond .le 7, 3, 89, 0, 0, .null, []),
  (85, .iconst 1, 1, 0, 0, 0, .int 1, []),
  (86, .goto 4, 3, 90, 0, 0, .null, []),
  (89, .iconst 0, 1, 0, 0, 0, .int 0, []),
  (90, .istore 10, 2, 10, 0, 0, .null, []),
  (92, .aload_n 0, 1, 0, 0, 0, .null, []),
  (93, .aload_n 0, 1, 0, 0, 0, .null, []),
  (94, .getfield 49, 3, 11, 5, 2, .null, []),
  (97, .iload 10, 2, 10, 0, 0, .null, []),
  (99, .ifCond .eq 7, 3, 106, 0, 0, .null, []),
  (102, .iload_n 1, 1, 1, 0, 0, .null, []),
  (103, .goto 4, 3, 107, 0, 0, .null, []),
  (106, .iload_n 2, 1, 2, 0, 0, .null, []),
  (107, .invokevirtual 186, 3, 5, 1, 1, .null, []),
  (110, .iload 7, 2, 7, 0, 0, .null, []),
  (112, .aload_n 0, 1, 0, 0, 0, .null, []),
  (113, .getfield 49, 3, 11, 5, 2, .null, []),
  (116, .getfield 228, 3, 0, 1, 4, .null, []),
  (119, .iload 9, 2, 9, 0, 0, .null, []),
  (121, .iadd, 1, 0, 0, 0, .null, []),
  (122, .aload_n 0, 1, 0, 0, 0, .null, []),
  (123, .getfield 49, 3, 11, 5, 2, .null, []),
  (126, .getfield 177, 3, 0, 4, 4, .null, []),
  (129, .invokevirtual 231, 3, 116, 4, 177, .null, []),
  (132, .istore 7, 2, 7, 0, 0, .null, []),
  (134, .iload 4, 2, 4, 0, 0, .null, []),
  (136, .iload 10, 2, 10, 0, 0, .null, []),
  (138, .ifCond .eq 7, 3, 145, 0, 0, .null, []),
  (141, .iconst 1, 1, 0, 0, 0, .int 1, []),
  (142, .goto 4, 3, 146, 0, 0, .null, []),
  (145, .iconst 0, 1, 0, 0, 0, .int 0, []),
  (146, .isub, 1, 0, 0, 0, .null, []),
  (147, .istore 4, 2, 4, 0, 0, .null, []),
  (149, .iload 5, 2, 5, 0, 0, .null, []),
  (151, .iload 10, 2, 10, 0, 0, .null, []),
  (153, .ifCond .eq 7, 3, 160, 0, 0, .null, []),
  (156, .iconst 0, 1, 0, 0, 0, .int 0, []),
  (157, .goto 4, 3, 161, 0, 0, .null, []),
  (160, .iconst 1, 1, 0, 0, 0, .int 1, []),
  (161, .isub, 1, 0, 0, 0, .null, []),
  (162, .istore 5, 2, 5, 0, 0, .null, []),
  (164, .iload 10, 2, 10, 0, 0, .null, []),
  (166, .ifCond .ne 7, 3, 173, 0, 0, .null, []),
  (169, .iconst 1, 1, 0, 0, 0, .int 1, []),
  (170, .goto 4, 3, 174, 0, 0, .null, []),
  (173, .iconst 0, 1, 0, 0, 0, .int 0, []),
  (174, .istore 8, 2, 8, 0, 0, .null, []),
  (176, .iinc 9 1, 3, 9, 0, 0, .int 1, []),
  (179, .goto (-125), 3, 54, 0, 0, .null, []),
  (182, .iconst (-1), 1, 0, 0, 0, .int (-1), []),
  (183, .ireturn, 1, 0, 0, 0, .null, [])], [(54, [true, true, true, true, true, true, true, true, true, true, false])], 11)
def cd_X11_row : mmP := ([(0, .aload_n 0, 1, 0, 0, 0, .null, []),
  (1, .getfield 163, 3, 11, 16, 3, .null, []),
  (4, .ifCond .eq 12, 3, 16, 0, 0, .null, []),
  (7, .iconst 0, 1, 0, 0, 0, .int 0, []),
  (8, .iload_n 1, 1, 1, 0, 0, .null, []),
  (9, .iconst 2, 1, 0, 0, 0, .int 2, []),
  (10, .invokestatic 195, 3, 176, 3, 1, .null, []),
  (13, .ifCond .ne 5, 3, 18, 0, 0, .null, []),
  (16, .iconst (-1), 1, 0, 0, 0, .int (-1), []),
  (17, .ireturn, 1, 0, 0, 0, .null, []),
  (18, .aload_n 0, 1, 0, 0, 0, .null, []),
  (19, .getfield 85, 3, 11, 11, 2, .null, []),
  (22, .invokevirtual 340, 3, 55, 0, 113, .null, []),
  (25, .istore_n 2, 1, 2, 0, 0, .null, []),
  (26, .iload_n 1, 1, 1, 0, 0, .null, []),
  (27, .ifCond .ne 20, 3, 47, 0, 0, .null, []),
  (30, .iload_n 2, 1, 2, 0, 0, .null, []),
  (31, .ifCond .ne 7, 3, 38, 0, 0, .null, []),
  (34, .iconst (-1), 1, 0, 0, 0, .int (-1), []),
  (35, .goto 11, 3, 46, 0, 0, .null, []),
  (38, .aload_n 0, 1, 0, 0, 0, .null, []),
  (39, .getfield 85, 3, 11, 11, 2, .null, []),
  (42, .iload_n 2, 1, 2, 0, 0, .null, []),
  (43, .invokevirtual 343, 3, 56, 1, 113, .null, []),
  (46, .ireturn, 1, 0, 0, 0, .null, []),
  (47, .iload_n 1, 1, 1, 0, 0, .null, []),
  (48, .iconst 1, 1, 0, 0, 0, .int 1, []),
  (49, .if_icmp .ne 14, 3, 63, 0, 0, .null, []),
  (52, .aload_n 0, 1, 0, 0, 0, .null, []),
  (53, .getfield 85, 3, 11, 11, 2, .null, []),
  (56, .iload_n 2, 1, 2, 0, 0, .null, []),
  (57, .invokevirtual 346, 3, 57, 1, 113, .null, []),
  (60, .goto 11, 3, 71, 0, 0, .null, []),
  (63, .aload_n 0, 1, 0, 0, 0, .null, []),
  (64, .getfield 85, 3, 11, 11, 2, .null, []),
  (67, .iload_n 2, 1, 2, 0, 0, .null, []),
  (68, .invokevirtual 349, 3, 58, 1, 113, .null, []),
  (71, .ireturn, 1, 0, 0, 0, .null, [])], [], 3)
def cd_X11_lasts : mmP := ([(0, .aload_n 0, 1, 0, 0, 0, .null, []),
  (1, .getfield 163, 3, 11, 16, 3, .null, []),
  (4, .ifCond .ne 5, 3, 9, 0, 0, .null, []),
  (7, .iconst (-1), 1, 0, 0, 0, .int (-1), []),
  (8, .ireturn, 1, 0, 0, 0, .null, []),
  (9, .aload_n 0, 1, 0, 0, 0, .null, []),
  (10, .invokevirtual 248, 3, 121, 0, 177, .null, []),
  (13, .istore_n 1, 1, 1, 0, 0, .null, []),
  (14, .aload_n 0, 1, 0, 0, 0, .null, []),
  (15, .getfield 49, 3, 11, 5, 2, .null, []),
  (18, .getfield 212, 3, 0, 0, 4, .null, []),
  (21, .istore_n 2, 1, 2, 0, 0, .null, []),
  (22, .iconst 0, 1, 0, 0, 0, .int 0, []),
  (23, .istore_n 3, 1, 3, 0, 0, .null, []),
  (24, .iload_n 3, 1, 3, 0, 0, .null, []),
  (25, .bipush 60, 2, 0, 0, 0, .int 60, []),
  (27, .if_icmp .gt 21, 3, 48, 0, 0, .null, []),
  (30, .iload_n 2, 1, 2, 0, 0, .null, []),
  (31, .ifCond .ne 5, 3, 36, 0, 0, .null, []),
  (34, .iload_n 3, 1, 3, 0, 0, .null, []),
  (35, .ireturn, 1, 0, 0, 0, .null, []),
  (36, .iload_n 2, 1, 2, 0, 0, .null, []),
  (37, .iload_n 1, 1, 1, 0, 0, .null, []),
  (38, .invokestatic 251, 3, 122, 2, 1, .null, []),
  (41, .istore_n 2, 1, 2, 0, 0, .null, []),
  (42, .iinc 3 1, 3, 3, 0, 0, .int 1, []),
  (45, .goto (-21), 3, 24, 0, 0, .null, []),
  (48, .iconst (-1), 1, 0, 0, 0, .int (-1), []),
  (49, .ireturn, 1, 0, 0, 0, .null, [])], [(24, [false, true, true, true])], 4)
def cd_X11_holds : mmP := ([(0, .aload_n 0, 1, 0, 0, 0, .null, []),
  (1, .getfield 163, 3, 11, 16, 3, .null, []),
  (4, .ifCond .eq 13, 3, 17, 0, 0, .null, []),
  (7, .iconst 0, 1, 0, 0, 0, .int 0, []),
  (8, .iload_n 1, 1, 1, 0, 0, .null, []),
  (9, .bipush 20, 2, 0, 0, 0, .int 20, []),
  (11, .invokestatic 195, 3, 176, 3, 1, .null, []),
  (14, .ifCond .ne 5, 3, 19, 0, 0, .null, []),
  (17, .iconst (-1), 1, 0, 0, 0, .int (-1), []),
  (18, .ireturn, 1, 0, 0, 0, .null, []),
  (19, .iload_n 1, 1, 1, 0, 0, .null, []),
  (20, .aload_n 0, 1, 0, 0, 0, .null, []),
  (21, .invokevirtual 248, 3, 121, 0, 177, .null, []),
  (24, .imul, 1, 0, 0, 0, .null, []),
  (25, .iconst 1, 1, 0, 0, 0, .int 1, []),
  (26, .iadd, 1, 0, 0, 0, .null, []),
  (27, .istore_n 2, 1, 2, 0, 0, .null, []),
  (28, .iload_n 2, 1, 2, 0, 0, .null, []),
  (29, .bipush 99, 2, 0, 0, 0, .int 99, []),
  (31, .if_icmp .gt 7, 3, 38, 0, 0, .null, []),
  (34, .iload_n 2, 1, 2, 0, 0, .null, []),
  (35, .goto 4, 3, 39, 0, 0, .null, []),
  (38, .iconst (-1), 1, 0, 0, 0, .int (-1), []),
  (39, .ireturn, 1, 0, 0, 0, .null, [])], [], 3)
def cd_X11_seen : mmP := ([(0, .aload_n 0, 1, 0, 0, 0, .null, []),
  (1, .iload_n 1, 1, 1, 0, 0, .null, []),
  (2, .invokevirtual 183, 3, 108, 1, 177, .null, []),
  (5, .ifCond .eq 30, 3, 35, 0, 0, .null, []),
  (8, .iconst 1, 1, 0, 0, 0, .int 1, []),
  (9, .iload_n 2, 1, 2, 0, 0, .null, []),
  (10, .bipush 40, 2, 0, 0, 0, .int 40, []),
  (12, .invokestatic 195, 3, 176, 3, 1, .null, []),
  (15, .ifCond .eq 20, 3, 35, 0, 0, .null, []),
  (18, .iload_n 3, 1, 3, 0, 0, .null, []),
  (19, .invokestatic 330, 3, 177, 1, 1, .null, []),
  (22, .ifCond .eq 13, 3, 35, 0, 0, .null, []),
  (25, .aload_n 0, 1, 0, 0, 0, .null, []),
  (26, .getfield 76, 3, 11, 10, 2, .null, []),
  (29, .invokevirtual 352, 3, 64, 0, 129, .null, []),
  (32, .ifCond .eq 5, 3, 37, 0, 0, .null, []),
  (35, .iconst (-1), 1, 0, 0, 0, .int (-1), []),
  (36, .ireturn, 1, 0, 0, 0, .null, []),
  (37, .aload_n 0, 1, 0, 0, 0, .null, []),
  (38, .getfield 76, 3, 11, 10, 2, .null, []),
  (41, .iload_n 1, 1, 1, 0, 0, .null, []),
  (42, .iload_n 2, 1, 2, 0, 0, .null, []),
  (43, .iload_n 3, 1, 3, 0, 0, .null, []),
  (44, .iload 4, 2, 4, 0, 0, .null, []),
  (46, .invokevirtual 353, 3, 66, 4, 128, .null, []),
  (49, .aload_n 0, 1, 0, 0, 0, .null, []),
  (50, .getfield 76, 3, 11, 10, 2, .null, []),
  (53, .invokevirtual 356, 3, 63, 0, 129, .null, []),
  (56, .ireturn, 1, 0, 0, 0, .null, [])], [], 5)
def cd_X11_fits : mmP := ([(0, .aload_n 0, 1, 0, 0, 0, .null, []),
  (1, .getfield 163, 3, 11, 16, 3, .null, []),
  (4, .ifCond .ne 5, 3, 9, 0, 0, .null, []),
  (7, .iconst (-1), 1, 0, 0, 0, .int (-1), []),
  (8, .ireturn, 1, 0, 0, 0, .null, []),
  (9, .aload_n 0, 1, 0, 0, 0, .null, []),
  (10, .invokevirtual 357, 3, 155, 0, 177, .null, []),
  (13, .istore_n 2, 1, 2, 0, 0, .null, []),
  (14, .iload_n 1, 1, 1, 0, 0, .null, []),
  (15, .iconst (-1), 1, 0, 0, 0, .int (-1), []),
  (16, .if_icmp .ne 10, 3, 26, 0, 0, .null, []),
  (19, .iload_n 2, 1, 2, 0, 0, .null, []),
  (20, .invokestatic 360, 3, 299, 1, 1, .null, []),
  (23, .goto 8, 3, 31, 0, 0, .null, []),
  (26, .iload_n 2, 1, 2, 0, 0, .null, []),
  (27, .iload_n 1, 1, 1, 0, 0, .null, []),
  (28, .invokestatic 365, 3, 154, 2, 1, .null, []),
  (31, .ireturn, 1, 0, 0, 0, .null, [])], [], 3)
def cd_X11_placeOfBit : mmP := ([(0, .iconst 0, 1, 0, 0, 0, .int 0, []),
  (1, .istore_n 2, 1, 2, 0, 0, .null, []),
  (2, .iconst 0, 1, 0, 0, 0, .int 0, []),
  (3, .istore_n 3, 1, 3, 0, 0, .null, []),
  (4, .iload_n 3, 1, 3, 0, 0, .null, []),
  (5, .bipush 31, 2, 0, 0, 0, .int 31, []),
  (7, .if_icmp .ge 27, 3, 34, 0, 0, .null, []),
  (10, .iload_n 0, 1, 0, 0, 0, .null, []),
  (11, .iload_n 3, 1, 3, 0, 0, .null, []),
  (12, .ishr, 1, 0, 0, 0, .null, []),
  (13, .iconst 1, 1, 0, 0, 0, .int 1, []),
  (14, .iand, 1, 0, 0, 0, .null, []),
  (15, .ifCond .eq 13, 3, 28, 0, 0, .null, []),
  (18, .iload_n 2, 1, 2, 0, 0, .null, []),
  (19, .iload_n 1, 1, 1, 0, 0, .null, []),
  (20, .if_icmp .ne 5, 3, 25, 0, 0, .null, []),
  (23, .iload_n 3, 1, 3, 0, 0, .null, []),
  (24, .ireturn, 1, 0, 0, 0, .null, []),
  (25, .iinc 2 1, 3, 2, 0, 0, .int 1, []),
  (28, .iinc 3 1, 3, 3, 0, 0, .int 1, []),
  (31, .goto (-27), 3, 4, 0, 0, .null, []),
  (34, .iconst (-1), 1, 0, 0, 0, .int (-1), []),
  (35, .ireturn, 1, 0, 0, 0, .null, [])], [(4, [true, true, true, true])], 4)
def cd_X11_fittingYolks : mmP := ([(0, .iconst 0, 1, 0, 0, 0, .int 0, []),
  (1, .istore_n 1, 1, 1, 0, 0, .null, []),
  (2, .iconst 0, 1, 0, 0, 0, .int 0, []),
  (3, .istore_n 2, 1, 2, 0, 0, .null, []),
  (4, .iload_n 2, 1, 2, 0, 0, .null, []),
  (5, .bipush 9, 2, 0, 0, 0, .int 9, []),
  (7, .if_icmp .gt 27, 3, 34, 0, 0, .null, []),
  (10, .iload_n 1, 1, 1, 0, 0, .null, []),
  (11, .aload_n 0, 1, 0, 0, 0, .null, []),
  (12, .iload_n 2, 1, 2, 0, 0, .null, []),
  (13, .invokevirtual 368, 3, 156, 1, 177, .null, []),
  (16, .ifCond .eq 9, 3, 25, 0, 0, .null, []),
  (19, .iconst 1, 1, 0, 0, 0, .int 1, []),
  (20, .iload_n 2, 1, 2, 0, 0, .null, []),
  (21, .ishl, 1, 0, 0, 0, .null, []),
  (22, .goto 4, 3, 26, 0, 0, .null, []),
  (25, .iconst 0, 1, 0, 0, 0, .int 0, []),
  (26, .ior, 1, 0, 0, 0, .null, []),
  (27, .istore_n 1, 1, 1, 0, 0, .null, []),
  (28, .iinc 2 1, 3, 2, 0, 0, .int 1, []),
  (31, .goto (-27), 3, 4, 0, 0, .null, []),
  (34, .iload_n 1, 1, 1, 0, 0, .null, []),
  (35, .ireturn, 1, 0, 0, 0, .null, [])], [(4, [true, true, true])], 3)
def cd_X11_isFitting : mmP := ([(0, .iconst 0, 1, 0, 0, 0, .int 0, []),
  (1, .istore_n 2, 1, 2, 0, 0, .null, []),
  (2, .iload_n 2, 1, 2, 0, 0, .null, []),
  (3, .aload_n 0, 1, 0, 0, 0, .null, []),
  (4, .getfield 42, 3, 11, 4, 2, .null, []),
  (7, .iconst 1, 1, 0, 0, 0, .int 1, []),
  (8, .invokevirtual 133, 3, 86, 1, 161, .null, []),
  (11, .if_icmp .ge 78, 3, 89, 0, 0, .null, []),
  (14, .aload_n 0, 1, 0, 0, 0, .null, []),
  (15, .getfield 49, 3, 11, 5, 2, .null, []),
  (18, .iload_n 2, 1, 2, 0, 0, .null, []),
  (19, .invokevirtual 186, 3, 5, 1, 1, .null, []),
  (22, .istore_n 3, 1, 3, 0, 0, .null, []),
  (23, .aload_n 0, 1, 0, 0, 0, .null, []),
  (24, .getfield 76, 3, 11, 10, 2, .null, []),
  (27, .iload_n 2, 1, 2, 0, 0, .null, []),
  (28, .invokevirtual 371, 3, 67, 1, 129, .null, []),
  (31, .istore 4, 2, 4, 0, 0, .null, []),
  (33, .iconst 0, 1, 0, 0, 0, .int 0, []),
  (34, .istore 5, 2, 5, 0, 0, .null, []),
  (36, .iconst 1, 1, 0, 0, 0, .int 1, []),
  (37, .istore 6, 2, 6, 0, 0, .null, []),
  (39, .iload 6, 2, 6, 0, 0, .null, []),
  (41, .iload 4, 2, 4, 0, 0, .null, []),
  (43, .if_icmp .gt 40, 3, 83, 0, 0, .null, []),
  (46, .aload_n 0, 1, 0, 0, 0, .null, []),
  (47, .iload_n 3, 1, 3, 0, 0, .null, []),
  (48, .iload 5, 2, 5, 0, 0, .null, []),
  (50, .iload 6, 2, 6, 0, 0, .null, []),
  (52, .iconst 1, 1, 0, 0, 0, .int 1, []),
  (53, .isub, 1, 0, 0, 0, .null, []),
  (54, .iload_n 1, 1, 1, 0, 0, .null, []),
  (55, .invokevirtual 231, 3, 116, 4, 177, .null, []),
  (58, .istore 5, 2, 5, 0, 0, .null, []),
  (60, .aload_n 0, 1, 0, 0, 0, .null, []),
  (61, .getfield 76, 3, 11, 10, 2, .null, []),
  (64, .iload_n 2, 1, 2, 0, 0, .null, []),
  (65, .iload 6, 2, 6, 0, 0, .null, []),
  (67, .iload 5, 2, 5, 0, 0, .null, []),
  (69, .invokevirtual 374, 3, 68, 3, 129, .null, []),
  (72, .ifCond .eq 5, 3, 77, 0, 0, .null, []),
  (75, .iconst 0, 1, 0, 0, 0, .int 0, []),
  (76, .ireturn, 1, 0, 1, 0, .null, []),
  (77, .iinc 6 1, 3, 6, 0, 0, .int 1, []),
  (80, .goto (-41), 3, 39, 0, 0, .null, []),
  (83, .iinc 2 1, 3, 2, 0, 0, .int 1, []),
  (86, .goto (-84), 3, 2, 0, 0, .null, []),
  (89, .iconst 1, 1, 0, 0, 0, .int 1, []),
  (90, .ireturn, 1, 0, 1, 0, .null, [])], [(2, [true, true, true, false, false, false, false]), (39, [true, true, true, true, true, true, true])], 7)
def cd_X11_probe : mmP := ([(0, .aload_n 0, 1, 0, 0, 0, .null, []),
  (1, .iload_n 1, 1, 1, 0, 0, .null, []),
  (2, .invokevirtual 183, 3, 108, 1, 177, .null, []),
  (5, .ifCond .eq 10, 3, 15, 0, 0, .null, []),
  (8, .iload_n 2, 1, 2, 0, 0, .null, []),
  (9, .invokestatic 330, 3, 177, 1, 1, .null, []),
  (12, .ifCond .ne 5, 3, 17, 0, 0, .null, []),
  (15, .iconst (-1), 1, 0, 0, 0, .int (-1), []),
  (16, .ireturn, 1, 0, 0, 0, .null, []),
  (17, .aload_n 0, 1, 0, 0, 0, .null, []),
  (18, .invokevirtual 357, 3, 155, 0, 177, .null, []),
  (21, .istore_n 3, 1, 3, 0, 0, .null, []),
  (22, .iload_n 3, 1, 3, 0, 0, .null, []),
  (23, .ifCond .ne 5, 3, 28, 0, 0, .null, []),
  (26, .iconst (-1), 1, 0, 0, 0, .int (-1), []),
  (27, .ireturn, 1, 0, 0, 0, .null, []),
  (28, .aload_n 0, 1, 0, 0, 0, .null, []),
  (29, .getfield 100, 3, 11, 14, 2, .null, []),
  (32, .iconst 0, 1, 0, 0, 0, .int 0, []),
  (33, .invokestatic 377, 3, 306, 2, 0, .null, []),
  (36, .iconst (-1), 1, 0, 0, 0, .int (-1), []),
  (37, .istore 4, 2, 4, 0, 0, .null, []),
  (39, .iconst 0, 1, 0, 0, 0, .int 0, []),
  (40, .istore 5, 2, 5, 0, 0, .null, []),
  (42, .iconst 1, 1, 0, 0, 0, .int 1, []),
  (43, .istore 6, 2, 6, 0, 0, .null, []),
  (45, .iload 6, 2, 6, 0, 0, .null, []),
  (47, .bipush 40, 2, 0, 0, 0, .int 40, []),
  (49, .if_icmp .gt 64, 3, 113, 0, 0, .null, []),
  (52, .aload_n 0, 1, 0, 0, 0, .null, []),
  (53, .iload_n 3, 1, 3, 0, 0, .null, []),
  (54, .aload_n 0, 1, 0, 0, 0, .null, []),
  (55, .getfield 49, 3, 11, 5, 2, .null, []),
  (58, .iload_n 1, 1, 1, 0, 0, .null, []),
  (59, .invokevirtual 186, 3, 5, 1, 1, .null, []),
  (62, .iload 6, 2, 6, 0, 0, .null, []),
  (64, .iconst 1, 1, 0, 0, 0, .int 1, []),
  (65, .isub, 1, 0, 0, 0, .null, []),
  (66, .iload_n 2, 1, 2, 0, 0, .null, []),
  (67, .invokevirtual 383, 3, 158, 4, 177, .null, []),
  (70, .istore 7, 2, 7, 0, 0, .null, []),
  (72, .iconst 2, 1, 0, 0, 0, .int 2, []),
  (73, .iload 7, 2, 7, 0, 0, .null, []),
  (75, .imul, 1, 0, 0, 0, .null, []),
  (76, .iload_n 3, 1, 3, 0, 0, .null, []),
  (77, .invokestatic 360, 3, 299, 1, 1, .null, []),
  (80, .isub, 1, 0, 0, 0, .null, []),
  (81, .invokestatic 386, 3, 301, 1, 1, .null, []),
  (84, .istore 8, 2, 8, 0, 0, .null, []),
  (86, .iload 4, 2, 4, 0, 0, .null, []),
  (88, .iconst (-1), 1, 0, 0, 0, .int (-1), []),
  (89, .if_icmp .eq 10, 3, 99, 0, 0, .null, []),
  (92, .iload 8, 2, 8, 0, 0, .null, []),
  (94, .iload 5, 2, 5, 0, 0, .null, []),
  (96, .if_icmp .ge 11, 3, 107, 0, 0, .null, []),
  (99, .iload 6, 2, 6, 0, 0, .null, []),
  (101, .istore 4, 2, 4, 0, 0, .null, []),
  (103, .iload 8, 2, 8, 0, 0, .null, []),
  (105, .istore 5, 2, 5, 0, 0, .null, []),
  (107, .iinc 6 1, 3, 6, 0, 0, .int 1, []),
  (110, .goto (-65), 3, 45, 0, 0, .null, []),
  (113, .iload 4, 2, 4, 0, 0, .null, []),
  (115, .ireturn, 1, 0, 0, 0, .null, [])], [(45, [true, true, true, true, true, true, true, false, false])], 9)
def cd_X11_whiskAllYolks : mmP := ([(0, .iconst 0, 1, 0, 0, 0, .int 0, []),
  (1, .istore 5, 2, 5, 0, 0, .null, []),
  (3, .iconst 0, 1, 0, 0, 0, .int 0, []),
  (4, .istore 6, 2, 6, 0, 0, .null, []),
  (6, .iload 6, 2, 6, 0, 0, .null, []),
  (8, .aload_n 0, 1, 0, 0, 0, .null, []),
  (9, .getfield 100, 3, 11, 14, 2, .null, []),
  (12, .arraylength, 1, 0, 0, 0, .null, []),
  (13, .if_icmp .ge 62, 3, 75, 0, 0, .null, []),
  (16, .iload_n 1, 1, 1, 0, 0, .null, []),
  (17, .iload 6, 2, 6, 0, 0, .null, []),
  (19, .ishr, 1, 0, 0, 0, .null, []),
  (20, .iconst 1, 1, 0, 0, 0, .int 1, []),
  (21, .iand, 1, 0, 0, 0, .null, []),
  (22, .ifCond .eq 47, 3, 69, 0, 0, .null, []),
  (25, .aload_n 0, 1, 0, 0, 0, .null, []),
  (26, .getfield 100, 3, 11, 14, 2, .null, []),
  (29, .iload 6, 2, 6, 0, 0, .null, []),
  (31, .aload_n 0, 1, 0, 0, 0, .null, []),
  (32, .iload_n 2, 1, 2, 0, 0, .null, []),
  (33, .aload_n 0, 1, 0, 0, 0, .null, []),
  (34, .getfield 100, 3, 11, 14, 2, .null, []),
  (37, .iload 6, 2, 6, 0, 0, .null, []),
  (39, .iaload, 1, 0, 0, 0, .null, []),
  (40, .iload_n 3, 1, 3, 0, 0, .null, []),
  (41, .iload 6, 2, 6, 0, 0, .null, []),
  (43, .invokevirtual 231, 3, 116, 4, 177, .null, []),
  (46, .iastore, 1, 0, 0, 0, .null, []),
  (47, .iload 5, 2, 5, 0, 0, .null, []),
  (49, .aload_n 0, 1, 0, 0, 0, .null, []),
  (50, .getfield 100, 3, 11, 14, 2, .null, []),
  (53, .iload 6, 2, 6, 0, 0, .null, []),
  (55, .iaload, 1, 0, 0, 0, .null, []),
  (56, .iload 4, 2, 4, 0, 0, .null, []),
  (58, .if_icmp .lt 7, 3, 65, 0, 0, .null, []),
  (61, .iconst 1, 1, 0, 0, 0, .int 1, []),
  (62, .goto 4, 3, 66, 0, 0, .null, []),
  (65, .iconst 0, 1, 0, 0, 0, .int 0, []),
  (66, .iadd, 1, 0, 0, 0, .null, []),
  (67, .istore 5, 2, 5, 0, 0, .null, []),
  (69, .iinc 6 1, 3, 6, 0, 0, .int 1, []),
  (72, .goto (-66), 3, 6, 0, 0, .null, []),
  (75, .iload 5, 2, 5, 0, 0, .null, []),
  (77, .ireturn, 1, 0, 0, 0, .null, [])], [(6, [true, true, true, true, true, true, true])], 7)
def cd_X11_game : mmP := ([(0, .iconst 0, 1, 0, 0, 0, .int 0, []),
  (1, .iload_n 3, 1, 3, 0, 0, .null, []),
  (2, .iconst 5, 1, 0, 0, 0, .int 5, []),
  (3, .invokestatic 195, 3, 176, 3, 1, .null, []),
  (6, .ifCond .eq 17, 3, 23, 0, 0, .null, []),
  (9, .iconst 0, 1, 0, 0, 0, .int 0, []),
  (10, .iload 4, 2, 4, 0, 0, .null, []),
  (12, .iconst 5, 1, 0, 0, 0, .int 5, []),
  (13, .invokestatic 195, 3, 176, 3, 1, .null, []),
  (16, .ifCond .eq 7, 3, 23, 0, 0, .null, []),
  (19, .iconst 1, 1, 0, 0, 0, .int 1, []),
  (20, .goto 4, 3, 24, 0, 0, .null, []),
  (23, .iconst 0, 1, 0, 0, 0, .int 0, []),
  (24, .istore 6, 2, 6, 0, 0, .null, []),
  (26, .aload_n 0, 1, 0, 0, 0, .null, []),
  (27, .iload_n 1, 1, 1, 0, 0, .null, []),
  (28, .iload_n 2, 1, 2, 0, 0, .null, []),
  (29, .invokevirtual 336, 3, 109, 2, 177, .null, []),
  (32, .ifCond .eq 18, 3, 50, 0, 0, .null, []),
  (35, .iload 6, 2, 6, 0, 0, .null, []),
  (37, .ifCond .eq 13, 3, 50, 0, 0, .null, []),
  (40, .iconst 0, 1, 0, 0, 0, .int 0, []),
  (41, .iload 5, 2, 5, 0, 0, .null, []),
  (43, .iconst 1, 1, 0, 0, 0, .int 1, []),
  (44, .invokestatic 195, 3, 176, 3, 1, .null, []),
  (47, .ifCond .ne 7, 3, 54, 0, 0, .null, []),
  (50, .ldc_w 389, 3, 0, 0, 0, .int (-1000000), []),
  (53, .ireturn, 1, 0, 0, 0, .null, []),
  (54, .aload_n 0, 1, 0, 0, 0, .null, []),
  (55, .aload_n 0, 1, 0, 0, 0, .null, []),
  (56, .getfield 49, 3, 11, 5, 2, .null, []),
  (59, .iload_n 1, 1, 1, 0, 0, .null, []),
  (60, .invokevirtual 186, 3, 5, 1, 1, .null, []),
  (63, .aload_n 0, 1, 0, 0, 0, .null, []),
  (64, .getfield 49, 3, 11, 5, 2, .null, []),
  (67, .getfield 212, 3, 0, 0, 4, .null, []),
  (70, .aload_n 0, 1, 0, 0, 0, .null, []),
  (71, .getfield 49, 3, 11, 5, 2, .null, []),
  (74, .getfield 228, 3, 0, 1, 4, .null, []),
  (77, .aload_n 0, 1, 0, 0, 0, .null, []),
  (78, .getfield 49, 3, 11, 5, 2, .null, []),
  (81, .getfield 177, 3, 0, 4, 4, .null, []),
  (84, .iload_n 3, 1, 3, 0, 0, .null, []),
  (85, .invokevirtual 326, 3, 143, 5, 177, .null, []),
  (88, .istore 7, 2, 7, 0, 0, .null, []),
  (90, .aload_n 0, 1, 0, 0, 0, .null, []),
  (91, .aload_n 0, 1, 0, 0, 0, .null, []),
  (92, .getfield 49, 3, 11, 5, 2, .null, []),
  (95, .iload_n 2, 1, 2, 0, 0, .null, []),
  (96, .invokevirtual 186, 3, 5, 1, 1, .null, []),
  (99, .iload 7, 2, 7, 0, 0, .null, []),
  (101, .aload_n 0, 1, 0, 0, 0, .null, []),
  (102, .getfield 49, 3, 11, 5, 2, .null, []),
  (105, .getfield 228, 3, 0, 1, 4, .null, []),
  (108, .iload_n 3, 1, 3, 0, 0, .null, []),
  (109, .iadd, 1, 0, 0, 0, .null, []),
  (110, .aload_n 0, 1, 0, 0, 0, .null, []),
  (111, .getfield 49, 3, 11, 5, 2, .null, []),
  (114, .getfield 177, 3, 0, 4, 4, .null, []),
  (117, .iload 4, 2, 4, 0, 0, .null, []),
  (119, .invokevirtual 326, 3, 143, 5, 177, .null, []),
  (122, .istore 8, 2, 8, 0, 0, .null, []),
  (124, .iload 8, 2, 8, 0, 0, .null, []),
  (126, .iconst 4, 1, 0, 0, 0, .int 4, []),
  (127, .idiv, 1, 0, 0, 0, .null, []),
  (128, .iload 5, 2, 5, 0, 0, .null, []),
  (130, .ifCond .ne 7, 3, 137, 0, 0, .null, []),
  (133, .iload_n 3, 1, 3, 0, 0, .null, []),
  (134, .goto 5, 3, 139, 0, 0, .null, []),
  (137, .iload 4, 2, 4, 0, 0, .null, []),
  (139, .isub, 1, 0, 0, 0, .null, []),
  (140, .ireturn, 1, 0, 0, 0, .null, [])], [], 9)
def cd_X11_rests : mmP := ([(0, .aload_n 0, 1, 0, 0, 0, .null, []),
  (1, .iload_n 1, 1, 1, 0, 0, .null, []),
  (2, .iload_n 2, 1, 2, 0, 0, .null, []),
  (3, .invokevirtual 336, 3, 109, 2, 177, .null, []),
  (6, .ifCond .ne 5, 3, 11, 0, 0, .null, []),
  (9, .iconst (-1), 1, 0, 0, 0, .int (-1), []),
  (10, .ireturn, 1, 0, 0, 0, .null, []),
  (11, .aload_n 0, 1, 0, 0, 0, .null, []),
  (12, .iload_n 1, 1, 1, 0, 0, .null, []),
  (13, .iload_n 2, 1, 2, 0, 0, .null, []),
  (14, .invokevirtual 390, 3, 161, 2, 176, .null, []),
  (17, .iconst 0, 1, 0, 0, 0, .int 0, []),
  (18, .istore 4, 2, 4, 0, 0, .null, []),
  (20, .iconst 0, 1, 0, 0, 0, .int 0, []),
  (21, .istore 5, 2, 5, 0, 0, .null, []),
  (23, .iload 5, 2, 5, 0, 0, .null, []),
  (25, .aload_n 0, 1, 0, 0, 0, .null, []),
  (26, .getfield 103, 3, 11, 15, 2, .null, []),
  (29, .arraylength, 1, 0, 0, 0, .null, []),
  (30, .if_icmp .ge 52, 3, 82, 0, 0, .null, []),
  (33, .iload 5, 2, 5, 0, 0, .null, []),
  (35, .bipush 6, 2, 0, 0, 0, .int 6, []),
  (37, .idiv, 1, 0, 0, 0, .null, []),
  (38, .istore 6, 2, 6, 0, 0, .null, []),
  (40, .iload 5, 2, 5, 0, 0, .null, []),
  (42, .bipush 6, 2, 0, 0, 0, .int 6, []),
  (44, .irem, 1, 0, 0, 0, .null, []),
  (45, .istore 7, 2, 7, 0, 0, .null, []),
  (47, .aload_n 0, 1, 0, 0, 0, .null, []),
  (48, .iload 6, 2, 6, 0, 0, .null, []),
  (50, .iload 7, 2, 7, 0, 0, .null, []),
  (52, .invokevirtual 393, 3, 163, 2, 177, .null, []),
  (55, .ifCond .eq 21, 3, 76, 0, 0, .null, []),
  (58, .iload 4, 2, 4, 0, 0, .null, []),
  (60, .iload_n 3, 1, 3, 0, 0, .null, []),
  (61, .if_icmp .ne 12, 3, 73, 0, 0, .null, []),
  (64, .bipush 10, 2, 0, 0, 0, .int 10, []),
  (66, .iload 6, 2, 6, 0, 0, .null, []),
  (68, .imul, 1, 0, 0, 0, .null, []),
  (69, .iload 7, 2, 7, 0, 0, .null, []),
  (71, .iadd, 1, 0, 0, 0, .null, []),
  (72, .ireturn, 1, 0, 0, 0, .null, []),
  (73, .iinc 4 1, 3, 4, 0, 0, .int 1, []),
  (76, .iinc 5 1, 3, 5, 0, 0, .int 1, []),
  (79, .goto (-56), 3, 23, 0, 0, .null, []),
  (82, .iload_n 3, 1, 3, 0, 0, .null, []),
  (83, .iconst (-1), 1, 0, 0, 0, .int (-1), []),
  (84, .if_icmp .ne 8, 3, 92, 0, 0, .null, []),
  (87, .iload 4, 2, 4, 0, 0, .null, []),
  (89, .goto 4, 3, 93, 0, 0, .null, []),
  (92, .iconst (-1), 1, 0, 0, 0, .int (-1), []),
  (93, .ireturn, 1, 0, 0, 0, .null, [])], [(23, [true, false, false, true, true, true, false, false])], 8)
def cd_X11_playAll : mmP := ([(0, .aload_n 0, 1, 0, 0, 0, .null, []),
  (1, .getfield 49, 3, 11, 5, 2, .null, []),
  (4, .getfield 212, 3, 0, 0, 4, .null, []),
  (7, .istore_n 3, 1, 3, 0, 0, .null, []),
  (8, .iconst 0, 1, 0, 0, 0, .int 0, []),
  (9, .istore 4, 2, 4, 0, 0, .null, []),
  (11, .iload 4, 2, 4, 0, 0, .null, []),
  (13, .bipush 6, 2, 0, 0, 0, .int 6, []),
  (15, .if_icmp .ge 124, 3, 139, 0, 0, .null, []),
  (18, .iload_n 3, 1, 3, 0, 0, .null, []),
  (19, .istore 5, 2, 5, 0, 0, .null, []),
  (21, .iconst 0, 1, 0, 0, 0, .int 0, []),
  (22, .istore 6, 2, 6, 0, 0, .null, []),
  (24, .iload 6, 2, 6, 0, 0, .null, []),
  (26, .bipush 6, 2, 0, 0, 0, .int 6, []),
  (28, .if_icmp .ge 74, 3, 102, 0, 0, .null, []),
  (31, .iload 4, 2, 4, 0, 0, .null, []),
  (33, .bipush 6, 2, 0, 0, 0, .int 6, []),
  (35, .imul, 1, 0, 0, 0, .null, []),
  (36, .iload 6, 2, 6, 0, 0, .null, []),
  (38, .iadd, 1, 0, 0, 0, .null, []),
  (39, .istore 7, 2, 7, 0, 0, .null, []),
  (41, .iload 7, 2, 7, 0, 0, .null, []),
  (43, .aload_n 0, 1, 0, 0, 0, .null, []),
  (44, .getfield 103, 3, 11, 15, 2, .null, []),
  (47, .arraylength, 1, 0, 0, 0, .null, []),
  (48, .if_icmp .ge 12, 3, 60, 0, 0, .null, []),
  (51, .aload_n 0, 1, 0, 0, 0, .null, []),
  (52, .getfield 103, 3, 11, 15, 2, .null, []),
  (55, .iload 7, 2, 7, 0, 0, .null, []),
  (57, .iload 5, 2, 5, 0, 0, .null, []),
  (59, .iastore, 1, 0, 0, 0, .null, []),
  (60, .aload_n 0, 1, 0, 0, 0, .null, []),
  (61, .aload_n 0, 1, 0, 0, 0, .null, []),
  (62, .getfield 49, 3, 11, 5, 2, .null, []),
  (65, .iload_n 2, 1, 2, 0, 0, .null, []),
  (66, .invokevirtual 186, 3, 5, 1, 1, .null, []),
  (69, .iload 5, 2, 5, 0, 0, .null, []),
  (71, .aload_n 0, 1, 0, 0, 0, .null, []),
  (72, .getfield 49, 3, 11, 5, 2, .null, []),
  (75, .getfield 228, 3, 0, 1, 4, .null, []),
  (78, .iload 4, 2, 4, 0, 0, .null, []),
  (80, .iadd, 1, 0, 0, 0, .null, []),
  (81, .iload 6, 2, 6, 0, 0, .null, []),
  (83, .iadd, 1, 0, 0, 0, .null, []),
  (84, .aload_n 0, 1, 0, 0, 0, .null, []),
  (85, .getfield 49, 3, 11, 5, 2, .null, []),
  (88, .getfield 177, 3, 0, 4, 4, .null, []),
  (91, .invokevirtual 231, 3, 116, 4, 177, .null, []),
  (94, .istore 5, 2, 5, 0, 0, .null, []),
  (96, .iinc 6 1, 3, 6, 0, 0, .int 1, []),
  (99, .goto (-75), 3, 24, 0, 0, .null, []),
  (102, .aload_n 0, 1, 0, 0, 0, .null, []),
  (103, .aload_n 0, 1, 0, 0, 0, .null, []),
  (104, .getfield 49, 3, 11, 5, 2, .null, []),
  (107, .iload_n 1, 1, 1, 0, 0, .null, []),
  (108, .invokevirtual 186, 3, 5, 1, 1, .null, []),
  (111, .iload_n 3, 1, 3, 0, 0, .null, []),
  (112, .aload_n 0, 1, 0, 0, 0, .null, []),
  (113, .getfield 49, 3, 11, 5, 2, .null, []),
  (116, .getfield 228, 3, 0, 1, 4, .null, []),
  (119, .iload 4, 2, 4, 0, 0, .null, []),
  (121, .iadd, 1, 0, 0, 0, .null, []),
  (122, .aload_n 0, 1, 0, 0, 0, .null, []),
  (123, .getfield 49, 3, 11, 5, 2, .null, []),
  (126, .getfield 177, 3, 0, 4, 4, .null, []),
  (129, .invokevirtual 231, 3, 116, 4, 177, .null, []),
  (132, .istore_n 3, 1, 3, 0, 0, .null, []),
  (133, .iinc 4 1, 3, 4, 0, 0, .int 1, []),
  (136, .goto (-125), 3, 11, 0, 0, .null, []),
  (139, .return_, 1, 0, 0, 0, .null, [])], [(11, [true, true, true, true, true, false, false, false]), (24, [true, true, true, true, true, true, true, false])], 8)
def cd_X11_quarterOf : mmP := ([(0, .iload_n 1, 1, 1, 0, 0, .null, []),
  (1, .bipush 6, 2, 0, 0, 0, .int 6, []),
  (3, .imul, 1, 0, 0, 0, .null, []),
  (4, .iload_n 2, 1, 2, 0, 0, .null, []),
  (5, .iadd, 1, 0, 0, 0, .null, []),
  (6, .istore_n 3, 1, 3, 0, 0, .null, []),
  (7, .iconst 0, 1, 0, 0, 0, .int 0, []),
  (8, .iload_n 3, 1, 3, 0, 0, .null, []),
  (9, .aload_n 0, 1, 0, 0, 0, .null, []),
  (10, .getfield 103, 3, 11, 15, 2, .null, []),
  (13, .arraylength, 1, 0, 0, 0, .null, []),
  (14, .iconst 1, 1, 0, 0, 0, .int 1, []),
  (15, .isub, 1, 0, 0, 0, .null, []),
  (16, .invokestatic 195, 3, 176, 3, 1, .null, []),
  (19, .ifCond .eq 14, 3, 33, 0, 0, .null, []),
  (22, .aload_n 0, 1, 0, 0, 0, .null, []),
  (23, .getfield 103, 3, 11, 15, 2, .null, []),
  (26, .iload_n 3, 1, 3, 0, 0, .null, []),
  (27, .iaload, 1, 0, 0, 0, .null, []),
  (28, .iconst 4, 1, 0, 0, 0, .int 4, []),
  (29, .idiv, 1, 0, 0, 0, .null, []),
  (30, .goto 4, 3, 34, 0, 0, .null, []),
  (33, .iconst 0, 1, 0, 0, 0, .int 0, []),
  (34, .ireturn, 1, 0, 0, 0, .null, [])], [], 4)
def cd_X11_isRest : mmP := ([(0, .aload_n 0, 1, 0, 0, 0, .null, []),
  (1, .iload_n 1, 1, 1, 0, 0, .null, []),
  (2, .iload_n 2, 1, 2, 0, 0, .null, []),
  (3, .invokevirtual 396, 3, 162, 2, 177, .null, []),
  (6, .istore_n 3, 1, 3, 0, 0, .null, []),
  (7, .iconst 0, 1, 0, 0, 0, .int 0, []),
  (8, .istore 4, 2, 4, 0, 0, .null, []),
  (10, .iload 4, 2, 4, 0, 0, .null, []),
  (12, .bipush 6, 2, 0, 0, 0, .int 6, []),
  (14, .if_icmp .ge 43, 3, 57, 0, 0, .null, []),
  (17, .aload_n 0, 1, 0, 0, 0, .null, []),
  (18, .iload 4, 2, 4, 0, 0, .null, []),
  (20, .iload_n 2, 1, 2, 0, 0, .null, []),
  (21, .invokevirtual 396, 3, 162, 2, 177, .null, []),
  (24, .iload 4, 2, 4, 0, 0, .null, []),
  (26, .isub, 1, 0, 0, 0, .null, []),
  (27, .iload_n 3, 1, 3, 0, 0, .null, []),
  (28, .iload_n 1, 1, 1, 0, 0, .null, []),
  (29, .isub, 1, 0, 0, 0, .null, []),
  (30, .if_icmp .gt 19, 3, 49, 0, 0, .null, []),
  (33, .aload_n 0, 1, 0, 0, 0, .null, []),
  (34, .iload_n 1, 1, 1, 0, 0, .null, []),
  (35, .iload 4, 2, 4, 0, 0, .null, []),
  (37, .invokevirtual 396, 3, 162, 2, 177, .null, []),
  (40, .iload 4, 2, 4, 0, 0, .null, []),
  (42, .isub, 1, 0, 0, 0, .null, []),
  (43, .iload_n 3, 1, 3, 0, 0, .null, []),
  (44, .iload_n 2, 1, 2, 0, 0, .null, []),
  (45, .isub, 1, 0, 0, 0, .null, []),
  (46, .if_icmp .le 5, 3, 51, 0, 0, .null, []),
  (49, .iconst 0, 1, 0, 0, 0, .int 0, []),
  (50, .ireturn, 1, 0, 1, 0, .null, []),
  (51, .iinc 4 1, 3, 4, 0, 0, .int 1, []),
  (54, .goto (-44), 3, 10, 0, 0, .null, []),
  (57, .iconst 1, 1, 0, 0, 0, .int 1, []),
  (58, .ireturn, 1, 0, 1, 0, .null, [])], [(10, [true, true, true, true, true])], 5)
def cd_X11_odds : mmP := ([(0, .aload_n 0, 1, 0, 0, 0, .null, []),
  (1, .getfield 163, 3, 11, 16, 3, .null, []),
  (4, .ifCond .eq 30, 3, 34, 0, 0, .null, []),
  (7, .iconst 0, 1, 0, 0, 0, .int 0, []),
  (8, .iload_n 1, 1, 1, 0, 0, .null, []),
  (9, .bipush 8, 2, 0, 0, 0, .int 8, []),
  (11, .invokestatic 195, 3, 176, 3, 1, .null, []),
  (14, .ifCond .eq 20, 3, 34, 0, 0, .null, []),
  (17, .iconst 0, 1, 0, 0, 0, .int 0, []),
  (18, .iload_n 2, 1, 2, 0, 0, .null, []),
  (19, .bipush 100, 2, 0, 0, 0, .int 100, []),
  (21, .invokestatic 195, 3, 176, 3, 1, .null, []),
  (24, .ifCond .eq 10, 3, 34, 0, 0, .null, []),
  (27, .iload_n 3, 1, 3, 0, 0, .null, []),
  (28, .invokestatic 330, 3, 177, 1, 1, .null, []),
  (31, .ifCond .ne 5, 3, 36, 0, 0, .null, []),
  (34, .iconst (-1), 1, 0, 0, 0, .int (-1), []),
  (35, .ireturn, 1, 0, 0, 0, .null, []),
  (36, .iload_n 1, 1, 1, 0, 0, .null, []),
  (37, .ldc2_w 399, 3, 0, 0, 0, .long 1000000000, []),
  (40, .aload_n 0, 1, 0, 0, 0, .null, []),
  (41, .getfield 49, 3, 11, 5, 2, .null, []),
  (44, .getfield 212, 3, 0, 0, 4, .null, []),
  (47, .aload_n 0, 1, 0, 0, 0, .null, []),
  (48, .invokevirtual 248, 3, 121, 0, 177, .null, []),
  (51, .iload_n 2, 1, 2, 0, 0, .null, []),
  (52, .iload_n 3, 1, 3, 0, 0, .null, []),
  (53, .invokestatic 401, 3, 165, 6, 2, .null, []),
  (56, .l2i, 1, 0, 0, 0, .null, []),
  (57, .ireturn, 1, 0, 0, 0, .null, [])], [], 4)
def cd_X11_partsAt : mmP := ([(0, .iload_n 0, 1, 0, 0, 0, .null, []),
  (1, .ifCond .le 9, 3, 10, 0, 0, .null, []),
  (4, .lload_n 1, 1, 1, 0, 0, .null, []),
  (5, .lconst 0, 1, 0, 0, 0, .long 0, []),
  (6, .lcmp, 1, 0, 0, 0, .null, []),
  (7, .ifCond .ne 15, 3, 22, 0, 0, .null, []),
  (10, .iload_n 3, 1, 3, 0, 0, .null, []),
  (11, .iload 6, 2, 6, 0, 0, .null, []),
  (13, .if_icmp .lt 7, 3, 20, 0, 0, .null, []),
  (16, .lload_n 1, 1, 1, 0, 0, .null, []),
  (17, .goto 4, 3, 21, 0, 0, .null, []),
  (20, .lconst 0, 1, 0, 0, 0, .long 0, []),
  (21, .lreturn, 1, 0, 0, 0, .null, []),
  (22, .lload_n 1, 1, 1, 0, 0, .null, []),
  (23, .iload 5, 2, 5, 0, 0, .null, []),
  (25, .i2l, 1, 0, 0, 0, .null, []),
  (26, .lmul, 1, 0, 0, 0, .null, []),
  (27, .ldc2_w 405, 3, 0, 0, 0, .long 100, []),
  (30, .ldiv, 1, 0, 0, 0, .null, []),
  (31, .lstore 7, 2, 7, 0, 0, .null, []),
  (33, .iload_n 0, 1, 0, 0, 0, .null, []),
  (34, .iconst 1, 1, 0, 0, 0, .int 1, []),
  (35, .isub, 1, 0, 0, 0, .null, []),
  (36, .lload 7, 2, 7, 0, 0, .null, []),
  (38, .iload_n 3, 1, 3, 0, 0, .null, []),
  (39, .iconst 2, 1, 0, 0, 0, .int 2, []),
  (40, .idiv, 1, 0, 0, 0, .null, []),
  (41, .iload 4, 2, 4, 0, 0, .null, []),
  (43, .invokestatic 251, 3, 122, 2, 1, .null, []),
  (46, .iload 4, 2, 4, 0, 0, .null, []),
  (48, .iload 5, 2, 5, 0, 0, .null, []),
  (50, .iload 6, 2, 6, 0, 0, .null, []),
  (52, .invokestatic 401, 3, 165, 6, 2, .null, []),
  (55, .iload_n 0, 1, 0, 0, 0, .null, []),
  (56, .iconst 1, 1, 0, 0, 0, .int 1, []),
  (57, .isub, 1, 0, 0, 0, .null, []),
  (58, .lload_n 1, 1, 1, 0, 0, .null, []),
  (59, .lload 7, 2, 7, 0, 0, .null, []),
  (61, .lsub, 1, 0, 0, 0, .null, []),
  (62, .iload_n 3, 1, 3, 0, 0, .null, []),
  (63, .iload 4, 2, 4, 0, 0, .null, []),
  (65, .invokestatic 251, 3, 122, 2, 1, .null, []),
  (68, .iload 4, 2, 4, 0, 0, .null, []),
  (70, .iload 5, 2, 5, 0, 0, .null, []),
  (72, .iload 6, 2, 6, 0, 0, .null, []),
  (74, .invokestatic 401, 3, 165, 6, 2, .null, []),
  (77, .ladd, 1, 0, 0, 0, .null, []),
  (78, .lreturn, 1, 0, 0, 0, .null, [])], [], 9)
def cd_X11_shares : mmP := ([(0, .aload_n 0, 1, 0, 0, 0, .null, []),
  (1, .iload_n 1, 1, 1, 0, 0, .null, []),
  (2, .invokevirtual 183, 3, 108, 1, 177, .null, []),
  (5, .ifCond .eq 14, 3, 19, 0, 0, .null, []),
  (8, .iconst 0, 1, 0, 0, 0, .int 0, []),
  (9, .iload_n 2, 1, 2, 0, 0, .null, []),
  (10, .sipush 999, 3, 0, 0, 0, .int 999, []),
  (13, .invokestatic 195, 3, 176, 3, 1, .null, []),
  (16, .ifCond .ne 5, 3, 21, 0, 0, .null, []),
  (19, .iconst (-1), 1, 0, 0, 0, .int (-1), []),
  (20, .ireturn, 1, 0, 0, 0, .null, []),
  (21, .iconst 0, 1, 0, 0, 0, .int 0, []),
  (22, .istore_n 3, 1, 3, 0, 0, .null, []),
  (23, .iconst 0, 1, 0, 0, 0, .int 0, []),
  (24, .istore 4, 2, 4, 0, 0, .null, []),
  (26, .iload 4, 2, 4, 0, 0, .null, []),
  (28, .aload_n 0, 1, 0, 0, 0, .null, []),
  (29, .getfield 42, 3, 11, 4, 2, .null, []),
  (32, .iconst 1, 1, 0, 0, 0, .int 1, []),
  (33, .invokevirtual 133, 3, 86, 1, 161, .null, []),
  (36, .if_icmp .ge 21, 3, 57, 0, 0, .null, []),
  (39, .iload_n 3, 1, 3, 0, 0, .null, []),
  (40, .aload_n 0, 1, 0, 0, 0, .null, []),
  (41, .getfield 49, 3, 11, 5, 2, .null, []),
  (44, .iload 4, 2, 4, 0, 0, .null, []),
  (46, .invokevirtual 186, 3, 5, 1, 1, .null, []),
  (49, .iadd, 1, 0, 0, 0, .null, []),
  (50, .istore_n 3, 1, 3, 0, 0, .null, []),
  (51, .iinc 4 1, 3, 4, 0, 0, .int 1, []),
  (54, .goto (-28), 3, 26, 0, 0, .null, []),
  (57, .iload_n 3, 1, 3, 0, 0, .null, []),
  (58, .ifCond .le 18, 3, 76, 0, 0, .null, []),
  (61, .iload_n 2, 1, 2, 0, 0, .null, []),
  (62, .aload_n 0, 1, 0, 0, 0, .null, []),
  (63, .getfield 49, 3, 11, 5, 2, .null, []),
  (66, .iload_n 1, 1, 1, 0, 0, .null, []),
  (67, .invokevirtual 186, 3, 5, 1, 1, .null, []),
  (70, .imul, 1, 0, 0, 0, .null, []),
  (71, .iload_n 3, 1, 3, 0, 0, .null, []),
  (72, .idiv, 1, 0, 0, 0, .null, []),
  (73, .goto 4, 3, 77, 0, 0, .null, []),
  (76, .iconst 0, 1, 0, 0, 0, .int 0, []),
  (77, .ireturn, 1, 0, 0, 0, .null, [])], [(26, [true, true, true, true, true])], 5)
def cd_X11_most : mmP := ([(0, .aload_n 0, 1, 0, 0, 0, .null, []),
  (1, .getfield 163, 3, 11, 16, 3, .null, []),
  (4, .ifCond .ne 5, 3, 9, 0, 0, .null, []),
  (7, .iconst (-1), 1, 0, 0, 0, .int (-1), []),
  (8, .ireturn, 1, 0, 0, 0, .null, []),
  (9, .iload_n 1, 1, 1, 0, 0, .null, []),
  (10, .tableswitch 112 0 9 #[54, 60, 66, 72, 77, 82, 90, 95, 101, 106], 54, 122, 0, 0, .null, [(0, 64), (1, 70), (2, 76), (3, 82), (4, 87), (5, 92), (6, 100), (7, 105), (8, 111), (9, 116)]),
  (64, .aload_n 0, 1, 0, 0, 0, .null, []),
  (65, .iconst 0, 1, 0, 0, 0, .int 0, []),
  (66, .invokevirtual 407, 3, 168, 1, 177, .null, []),
  (69, .ireturn, 1, 0, 0, 0, .null, []),
  (70, .aload_n 0, 1, 0, 0, 0, .null, []),
  (71, .iconst 1, 1, 0, 0, 0, .int 1, []),
  (72, .invokevirtual 407, 3, 168, 1, 177, .null, []),
  (75, .ireturn, 1, 0, 0, 0, .null, []),
  (76, .aload_n 0, 1, 0, 0, 0, .null, []),
  (77, .iconst 2, 1, 0, 0, 0, .int 2, []),
  (78, .invokevirtual 407, 3, 168, 1, 177, .null, []),
  (81, .ireturn, 1, 0, 0, 0, .null, []),
  (82, .aload_n 0, 1, 0, 0, 0, .null, []),
  (83, .invokevirtual 410, 3, 169, 0, 177, .null, []),
  (86, .ireturn, 1, 0, 0, 0, .null, []),
  (87, .aload_n 0, 1, 0, 0, 0, .null, []),
  (88, .invokevirtual 413, 3, 170, 0, 177, .null, []),
  (91, .ireturn, 1, 0, 0, 0, .null, []),
  (92, .aload_n 0, 1, 0, 0, 0, .null, []),
  (93, .getfield 49, 3, 11, 5, 2, .null, []),
  (96, .getfield 209, 3, 0, 2, 4, .null, []),
  (99, .ireturn, 1, 0, 0, 0, .null, []),
  (100, .aload_n 0, 1, 0, 0, 0, .null, []),
  (101, .invokevirtual 416, 3, 115, 0, 177, .null, []),
  (104, .ireturn, 1, 0, 0, 0, .null, []),
  (105, .aload_n 0, 1, 0, 0, 0, .null, []),
  (106, .iconst 0, 1, 0, 0, 0, .int 0, []),
  (107, .invokevirtual 254, 3, 112, 1, 177, .null, []),
  (110, .ireturn, 1, 0, 0, 0, .null, []),
  (111, .aload_n 0, 1, 0, 0, 0, .null, []),
  (112, .invokevirtual 419, 3, 171, 0, 177, .null, []),
  (115, .ireturn, 1, 0, 0, 0, .null, []),
  (116, .aload_n 0, 1, 0, 0, 0, .null, []),
  (117, .iconst 1, 1, 0, 0, 0, .int 1, []),
  (118, .invokevirtual 254, 3, 112, 1, 177, .null, []),
  (121, .ireturn, 1, 0, 0, 0, .null, []),
  (122, .iconst (-1), 1, 0, 0, 0, .int (-1), []),
  (123, .ireturn, 1, 0, 0, 0, .null, [])], [], 2)
def cd_X11_firstMinisterByMost : mmP := ([(0, .iconst 0, 1, 0, 0, 0, .int 0, []),
  (1, .istore_n 2, 1, 2, 0, 0, .null, []),
  (2, .iconst 1, 1, 0, 0, 0, .int 1, []),
  (3, .istore_n 3, 1, 3, 0, 0, .null, []),
  (4, .iload_n 3, 1, 3, 0, 0, .null, []),
  (5, .aload_n 0, 1, 0, 0, 0, .null, []),
  (6, .getfield 42, 3, 11, 4, 2, .null, []),
  (9, .iconst 2, 1, 0, 0, 0, .int 2, []),
  (10, .invokevirtual 133, 3, 86, 1, 161, .null, []),
  (13, .if_icmp .ge 38, 3, 51, 0, 0, .null, []),
  (16, .aload_n 0, 1, 0, 0, 0, .null, []),
  (17, .getfield 42, 3, 11, 4, 2, .null, []),
  (20, .iconst 2, 1, 0, 0, 0, .int 2, []),
  (21, .iload_n 3, 1, 3, 0, 0, .null, []),
  (22, .iload_n 1, 1, 1, 0, 0, .null, []),
  (23, .invokevirtual 173, 3, 94, 3, 161, .null, []),
  (26, .aload_n 0, 1, 0, 0, 0, .null, []),
  (27, .getfield 42, 3, 11, 4, 2, .null, []),
  (30, .iconst 2, 1, 0, 0, 0, .int 2, []),
  (31, .iload_n 2, 1, 2, 0, 0, .null, []),
  (32, .iload_n 1, 1, 1, 0, 0, .null, []),
  (33, .invokevirtual 173, 3, 94, 3, 161, .null, []),
  (36, .if_icmp .le 7, 3, 43, 0, 0, .null, []),
  (39, .iload_n 3, 1, 3, 0, 0, .null, []),
  (40, .goto 4, 3, 44, 0, 0, .null, []),
  (43, .iload_n 2, 1, 2, 0, 0, .null, []),
  (44, .istore_n 2, 1, 2, 0, 0, .null, []),
  (45, .iinc 3 1, 3, 3, 0, 0, .int 1, []),
  (48, .goto (-44), 3, 4, 0, 0, .null, []),
  (51, .iload_n 2, 1, 2, 0, 0, .null, []),
  (52, .ireturn, 1, 0, 0, 0, .null, [])], [(4, [true, true, true, true])], 4)
def cd_X11_strongestCook : mmP := ([(0, .iconst 0, 1, 0, 0, 0, .int 0, []),
  (1, .istore_n 1, 1, 1, 0, 0, .null, []),
  (2, .iconst 1, 1, 0, 0, 0, .int 1, []),
  (3, .istore_n 2, 1, 2, 0, 0, .null, []),
  (4, .iload_n 2, 1, 2, 0, 0, .null, []),
  (5, .aload_n 0, 1, 0, 0, 0, .null, []),
  (6, .getfield 42, 3, 11, 4, 2, .null, []),
  (9, .iconst 1, 1, 0, 0, 0, .int 1, []),
  (10, .invokevirtual 133, 3, 86, 1, 161, .null, []),
  (13, .if_icmp .ge 34, 3, 47, 0, 0, .null, []),
  (16, .aload_n 0, 1, 0, 0, 0, .null, []),
  (17, .getfield 49, 3, 11, 5, 2, .null, []),
  (20, .iload_n 2, 1, 2, 0, 0, .null, []),
  (21, .invokevirtual 186, 3, 5, 1, 1, .null, []),
  (24, .aload_n 0, 1, 0, 0, 0, .null, []),
  (25, .getfield 49, 3, 11, 5, 2, .null, []),
  (28, .iload_n 1, 1, 1, 0, 0, .null, []),
  (29, .invokevirtual 186, 3, 5, 1, 1, .null, []),
  (32, .if_icmp .le 7, 3, 39, 0, 0, .null, []),
  (35, .iload_n 2, 1, 2, 0, 0, .null, []),
  (36, .goto 4, 3, 40, 0, 0, .null, []),
  (39, .iload_n 1, 1, 1, 0, 0, .null, []),
  (40, .istore_n 1, 1, 1, 0, 0, .null, []),
  (41, .iinc 2 1, 3, 2, 0, 0, .int 1, []),
  (44, .goto (-40), 3, 4, 0, 0, .null, []),
  (47, .iload_n 1, 1, 1, 0, 0, .null, []),
  (48, .ireturn, 1, 0, 0, 0, .null, [])], [(4, [true, true, true])], 3)
def cd_X11_freshestCook : mmP := ([(0, .iconst 0, 1, 0, 0, 0, .int 0, []),
  (1, .istore_n 1, 1, 1, 0, 0, .null, []),
  (2, .iconst 1, 1, 0, 0, 0, .int 1, []),
  (3, .istore_n 2, 1, 2, 0, 0, .null, []),
  (4, .iload_n 2, 1, 2, 0, 0, .null, []),
  (5, .aload_n 0, 1, 0, 0, 0, .null, []),
  (6, .getfield 42, 3, 11, 4, 2, .null, []),
  (9, .iconst 1, 1, 0, 0, 0, .int 1, []),
  (10, .invokevirtual 133, 3, 86, 1, 161, .null, []),
  (13, .if_icmp .ge 28, 3, 41, 0, 0, .null, []),
  (16, .aload_n 0, 1, 0, 0, 0, .null, []),
  (17, .iload_n 2, 1, 2, 0, 0, .null, []),
  (18, .invokevirtual 282, 3, 113, 1, 177, .null, []),
  (21, .aload_n 0, 1, 0, 0, 0, .null, []),
  (22, .iload_n 1, 1, 1, 0, 0, .null, []),
  (23, .invokevirtual 282, 3, 113, 1, 177, .null, []),
  (26, .if_icmp .le 7, 3, 33, 0, 0, .null, []),
  (29, .iload_n 2, 1, 2, 0, 0, .null, []),
  (30, .goto 4, 3, 34, 0, 0, .null, []),
  (33, .iload_n 1, 1, 1, 0, 0, .null, []),
  (34, .istore_n 1, 1, 1, 0, 0, .null, []),
  (35, .iinc 2 1, 3, 2, 0, 0, .int 1, []),
  (38, .goto (-34), 3, 4, 0, 0, .null, []),
  (41, .iload_n 1, 1, 1, 0, 0, .null, []),
  (42, .ireturn, 1, 0, 0, 0, .null, [])], [(4, [true, true, true])], 3)
def cd_X11_doorsToFlat : mmP := ([(0, .iconst 0, 1, 0, 0, 0, .int 0, []),
  (1, .istore_n 1, 1, 1, 0, 0, .null, []),
  (2, .aload_n 0, 1, 0, 0, 0, .null, []),
  (3, .getfield 49, 3, 11, 5, 2, .null, []),
  (6, .getfield 212, 3, 0, 0, 4, .null, []),
  (9, .istore_n 2, 1, 2, 0, 0, .null, []),
  (10, .iload_n 2, 1, 2, 0, 0, .null, []),
  (11, .ifCond .le 13, 3, 24, 0, 0, .null, []),
  (14, .iinc 1 1, 3, 1, 0, 0, .int 1, []),
  (17, .iload_n 2, 1, 2, 0, 0, .null, []),
  (18, .iconst 2, 1, 0, 0, 0, .int 2, []),
  (19, .idiv, 1, 0, 0, 0, .null, []),
  (20, .istore_n 2, 1, 2, 0, 0, .null, []),
  (21, .goto (-11), 3, 10, 0, 0, .null, []),
  (24, .iload_n 1, 1, 1, 0, 0, .null, []),
  (25, .ireturn, 1, 0, 0, 0, .null, [])], [(10, [false, true, true])], 3)
def cd_X11_ahead : mmP := ([(0, .aload_n 0, 1, 0, 0, 0, .null, []),
  (1, .getfield 163, 3, 11, 16, 3, .null, []),
  (4, .ifCond .eq 14, 3, 18, 0, 0, .null, []),
  (7, .iconst 1, 1, 0, 0, 0, .int 1, []),
  (8, .iload_n 1, 1, 1, 0, 0, .null, []),
  (9, .sipush 9999, 3, 0, 0, 0, .int 9999, []),
  (12, .invokestatic 195, 3, 176, 3, 1, .null, []),
  (15, .ifCond .ne 5, 3, 20, 0, 0, .null, []),
  (18, .iconst (-1), 1, 0, 0, 0, .int (-1), []),
  (19, .ireturn, 1, 0, 0, 0, .null, []),
  (20, .iload_n 1, 1, 1, 0, 0, .null, []),
  (21, .aload_n 0, 1, 0, 0, 0, .null, []),
  (22, .getfield 49, 3, 11, 5, 2, .null, []),
  (25, .getfield 263, 3, 0, 6, 4, .null, []),
  (28, .isub, 1, 0, 0, 0, .null, []),
  (29, .istore_n 2, 1, 2, 0, 0, .null, []),
  (30, .aload_n 0, 1, 0, 0, 0, .null, []),
  (31, .iconst 1, 1, 0, 0, 0, .int 1, []),
  (32, .invokevirtual 254, 3, 112, 1, 177, .null, []),
  (35, .istore_n 3, 1, 3, 0, 0, .null, []),
  (36, .iload_n 2, 1, 2, 0, 0, .null, []),
  (37, .ifCond .gt 5, 3, 42, 0, 0, .null, []),
  (40, .iconst 0, 1, 0, 0, 0, .int 0, []),
  (41, .ireturn, 1, 0, 0, 0, .null, []),
  (42, .iload_n 3, 1, 3, 0, 0, .null, []),
  (43, .ifCond .le 13, 3, 56, 0, 0, .null, []),
  (46, .iload_n 2, 1, 2, 0, 0, .null, []),
  (47, .iload_n 3, 1, 3, 0, 0, .null, []),
  (48, .iadd, 1, 0, 0, 0, .null, []),
  (49, .iconst 1, 1, 0, 0, 0, .int 1, []),
  (50, .isub, 1, 0, 0, 0, .null, []),
  (51, .iload_n 3, 1, 3, 0, 0, .null, []),
  (52, .idiv, 1, 0, 0, 0, .null, []),
  (53, .goto 6, 3, 59, 0, 0, .null, []),
  (56, .sipush 1000, 3, 0, 0, 0, .int 1000, []),
  (59, .istore 4, 2, 4, 0, 0, .null, []),
  (61, .iload 4, 2, 4, 0, 0, .null, []),
  (63, .sipush 999, 3, 0, 0, 0, .int 999, []),
  (66, .if_icmp .gt 8, 3, 74, 0, 0, .null, []),
  (69, .iload 4, 2, 4, 0, 0, .null, []),
  (71, .goto 4, 3, 75, 0, 0, .null, []),
  (74, .iconst (-1), 1, 0, 0, 0, .int (-1), []),
  (75, .ireturn, 1, 0, 0, 0, .null, [])], [], 5)
def cd_X11_image : mmP := ([(0, .aload_n 0, 1, 0, 0, 0, .null, []),
  (1, .getfield 163, 3, 11, 16, 3, .null, []),
  (4, .ifCond .ne 5, 3, 9, 0, 0, .null, []),
  (7, .iconst (-1), 1, 0, 0, 0, .int (-1), []),
  (8, .ireturn, 1, 0, 0, 0, .null, []),
  (9, .aload_n 0, 1, 0, 0, 0, .null, []),
  (10, .getfield 67, 3, 11, 8, 2, .null, []),
  (13, .aload_n 0, 1, 0, 0, 0, .null, []),
  (14, .getfield 49, 3, 11, 5, 2, .null, []),
  (17, .invokevirtual 422, 3, 3, 1, 0, .null, []),
  (20, .aload_n 0, 1, 0, 0, 0, .null, []),
  (21, .getfield 70, 3, 11, 9, 2, .null, []),
  (24, .aload_n 0, 1, 0, 0, 0, .null, []),
  (25, .getfield 63, 3, 11, 7, 2, .null, []),
  (28, .invokevirtual 424, 3, 47, 1, 80, .null, []),
  (31, .aload_n 0, 1, 0, 0, 0, .null, []),
  (32, .iconst 1, 1, 0, 0, 0, .int 1, []),
  (33, .putfield 167, 3, 11, 17, 3, .null, []),
  (36, .aload_n 0, 1, 0, 0, 0, .null, []),
  (37, .getfield 49, 3, 11, 5, 2, .null, []),
  (40, .getfield 269, 3, 0, 8, 4, .null, []),
  (43, .ireturn, 1, 0, 0, 0, .null, [])], [], 1)
def cd_X11_back : mmP := ([(0, .aload_n 0, 1, 0, 0, 0, .null, []),
  (1, .getfield 167, 3, 11, 17, 3, .null, []),
  (4, .ifCond .ne 5, 3, 9, 0, 0, .null, []),
  (7, .iconst (-1), 1, 0, 0, 0, .int (-1), []),
  (8, .ireturn, 1, 0, 0, 0, .null, []),
  (9, .aload_n 0, 1, 0, 0, 0, .null, []),
  (10, .getfield 49, 3, 11, 5, 2, .null, []),
  (13, .aload_n 0, 1, 0, 0, 0, .null, []),
  (14, .getfield 67, 3, 11, 8, 2, .null, []),
  (17, .invokevirtual 422, 3, 3, 1, 0, .null, []),
  (20, .aload_n 0, 1, 0, 0, 0, .null, []),
  (21, .getfield 63, 3, 11, 7, 2, .null, []),
  (24, .aload_n 0, 1, 0, 0, 0, .null, []),
  (25, .getfield 70, 3, 11, 9, 2, .null, []),
  (28, .invokevirtual 424, 3, 47, 1, 80, .null, []),
  (31, .aload_n 0, 1, 0, 0, 0, .null, []),
  (32, .getfield 56, 3, 11, 6, 2, .null, []),
  (35, .invokevirtual 159, 3, 51, 0, 96, .null, []),
  (38, .aload_n 0, 1, 0, 0, 0, .null, []),
  (39, .getfield 49, 3, 11, 5, 2, .null, []),
  (42, .getfield 269, 3, 0, 8, 4, .null, []),
  (45, .ireturn, 1, 0, 0, 0, .null, [])], [], 1)
def cd_X11_count : mmP := ([(0, .iload_n 1, 1, 1, 0, 0, .null, []),
  (1, .tableswitch 191 0 14 #[75, 84, 93, 101, 109, 117, 125, 133, 141, 149, 157, 165, 170, 178, 183], 75, 192, 0, 0, .null, [(0, 76), (1, 85), (2, 94), (3, 102), (4, 110), (5, 118), (6, 126), (7, 134), (8, 142), (9, 150), (10, 158), (11, 166), (12, 171), (13, 179), (14, 184)]),
  (76, .aload_n 0, 1, 0, 0, 0, .null, []),
  (77, .getfield 42, 3, 11, 4, 2, .null, []),
  (80, .iconst 2, 1, 0, 0, 0, .int 2, []),
  (81, .invokevirtual 133, 3, 86, 1, 161, .null, []),
  (84, .ireturn, 1, 0, 0, 0, .null, []),
  (85, .aload_n 0, 1, 0, 0, 0, .null, []),
  (86, .getfield 42, 3, 11, 4, 2, .null, []),
  (89, .iconst 1, 1, 0, 0, 0, .int 1, []),
  (90, .invokevirtual 133, 3, 86, 1, 161, .null, []),
  (93, .ireturn, 1, 0, 0, 0, .null, []),
  (94, .aload_n 0, 1, 0, 0, 0, .null, []),
  (95, .getfield 35, 3, 11, 3, 2, .null, []),
  (98, .invokevirtual 427, 3, 34, 0, 65, .null, []),
  (101, .ireturn, 1, 0, 0, 0, .null, []),
  (102, .aload_n 0, 1, 0, 0, 0, .null, []),
  (103, .getfield 10, 3, 11, 0, 2, .null, []),
  (106, .invokevirtual 114, 3, 70, 0, 145, .null, []),
  (109, .ireturn, 1, 0, 0, 0, .null, []),
  (110, .aload_n 0, 1, 0, 0, 0, .null, []),
  (111, .getfield 35, 3, 11, 3, 2, .null, []),
  (114, .invokevirtual 218, 3, 36, 0, 65, .null, []),
  (117, .ireturn, 1, 0, 0, 0, .null, []),
  (118, .aload_n 0, 1, 0, 0, 0, .null, []),
  (119, .getfield 49, 3, 11, 5, 2, .null, []),
  (122, .getfield 269, 3, 0, 8, 4, .null, []),
  (125, .ireturn, 1, 0, 0, 0, .null, []),
  (126, .aload_n 0, 1, 0, 0, 0, .null, []),
  (127, .getfield 49, 3, 11, 5, 2, .null, []),
  (130, .getfield 212, 3, 0, 0, 4, .null, []),
  (133, .ireturn, 1, 0, 0, 0, .null, []),
  (134, .aload_n 0, 1, 0, 0, 0, .null, []),
  (135, .getfield 49, 3, 11, 5, 2, .null, []),
  (138, .getfield 228, 3, 0, 1, 4, .null, []),
  (141, .ireturn, 1, 0, 0, 0, .null, []),
  (142, .aload_n 0, 1, 0, 0, 0, .null, []),
  (143, .getfield 49, 3, 11, 5, 2, .null, []),
  (146, .getfield 257, 3, 0, 3, 4, .null, []),
  (149, .ireturn, 1, 0, 0, 0, .null, []),
  (150, .aload_n 0, 1, 0, 0, 0, .null, []),
  (151, .getfield 49, 3, 11, 5, 2, .null, []),
  (154, .getfield 263, 3, 0, 6, 4, .null, []),
  (157, .ireturn, 1, 0, 0, 0, .null, []),
  (158, .aload_n 0, 1, 0, 0, 0, .null, []),
  (159, .getfield 49, 3, 11, 5, 2, .null, []),
  (162, .getfield 260, 3, 0, 7, 4, .null, []),
  (165, .ireturn, 1, 0, 0, 0, .null, []),
  (166, .aload_n 0, 1, 0, 0, 0, .null, []),
  (167, .getfield 106, 3, 11, 18, 0, .null, []),
  (170, .ireturn, 1, 0, 0, 0, .null, []),
  (171, .aload_n 0, 1, 0, 0, 0, .null, []),
  (172, .getfield 76, 3, 11, 10, 2, .null, []),
  (175, .invokevirtual 356, 3, 63, 0, 129, .null, []),
  (178, .ireturn, 1, 0, 0, 0, .null, []),
  (179, .aload_n 0, 1, 0, 0, 0, .null, []),
  (180, .invokevirtual 321, 3, 141, 0, 177, .null, []),
  (183, .ireturn, 1, 0, 0, 0, .null, []),
  (184, .aload_n 0, 1, 0, 0, 0, .null, []),
  (185, .getfield 56, 3, 11, 6, 2, .null, []),
  (188, .invokevirtual 320, 3, 50, 0, 97, .null, []),
  (191, .ireturn, 1, 0, 0, 0, .null, []),
  (192, .ldc_w 389, 3, 0, 0, 0, .int (-1000000), []),
  (195, .ireturn, 1, 0, 0, 0, .null, [])], [], 2)
def cd_X11_isWithin : mmP := ([(0, .iload_n 1, 1, 1, 0, 0, .null, []),
  (1, .iload_n 0, 1, 0, 0, 0, .null, []),
  (2, .if_icmp .lt 12, 3, 14, 0, 0, .null, []),
  (5, .iload_n 1, 1, 1, 0, 0, .null, []),
  (6, .iload_n 2, 1, 2, 0, 0, .null, []),
  (7, .if_icmp .gt 7, 3, 14, 0, 0, .null, []),
  (10, .iconst 1, 1, 0, 0, 0, .int 1, []),
  (11, .goto 4, 3, 15, 0, 0, .null, []),
  (14, .iconst 0, 1, 0, 0, 0, .int 0, []),
  (15, .ireturn, 1, 0, 1, 0, .null, [])], [], 3)
def cd_X11_isStand : mmP := ([(0, .iconst 0, 1, 0, 0, 0, .int 0, []),
  (1, .iload_n 0, 1, 0, 0, 0, .null, []),
  (2, .bipush 99, 2, 0, 0, 0, .int 99, []),
  (4, .invokestatic 195, 3, 176, 3, 1, .null, []),
  (7, .ireturn, 1, 0, 1, 0, .null, [])], [], 1)
def cd_X11_within : mmP := ([(0, .iload_n 0, 1, 0, 0, 0, .null, []),
  (1, .iload_n 2, 1, 2, 0, 0, .null, []),
  (2, .iload_n 1, 1, 1, 0, 0, .null, []),
  (3, .invokestatic 266, 3, 304, 2, 1, .null, []),
  (6, .invokestatic 239, 3, 302, 2, 1, .null, []),
  (9, .ireturn, 1, 0, 0, 0, .null, [])], [], 3)
def cd_X12_in : mmP := ([(0, .iload_n 0, 1, 0, 0, 0, .null, []),
  (1, .iload_n 1, 1, 1, 0, 0, .null, []),
  (2, .if_icmp .lt 12, 3, 14, 0, 0, .null, []),
  (5, .iload_n 0, 1, 0, 0, 0, .null, []),
  (6, .iload_n 2, 1, 2, 0, 0, .null, []),
  (7, .if_icmp .gt 7, 3, 14, 0, 0, .null, []),
  (10, .iconst 1, 1, 0, 0, 0, .int 1, []),
  (11, .goto 4, 3, 15, 0, 0, .null, []),
  (14, .iconst 0, 1, 0, 0, 0, .int 0, []),
  (15, .ireturn, 1, 0, 1, 0, .null, [])], [], 3)
def cd_X12_has : mmP := ([(0, .iload_n 0, 1, 0, 0, 0, .null, []),
  (1, .iload_n 1, 1, 1, 0, 0, .null, []),
  (2, .ishr, 1, 0, 0, 0, .null, []),
  (3, .iconst 1, 1, 0, 0, 0, .int 1, []),
  (4, .iand, 1, 0, 0, 0, .null, []),
  (5, .iconst 1, 1, 0, 0, 0, .int 1, []),
  (6, .if_icmp .ne 7, 3, 13, 0, 0, .null, []),
  (9, .iconst 1, 1, 0, 0, 0, .int 1, []),
  (10, .goto 4, 3, 14, 0, 0, .null, []),
  (13, .iconst 0, 1, 0, 0, 0, .int 0, []),
  (14, .ireturn, 1, 0, 1, 0, .null, [])], [], 2)
def cd_X12_init : mmP := ([(0, .aload_n 0, 1, 0, 0, 0, .null, []),
  (1, .invokespecial 3, 3, 0, 0, 8, .null, []),
  (4, .aload_n 0, 1, 0, 0, 0, .null, []),
  (5, .sipush 240, 3, 0, 0, 0, .int 240, []),
  (8, .newarray .int, 2, 0, 0, 0, .null, []),
  (10, .putfield 9, 3, 12, 1, 2, .null, []),
  (13, .aload_n 0, 1, 0, 0, 0, .null, []),
  (14, .sipush 2600, 3, 0, 0, 0, .int 2600, []),
  (17, .newarray .int, 2, 0, 0, 0, .null, []),
  (19, .putfield 13, 3, 12, 6, 2, .null, []),
  (22, .aload_n 0, 1, 0, 0, 0, .null, []),
  (23, .sipush 2600, 3, 0, 0, 0, .int 2600, []),
  (26, .newarray .int, 2, 0, 0, 0, .null, []),
  (28, .putfield 16, 3, 12, 7, 2, .null, []),
  (31, .aload_n 0, 1, 0, 0, 0, .null, []),
  (32, .iconst 5, 1, 0, 0, 0, .int 5, []),
  (33, .newarray .int, 2, 0, 0, 0, .null, []),
  (35, .putfield 19, 3, 12, 8, 2, .null, []),
  (38, .aload_n 0, 1, 0, 0, 0, .null, []),
  (39, .iconst 5, 1, 0, 0, 0, .int 5, []),
  (40, .newarray .int, 2, 0, 0, 0, .null, []),
  (42, .putfield 22, 3, 12, 9, 2, .null, []),
  (45, .aload_n 0, 1, 0, 0, 0, .null, []),
  (46, .sipush 700, 3, 0, 0, 0, .int 700, []),
  (49, .newarray .int, 2, 0, 0, 0, .null, []),
  (51, .putfield 25, 3, 12, 10, 2, .null, []),
  (54, .aload_n 0, 1, 0, 0, 0, .null, []),
  (55, .sipush 700, 3, 0, 0, 0, .int 700, []),
  (58, .newarray .int, 2, 0, 0, 0, .null, []),
  (60, .putfield 28, 3, 12, 11, 2, .null, []),
  (63, .aload_n 0, 1, 0, 0, 0, .null, []),
  (64, .sipush 700, 3, 0, 0, 0, .int 700, []),
  (67, .newarray .int, 2, 0, 0, 0, .null, []),
  (69, .putfield 31, 3, 12, 12, 2, .null, []),
  (72, .aload_n 0, 1, 0, 0, 0, .null, []),
  (73, .bipush 6, 2, 0, 0, 0, .int 6, []),
  (75, .newarray .int, 2, 0, 0, 0, .null, []),
  (77, .putfield 34, 3, 12, 15, 2, .null, []),
  (80, .aload_n 0, 1, 0, 0, 0, .null, []),
  (81, .bipush 80, 2, 0, 0, 0, .int 80, []),
  (83, .newarray .int, 2, 0, 0, 0, .null, []),
  (85, .putfield 37, 3, 12, 16, 2, .null, []),
  (88, .aload_n 0, 1, 0, 0, 0, .null, []),
  (89, .iconst 4, 1, 0, 0, 0, .int 4, []),
  (90, .newarray .int, 2, 0, 0, 0, .null, []),
  (92, .putfield 40, 3, 12, 17, 2, .null, []),
  (95, .aload_n 0, 1, 0, 0, 0, .null, []),
  (96, .bipush 8, 2, 0, 0, 0, .int 8, []),
  (98, .newarray .int, 2, 0, 0, 0, .null, []),
  (100, .putfield 43, 3, 12, 18, 2, .null, []),
  (103, .aload_n 0, 1, 0, 0, 0, .null, []),
  (104, .bipush 28, 2, 0, 0, 0, .int 28, []),
  (106, .newarray .int, 2, 0, 0, 0, .null, []),
  (108, .putfield 46, 3, 12, 19, 2, .null, []),
  (111, .aload_n 0, 1, 0, 0, 0, .null, []),
  (112, .iconst 4, 1, 0, 0, 0, .int 4, []),
  (113, .newarray .int, 2, 0, 0, 0, .null, []),
  (115, .putfield 49, 3, 12, 22, 2, .null, []),
  (118, .aload_n 0, 1, 0, 0, 0, .null, []),
  (119, .bipush 8, 2, 0, 0, 0, .int 8, []),
  (121, .newarray .int, 2, 0, 0, 0, .null, []),
  (123, .putfield 52, 3, 12, 23, 2, .null, []),
  (126, .aload_n 0, 1, 0, 0, 0, .null, []),
  (127, .bipush 28, 2, 0, 0, 0, .int 28, []),
  (129, .newarray .int, 2, 0, 0, 0, .null, []),
  (131, .putfield 55, 3, 12, 24, 2, .null, []),
  (134, .aload_n 0, 1, 0, 0, 0, .null, []),
  (135, .sipush 198, 3, 0, 0, 0, .int 198, []),
  (138, .newarray .int, 2, 0, 0, 0, .null, []),
  (140, .putfield 58, 3, 12, 27, 2, .null, []),
  (143, .aload_n 0, 1, 0, 0, 0, .null, []),
  (144, .iconst 5, 1, 0, 0, 0, .int 5, []),
  (145, .newarray .int, 2, 0, 0, 0, .null, []),
  (147, .putfield 61, 3, 12, 28, 2, .null, []),
  (150, .aload_n 0, 1, 0, 0, 0, .null, []),
  (151, .iconst (-1), 1, 0, 0, 0, .int (-1), []),
  (152, .putfield 64, 3, 12, 29, 0, .null, []),
  (155, .aload_n 0, 1, 0, 0, 0, .null, []),
  (156, .iconst 2, 1, 0, 0, 0, .int 2, []),
  (157, .putfield 68, 3, 12, 30, 0, .null, []),
  (160, .aload_n 0, 1, 0, 0, 0, .null, []),
  (161, .sipush 7920, 3, 0, 0, 0, .int 7920, []),
  (164, .newarray .int, 2, 0, 0, 0, .null, []),
  (166, .putfield 71, 3, 12, 31, 2, .null, []),
  (169, .aload_n 0, 1, 0, 0, 0, .null, []),
  (170, .sipush 170, 3, 0, 0, 0, .int 170, []),
  (173, .newarray .int, 2, 0, 0, 0, .null, []),
  (175, .putfield 74, 3, 12, 34, 2, .null, []),
  (178, .aload_n 0, 1, 0, 0, 0, .null, []),
  (179, .bipush 10, 2, 0, 0, 0, .int 10, []),
  (181, .newarray .int, 2, 0, 0, 0, .null, []),
  (183, .putfield 77, 3, 12, 39, 2, .null, []),
  (186, .aload_n 0, 1, 0, 0, 0, .null, []),
  (187, .bipush 10, 2, 0, 0, 0, .int 10, []),
  (189, .newarray .int, 2, 0, 0, 0, .null, []),
  (191, .putfield 80, 3, 12, 40, 2, .null, []),
  (194, .aload_n 0, 1, 0, 0, 0, .null, []),
  (195, .bipush 10, 2, 0, 0, 0, .int 10, []),
  (197, .newarray .int, 2, 0, 0, 0, .null, []),
  (199, .putfield 83, 3, 12, 41, 2, .null, []),
  (202, .aload_n 0, 1, 0, 0, 0, .null, []),
  (203, .bipush 10, 2, 0, 0, 0, .int 10, []),
  (205, .newarray .boolean, 2, 1, 0, 0, .null, []),
  (207, .putfield 86, 3, 12, 42, 2, .null, []),
  (210, .aload_n 0, 1, 0, 0, 0, .null, []),
  (211, .sipush 198, 3, 0, 0, 0, .int 198, []),
  (214, .newarray .int, 2, 0, 0, 0, .null, []),
  (216, .putfield 90, 3, 12, 44, 2, .null, []),
  (219, .return_, 1, 0, 0, 0, .null, [])], [], 1)
def cd_X12_thrown : mmP := ([(0, .aload_n 0, 1, 0, 0, 0, .null, []),
  (1, .getfield 93, 3, 12, 0, 0, .null, []),
  (4, .ireturn, 1, 0, 0, 0, .null, [])], [], 1)
def cd_X12_byteOf : mmP := ([(0, .iload 5, 2, 5, 0, 0, .null, []),
  (2, .iconst 4, 1, 0, 0, 0, .int 4, []),
  (3, .if_icmp .ge 7, 3, 10, 0, 0, .null, []),
  (6, .iload_n 0, 1, 0, 0, 0, .null, []),
  (7, .goto 38, 3, 45, 0, 0, .null, []),
  (10, .iload 5, 2, 5, 0, 0, .null, []),
  (12, .bipush 8, 2, 0, 0, 0, .int 8, []),
  (14, .if_icmp .ge 7, 3, 21, 0, 0, .null, []),
  (17, .iload_n 1, 1, 1, 0, 0, .null, []),
  (18, .goto 27, 3, 45, 0, 0, .null, []),
  (21, .iload 5, 2, 5, 0, 0, .null, []),
  (23, .bipush 12, 2, 0, 0, 0, .int 12, []),
  (25, .if_icmp .ge 7, 3, 32, 0, 0, .null, []),
  (28, .iload_n 2, 1, 2, 0, 0, .null, []),
  (29, .goto 16, 3, 45, 0, 0, .null, []),
  (32, .iload 5, 2, 5, 0, 0, .null, []),
  (34, .bipush 16, 2, 0, 0, 0, .int 16, []),
  (36, .if_icmp .ge 7, 3, 43, 0, 0, .null, []),
  (39, .iload_n 3, 1, 3, 0, 0, .null, []),
  (40, .goto 5, 3, 45, 0, 0, .null, []),
  (43, .iload 4, 2, 4, 0, 0, .null, []),
  (45, .istore 6, 2, 6, 0, 0, .null, []),
  (47, .iload 6, 2, 6, 0, 0, .null, []),
  (49, .bipush 24, 2, 0, 0, 0, .int 24, []),
  (51, .bipush 8, 2, 0, 0, 0, .int 8, []),
  (53, .iload 5, 2, 5, 0, 0, .null, []),
  (55, .iconst 4, 1, 0, 0, 0, .int 4, []),
  (56, .irem, 1, 0, 0, 0, .null, []),
  (57, .imul, 1, 0, 0, 0, .null, []),
  (58, .isub, 1, 0, 0, 0, .null, []),
  (59, .ishr, 1, 0, 0, 0, .null, []),
  (60, .sipush 255, 3, 0, 0, 0, .int 255, []),
  (63, .iand, 1, 0, 0, 0, .null, []),
  (64, .ireturn, 1, 0, 0, 0, .null, [])], [], 7)
def cd_X12_feed : mmP := ([(0, .iconst 0, 1, 0, 0, 0, .int 0, []),
  (1, .istore 6, 2, 6, 0, 0, .null, []),
  (3, .iconst 0, 1, 0, 0, 0, .int 0, []),
  (4, .istore 7, 2, 7, 0, 0, .null, []),
  (6, .iload 7, 2, 7, 0, 0, .null, []),
  (8, .bipush 20, 2, 0, 0, 0, .int 20, []),
  (10, .if_icmp .ge 34, 3, 44, 0, 0, .null, []),
  (13, .iload 6, 2, 6, 0, 0, .null, []),
  (15, .iload_n 1, 1, 1, 0, 0, .null, []),
  (16, .iload_n 2, 1, 2, 0, 0, .null, []),
  (17, .iload_n 3, 1, 3, 0, 0, .null, []),
  (18, .iload 4, 2, 4, 0, 0, .null, []),
  (20, .iload 5, 2, 5, 0, 0, .null, []),
  (22, .iload 7, 2, 7, 0, 0, .null, []),
  (24, .invokestatic 96, 3, 183, 6, 1, .null, []),
  (27, .ifCond .eq 7, 3, 34, 0, 0, .null, []),
  (30, .iconst 1, 1, 0, 0, 0, .int 1, []),
  (31, .goto 4, 3, 35, 0, 0, .null, []),
  (34, .iconst 0, 1, 0, 0, 0, .int 0, []),
  (35, .iadd, 1, 0, 0, 0, .null, []),
  (36, .istore 6, 2, 6, 0, 0, .null, []),
  (38, .iinc 7 1, 3, 7, 0, 0, .int 1, []),
  (41, .goto (-35), 3, 6, 0, 0, .null, []),
  (44, .aload_n 0, 1, 0, 0, 0, .null, []),
  (45, .getfield 100, 3, 12, 2, 0, .null, []),
  (48, .iload 6, 2, 6, 0, 0, .null, []),
  (50, .iadd, 1, 0, 0, 0, .null, []),
  (51, .sipush 240, 3, 0, 0, 0, .int 240, []),
  (54, .if_icmp .le 5, 3, 59, 0, 0, .null, []),
  (57, .iconst (-1), 1, 0, 0, 0, .int (-1), []),
  (58, .ireturn, 1, 0, 0, 0, .null, []),
  (59, .iconst 0, 1, 0, 0, 0, .int 0, []),
  (60, .istore 7, 2, 7, 0, 0, .null, []),
  (62, .iload 7, 2, 7, 0, 0, .null, []),
  (64, .bipush 20, 2, 0, 0, 0, .int 20, []),
  (66, .if_icmp .ge 49, 3, 115, 0, 0, .null, []),
  (69, .iload_n 1, 1, 1, 0, 0, .null, []),
  (70, .iload_n 2, 1, 2, 0, 0, .null, []),
  (71, .iload_n 3, 1, 3, 0, 0, .null, []),
  (72, .iload 4, 2, 4, 0, 0, .null, []),
  (74, .iload 5, 2, 5, 0, 0, .null, []),
  (76, .iload 7, 2, 7, 0, 0, .null, []),
  (78, .invokestatic 96, 3, 183, 6, 1, .null, []),
  (81, .istore 8, 2, 8, 0, 0, .null, []),
  (83, .iload 8, 2, 8, 0, 0, .null, []),
  (85, .ifCond .eq 24, 3, 109, 0, 0, .null, []),
  (88, .aload_n 0, 1, 0, 0, 0, .null, []),
  (89, .getfield 9, 3, 12, 1, 2, .null, []),
  (92, .aload_n 0, 1, 0, 0, 0, .null, []),
  (93, .getfield 100, 3, 12, 2, 0, .null, []),
  (96, .iload 8, 2, 8, 0, 0, .null, []),
  (98, .iastore, 1, 0, 0, 0, .null, []),
  (99, .aload_n 0, 1, 0, 0, 0, .null, []),
  (100, .dup, 1, 0, 0, 0, .null, []),
  (101, .getfield 100, 3, 12, 2, 0, .null, []),
  (104, .iconst 1, 1, 0, 0, 0, .int 1, []),
  (105, .iadd, 1, 0, 0, 0, .null, []),
  (106, .putfield 100, 3, 12, 2, 0, .null, []),
  (109, .iinc 7 1, 3, 7, 0, 0, .int 1, []),
  (112, .goto (-50), 3, 62, 0, 0, .null, []),
  (115, .aload_n 0, 1, 0, 0, 0, .null, []),
  (116, .getfield 100, 3, 12, 2, 0, .null, []),
  (119, .ireturn, 1, 0, 0, 0, .null, [])], [(6, [true, true, true, true, true, true, true, true, false]), (62, [true, true, true, true, true, true, false, true, false])], 9)
def cd_X12_end : mmP := ([(0, .iload_n 1, 1, 1, 0, 0, .null, []),
  (1, .ifCond .lt 11, 3, 12, 0, 0, .null, []),
  (4, .iload_n 1, 1, 1, 0, 0, .null, []),
  (5, .aload_n 0, 1, 0, 0, 0, .null, []),
  (6, .getfield 100, 3, 12, 2, 0, .null, []),
  (9, .if_icmp .le 5, 3, 14, 0, 0, .null, []),
  (12, .iconst 0, 1, 0, 0, 0, .int 0, []),
  (13, .ireturn, 1, 0, 1, 0, .null, []),
  (14, .aload_n 0, 1, 0, 0, 0, .null, []),
  (15, .iload_n 1, 1, 1, 0, 0, .null, []),
  (16, .putfield 100, 3, 12, 2, 0, .null, []),
  (19, .iconst 1, 1, 0, 0, 0, .int 1, []),
  (20, .ireturn, 1, 0, 1, 0, .null, [])], [], 2)
def cd_X12_here : mmP := ([(0, .aload_n 0, 1, 0, 0, 0, .null, []),
  (1, .getfield 103, 3, 12, 3, 0, .null, []),
  (4, .aload_n 0, 1, 0, 0, 0, .null, []),
  (5, .getfield 100, 3, 12, 2, 0, .null, []),
  (8, .if_icmp .ge 15, 3, 23, 0, 0, .null, []),
  (11, .aload_n 0, 1, 0, 0, 0, .null, []),
  (12, .getfield 9, 3, 12, 1, 2, .null, []),
  (15, .aload_n 0, 1, 0, 0, 0, .null, []),
  (16, .getfield 103, 3, 12, 3, 0, .null, []),
  (19, .iaload, 1, 0, 0, 0, .null, []),
  (20, .goto 4, 3, 24, 0, 0, .null, []),
  (23, .iconst (-1), 1, 0, 0, 0, .int (-1), []),
  (24, .ireturn, 1, 0, 0, 0, .null, [])], [], 1)
def cd_X12_look : mmP := ([(0, .aload_n 0, 1, 0, 0, 0, .null, []),
  (1, .invokevirtual 106, 3, 186, 0, 193, .null, []),
  (4, .bipush 32, 2, 0, 0, 0, .int 32, []),
  (6, .if_icmp .ne 16, 3, 22, 0, 0, .null, []),
  (9, .aload_n 0, 1, 0, 0, 0, .null, []),
  (10, .dup, 1, 0, 0, 0, .null, []),
  (11, .getfield 103, 3, 12, 3, 0, .null, []),
  (14, .iconst 1, 1, 0, 0, 0, .int 1, []),
  (15, .iadd, 1, 0, 0, 0, .null, []),
  (16, .putfield 103, 3, 12, 3, 0, .null, []),
  (19, .goto (-19), 3, 0, 0, 0, .null, []),
  (22, .aload_n 0, 1, 0, 0, 0, .null, []),
  (23, .invokevirtual 106, 3, 186, 0, 193, .null, []),
  (26, .ireturn, 1, 0, 0, 0, .null, [])], [(0, [true])], 1)
def cd_X12_bad : mmP := ([(0, .aload_n 0, 1, 0, 0, 0, .null, []),
  (1, .aload_n 0, 1, 0, 0, 0, .null, []),
  (2, .getfield 110, 3, 12, 4, 0, .null, []),
  (5, .iconst (-1), 1, 0, 0, 0, .int (-1), []),
  (6, .if_icmp .ne 10, 3, 16, 0, 0, .null, []),
  (9, .aload_n 0, 1, 0, 0, 0, .null, []),
  (10, .getfield 103, 3, 12, 3, 0, .null, []),
  (13, .goto 7, 3, 20, 0, 0, .null, []),
  (16, .aload_n 0, 1, 0, 0, 0, .null, []),
  (17, .getfield 110, 3, 12, 4, 0, .null, []),
  (20, .putfield 110, 3, 12, 4, 0, .null, []),
  (23, .return_, 1, 0, 0, 0, .null, [])], [], 1)
def cd_X12_isDigit : mmP := ([(0, .iload_n 0, 1, 0, 0, 0, .null, []),
  (1, .bipush 48, 2, 0, 0, 0, .int 48, []),
  (3, .if_icmp .lt 13, 3, 16, 0, 0, .null, []),
  (6, .iload_n 0, 1, 0, 0, 0, .null, []),
  (7, .bipush 57, 2, 0, 0, 0, .int 57, []),
  (9, .if_icmp .gt 7, 3, 16, 0, 0, .null, []),
  (12, .iconst 1, 1, 0, 0, 0, .int 1, []),
  (13, .goto 4, 3, 17, 0, 0, .null, []),
  (16, .iconst 0, 1, 0, 0, 0, .int 0, []),
  (17, .ireturn, 1, 0, 1, 0, .null, [])], [], 1)
end
section
def cd_X12_put : mmP := ([(0, .aload_n 0, 1, 0, 0, 0, .null, []),
  (1, .getfield 13, 3, 12, 6, 2, .null, []),
  (4, .sipush 520, 3, 0, 0, 0, .int 520, []),
  (7, .aload_n 0, 1, 0, 0, 0, .null, []),
  (8, .getfield 113, 3, 12, 14, 0, .null, []),
  (11, .imul, 1, 0, 0, 0, .null, []),
  (12, .aload_n 0, 1, 0, 0, 0, .null, []),
  (13, .getfield 19, 3, 12, 8, 2, .null, []),
  (16, .aload_n 0, 1, 0, 0, 0, .null, []),
  (17, .getfield 113, 3, 12, 14, 0, .null, []),
  (20, .iaload, 1, 0, 0, 0, .null, []),
  (21, .iadd, 1, 0, 0, 0, .null, []),
  (22, .iload_n 1, 1, 1, 0, 0, .null, []),
  (23, .iastore, 1, 0, 0, 0, .null, []),
  (24, .aload_n 0, 1, 0, 0, 0, .null, []),
  (25, .getfield 16, 3, 12, 7, 2, .null, []),
  (28, .sipush 520, 3, 0, 0, 0, .int 520, []),
  (31, .aload_n 0, 1, 0, 0, 0, .null, []),
  (32, .getfield 113, 3, 12, 14, 0, .null, []),
  (35, .imul, 1, 0, 0, 0, .null, []),
  (36, .aload_n 0, 1, 0, 0, 0, .null, []),
  (37, .getfield 19, 3, 12, 8, 2, .null, []),
  (40, .aload_n 0, 1, 0, 0, 0, .null, []),
  (41, .getfield 113, 3, 12, 14, 0, .null, []),
  (44, .iaload, 1, 0, 0, 0, .null, []),
  (45, .iadd, 1, 0, 0, 0, .null, []),
  (46, .iload_n 2, 1, 2, 0, 0, .null, []),
  (47, .iastore, 1, 0, 0, 0, .null, []),
  (48, .aload_n 0, 1, 0, 0, 0, .null, []),
  (49, .getfield 19, 3, 12, 8, 2, .null, []),
  (52, .aload_n 0, 1, 0, 0, 0, .null, []),
  (53, .getfield 113, 3, 12, 14, 0, .null, []),
  (56, .dup2, 1, 0, 0, 0, .null, []),
  (57, .iaload, 1, 0, 0, 0, .null, []),
  (58, .iconst 1, 1, 0, 0, 0, .int 1, []),
  (59, .iadd, 1, 0, 0, 0, .null, []),
  (60, .iastore, 1, 0, 0, 0, .null, []),
  (61, .return_, 1, 0, 0, 0, .null, [])], [], 3)
def cd_X12_letterOf : mmP := ([(0, .iload_n 0, 1, 0, 0, 0, .null, []),
  (1, .bipush 119, 2, 0, 0, 0, .int 119, []),
  (3, .if_icmp .ne 7, 3, 10, 0, 0, .null, []),
  (6, .iconst 0, 1, 0, 0, 0, .int 0, []),
  (7, .goto 54, 3, 61, 0, 0, .null, []),
  (10, .iload_n 0, 1, 0, 0, 0, .null, []),
  (11, .bipush 115, 2, 0, 0, 0, .int 115, []),
  (13, .if_icmp .ne 7, 3, 20, 0, 0, .null, []),
  (16, .iconst 1, 1, 0, 0, 0, .int 1, []),
  (17, .goto 44, 3, 61, 0, 0, .null, []),
  (20, .iload_n 0, 1, 0, 0, 0, .null, []),
  (21, .bipush 110, 2, 0, 0, 0, .int 110, []),
  (23, .if_icmp .ne 7, 3, 30, 0, 0, .null, []),
  (26, .iconst 2, 1, 0, 0, 0, .int 2, []),
  (27, .goto 34, 3, 61, 0, 0, .null, []),
  (30, .iload_n 0, 1, 0, 0, 0, .null, []),
  (31, .bipush 121, 2, 0, 0, 0, .int 121, []),
  (33, .if_icmp .ne 7, 3, 40, 0, 0, .null, []),
  (36, .iconst 3, 1, 0, 0, 0, .int 3, []),
  (37, .goto 24, 3, 61, 0, 0, .null, []),
  (40, .iload_n 0, 1, 0, 0, 0, .null, []),
  (41, .bipush 97, 2, 0, 0, 0, .int 97, []),
  (43, .if_icmp .ne 7, 3, 50, 0, 0, .null, []),
  (46, .iconst 4, 1, 0, 0, 0, .int 4, []),
  (47, .goto 14, 3, 61, 0, 0, .null, []),
  (50, .iload_n 0, 1, 0, 0, 0, .null, []),
  (51, .bipush 99, 2, 0, 0, 0, .int 99, []),
  (53, .if_icmp .ne 7, 3, 60, 0, 0, .null, []),
  (56, .iconst 5, 1, 0, 0, 0, .int 5, []),
  (57, .goto 4, 3, 61, 0, 0, .null, []),
  (60, .iconst (-1), 1, 0, 0, 0, .int (-1), []),
  (61, .ireturn, 1, 0, 0, 0, .null, [])], [], 1)
def cd_X12_opens : mmP := ([(0, .aload_n 0, 1, 0, 0, 0, .null, []),
  (1, .getfield 116, 3, 12, 5, 0, .null, []),
  (4, .bipush 6, 2, 0, 0, 0, .int 6, []),
  (6, .if_icmp .ne 7, 3, 13, 0, 0, .null, []),
  (9, .aload_n 0, 1, 0, 0, 0, .null, []),
  (10, .invokevirtual 119, 3, 188, 0, 192, .null, []),
  (13, .aload_n 0, 1, 0, 0, 0, .null, []),
  (14, .dup, 1, 0, 0, 0, .null, []),
  (15, .getfield 116, 3, 12, 5, 0, .null, []),
  (18, .iconst 1, 1, 0, 0, 0, .int 1, []),
  (19, .iadd, 1, 0, 0, 0, .null, []),
  (20, .putfield 116, 3, 12, 5, 0, .null, []),
  (23, .aload_n 0, 1, 0, 0, 0, .null, []),
  (24, .dup, 1, 0, 0, 0, .null, []),
  (25, .getfield 103, 3, 12, 3, 0, .null, []),
  (28, .iconst 1, 1, 0, 0, 0, .int 1, []),
  (29, .iadd, 1, 0, 0, 0, .null, []),
  (30, .putfield 103, 3, 12, 3, 0, .null, []),
  (33, .return_, 1, 0, 0, 0, .null, [])], [], 1)
def cd_X12_closes : mmP := ([(0, .aload_n 0, 1, 0, 0, 0, .null, []),
  (1, .getfield 110, 3, 12, 4, 0, .null, []),
  (4, .iconst (-1), 1, 0, 0, 0, .int (-1), []),
  (5, .if_icmp .ne 15, 3, 20, 0, 0, .null, []),
  (8, .aload_n 0, 1, 0, 0, 0, .null, []),
  (9, .invokevirtual 122, 3, 187, 0, 193, .null, []),
  (12, .iload_n 1, 1, 1, 0, 0, .null, []),
  (13, .if_icmp .eq 7, 3, 20, 0, 0, .null, []),
  (16, .aload_n 0, 1, 0, 0, 0, .null, []),
  (17, .invokevirtual 119, 3, 188, 0, 192, .null, []),
  (20, .aload_n 0, 1, 0, 0, 0, .null, []),
  (21, .dup, 1, 0, 0, 0, .null, []),
  (22, .getfield 103, 3, 12, 3, 0, .null, []),
  (25, .iconst 1, 1, 0, 0, 0, .int 1, []),
  (26, .iadd, 1, 0, 0, 0, .null, []),
  (27, .putfield 103, 3, 12, 3, 0, .null, []),
  (30, .aload_n 0, 1, 0, 0, 0, .null, []),
  (31, .dup, 1, 0, 0, 0, .null, []),
  (32, .getfield 116, 3, 12, 5, 0, .null, []),
  (35, .iconst 1, 1, 0, 0, 0, .int 1, []),
  (36, .isub, 1, 0, 0, 0, .null, []),
  (37, .putfield 116, 3, 12, 5, 0, .null, []),
  (40, .return_, 1, 0, 0, 0, .null, [])], [], 2)
def cd_X12_plainNumber : mmP := ([(0, .iconst 0, 1, 0, 0, 0, .int 0, []),
  (1, .istore_n 1, 1, 1, 0, 0, .null, []),
  (2, .iconst 0, 1, 0, 0, 0, .int 0, []),
  (3, .istore_n 2, 1, 2, 0, 0, .null, []),
  (4, .iload_n 2, 1, 2, 0, 0, .null, []),
  (5, .iconst 4, 1, 0, 0, 0, .int 4, []),
  (6, .if_icmp .ge 42, 3, 48, 0, 0, .null, []),
  (9, .aload_n 0, 1, 0, 0, 0, .null, []),
  (10, .invokevirtual 106, 3, 186, 0, 193, .null, []),
  (13, .invokestatic 125, 3, 189, 1, 1, .null, []),
  (16, .ifCond .eq 32, 3, 48, 0, 0, .null, []),
  (19, .bipush 10, 2, 0, 0, 0, .int 10, []),
  (21, .iload_n 1, 1, 1, 0, 0, .null, []),
  (22, .imul, 1, 0, 0, 0, .null, []),
  (23, .aload_n 0, 1, 0, 0, 0, .null, []),
  (24, .invokevirtual 106, 3, 186, 0, 193, .null, []),
  (27, .iadd, 1, 0, 0, 0, .null, []),
  (28, .bipush 48, 2, 0, 0, 0, .int 48, []),
  (30, .isub, 1, 0, 0, 0, .null, []),
  (31, .istore_n 1, 1, 1, 0, 0, .null, []),
  (32, .aload_n 0, 1, 0, 0, 0, .null, []),
  (33, .dup, 1, 0, 0, 0, .null, []),
  (34, .getfield 103, 3, 12, 3, 0, .null, []),
  (37, .iconst 1, 1, 0, 0, 0, .int 1, []),
  (38, .iadd, 1, 0, 0, 0, .null, []),
  (39, .putfield 103, 3, 12, 3, 0, .null, []),
  (42, .iinc 2 1, 3, 2, 0, 0, .int 1, []),
  (45, .goto (-41), 3, 4, 0, 0, .null, []),
  (48, .aload_n 0, 1, 0, 0, 0, .null, []),
  (49, .invokevirtual 106, 3, 186, 0, 193, .null, []),
  (52, .invokestatic 125, 3, 189, 1, 1, .null, []),
  (55, .ifCond .eq 7, 3, 62, 0, 0, .null, []),
  (58, .aload_n 0, 1, 0, 0, 0, .null, []),
  (59, .invokevirtual 119, 3, 188, 0, 192, .null, []),
  (62, .iload_n 1, 1, 1, 0, 0, .null, []),
  (63, .ireturn, 1, 0, 0, 0, .null, [])], [(4, [true, true, true])], 3)
def cd_X12_atom : mmP := ([(0, .aload_n 0, 1, 0, 0, 0, .null, []),
  (1, .invokevirtual 122, 3, 187, 0, 193, .null, []),
  (4, .istore_n 1, 1, 1, 0, 0, .null, []),
  (5, .iload_n 1, 1, 1, 0, 0, .null, []),
  (6, .invokestatic 125, 3, 189, 1, 1, .null, []),
  (9, .ifCond .eq 15, 3, 24, 0, 0, .null, []),
  (12, .aload_n 0, 1, 0, 0, 0, .null, []),
  (13, .iconst 0, 1, 0, 0, 0, .int 0, []),
  (14, .aload_n 0, 1, 0, 0, 0, .null, []),
  (15, .invokevirtual 129, 3, 194, 0, 193, .null, []),
  (18, .invokevirtual 132, 3, 190, 2, 192, .null, []),
  (21, .goto 68, 3, 89, 0, 0, .null, []),
  (24, .iload_n 1, 1, 1, 0, 0, .null, []),
  (25, .invokestatic 136, 3, 191, 1, 1, .null, []),
  (28, .iconst (-1), 1, 0, 0, 0, .int (-1), []),
  (29, .if_icmp .eq 25, 3, 54, 0, 0, .null, []),
  (32, .aload_n 0, 1, 0, 0, 0, .null, []),
  (33, .dup, 1, 0, 0, 0, .null, []),
  (34, .getfield 103, 3, 12, 3, 0, .null, []),
  (37, .iconst 1, 1, 0, 0, 0, .int 1, []),
  (38, .iadd, 1, 0, 0, 0, .null, []),
  (39, .putfield 103, 3, 12, 3, 0, .null, []),
  (42, .aload_n 0, 1, 0, 0, 0, .null, []),
  (43, .iconst 1, 1, 0, 0, 0, .int 1, []),
  (44, .iload_n 1, 1, 1, 0, 0, .null, []),
  (45, .invokestatic 136, 3, 191, 1, 1, .null, []),
  (48, .invokevirtual 132, 3, 190, 2, 192, .null, []),
  (51, .goto 38, 3, 89, 0, 0, .null, []),
  (54, .iload_n 1, 1, 1, 0, 0, .null, []),
  (55, .bipush 91, 2, 0, 0, 0, .int 91, []),
  (57, .if_icmp .ne 28, 3, 85, 0, 0, .null, []),
  (60, .aload_n 0, 1, 0, 0, 0, .null, []),
  (61, .invokevirtual 140, 3, 192, 0, 192, .null, []),
  (64, .aload_n 0, 1, 0, 0, 0, .null, []),
  (65, .getfield 110, 3, 12, 4, 0, .null, []),
  (68, .iconst (-1), 1, 0, 0, 0, .int (-1), []),
  (69, .if_icmp .ne 20, 3, 89, 0, 0, .null, []),
  (72, .aload_n 0, 1, 0, 0, 0, .null, []),
  (73, .invokevirtual 143, 3, 197, 0, 192, .null, []),
  (76, .aload_n 0, 1, 0, 0, 0, .null, []),
  (77, .bipush 93, 2, 0, 0, 0, .int 93, []),
  (79, .invokevirtual 146, 3, 193, 1, 192, .null, []),
  (82, .goto 7, 3, 89, 0, 0, .null, []),
  (85, .aload_n 0, 1, 0, 0, 0, .null, []),
  (86, .invokevirtual 119, 3, 188, 0, 192, .null, []),
  (89, .return_, 1, 0, 0, 0, .null, [])], [], 2)
def cd_X12_term : mmP := ([(0, .aload_n 0, 1, 0, 0, 0, .null, []),
  (1, .invokevirtual 150, 3, 195, 0, 192, .null, []),
  (4, .aload_n 0, 1, 0, 0, 0, .null, []),
  (5, .getfield 110, 3, 12, 4, 0, .null, []),
  (8, .iconst (-1), 1, 0, 0, 0, .int (-1), []),
  (9, .if_icmp .ne 10, 3, 19, 0, 0, .null, []),
  (12, .aload_n 0, 1, 0, 0, 0, .null, []),
  (13, .invokevirtual 122, 3, 187, 0, 193, .null, []),
  (16, .goto 4, 3, 20, 0, 0, .null, []),
  (19, .iconst (-1), 1, 0, 0, 0, .int (-1), []),
  (20, .istore_n 1, 1, 1, 0, 0, .null, []),
  (21, .iload_n 1, 1, 1, 0, 0, .null, []),
  (22, .bipush 42, 2, 0, 0, 0, .int 42, []),
  (24, .if_icmp .eq 9, 3, 33, 0, 0, .null, []),
  (27, .iload_n 1, 1, 1, 0, 0, .null, []),
  (28, .bipush 47, 2, 0, 0, 0, .int 47, []),
  (30, .if_icmp .ne 53, 3, 83, 0, 0, .null, []),
  (33, .aload_n 0, 1, 0, 0, 0, .null, []),
  (34, .dup, 1, 0, 0, 0, .null, []),
  (35, .getfield 103, 3, 12, 3, 0, .null, []),
  (38, .iconst 1, 1, 0, 0, 0, .int 1, []),
  (39, .iadd, 1, 0, 0, 0, .null, []),
  (40, .putfield 103, 3, 12, 3, 0, .null, []),
  (43, .aload_n 0, 1, 0, 0, 0, .null, []),
  (44, .invokevirtual 150, 3, 195, 0, 192, .null, []),
  (47, .aload_n 0, 1, 0, 0, 0, .null, []),
  (48, .iload_n 1, 1, 1, 0, 0, .null, []),
  (49, .bipush 42, 2, 0, 0, 0, .int 42, []),
  (51, .if_icmp .ne 7, 3, 58, 0, 0, .null, []),
  (54, .iconst 4, 1, 0, 0, 0, .int 4, []),
  (55, .goto 4, 3, 59, 0, 0, .null, []),
  (58, .iconst 5, 1, 0, 0, 0, .int 5, []),
  (59, .iconst 0, 1, 0, 0, 0, .int 0, []),
  (60, .invokevirtual 132, 3, 190, 2, 192, .null, []),
  (63, .aload_n 0, 1, 0, 0, 0, .null, []),
  (64, .getfield 110, 3, 12, 4, 0, .null, []),
  (67, .iconst (-1), 1, 0, 0, 0, .int (-1), []),
  (68, .if_icmp .ne 10, 3, 78, 0, 0, .null, []),
  (71, .aload_n 0, 1, 0, 0, 0, .null, []),
  (72, .invokevirtual 122, 3, 187, 0, 193, .null, []),
  (75, .goto 4, 3, 79, 0, 0, .null, []),
  (78, .iconst (-1), 1, 0, 0, 0, .int (-1), []),
  (79, .istore_n 1, 1, 1, 0, 0, .null, []),
  (80, .goto (-59), 3, 21, 0, 0, .null, []),
  (83, .return_, 1, 0, 0, 0, .null, [])], [(21, [true, true])], 2)
def cd_X12_sum : mmP := ([(0, .aload_n 0, 1, 0, 0, 0, .null, []),
  (1, .invokevirtual 153, 3, 196, 0, 192, .null, []),
  (4, .aload_n 0, 1, 0, 0, 0, .null, []),
  (5, .getfield 110, 3, 12, 4, 0, .null, []),
  (8, .iconst (-1), 1, 0, 0, 0, .int (-1), []),
  (9, .if_icmp .ne 10, 3, 19, 0, 0, .null, []),
  (12, .aload_n 0, 1, 0, 0, 0, .null, []),
  (13, .invokevirtual 122, 3, 187, 0, 193, .null, []),
  (16, .goto 4, 3, 20, 0, 0, .null, []),
  (19, .iconst (-1), 1, 0, 0, 0, .int (-1), []),
  (20, .istore_n 1, 1, 1, 0, 0, .null, []),
  (21, .iload_n 1, 1, 1, 0, 0, .null, []),
  (22, .bipush 43, 2, 0, 0, 0, .int 43, []),
  (24, .if_icmp .eq 9, 3, 33, 0, 0, .null, []),
  (27, .iload_n 1, 1, 1, 0, 0, .null, []),
  (28, .bipush 45, 2, 0, 0, 0, .int 45, []),
  (30, .if_icmp .ne 53, 3, 83, 0, 0, .null, []),
  (33, .aload_n 0, 1, 0, 0, 0, .null, []),
  (34, .dup, 1, 0, 0, 0, .null, []),
  (35, .getfield 103, 3, 12, 3, 0, .null, []),
  (38, .iconst 1, 1, 0, 0, 0, .int 1, []),
  (39, .iadd, 1, 0, 0, 0, .null, []),
  (40, .putfield 103, 3, 12, 3, 0, .null, []),
  (43, .aload_n 0, 1, 0, 0, 0, .null, []),
  (44, .invokevirtual 153, 3, 196, 0, 192, .null, []),
  (47, .aload_n 0, 1, 0, 0, 0, .null, []),
  (48, .iload_n 1, 1, 1, 0, 0, .null, []),
  (49, .bipush 43, 2, 0, 0, 0, .int 43, []),
  (51, .if_icmp .ne 7, 3, 58, 0, 0, .null, []),
  (54, .iconst 2, 1, 0, 0, 0, .int 2, []),
  (55, .goto 4, 3, 59, 0, 0, .null, []),
  (58, .iconst 3, 1, 0, 0, 0, .int 3, []),
  (59, .iconst 0, 1, 0, 0, 0, .int 0, []),
  (60, .invokevirtual 132, 3, 190, 2, 192, .null, []),
  (63, .aload_n 0, 1, 0, 0, 0, .null, []),
  (64, .getfield 110, 3, 12, 4, 0, .null, []),
  (67, .iconst (-1), 1, 0, 0, 0, .int (-1), []),
  (68, .if_icmp .ne 10, 3, 78, 0, 0, .null, []),
  (71, .aload_n 0, 1, 0, 0, 0, .null, []),
  (72, .invokevirtual 122, 3, 187, 0, 193, .null, []),
  (75, .goto 4, 3, 79, 0, 0, .null, []),
  (78, .iconst (-1), 1, 0, 0, 0, .int (-1), []),
  (79, .istore_n 1, 1, 1, 0, 0, .null, []),
  (80, .goto (-59), 3, 21, 0, 0, .null, []),
  (83, .return_, 1, 0, 0, 0, .null, [])], [(21, [true, true])], 2)
def cd_X12_isSign : mmP := ([(0, .iload_n 0, 1, 0, 0, 0, .null, []),
  (1, .bipush 61, 2, 0, 0, 0, .int 61, []),
  (3, .if_icmp .eq 15, 3, 18, 0, 0, .null, []),
  (6, .iload_n 0, 1, 0, 0, 0, .null, []),
  (7, .bipush 60, 2, 0, 0, 0, .int 60, []),
  (9, .if_icmp .eq 9, 3, 18, 0, 0, .null, []),
  (12, .iload_n 0, 1, 0, 0, 0, .null, []),
  (13, .bipush 62, 2, 0, 0, 0, .int 62, []),
  (15, .if_icmp .ne 7, 3, 22, 0, 0, .null, []),
  (18, .iconst 1, 1, 0, 0, 0, .int 1, []),
  (19, .goto 4, 3, 23, 0, 0, .null, []),
  (22, .iconst 0, 1, 0, 0, 0, .int 0, []),
  (23, .ireturn, 1, 0, 1, 0, .null, [])], [], 1)
def cd_X12_compare : mmP := ([(0, .aload_n 0, 1, 0, 0, 0, .null, []),
  (1, .getfield 110, 3, 12, 4, 0, .null, []),
  (4, .iconst (-1), 1, 0, 0, 0, .int (-1), []),
  (5, .if_icmp .ne 10, 3, 15, 0, 0, .null, []),
  (8, .aload_n 0, 1, 0, 0, 0, .null, []),
  (9, .invokevirtual 122, 3, 187, 0, 193, .null, []),
  (12, .goto 4, 3, 16, 0, 0, .null, []),
  (15, .iconst (-1), 1, 0, 0, 0, .int (-1), []),
  (16, .istore_n 1, 1, 1, 0, 0, .null, []),
  (17, .iload_n 1, 1, 1, 0, 0, .null, []),
  (18, .invokestatic 156, 3, 198, 1, 1, .null, []),
  (21, .ifCond .ne 8, 3, 29, 0, 0, .null, []),
  (24, .aload_n 0, 1, 0, 0, 0, .null, []),
  (25, .invokevirtual 119, 3, 188, 0, 192, .null, []),
  (28, .return_, 1, 0, 0, 0, .null, []),
  (29, .aload_n 0, 1, 0, 0, 0, .null, []),
  (30, .dup, 1, 0, 0, 0, .null, []),
  (31, .getfield 103, 3, 12, 3, 0, .null, []),
  (34, .iconst 1, 1, 0, 0, 0, .int 1, []),
  (35, .iadd, 1, 0, 0, 0, .null, []),
  (36, .putfield 103, 3, 12, 3, 0, .null, []),
  (39, .aload_n 0, 1, 0, 0, 0, .null, []),
  (40, .invokevirtual 143, 3, 197, 0, 192, .null, []),
  (43, .aload_n 0, 1, 0, 0, 0, .null, []),
  (44, .iload_n 1, 1, 1, 0, 0, .null, []),
  (45, .bipush 61, 2, 0, 0, 0, .int 61, []),
  (47, .if_icmp .ne 8, 3, 55, 0, 0, .null, []),
  (50, .bipush 6, 2, 0, 0, 0, .int 6, []),
  (52, .goto 16, 3, 68, 0, 0, .null, []),
  (55, .iload_n 1, 1, 1, 0, 0, .null, []),
  (56, .bipush 60, 2, 0, 0, 0, .int 60, []),
  (58, .if_icmp .ne 8, 3, 66, 0, 0, .null, []),
  (61, .bipush 7, 2, 0, 0, 0, .int 7, []),
  (63, .goto 5, 3, 68, 0, 0, .null, []),
  (66, .bipush 8, 2, 0, 0, 0, .int 8, []),
  (68, .iconst 0, 1, 0, 0, 0, .int 0, []),
  (69, .invokevirtual 132, 3, 190, 2, 192, .null, []),
  (72, .return_, 1, 0, 0, 0, .null, [])], [], 2)
def cd_X12_unit : mmP := ([(0, .aload_n 0, 1, 0, 0, 0, .null, []),
  (1, .invokevirtual 122, 3, 187, 0, 193, .null, []),
  (4, .istore_n 1, 1, 1, 0, 0, .null, []),
  (5, .iload_n 1, 1, 1, 0, 0, .null, []),
  (6, .bipush 33, 2, 0, 0, 0, .int 33, []),
  (8, .if_icmp .ne 39, 3, 47, 0, 0, .null, []),
  (11, .aload_n 0, 1, 0, 0, 0, .null, []),
  (12, .invokevirtual 140, 3, 192, 0, 192, .null, []),
  (15, .aload_n 0, 1, 0, 0, 0, .null, []),
  (16, .getfield 110, 3, 12, 4, 0, .null, []),
  (19, .iconst (-1), 1, 0, 0, 0, .int (-1), []),
  (20, .if_icmp .ne 74, 3, 94, 0, 0, .null, []),
  (23, .aload_n 0, 1, 0, 0, 0, .null, []),
  (24, .invokevirtual 159, 3, 200, 0, 192, .null, []),
  (27, .aload_n 0, 1, 0, 0, 0, .null, []),
  (28, .bipush 9, 2, 0, 0, 0, .int 9, []),
  (30, .iconst 0, 1, 0, 0, 0, .int 0, []),
  (31, .invokevirtual 132, 3, 190, 2, 192, .null, []),
  (34, .aload_n 0, 1, 0, 0, 0, .null, []),
  (35, .dup, 1, 0, 0, 0, .null, []),
  (36, .getfield 116, 3, 12, 5, 0, .null, []),
  (39, .iconst 1, 1, 0, 0, 0, .int 1, []),
  (40, .isub, 1, 0, 0, 0, .null, []),
  (41, .putfield 116, 3, 12, 5, 0, .null, []),
  (44, .goto 50, 3, 94, 0, 0, .null, []),
  (47, .iload_n 1, 1, 1, 0, 0, .null, []),
  (48, .bipush 40, 2, 0, 0, 0, .int 40, []),
  (50, .if_icmp .ne 28, 3, 78, 0, 0, .null, []),
  (53, .aload_n 0, 1, 0, 0, 0, .null, []),
  (54, .invokevirtual 140, 3, 192, 0, 192, .null, []),
  (57, .aload_n 0, 1, 0, 0, 0, .null, []),
  (58, .getfield 110, 3, 12, 4, 0, .null, []),
  (61, .iconst (-1), 1, 0, 0, 0, .int (-1), []),
  (62, .if_icmp .ne 32, 3, 94, 0, 0, .null, []),
  (65, .aload_n 0, 1, 0, 0, 0, .null, []),
  (66, .invokevirtual 162, 3, 203, 0, 192, .null, []),
  (69, .aload_n 0, 1, 0, 0, 0, .null, []),
  (70, .bipush 41, 2, 0, 0, 0, .int 41, []),
  (72, .invokevirtual 146, 3, 193, 1, 192, .null, []),
  (75, .goto 19, 3, 94, 0, 0, .null, []),
  (78, .aload_n 0, 1, 0, 0, 0, .null, []),
  (79, .invokevirtual 143, 3, 197, 0, 192, .null, []),
  (82, .aload_n 0, 1, 0, 0, 0, .null, []),
  (83, .getfield 110, 3, 12, 4, 0, .null, []),
  (86, .iconst (-1), 1, 0, 0, 0, .int (-1), []),
  (87, .if_icmp .ne 7, 3, 94, 0, 0, .null, []),
  (90, .aload_n 0, 1, 0, 0, 0, .null, []),
  (91, .invokevirtual 165, 3, 199, 0, 192, .null, []),
  (94, .return_, 1, 0, 0, 0, .null, [])], [], 2)
def cd_X12_goOnAnd : mmP := ([(0, .aload_n 0, 1, 0, 0, 0, .null, []),
  (1, .getfield 110, 3, 12, 4, 0, .null, []),
  (4, .iconst (-1), 1, 0, 0, 0, .int (-1), []),
  (5, .if_icmp .ne 36, 3, 41, 0, 0, .null, []),
  (8, .aload_n 0, 1, 0, 0, 0, .null, []),
  (9, .invokevirtual 122, 3, 187, 0, 193, .null, []),
  (12, .bipush 38, 2, 0, 0, 0, .int 38, []),
  (14, .if_icmp .ne 27, 3, 41, 0, 0, .null, []),
  (17, .aload_n 0, 1, 0, 0, 0, .null, []),
  (18, .dup, 1, 0, 0, 0, .null, []),
  (19, .getfield 103, 3, 12, 3, 0, .null, []),
  (22, .iconst 1, 1, 0, 0, 0, .int 1, []),
  (23, .iadd, 1, 0, 0, 0, .null, []),
  (24, .putfield 103, 3, 12, 3, 0, .null, []),
  (27, .aload_n 0, 1, 0, 0, 0, .null, []),
  (28, .invokevirtual 159, 3, 200, 0, 192, .null, []),
  (31, .aload_n 0, 1, 0, 0, 0, .null, []),
  (32, .bipush 10, 2, 0, 0, 0, .int 10, []),
  (34, .iconst 0, 1, 0, 0, 0, .int 0, []),
  (35, .invokevirtual 132, 3, 190, 2, 192, .null, []),
  (38, .goto (-38), 3, 0, 0, 0, .null, []),
  (41, .return_, 1, 0, 0, 0, .null, [])], [(0, [true])], 1)
def cd_X12_goOnOr : mmP := ([(0, .aload_n 0, 1, 0, 0, 0, .null, []),
  (1, .getfield 110, 3, 12, 4, 0, .null, []),
  (4, .iconst (-1), 1, 0, 0, 0, .int (-1), []),
  (5, .if_icmp .ne 40, 3, 45, 0, 0, .null, []),
  (8, .aload_n 0, 1, 0, 0, 0, .null, []),
  (9, .invokevirtual 122, 3, 187, 0, 193, .null, []),
  (12, .bipush 124, 2, 0, 0, 0, .int 124, []),
  (14, .if_icmp .ne 31, 3, 45, 0, 0, .null, []),
  (17, .aload_n 0, 1, 0, 0, 0, .null, []),
  (18, .dup, 1, 0, 0, 0, .null, []),
  (19, .getfield 103, 3, 12, 3, 0, .null, []),
  (22, .iconst 1, 1, 0, 0, 0, .int 1, []),
  (23, .iadd, 1, 0, 0, 0, .null, []),
  (24, .putfield 103, 3, 12, 3, 0, .null, []),
  (27, .aload_n 0, 1, 0, 0, 0, .null, []),
  (28, .invokevirtual 159, 3, 200, 0, 192, .null, []),
  (31, .aload_n 0, 1, 0, 0, 0, .null, []),
  (32, .invokevirtual 168, 3, 201, 0, 192, .null, []),
  (35, .aload_n 0, 1, 0, 0, 0, .null, []),
  (36, .bipush 11, 2, 0, 0, 0, .int 11, []),
  (38, .iconst 0, 1, 0, 0, 0, .int 0, []),
  (39, .invokevirtual 132, 3, 190, 2, 192, .null, []),
  (42, .goto (-42), 3, 0, 0, 0, .null, []),
  (45, .return_, 1, 0, 0, 0, .null, [])], [(0, [true])], 1)
def cd_X12_condition : mmP := ([(0, .aload_n 0, 1, 0, 0, 0, .null, []),
  (1, .invokevirtual 159, 3, 200, 0, 192, .null, []),
  (4, .aload_n 0, 1, 0, 0, 0, .null, []),
  (5, .invokevirtual 168, 3, 201, 0, 192, .null, []),
  (8, .aload_n 0, 1, 0, 0, 0, .null, []),
  (9, .invokevirtual 171, 3, 202, 0, 192, .null, []),
  (12, .return_, 1, 0, 0, 0, .null, [])], [], 1)
def cd_X12_clause : mmP := ([(0, .sipush 140, 3, 0, 0, 0, .int 140, []),
  (3, .aload_n 0, 1, 0, 0, 0, .null, []),
  (4, .getfield 113, 3, 12, 14, 0, .null, []),
  (7, .imul, 1, 0, 0, 0, .null, []),
  (8, .aload_n 0, 1, 0, 0, 0, .null, []),
  (9, .getfield 22, 3, 12, 9, 2, .null, []),
  (12, .aload_n 0, 1, 0, 0, 0, .null, []),
  (13, .getfield 113, 3, 12, 14, 0, .null, []),
  (16, .iaload, 1, 0, 0, 0, .null, []),
  (17, .iadd, 1, 0, 0, 0, .null, []),
  (18, .istore_n 1, 1, 1, 0, 0, .null, []),
  (19, .aload_n 0, 1, 0, 0, 0, .null, []),
  (20, .getfield 110, 3, 12, 4, 0, .null, []),
  (23, .iconst (-1), 1, 0, 0, 0, .int (-1), []),
  (24, .if_icmp .ne 16, 3, 40, 0, 0, .null, []),
  (27, .aload_n 0, 1, 0, 0, 0, .null, []),
  (28, .invokevirtual 122, 3, 187, 0, 193, .null, []),
  (31, .bipush 121, 2, 0, 0, 0, .int 121, []),
  (33, .if_icmp .eq 7, 3, 40, 0, 0, .null, []),
  (36, .aload_n 0, 1, 0, 0, 0, .null, []),
  (37, .invokevirtual 119, 3, 188, 0, 192, .null, []),
  (40, .aload_n 0, 1, 0, 0, 0, .null, []),
  (41, .dup, 1, 0, 0, 0, .null, []),
  (42, .getfield 103, 3, 12, 3, 0, .null, []),
  (45, .iconst 1, 1, 0, 0, 0, .int 1, []),
  (46, .iadd, 1, 0, 0, 0, .null, []),
  (47, .putfield 103, 3, 12, 3, 0, .null, []),
  (50, .aload_n 0, 1, 0, 0, 0, .null, []),
  (51, .getfield 110, 3, 12, 4, 0, .null, []),
  (54, .iconst (-1), 1, 0, 0, 0, .int (-1), []),
  (55, .if_icmp .ne 16, 3, 71, 0, 0, .null, []),
  (58, .aload_n 0, 1, 0, 0, 0, .null, []),
  (59, .invokevirtual 122, 3, 187, 0, 193, .null, []),
  (62, .bipush 58, 2, 0, 0, 0, .int 58, []),
  (64, .if_icmp .eq 7, 3, 71, 0, 0, .null, []),
  (67, .aload_n 0, 1, 0, 0, 0, .null, []),
  (68, .invokevirtual 119, 3, 188, 0, 192, .null, []),
  (71, .aload_n 0, 1, 0, 0, 0, .null, []),
  (72, .dup, 1, 0, 0, 0, .null, []),
  (73, .getfield 103, 3, 12, 3, 0, .null, []),
  (76, .iconst 1, 1, 0, 0, 0, .int 1, []),
  (77, .iadd, 1, 0, 0, 0, .null, []),
  (78, .putfield 103, 3, 12, 3, 0, .null, []),
  (81, .aload_n 0, 1, 0, 0, 0, .null, []),
  (82, .getfield 110, 3, 12, 4, 0, .null, []),
  (85, .iconst (-1), 1, 0, 0, 0, .int (-1), []),
  (86, .if_icmp .eq 4, 3, 90, 0, 0, .null, []),
  (89, .return_, 1, 0, 0, 0, .null, []),
  (90, .aload_n 0, 1, 0, 0, 0, .null, []),
  (91, .getfield 25, 3, 12, 10, 2, .null, []),
  (94, .iload_n 1, 1, 1, 0, 0, .null, []),
  (95, .aload_n 0, 1, 0, 0, 0, .null, []),
  (96, .getfield 19, 3, 12, 8, 2, .null, []),
  (99, .aload_n 0, 1, 0, 0, 0, .null, []),
  (100, .getfield 113, 3, 12, 14, 0, .null, []),
  (103, .iaload, 1, 0, 0, 0, .null, []),
  (104, .iastore, 1, 0, 0, 0, .null, []),
  (105, .aload_n 0, 1, 0, 0, 0, .null, []),
  (106, .invokevirtual 122, 3, 187, 0, 193, .null, []),
  (109, .bipush 33, 2, 0, 0, 0, .int 33, []),
  (111, .if_icmp .eq 12, 3, 123, 0, 0, .null, []),
  (114, .aload_n 0, 1, 0, 0, 0, .null, []),
  (115, .invokevirtual 122, 3, 187, 0, 193, .null, []),
  (118, .bipush 40, 2, 0, 0, 0, .int 40, []),
  (120, .if_icmp .ne 7, 3, 127, 0, 0, .null, []),
  (123, .iconst 1, 1, 0, 0, 0, .int 1, []),
  (124, .goto 4, 3, 128, 0, 0, .null, []),
  (127, .iconst 0, 1, 0, 0, 0, .int 0, []),
  (128, .istore_n 2, 1, 2, 0, 0, .null, []),
  (129, .iload_n 2, 1, 2, 0, 0, .null, []),
  (130, .ifCond .eq 10, 3, 140, 0, 0, .null, []),
  (133, .aload_n 0, 1, 0, 0, 0, .null, []),
  (134, .invokevirtual 162, 3, 203, 0, 192, .null, []),
  (137, .goto 47, 3, 184, 0, 0, .null, []),
  (140, .aload_n 0, 1, 0, 0, 0, .null, []),
  (141, .invokevirtual 143, 3, 197, 0, 192, .null, []),
  (144, .aload_n 0, 1, 0, 0, 0, .null, []),
  (145, .getfield 110, 3, 12, 4, 0, .null, []),
  (148, .iconst (-1), 1, 0, 0, 0, .int (-1), []),
  (149, .if_icmp .ne 17, 3, 166, 0, 0, .null, []),
  (152, .aload_n 0, 1, 0, 0, 0, .null, []),
  (153, .invokevirtual 122, 3, 187, 0, 193, .null, []),
  (156, .invokestatic 156, 3, 198, 1, 1, .null, []),
  (159, .ifCond .eq 7, 3, 166, 0, 0, .null, []),
  (162, .iconst 1, 1, 0, 0, 0, .int 1, []),
  (163, .goto 4, 3, 167, 0, 0, .null, []),
  (166, .iconst 0, 1, 0, 0, 0, .int 0, []),
  (167, .istore_n 2, 1, 2, 0, 0, .null, []),
  (168, .iload_n 2, 1, 2, 0, 0, .null, []),
  (169, .ifCond .eq 15, 3, 184, 0, 0, .null, []),
  (172, .aload_n 0, 1, 0, 0, 0, .null, []),
  (173, .invokevirtual 165, 3, 199, 0, 192, .null, []),
  (176, .aload_n 0, 1, 0, 0, 0, .null, []),
  (177, .invokevirtual 168, 3, 201, 0, 192, .null, []),
  (180, .aload_n 0, 1, 0, 0, 0, .null, []),
  (181, .invokevirtual 171, 3, 202, 0, 192, .null, []),
  (184, .aload_n 0, 1, 0, 0, 0, .null, []),
  (185, .getfield 28, 3, 12, 11, 2, .null, []),
  (188, .iload_n 1, 1, 1, 0, 0, .null, []),
  (189, .aload_n 0, 1, 0, 0, 0, .null, []),
  (190, .getfield 25, 3, 12, 10, 2, .null, []),
  (193, .iload_n 1, 1, 1, 0, 0, .null, []),
  (194, .iaload, 1, 0, 0, 0, .null, []),
  (195, .iastore, 1, 0, 0, 0, .null, []),
  (196, .iload_n 2, 1, 2, 0, 0, .null, []),
  (197, .ifCond .eq 54, 3, 251, 0, 0, .null, []),
  (200, .aload_n 0, 1, 0, 0, 0, .null, []),
  (201, .getfield 110, 3, 12, 4, 0, .null, []),
  (204, .iconst (-1), 1, 0, 0, 0, .int (-1), []),
  (205, .if_icmp .ne 46, 3, 251, 0, 0, .null, []),
  (208, .aload_n 0, 1, 0, 0, 0, .null, []),
  (209, .invokevirtual 122, 3, 187, 0, 193, .null, []),
  (212, .bipush 63, 2, 0, 0, 0, .int 63, []),
  (214, .if_icmp .eq 8, 3, 222, 0, 0, .null, []),
  (217, .aload_n 0, 1, 0, 0, 0, .null, []),
  (218, .invokevirtual 119, 3, 188, 0, 192, .null, []),
  (221, .return_, 1, 0, 0, 0, .null, []),
  (222, .aload_n 0, 1, 0, 0, 0, .null, []),
  (223, .dup, 1, 0, 0, 0, .null, []),
  (224, .getfield 103, 3, 12, 3, 0, .null, []),
  (227, .iconst 1, 1, 0, 0, 0, .int 1, []),
  (228, .iadd, 1, 0, 0, 0, .null, []),
  (229, .putfield 103, 3, 12, 3, 0, .null, []),
  (232, .aload_n 0, 1, 0, 0, 0, .null, []),
  (233, .getfield 28, 3, 12, 11, 2, .null, []),
  (236, .iload_n 1, 1, 1, 0, 0, .null, []),
  (237, .aload_n 0, 1, 0, 0, 0, .null, []),
  (238, .getfield 19, 3, 12, 8, 2, .null, []),
  (241, .aload_n 0, 1, 0, 0, 0, .null, []),
  (242, .getfield 113, 3, 12, 14, 0, .null, []),
  (245, .iaload, 1, 0, 0, 0, .null, []),
  (246, .iastore, 1, 0, 0, 0, .null, []),
  (247, .aload_n 0, 1, 0, 0, 0, .null, []),
  (248, .invokevirtual 143, 3, 197, 0, 192, .null, []),
  (251, .aload_n 0, 1, 0, 0, 0, .null, []),
  (252, .getfield 31, 3, 12, 12, 2, .null, []),
  (255, .iload_n 1, 1, 1, 0, 0, .null, []),
  (256, .aload_n 0, 1, 0, 0, 0, .null, []),
  (257, .getfield 19, 3, 12, 8, 2, .null, []),
  (260, .aload_n 0, 1, 0, 0, 0, .null, []),
  (261, .getfield 113, 3, 12, 14, 0, .null, []),
  (264, .iaload, 1, 0, 0, 0, .null, []),
  (265, .iastore, 1, 0, 0, 0, .null, []),
  (266, .aload_n 0, 1, 0, 0, 0, .null, []),
  (267, .getfield 22, 3, 12, 9, 2, .null, []),
  (270, .aload_n 0, 1, 0, 0, 0, .null, []),
  (271, .getfield 113, 3, 12, 14, 0, .null, []),
  (274, .dup2, 1, 0, 0, 0, .null, []),
  (275, .iaload, 1, 0, 0, 0, .null, []),
  (276, .iconst 1, 1, 0, 0, 0, .int 1, []),
  (277, .iadd, 1, 0, 0, 0, .null, []),
  (278, .iastore, 1, 0, 0, 0, .null, []),
  (279, .return_, 1, 0, 0, 0, .null, [])], [], 3)
def cd_X12_open : mmP := ([(0, .aload_n 0, 1, 0, 0, 0, .null, []),
  (1, .iload_n 1, 1, 1, 0, 0, .null, []),
  (2, .putfield 113, 3, 12, 14, 0, .null, []),
  (5, .aload_n 0, 1, 0, 0, 0, .null, []),
  (6, .iconst 0, 1, 0, 0, 0, .int 0, []),
  (7, .putfield 103, 3, 12, 3, 0, .null, []),
  (10, .aload_n 0, 1, 0, 0, 0, .null, []),
  (11, .iconst (-1), 1, 0, 0, 0, .int (-1), []),
  (12, .putfield 110, 3, 12, 4, 0, .null, []),
  (15, .aload_n 0, 1, 0, 0, 0, .null, []),
  (16, .iconst 0, 1, 0, 0, 0, .int 0, []),
  (17, .putfield 116, 3, 12, 5, 0, .null, []),
  (20, .aload_n 0, 1, 0, 0, 0, .null, []),
  (21, .getfield 19, 3, 12, 8, 2, .null, []),
  (24, .iload_n 1, 1, 1, 0, 0, .null, []),
  (25, .iconst 0, 1, 0, 0, 0, .int 0, []),
  (26, .iastore, 1, 0, 0, 0, .null, []),
  (27, .aload_n 0, 1, 0, 0, 0, .null, []),
  (28, .getfield 22, 3, 12, 9, 2, .null, []),
  (31, .iload_n 1, 1, 1, 0, 0, .null, []),
  (32, .iconst 0, 1, 0, 0, 0, .int 0, []),
  (33, .iastore, 1, 0, 0, 0, .null, []),
  (34, .return_, 1, 0, 0, 0, .null, [])], [], 2)
def cd_X12_atEnd : mmP := ([(0, .aload_n 0, 1, 0, 0, 0, .null, []),
  (1, .getfield 110, 3, 12, 4, 0, .null, []),
  (4, .iconst (-1), 1, 0, 0, 0, .int (-1), []),
  (5, .if_icmp .ne 15, 3, 20, 0, 0, .null, []),
  (8, .aload_n 0, 1, 0, 0, 0, .null, []),
  (9, .invokevirtual 122, 3, 187, 0, 193, .null, []),
  (12, .iconst (-1), 1, 0, 0, 0, .int (-1), []),
  (13, .if_icmp .eq 7, 3, 20, 0, 0, .null, []),
  (16, .aload_n 0, 1, 0, 0, 0, .null, []),
  (17, .invokevirtual 119, 3, 188, 0, 192, .null, []),
  (20, .aload_n 0, 1, 0, 0, 0, .null, []),
  (21, .getfield 110, 3, 12, 4, 0, .null, []),
  (24, .ireturn, 1, 0, 0, 0, .null, [])], [], 1)
def cd_X12_readLaw : mmP := ([(0, .aload_n 0, 1, 0, 0, 0, .null, []),
  (1, .iload_n 1, 1, 1, 0, 0, .null, []),
  (2, .invokevirtual 174, 3, 205, 1, 192, .null, []),
  (5, .aload_n 0, 1, 0, 0, 0, .null, []),
  (6, .invokevirtual 177, 3, 204, 0, 192, .null, []),
  (9, .aload_n 0, 1, 0, 0, 0, .null, []),
  (10, .getfield 110, 3, 12, 4, 0, .null, []),
  (13, .iconst (-1), 1, 0, 0, 0, .int (-1), []),
  (14, .if_icmp .ne 29, 3, 43, 0, 0, .null, []),
  (17, .aload_n 0, 1, 0, 0, 0, .null, []),
  (18, .invokevirtual 122, 3, 187, 0, 193, .null, []),
  (21, .bipush 59, 2, 0, 0, 0, .int 59, []),
  (23, .if_icmp .ne 20, 3, 43, 0, 0, .null, []),
  (26, .aload_n 0, 1, 0, 0, 0, .null, []),
  (27, .dup, 1, 0, 0, 0, .null, []),
  (28, .getfield 103, 3, 12, 3, 0, .null, []),
  (31, .iconst 1, 1, 0, 0, 0, .int 1, []),
  (32, .iadd, 1, 0, 0, 0, .null, []),
  (33, .putfield 103, 3, 12, 3, 0, .null, []),
  (36, .aload_n 0, 1, 0, 0, 0, .null, []),
  (37, .invokevirtual 177, 3, 204, 0, 192, .null, []),
  (40, .goto (-31), 3, 9, 0, 0, .null, []),
  (43, .aload_n 0, 1, 0, 0, 0, .null, []),
  (44, .invokevirtual 180, 3, 206, 0, 193, .null, []),
  (47, .ireturn, 1, 0, 0, 0, .null, [])], [(9, [true, false])], 2)
def cd_X12_bounded : mmP := ([(0, .ldc2_w 183, 3, 0, 0, 0, .long (-1000000), []),
  (3, .ldc2_w 185, 3, 0, 0, 0, .long 1000000, []),
  (6, .lload_n 0, 1, 0, 0, 0, .null, []),
  (7, .invokestatic 187, 3, 305, 2, 2, .null, []),
  (10, .invokestatic 193, 3, 303, 2, 2, .null, []),
  (13, .l2i, 1, 0, 0, 0, .null, []),
  (14, .ireturn, 1, 0, 0, 0, .null, [])], [], 2)
def cd_X12_worked : mmP := ([(0, .iload_n 0, 1, 0, 0, 0, .null, []),
  (1, .tableswitch 143 2 10 #[51, 58, 65, 72, 89, 101, 113, 143, 125], 51, 144, 0, 0, .null, [(2, 52), (3, 59), (4, 66), (5, 73), (6, 90), (7, 102), (8, 114), (9, 144), (10, 126)]),
  (52, .lload_n 1, 1, 1, 0, 0, .null, []),
  (53, .lload_n 3, 1, 3, 0, 0, .null, []),
  (54, .ladd, 1, 0, 0, 0, .null, []),
  (55, .invokestatic 196, 3, 208, 1, 1, .null, []),
  (58, .ireturn, 1, 0, 0, 0, .null, []),
  (59, .lload_n 1, 1, 1, 0, 0, .null, []),
  (60, .lload_n 3, 1, 3, 0, 0, .null, []),
  (61, .lsub, 1, 0, 0, 0, .null, []),
  (62, .invokestatic 196, 3, 208, 1, 1, .null, []),
  (65, .ireturn, 1, 0, 0, 0, .null, []),
  (66, .lload_n 1, 1, 1, 0, 0, .null, []),
  (67, .lload_n 3, 1, 3, 0, 0, .null, []),
  (68, .lmul, 1, 0, 0, 0, .null, []),
  (69, .invokestatic 196, 3, 208, 1, 1, .null, []),
  (72, .ireturn, 1, 0, 0, 0, .null, []),
  (73, .lload_n 3, 1, 3, 0, 0, .null, []),
  (74, .lconst 0, 1, 0, 0, 0, .long 0, []),
  (75, .lcmp, 1, 0, 0, 0, .null, []),
  (76, .ifCond .ne 7, 3, 83, 0, 0, .null, []),
  (79, .iconst 0, 1, 0, 0, 0, .int 0, []),
  (80, .goto 9, 3, 89, 0, 0, .null, []),
  (83, .lload_n 1, 1, 1, 0, 0, .null, []),
  (84, .lload_n 3, 1, 3, 0, 0, .null, []),
  (85, .ldiv, 1, 0, 0, 0, .null, []),
  (86, .invokestatic 196, 3, 208, 1, 1, .null, []),
  (89, .ireturn, 1, 0, 0, 0, .null, []),
  (90, .lload_n 1, 1, 1, 0, 0, .null, []),
  (91, .lload_n 3, 1, 3, 0, 0, .null, []),
  (92, .lcmp, 1, 0, 0, 0, .null, []),
  (93, .ifCond .ne 7, 3, 100, 0, 0, .null, []),
  (96, .iconst 1, 1, 0, 0, 0, .int 1, []),
  (97, .goto 4, 3, 101, 0, 0, .null, []),
  (100, .iconst 0, 1, 0, 0, 0, .int 0, []),
  (101, .ireturn, 1, 0, 0, 0, .null, []),
  (102, .lload_n 1, 1, 1, 0, 0, .null, []),
  (103, .lload_n 3, 1, 3, 0, 0, .null, []),
  (104, .lcmp, 1, 0, 0, 0, .null, []),
  (105, .ifCond .ge 7, 3, 112, 0, 0, .null, []),
  (108, .iconst 1, 1, 0, 0, 0, .int 1, []),
  (109, .goto 4, 3, 113, 0, 0, .null, []),
  (112, .iconst 0, 1, 0, 0, 0, .int 0, []),
  (113, .ireturn, 1, 0, 0, 0, .null, []),
  (114, .lload_n 1, 1, 1, 0, 0, .null, []),
  (115, .lload_n 3, 1, 3, 0, 0, .null, []),
  (116, .lcmp, 1, 0, 0, 0, .null, []),
  (117, .ifCond .le 7, 3, 124, 0, 0, .null, []),
  (120, .iconst 1, 1, 0, 0, 0, .int 1, []),
  (121, .goto 4, 3, 125, 0, 0, .null, []),
  (124, .iconst 0, 1, 0, 0, 0, .int 0, []),
  (125, .ireturn, 1, 0, 0, 0, .null, []),
  (126, .lload_n 1, 1, 1, 0, 0, .null, []),
  (127, .lconst 0, 1, 0, 0, 0, .long 0, []),
  (128, .lcmp, 1, 0, 0, 0, .null, []),
  (129, .ifCond .eq 13, 3, 142, 0, 0, .null, []),
  (132, .lload_n 3, 1, 3, 0, 0, .null, []),
  (133, .lconst 0, 1, 0, 0, 0, .long 0, []),
  (134, .lcmp, 1, 0, 0, 0, .null, []),
  (135, .ifCond .eq 7, 3, 142, 0, 0, .null, []),
  (138, .iconst 1, 1, 0, 0, 0, .int 1, []),
  (139, .goto 4, 3, 143, 0, 0, .null, []),
  (142, .iconst 0, 1, 0, 0, 0, .int 0, []),
  (143, .ireturn, 1, 0, 0, 0, .null, []),
  (144, .lload_n 1, 1, 1, 0, 0, .null, []),
  (145, .lconst 0, 1, 0, 0, 0, .long 0, []),
  (146, .lcmp, 1, 0, 0, 0, .null, []),
  (147, .ifCond .ne 9, 3, 156, 0, 0, .null, []),
  (150, .lload_n 3, 1, 3, 0, 0, .null, []),
  (151, .lconst 0, 1, 0, 0, 0, .long 0, []),
  (152, .lcmp, 1, 0, 0, 0, .null, []),
  (153, .ifCond .eq 7, 3, 160, 0, 0, .null, []),
  (156, .iconst 1, 1, 0, 0, 0, .int 1, []),
  (157, .goto 4, 3, 161, 0, 0, .null, []),
  (160, .iconst 0, 1, 0, 0, 0, .int 0, []),
  (161, .ireturn, 1, 0, 0, 0, .null, [])], [], 5)
def cd_X12_workOut : mmP := ([(0, .iconst 0, 1, 0, 0, 0, .int 0, []),
  (1, .istore 4, 2, 4, 0, 0, .null, []),
  (3, .sipush 520, 3, 0, 0, 0, .int 520, []),
  (6, .iload_n 1, 1, 1, 0, 0, .null, []),
  (7, .imul, 1, 0, 0, 0, .null, []),
  (8, .iload_n 2, 1, 2, 0, 0, .null, []),
  (9, .iadd, 1, 0, 0, 0, .null, []),
  (10, .istore 5, 2, 5, 0, 0, .null, []),
  (12, .iload 5, 2, 5, 0, 0, .null, []),
  (14, .sipush 520, 3, 0, 0, 0, .int 520, []),
  (17, .iload_n 1, 1, 1, 0, 0, .null, []),
  (18, .imul, 1, 0, 0, 0, .null, []),
  (19, .iload_n 3, 1, 3, 0, 0, .null, []),
  (20, .iadd, 1, 0, 0, 0, .null, []),
  (21, .if_icmp .ge 150, 3, 171, 0, 0, .null, []),
  (24, .aload_n 0, 1, 0, 0, 0, .null, []),
  (25, .getfield 13, 3, 12, 6, 2, .null, []),
  (28, .iload 5, 2, 5, 0, 0, .null, []),
  (30, .iaload, 1, 0, 0, 0, .null, []),
  (31, .ifCond .eq 14, 3, 45, 0, 0, .null, []),
  (34, .aload_n 0, 1, 0, 0, 0, .null, []),
  (35, .getfield 13, 3, 12, 6, 2, .null, []),
  (38, .iload 5, 2, 5, 0, 0, .null, []),
  (40, .iaload, 1, 0, 0, 0, .null, []),
  (41, .iconst 1, 1, 0, 0, 0, .int 1, []),
  (42, .if_icmp .ne 48, 3, 90, 0, 0, .null, []),
  (45, .aload_n 0, 1, 0, 0, 0, .null, []),
  (46, .getfield 37, 3, 12, 16, 2, .null, []),
  (49, .iload 4, 2, 4, 0, 0, .null, []),
  (51, .aload_n 0, 1, 0, 0, 0, .null, []),
  (52, .getfield 13, 3, 12, 6, 2, .null, []),
  (55, .iload 5, 2, 5, 0, 0, .null, []),
  (57, .iaload, 1, 0, 0, 0, .null, []),
  (58, .ifCond .ne 13, 3, 71, 0, 0, .null, []),
  (61, .aload_n 0, 1, 0, 0, 0, .null, []),
  (62, .getfield 16, 3, 12, 7, 2, .null, []),
  (65, .iload 5, 2, 5, 0, 0, .null, []),
  (67, .iaload, 1, 0, 0, 0, .null, []),
  (68, .goto 15, 3, 83, 0, 0, .null, []),
  (71, .aload_n 0, 1, 0, 0, 0, .null, []),
  (72, .getfield 34, 3, 12, 15, 2, .null, []),
  (75, .aload_n 0, 1, 0, 0, 0, .null, []),
  (76, .getfield 16, 3, 12, 7, 2, .null, []),
  (79, .iload 5, 2, 5, 0, 0, .null, []),
  (81, .iaload, 1, 0, 0, 0, .null, []),
  (82, .iaload, 1, 0, 0, 0, .null, []),
  (83, .iastore, 1, 0, 0, 0, .null, []),
  (84, .iinc 4 1, 3, 4, 0, 0, .int 1, []),
  (87, .goto 78, 3, 165, 0, 0, .null, []),
  (90, .aload_n 0, 1, 0, 0, 0, .null, []),
  (91, .getfield 13, 3, 12, 6, 2, .null, []),
  (94, .iload 5, 2, 5, 0, 0, .null, []),
  (96, .iaload, 1, 0, 0, 0, .null, []),
  (97, .bipush 9, 2, 0, 0, 0, .int 9, []),
  (99, .if_icmp .ne 26, 3, 125, 0, 0, .null, []),
  (102, .aload_n 0, 1, 0, 0, 0, .null, []),
  (103, .getfield 37, 3, 12, 16, 2, .null, []),
  (106, .iload 4, 2, 4, 0, 0, .null, []),
  (108, .iconst 1, 1, 0, 0, 0, .int 1, []),
  (109, .isub, 1, 0, 0, 0, .null, []),
  (110, .iconst 1, 1, 0, 0, 0, .int 1, []),
  (111, .aload_n 0, 1, 0, 0, 0, .null, []),
  (112, .getfield 37, 3, 12, 16, 2, .null, []),
  (115, .iload 4, 2, 4, 0, 0, .null, []),
  (117, .iconst 1, 1, 0, 0, 0, .int 1, []),
  (118, .isub, 1, 0, 0, 0, .null, []),
  (119, .iaload, 1, 0, 0, 0, .null, []),
  (120, .isub, 1, 0, 0, 0, .null, []),
  (121, .iastore, 1, 0, 0, 0, .null, []),
  (122, .goto 43, 3, 165, 0, 0, .null, []),
  (125, .iinc 4 (-1), 3, 4, 0, 0, .int (-1), []),
  (128, .aload_n 0, 1, 0, 0, 0, .null, []),
  (129, .getfield 37, 3, 12, 16, 2, .null, []),
  (132, .iload 4, 2, 4, 0, 0, .null, []),
  (134, .iconst 1, 1, 0, 0, 0, .int 1, []),
  (135, .isub, 1, 0, 0, 0, .null, []),
  (136, .aload_n 0, 1, 0, 0, 0, .null, []),
  (137, .getfield 13, 3, 12, 6, 2, .null, []),
  (140, .iload 5, 2, 5, 0, 0, .null, []),
  (142, .iaload, 1, 0, 0, 0, .null, []),
  (143, .aload_n 0, 1, 0, 0, 0, .null, []),
  (144, .getfield 37, 3, 12, 16, 2, .null, []),
  (147, .iload 4, 2, 4, 0, 0, .null, []),
  (149, .iconst 1, 1, 0, 0, 0, .int 1, []),
  (150, .isub, 1, 0, 0, 0, .null, []),
  (151, .iaload, 1, 0, 0, 0, .null, []),
  (152, .i2l, 1, 0, 0, 0, .null, []),
  (153, .aload_n 0, 1, 0, 0, 0, .null, []),
  (154, .getfield 37, 3, 12, 16, 2, .null, []),
  (157, .iload 4, 2, 4, 0, 0, .null, []),
  (159, .iaload, 1, 0, 0, 0, .null, []),
  (160, .i2l, 1, 0, 0, 0, .null, []),
  (161, .invokestatic 200, 3, 209, 3, 1, .null, []),
  (164, .iastore, 1, 0, 0, 0, .null, []),
  (165, .iinc 5 1, 3, 5, 0, 0, .int 1, []),
  (168, .goto (-156), 3, 12, 0, 0, .null, []),
  (171, .aload_n 0, 1, 0, 0, 0, .null, []),
  (172, .getfield 37, 3, 12, 16, 2, .null, []),
  (175, .iconst 0, 1, 0, 0, 0, .int 0, []),
  (176, .iaload, 1, 0, 0, 0, .null, []),
  (177, .ireturn, 1, 0, 0, 0, .null, [])], [(12, [true, true, false, true, true, true])], 6)
def cd_X12_worthOf : mmP := ([(0, .sipush 140, 3, 0, 0, 0, .int 140, []),
  (3, .iload_n 1, 1, 1, 0, 0, .null, []),
  (4, .imul, 1, 0, 0, 0, .null, []),
  (5, .istore_n 2, 1, 2, 0, 0, .null, []),
  (6, .iload_n 2, 1, 2, 0, 0, .null, []),
  (7, .sipush 140, 3, 0, 0, 0, .int 140, []),
  (10, .iload_n 1, 1, 1, 0, 0, .null, []),
  (11, .imul, 1, 0, 0, 0, .null, []),
  (12, .aload_n 0, 1, 0, 0, 0, .null, []),
  (13, .getfield 22, 3, 12, 9, 2, .null, []),
  (16, .iload_n 1, 1, 1, 0, 0, .null, []),
  (17, .iaload, 1, 0, 0, 0, .null, []),
  (18, .iadd, 1, 0, 0, 0, .null, []),
  (19, .if_icmp .ge 62, 3, 81, 0, 0, .null, []),
  (22, .aload_n 0, 1, 0, 0, 0, .null, []),
  (23, .getfield 25, 3, 12, 10, 2, .null, []),
  (26, .iload_n 2, 1, 2, 0, 0, .null, []),
  (27, .iaload, 1, 0, 0, 0, .null, []),
  (28, .aload_n 0, 1, 0, 0, 0, .null, []),
  (29, .getfield 28, 3, 12, 11, 2, .null, []),
  (32, .iload_n 2, 1, 2, 0, 0, .null, []),
  (33, .iaload, 1, 0, 0, 0, .null, []),
  (34, .if_icmp .eq 23, 3, 57, 0, 0, .null, []),
  (37, .aload_n 0, 1, 0, 0, 0, .null, []),
  (38, .iload_n 1, 1, 1, 0, 0, .null, []),
  (39, .aload_n 0, 1, 0, 0, 0, .null, []),
  (40, .getfield 25, 3, 12, 10, 2, .null, []),
  (43, .iload_n 2, 1, 2, 0, 0, .null, []),
  (44, .iaload, 1, 0, 0, 0, .null, []),
  (45, .aload_n 0, 1, 0, 0, 0, .null, []),
  (46, .getfield 28, 3, 12, 11, 2, .null, []),
  (49, .iload_n 2, 1, 2, 0, 0, .null, []),
  (50, .iaload, 1, 0, 0, 0, .null, []),
  (51, .invokevirtual 204, 3, 210, 3, 193, .null, []),
  (54, .ifCond .eq 21, 3, 75, 0, 0, .null, []),
  (57, .aload_n 0, 1, 0, 0, 0, .null, []),
  (58, .iload_n 1, 1, 1, 0, 0, .null, []),
  (59, .aload_n 0, 1, 0, 0, 0, .null, []),
  (60, .getfield 28, 3, 12, 11, 2, .null, []),
  (63, .iload_n 2, 1, 2, 0, 0, .null, []),
  (64, .iaload, 1, 0, 0, 0, .null, []),
  (65, .aload_n 0, 1, 0, 0, 0, .null, []),
  (66, .getfield 31, 3, 12, 12, 2, .null, []),
  (69, .iload_n 2, 1, 2, 0, 0, .null, []),
  (70, .iaload, 1, 0, 0, 0, .null, []),
  (71, .invokevirtual 204, 3, 210, 3, 193, .null, []),
  (74, .ireturn, 1, 0, 0, 0, .null, []),
  (75, .iinc 2 1, 3, 2, 0, 0, .int 1, []),
  (78, .goto (-72), 3, 6, 0, 0, .null, []),
  (81, .iconst 0, 1, 0, 0, 0, .int 0, []),
  (82, .ireturn, 1, 0, 0, 0, .null, [])], [(6, [true, true, true])], 3)
def cd_X12_number : mmP := ([(0, .aload_n 0, 1, 0, 0, 0, .null, []),
  (1, .invokevirtual 122, 3, 187, 0, 193, .null, []),
  (4, .invokestatic 125, 3, 189, 1, 1, .null, []),
  (7, .ifCond .ne 9, 3, 16, 0, 0, .null, []),
  (10, .aload_n 0, 1, 0, 0, 0, .null, []),
  (11, .invokevirtual 119, 3, 188, 0, 192, .null, []),
  (14, .iload_n 1, 1, 1, 0, 0, .null, []),
  (15, .ireturn, 1, 0, 0, 0, .null, []),
  (16, .aload_n 0, 1, 0, 0, 0, .null, []),
  (17, .invokevirtual 106, 3, 186, 0, 193, .null, []),
  (20, .bipush 48, 2, 0, 0, 0, .int 48, []),
  (22, .isub, 1, 0, 0, 0, .null, []),
  (23, .istore_n 3, 1, 3, 0, 0, .null, []),
  (24, .aload_n 0, 1, 0, 0, 0, .null, []),
  (25, .dup, 1, 0, 0, 0, .null, []),
  (26, .getfield 103, 3, 12, 3, 0, .null, []),
  (29, .iconst 1, 1, 0, 0, 0, .int 1, []),
  (30, .iadd, 1, 0, 0, 0, .null, []),
  (31, .putfield 103, 3, 12, 3, 0, .null, []),
  (34, .aload_n 0, 1, 0, 0, 0, .null, []),
  (35, .invokevirtual 106, 3, 186, 0, 193, .null, []),
  (38, .invokestatic 125, 3, 189, 1, 1, .null, []),
  (41, .ifCond .eq 26, 3, 67, 0, 0, .null, []),
  (44, .bipush 10, 2, 0, 0, 0, .int 10, []),
  (46, .iload_n 3, 1, 3, 0, 0, .null, []),
  (47, .imul, 1, 0, 0, 0, .null, []),
  (48, .aload_n 0, 1, 0, 0, 0, .null, []),
  (49, .invokevirtual 106, 3, 186, 0, 193, .null, []),
  (52, .iadd, 1, 0, 0, 0, .null, []),
  (53, .bipush 48, 2, 0, 0, 0, .int 48, []),
  (55, .isub, 1, 0, 0, 0, .null, []),
  (56, .istore_n 3, 1, 3, 0, 0, .null, []),
  (57, .aload_n 0, 1, 0, 0, 0, .null, []),
  (58, .dup, 1, 0, 0, 0, .null, []),
  (59, .getfield 103, 3, 12, 3, 0, .null, []),
  (62, .iconst 1, 1, 0, 0, 0, .int 1, []),
  (63, .iadd, 1, 0, 0, 0, .null, []),
  (64, .putfield 103, 3, 12, 3, 0, .null, []),
  (67, .aload_n 0, 1, 0, 0, 0, .null, []),
  (68, .invokevirtual 106, 3, 186, 0, 193, .null, []),
  (71, .invokestatic 125, 3, 189, 1, 1, .null, []),
  (74, .ifCond .eq 10, 3, 84, 0, 0, .null, []),
  (77, .aload_n 0, 1, 0, 0, 0, .null, []),
  (78, .invokevirtual 119, 3, 188, 0, 192, .null, []),
  (81, .goto 26, 3, 107, 0, 0, .null, []),
  (84, .iload_n 3, 1, 3, 0, 0, .null, []),
  (85, .iload_n 1, 1, 1, 0, 0, .null, []),
  (86, .iload_n 2, 1, 2, 0, 0, .null, []),
  (87, .invokestatic 208, 3, 179, 3, 1, .null, []),
  (90, .ifCond .ne 17, 3, 107, 0, 0, .null, []),
  (93, .aload_n 0, 1, 0, 0, 0, .null, []),
  (94, .dup, 1, 0, 0, 0, .null, []),
  (95, .getfield 103, 3, 12, 3, 0, .null, []),
  (98, .iconst 1, 1, 0, 0, 0, .int 1, []),
  (99, .isub, 1, 0, 0, 0, .null, []),
  (100, .putfield 103, 3, 12, 3, 0, .null, []),
  (103, .aload_n 0, 1, 0, 0, 0, .null, []),
  (104, .invokevirtual 119, 3, 188, 0, 192, .null, []),
  (107, .iload_n 3, 1, 3, 0, 0, .null, []),
  (108, .ireturn, 1, 0, 0, 0, .null, [])], [], 4)
def cd_X12_itemOf : mmP := ([(0, .iload_n 0, 1, 0, 0, 0, .null, []),
  (1, .lookupswitch 91 #[(107, 69), (115, 27)], 27, 92, 0, 0, .null, [(107, 70), (115, 28)]),
  (28, .iload_n 1, 1, 1, 0, 0, .null, []),
  (29, .bipush 97, 2, 0, 0, 0, .int 97, []),
  (31, .if_icmp .ne 7, 3, 38, 0, 0, .null, []),
  (34, .iconst 0, 1, 0, 0, 0, .int 0, []),
  (35, .goto 34, 3, 69, 0, 0, .null, []),
  (38, .iload_n 1, 1, 1, 0, 0, .null, []),
  (39, .bipush 121, 2, 0, 0, 0, .int 121, []),
  (41, .if_icmp .ne 7, 3, 48, 0, 0, .null, []),
  (44, .iconst 1, 1, 0, 0, 0, .int 1, []),
  (45, .goto 24, 3, 69, 0, 0, .null, []),
  (48, .iload_n 1, 1, 1, 0, 0, .null, []),
  (49, .bipush 99, 2, 0, 0, 0, .int 99, []),
  (51, .if_icmp .ne 7, 3, 58, 0, 0, .null, []),
  (54, .iconst 2, 1, 0, 0, 0, .int 2, []),
  (55, .goto 14, 3, 69, 0, 0, .null, []),
  (58, .iload_n 1, 1, 1, 0, 0, .null, []),
  (59, .bipush 112, 2, 0, 0, 0, .int 112, []),
  (61, .if_icmp .ne 7, 3, 68, 0, 0, .null, []),
  (64, .iconst 3, 1, 0, 0, 0, .int 3, []),
  (65, .goto 4, 3, 69, 0, 0, .null, []),
  (68, .iconst (-1), 1, 0, 0, 0, .int (-1), []),
  (69, .ireturn, 1, 0, 0, 0, .null, []),
  (70, .iload_n 1, 1, 1, 0, 0, .null, []),
  (71, .bipush 119, 2, 0, 0, 0, .int 119, []),
  (73, .if_icmp .ne 7, 3, 80, 0, 0, .null, []),
  (76, .iconst 0, 1, 0, 0, 0, .int 0, []),
  (77, .goto 14, 3, 91, 0, 0, .null, []),
  (80, .iload_n 1, 1, 1, 0, 0, .null, []),
  (81, .bipush 101, 2, 0, 0, 0, .int 101, []),
  (83, .if_icmp .ne 7, 3, 90, 0, 0, .null, []),
  (86, .iconst 1, 1, 0, 0, 0, .int 1, []),
  (87, .goto 4, 3, 91, 0, 0, .null, []),
  (90, .iconst (-1), 1, 0, 0, 0, .int (-1), []),
  (91, .ireturn, 1, 0, 0, 0, .null, []),
  (92, .iload_n 1, 1, 1, 0, 0, .null, []),
  (93, .bipush 119, 2, 0, 0, 0, .int 119, []),
  (95, .if_icmp .ne 7, 3, 102, 0, 0, .null, []),
  (98, .iconst 0, 1, 0, 0, 0, .int 0, []),
  (99, .goto 34, 3, 133, 0, 0, .null, []),
  (102, .iload_n 1, 1, 1, 0, 0, .null, []),
  (103, .bipush 118, 2, 0, 0, 0, .int 118, []),
  (105, .if_icmp .ne 7, 3, 112, 0, 0, .null, []),
  (108, .iconst 1, 1, 0, 0, 0, .int 1, []),
  (109, .goto 24, 3, 133, 0, 0, .null, []),
  (112, .iload_n 1, 1, 1, 0, 0, .null, []),
  (113, .bipush 110, 2, 0, 0, 0, .int 110, []),
  (115, .if_icmp .ne 7, 3, 122, 0, 0, .null, []),
  (118, .iconst 2, 1, 0, 0, 0, .int 2, []),
  (119, .goto 14, 3, 133, 0, 0, .null, []),
  (122, .iload_n 1, 1, 1, 0, 0, .null, []),
  (123, .bipush 108, 2, 0, 0, 0, .int 108, []),
  (125, .if_icmp .ne 7, 3, 132, 0, 0, .null, []),
  (128, .iconst 3, 1, 0, 0, 0, .int 3, []),
  (129, .goto 4, 3, 133, 0, 0, .null, []),
  (132, .iconst (-1), 1, 0, 0, 0, .int (-1), []),
  (133, .ireturn, 1, 0, 0, 0, .null, [])], [], 2)
def cd_X12_highest : mmP := ([(0, .iload_n 0, 1, 0, 0, 0, .null, []),
  (1, .lookupswitch 62 #[(107, 49), (115, 27)], 27, 63, 0, 0, .null, [(107, 50), (115, 28)]),
  (28, .iload_n 1, 1, 1, 0, 0, .null, []),
  (29, .iconst 2, 1, 0, 0, 0, .int 2, []),
  (30, .if_icmp .ne 7, 3, 37, 0, 0, .null, []),
  (33, .iconst 1, 1, 0, 0, 0, .int 1, []),
  (34, .goto 15, 3, 49, 0, 0, .null, []),
  (37, .iload_n 1, 1, 1, 0, 0, .null, []),
  (38, .iconst 3, 1, 0, 0, 0, .int 3, []),
  (39, .if_icmp .ne 8, 3, 47, 0, 0, .null, []),
  (42, .bipush 99, 2, 0, 0, 0, .int 99, []),
  (44, .goto 5, 3, 49, 0, 0, .null, []),
  (47, .bipush 9, 2, 0, 0, 0, .int 9, []),
  (49, .ireturn, 1, 0, 0, 0, .null, []),
  (50, .iload_n 1, 1, 1, 0, 0, .null, []),
  (51, .iconst 1, 1, 0, 0, 0, .int 1, []),
  (52, .if_icmp .ne 8, 3, 60, 0, 0, .null, []),
  (55, .bipush 40, 2, 0, 0, 0, .int 40, []),
  (57, .goto 5, 3, 62, 0, 0, .null, []),
  (60, .bipush 9, 2, 0, 0, 0, .int 9, []),
  (62, .ireturn, 1, 0, 0, 0, .null, []),
  (63, .iload_n 1, 1, 1, 0, 0, .null, []),
  (64, .iconst 2, 1, 0, 0, 0, .int 2, []),
  (65, .if_icmp .ne 8, 3, 73, 0, 0, .null, []),
  (68, .bipush 40, 2, 0, 0, 0, .int 40, []),
  (70, .goto 5, 3, 75, 0, 0, .null, []),
  (73, .bipush 9, 2, 0, 0, 0, .int 9, []),
  (75, .ireturn, 1, 0, 0, 0, .null, [])], [], 2)
def cd_X12_usual : mmP := ([(0, .iload_n 0, 1, 0, 0, 0, .null, []),
  (1, .lookupswitch 58 #[(107, 47), (115, 27)], 27, 59, 0, 0, .null, [(107, 48), (115, 28)]),
  (28, .iload_n 1, 1, 1, 0, 0, .null, []),
  (29, .ifCond .ne 7, 3, 36, 0, 0, .null, []),
  (32, .iconst 2, 1, 0, 0, 0, .int 2, []),
  (33, .goto 14, 3, 47, 0, 0, .null, []),
  (36, .iload_n 1, 1, 1, 0, 0, .null, []),
  (37, .iconst 3, 1, 0, 0, 0, .int 3, []),
  (38, .if_icmp .ne 8, 3, 46, 0, 0, .null, []),
  (41, .bipush 20, 2, 0, 0, 0, .int 20, []),
  (43, .goto 4, 3, 47, 0, 0, .null, []),
  (46, .iconst 0, 1, 0, 0, 0, .int 0, []),
  (47, .ireturn, 1, 0, 0, 0, .null, []),
  (48, .iload_n 1, 1, 1, 0, 0, .null, []),
  (49, .ifCond .ne 7, 3, 56, 0, 0, .null, []),
  (52, .iconst 4, 1, 0, 0, 0, .int 4, []),
  (53, .goto 5, 3, 58, 0, 0, .null, []),
  (56, .bipush 15, 2, 0, 0, 0, .int 15, []),
  (58, .ireturn, 1, 0, 0, 0, .null, []),
  (59, .iload_n 1, 1, 1, 0, 0, .null, []),
  (60, .ifCond .ne 7, 3, 67, 0, 0, .null, []),
  (63, .iconst 2, 1, 0, 0, 0, .int 2, []),
  (64, .goto 23, 3, 87, 0, 0, .null, []),
  (67, .iload_n 1, 1, 1, 0, 0, .null, []),
  (68, .iconst 1, 1, 0, 0, 0, .int 1, []),
  (69, .if_icmp .ne 7, 3, 76, 0, 0, .null, []),
  (72, .iconst 3, 1, 0, 0, 0, .int 3, []),
  (73, .goto 14, 3, 87, 0, 0, .null, []),
  (76, .iload_n 1, 1, 1, 0, 0, .null, []),
  (77, .iconst 2, 1, 0, 0, 0, .int 2, []),
  (78, .if_icmp .ne 8, 3, 86, 0, 0, .null, []),
  (81, .bipush 10, 2, 0, 0, 0, .int 10, []),
  (83, .goto 4, 3, 87, 0, 0, .null, []),
  (86, .iconst 1, 1, 0, 0, 0, .int 1, []),
  (87, .ireturn, 1, 0, 0, 0, .null, [])], [], 2)
def cd_X12_items : mmP := ([(0, .iconst 0, 1, 0, 0, 0, .int 0, []),
  (1, .istore 5, 2, 5, 0, 0, .null, []),
  (3, .iload 5, 2, 5, 0, 0, .null, []),
  (5, .iload 4, 2, 4, 0, 0, .null, []),
  (7, .if_icmp .ge 21, 3, 28, 0, 0, .null, []),
  (10, .aload_n 2, 1, 2, 0, 0, .null, []),
  (11, .iload_n 3, 1, 3, 0, 0, .null, []),
  (12, .iload 5, 2, 5, 0, 0, .null, []),
  (14, .iadd, 1, 0, 0, 0, .null, []),
  (15, .iload_n 1, 1, 1, 0, 0, .null, []),
  (16, .iload 5, 2, 5, 0, 0, .null, []),
  (18, .invokestatic 212, 3, 215, 2, 1, .null, []),
  (21, .iastore, 1, 0, 0, 0, .null, []),
  (22, .iinc 5 1, 3, 5, 0, 0, .int 1, []),
  (25, .goto (-22), 3, 3, 0, 0, .null, []),
  (28, .iconst 0, 1, 0, 0, 0, .int 0, []),
  (29, .istore 5, 2, 5, 0, 0, .null, []),
  (31, .iload_n 1, 1, 1, 0, 0, .null, []),
  (32, .aload_n 0, 1, 0, 0, 0, .null, []),
  (33, .invokevirtual 122, 3, 187, 0, 193, .null, []),
  (36, .invokestatic 216, 3, 213, 2, 1, .null, []),
  (39, .istore 6, 2, 6, 0, 0, .null, []),
  (41, .aload_n 0, 1, 0, 0, 0, .null, []),
  (42, .getfield 110, 3, 12, 4, 0, .null, []),
  (45, .iconst (-1), 1, 0, 0, 0, .int (-1), []),
  (46, .if_icmp .ne 90, 3, 136, 0, 0, .null, []),
  (49, .iload 6, 2, 6, 0, 0, .null, []),
  (51, .iconst (-1), 1, 0, 0, 0, .int (-1), []),
  (52, .if_icmp .eq 84, 3, 136, 0, 0, .null, []),
  (55, .iload 5, 2, 5, 0, 0, .null, []),
  (57, .iload 6, 2, 6, 0, 0, .null, []),
  (59, .invokestatic 219, 3, 180, 2, 1, .null, []),
  (62, .ifCond .ne 74, 3, 136, 0, 0, .null, []),
  (65, .iload 5, 2, 5, 0, 0, .null, []),
  (67, .iconst 1, 1, 0, 0, 0, .int 1, []),
  (68, .iload 6, 2, 6, 0, 0, .null, []),
  (70, .ishl, 1, 0, 0, 0, .null, []),
  (71, .ior, 1, 0, 0, 0, .null, []),
  (72, .istore 5, 2, 5, 0, 0, .null, []),
  (74, .aload_n 0, 1, 0, 0, 0, .null, []),
  (75, .dup, 1, 0, 0, 0, .null, []),
  (76, .getfield 103, 3, 12, 3, 0, .null, []),
  (79, .iconst 1, 1, 0, 0, 0, .int 1, []),
  (80, .iadd, 1, 0, 0, 0, .null, []),
  (81, .putfield 103, 3, 12, 3, 0, .null, []),
  (84, .aload_n 2, 1, 2, 0, 0, .null, []),
  (85, .iload_n 3, 1, 3, 0, 0, .null, []),
  (86, .iload 6, 2, 6, 0, 0, .null, []),
  (88, .iadd, 1, 0, 0, 0, .null, []),
  (89, .aload_n 0, 1, 0, 0, 0, .null, []),
  (90, .iload_n 1, 1, 1, 0, 0, .null, []),
  (91, .bipush 107, 2, 0, 0, 0, .int 107, []),
  (93, .if_icmp .ne 7, 3, 100, 0, 0, .null, []),
  (96, .iconst 1, 1, 0, 0, 0, .int 1, []),
  (97, .goto 4, 3, 101, 0, 0, .null, []),
  (100, .iconst 0, 1, 0, 0, 0, .int 0, []),
  (101, .iload_n 1, 1, 1, 0, 0, .null, []),
  (102, .iload 6, 2, 6, 0, 0, .null, []),
  (104, .invokestatic 223, 3, 214, 2, 1, .null, []),
  (107, .invokevirtual 226, 3, 212, 2, 193, .null, []),
  (110, .iastore, 1, 0, 0, 0, .null, []),
  (111, .aload_n 0, 1, 0, 0, 0, .null, []),
  (112, .getfield 110, 3, 12, 4, 0, .null, []),
  (115, .iconst (-1), 1, 0, 0, 0, .int (-1), []),
  (116, .if_icmp .ne 14, 3, 130, 0, 0, .null, []),
  (119, .iload_n 1, 1, 1, 0, 0, .null, []),
  (120, .aload_n 0, 1, 0, 0, 0, .null, []),
  (121, .invokevirtual 122, 3, 187, 0, 193, .null, []),
  (124, .invokestatic 216, 3, 213, 2, 1, .null, []),
  (127, .goto 4, 3, 131, 0, 0, .null, []),
  (130, .iconst (-1), 1, 0, 0, 0, .int (-1), []),
  (131, .istore 6, 2, 6, 0, 0, .null, []),
  (133, .goto (-92), 3, 41, 0, 0, .null, []),
  (136, .return_, 1, 0, 0, 0, .null, [])], [(3, [true, true, true, true, true, true, false]), (41, [true, true, true, true, false, true, true])], 7)
def cd_X12_readDuchy : mmP := ([(0, .aload_n 0, 1, 0, 0, 0, .null, []),
  (1, .iconst 0, 1, 0, 0, 0, .int 0, []),
  (2, .putfield 103, 3, 12, 3, 0, .null, []),
  (5, .aload_n 0, 1, 0, 0, 0, .null, []),
  (6, .iconst (-1), 1, 0, 0, 0, .int (-1), []),
  (7, .putfield 110, 3, 12, 4, 0, .null, []),
  (10, .aload_n 0, 1, 0, 0, 0, .null, []),
  (11, .iconst 0, 1, 0, 0, 0, .int 0, []),
  (12, .putfield 229, 3, 12, 20, 0, .null, []),
  (15, .aload_n 0, 1, 0, 0, 0, .null, []),
  (16, .iconst 0, 1, 0, 0, 0, .int 0, []),
  (17, .putfield 232, 3, 12, 21, 0, .null, []),
  (20, .iconst 0, 1, 0, 0, 0, .int 0, []),
  (21, .istore_n 1, 1, 1, 0, 0, .null, []),
  (22, .iconst 0, 1, 0, 0, 0, .int 0, []),
  (23, .istore_n 2, 1, 2, 0, 0, .null, []),
  (24, .iload_n 2, 1, 2, 0, 0, .null, []),
  (25, .iconst 4, 1, 0, 0, 0, .int 4, []),
  (26, .if_icmp .ge 21, 3, 47, 0, 0, .null, []),
  (29, .aload_n 0, 1, 0, 0, 0, .null, []),
  (30, .getfield 40, 3, 12, 17, 2, .null, []),
  (33, .iload_n 2, 1, 2, 0, 0, .null, []),
  (34, .bipush 115, 2, 0, 0, 0, .int 115, []),
  (36, .iload_n 2, 1, 2, 0, 0, .null, []),
  (37, .invokestatic 212, 3, 215, 2, 1, .null, []),
  (40, .iastore, 1, 0, 0, 0, .null, []),
  (41, .iinc 2 1, 3, 2, 0, 0, .int 1, []),
  (44, .goto (-20), 3, 24, 0, 0, .null, []),
  (47, .iconst 1, 1, 0, 0, 0, .int 1, []),
  (48, .istore_n 2, 1, 2, 0, 0, .null, []),
  (49, .iload_n 2, 1, 2, 0, 0, .null, []),
  (50, .ifCond .eq 207, 3, 257, 0, 0, .null, []),
  (53, .aload_n 0, 1, 0, 0, 0, .null, []),
  (54, .getfield 110, 3, 12, 4, 0, .null, []),
  (57, .iconst (-1), 1, 0, 0, 0, .int (-1), []),
  (58, .if_icmp .ne 199, 3, 257, 0, 0, .null, []),
  (61, .aload_n 0, 1, 0, 0, 0, .null, []),
  (62, .invokevirtual 122, 3, 187, 0, 193, .null, []),
  (65, .istore_n 3, 1, 3, 0, 0, .null, []),
  (66, .iload_n 3, 1, 3, 0, 0, .null, []),
  (67, .bipush 115, 2, 0, 0, 0, .int 115, []),
  (69, .if_icmp .ne 33, 3, 102, 0, 0, .null, []),
  (72, .iload_n 1, 1, 1, 0, 0, .null, []),
  (73, .ifCond .ne 29, 3, 102, 0, 0, .null, []),
  (76, .iconst 1, 1, 0, 0, 0, .int 1, []),
  (77, .istore_n 1, 1, 1, 0, 0, .null, []),
  (78, .aload_n 0, 1, 0, 0, 0, .null, []),
  (79, .dup, 1, 0, 0, 0, .null, []),
  (80, .getfield 103, 3, 12, 3, 0, .null, []),
  (83, .iconst 1, 1, 0, 0, 0, .int 1, []),
  (84, .iadd, 1, 0, 0, 0, .null, []),
  (85, .putfield 103, 3, 12, 3, 0, .null, []),
  (88, .aload_n 0, 1, 0, 0, 0, .null, []),
  (89, .iload_n 3, 1, 3, 0, 0, .null, []),
  (90, .aload_n 0, 1, 0, 0, 0, .null, []),
  (91, .getfield 40, 3, 12, 17, 2, .null, []),
  (94, .iconst 0, 1, 0, 0, 0, .int 0, []),
  (95, .iconst 4, 1, 0, 0, 0, .int 4, []),
  (96, .invokevirtual 235, 3, 216, 4, 192, .null, []),
  (99, .goto 114, 3, 213, 0, 0, .null, []),
  (102, .iload_n 3, 1, 3, 0, 0, .null, []),
  (103, .bipush 107, 2, 0, 0, 0, .int 107, []),
  (105, .if_icmp .ne 50, 3, 155, 0, 0, .null, []),
  (108, .aload_n 0, 1, 0, 0, 0, .null, []),
  (109, .getfield 229, 3, 12, 20, 0, .null, []),
  (112, .iconst 4, 1, 0, 0, 0, .int 4, []),
  (113, .if_icmp .ge 42, 3, 155, 0, 0, .null, []),
  (116, .aload_n 0, 1, 0, 0, 0, .null, []),
  (117, .dup, 1, 0, 0, 0, .null, []),
  (118, .getfield 103, 3, 12, 3, 0, .null, []),
  (121, .iconst 1, 1, 0, 0, 0, .int 1, []),
  (122, .iadd, 1, 0, 0, 0, .null, []),
  (123, .putfield 103, 3, 12, 3, 0, .null, []),
  (126, .aload_n 0, 1, 0, 0, 0, .null, []),
  (127, .iload_n 3, 1, 3, 0, 0, .null, []),
  (128, .aload_n 0, 1, 0, 0, 0, .null, []),
  (129, .getfield 43, 3, 12, 18, 2, .null, []),
  (132, .iconst 2, 1, 0, 0, 0, .int 2, []),
  (133, .aload_n 0, 1, 0, 0, 0, .null, []),
  (134, .getfield 229, 3, 12, 20, 0, .null, []),
  (137, .imul, 1, 0, 0, 0, .null, []),
  (138, .iconst 2, 1, 0, 0, 0, .int 2, []),
  (139, .invokevirtual 235, 3, 216, 4, 192, .null, []),
  (142, .aload_n 0, 1, 0, 0, 0, .null, []),
  (143, .dup, 1, 0, 0, 0, .null, []),
  (144, .getfield 229, 3, 12, 20, 0, .null, []),
  (147, .iconst 1, 1, 0, 0, 0, .int 1, []),
  (148, .iadd, 1, 0, 0, 0, .null, []),
  (149, .putfield 229, 3, 12, 20, 0, .null, []),
  (152, .goto 61, 3, 213, 0, 0, .null, []),
  (155, .iload_n 3, 1, 3, 0, 0, .null, []),
  (156, .bipush 109, 2, 0, 0, 0, .int 109, []),
  (158, .if_icmp .ne 51, 3, 209, 0, 0, .null, []),
  (161, .aload_n 0, 1, 0, 0, 0, .null, []),
  (162, .getfield 232, 3, 12, 21, 0, .null, []),
  (165, .bipush 7, 2, 0, 0, 0, .int 7, []),
  (167, .if_icmp .ge 42, 3, 209, 0, 0, .null, []),
  (170, .aload_n 0, 1, 0, 0, 0, .null, []),
  (171, .dup, 1, 0, 0, 0, .null, []),
  (172, .getfield 103, 3, 12, 3, 0, .null, []),
  (175, .iconst 1, 1, 0, 0, 0, .int 1, []),
  (176, .iadd, 1, 0, 0, 0, .null, []),
  (177, .putfield 103, 3, 12, 3, 0, .null, []),
  (180, .aload_n 0, 1, 0, 0, 0, .null, []),
  (181, .iload_n 3, 1, 3, 0, 0, .null, []),
  (182, .aload_n 0, 1, 0, 0, 0, .null, []),
  (183, .getfield 46, 3, 12, 19, 2, .null, []),
  (186, .iconst 4, 1, 0, 0, 0, .int 4, []),
  (187, .aload_n 0, 1, 0, 0, 0, .null, []),
  (188, .getfield 232, 3, 12, 21, 0, .null, []),
  (191, .imul, 1, 0, 0, 0, .null, []),
  (192, .iconst 4, 1, 0, 0, 0, .int 4, []),
  (193, .invokevirtual 235, 3, 216, 4, 192, .null, []),
  (196, .aload_n 0, 1, 0, 0, 0, .null, []),
  (197, .dup, 1, 0, 0, 0, .null, []),
  (198, .getfield 232, 3, 12, 21, 0, .null, []),
  (201, .iconst 1, 1, 0, 0, 0, .int 1, []),
  (202, .iadd, 1, 0, 0, 0, .null, []),
  (203, .putfield 232, 3, 12, 21, 0, .null, []),
  (206, .goto 7, 3, 213, 0, 0, .null, []),
  (209, .aload_n 0, 1, 0, 0, 0, .null, []),
  (210, .invokevirtual 119, 3, 188, 0, 192, .null, []),
  (213, .aload_n 0, 1, 0, 0, 0, .null, []),
  (214, .getfield 110, 3, 12, 4, 0, .null, []),
  (217, .iconst (-1), 1, 0, 0, 0, .int (-1), []),
  (218, .if_icmp .ne 16, 3, 234, 0, 0, .null, []),
  (221, .aload_n 0, 1, 0, 0, 0, .null, []),
  (222, .invokevirtual 122, 3, 187, 0, 193, .null, []),
  (225, .bipush 59, 2, 0, 0, 0, .int 59, []),
  (227, .if_icmp .ne 7, 3, 234, 0, 0, .null, []),
  (230, .iconst 1, 1, 0, 0, 0, .int 1, []),
  (231, .goto 4, 3, 235, 0, 0, .null, []),
  (234, .iconst 0, 1, 0, 0, 0, .int 0, []),
  (235, .istore_n 2, 1, 2, 0, 0, .null, []),
  (236, .aload_n 0, 1, 0, 0, 0, .null, []),
  (237, .dup, 1, 0, 0, 0, .null, []),
  (238, .getfield 103, 3, 12, 3, 0, .null, []),
  (241, .iload_n 2, 1, 2, 0, 0, .null, []),
  (242, .ifCond .eq 7, 3, 249, 0, 0, .null, []),
  (245, .iconst 1, 1, 0, 0, 0, .int 1, []),
  (246, .goto 4, 3, 250, 0, 0, .null, []),
  (249, .iconst 0, 1, 0, 0, 0, .int 0, []),
  (250, .iadd, 1, 0, 0, 0, .null, []),
  (251, .putfield 103, 3, 12, 3, 0, .null, []),
  (254, .goto (-205), 3, 49, 0, 0, .null, []),
  (257, .aload_n 0, 1, 0, 0, 0, .null, []),
  (258, .getfield 110, 3, 12, 4, 0, .null, []),
  (261, .iconst (-1), 1, 0, 0, 0, .int (-1), []),
  (262, .if_icmp .ne 29, 3, 291, 0, 0, .null, []),
  (265, .aload_n 0, 1, 0, 0, 0, .null, []),
  (266, .invokevirtual 122, 3, 187, 0, 193, .null, []),
  (269, .iconst (-1), 1, 0, 0, 0, .int (-1), []),
  (270, .if_icmp .ne 17, 3, 287, 0, 0, .null, []),
  (273, .aload_n 0, 1, 0, 0, 0, .null, []),
  (274, .getfield 229, 3, 12, 20, 0, .null, []),
  (277, .ifCond .eq 10, 3, 287, 0, 0, .null, []),
  (280, .aload_n 0, 1, 0, 0, 0, .null, []),
  (281, .getfield 232, 3, 12, 21, 0, .null, []),
  (284, .ifCond .ne 7, 3, 291, 0, 0, .null, []),
  (287, .aload_n 0, 1, 0, 0, 0, .null, []),
  (288, .invokevirtual 119, 3, 188, 0, 192, .null, []),
  (291, .aload_n 0, 1, 0, 0, 0, .null, []),
  (292, .getfield 110, 3, 12, 4, 0, .null, []),
  (295, .ireturn, 1, 0, 0, 0, .null, [])], [(24, [true, true, true, false]), (49, [true, true, true, false])], 4)
def cd_X12_fault : mmP := ([(0, .iload_n 1, 1, 1, 0, 0, .null, []),
  (1, .ifCond .ne 10, 3, 11, 0, 0, .null, []),
  (4, .aload_n 0, 1, 0, 0, 0, .null, []),
  (5, .invokevirtual 239, 3, 217, 0, 193, .null, []),
  (8, .goto 18, 3, 26, 0, 0, .null, []),
  (11, .iload_n 1, 1, 1, 0, 0, .null, []),
  (12, .iconst 1, 1, 0, 0, 0, .int 1, []),
  (13, .if_icmp .ne 11, 3, 24, 0, 0, .null, []),
  (16, .aload_n 0, 1, 0, 0, 0, .null, []),
  (17, .iconst 4, 1, 0, 0, 0, .int 4, []),
  (18, .invokevirtual 242, 3, 207, 1, 193, .null, []),
  (21, .goto 5, 3, 26, 0, 0, .null, []),
  (24, .bipush (-2), 2, 0, 0, 0, .int (-2), []),
  (26, .ireturn, 1, 0, 0, 0, .null, [])], [], 2)
def cd_X12_takeDuchy : mmP := ([(0, .aload_n 0, 1, 0, 0, 0, .null, []),
  (1, .aload_n 0, 1, 0, 0, 0, .null, []),
  (2, .getfield 229, 3, 12, 20, 0, .null, []),
  (5, .putfield 245, 3, 12, 25, 0, .null, []),
  (8, .aload_n 0, 1, 0, 0, 0, .null, []),
  (9, .aload_n 0, 1, 0, 0, 0, .null, []),
  (10, .getfield 232, 3, 12, 21, 0, .null, []),
  (13, .putfield 248, 3, 12, 26, 0, .null, []),
  (16, .iconst 0, 1, 0, 0, 0, .int 0, []),
  (17, .istore_n 1, 1, 1, 0, 0, .null, []),
  (18, .iload_n 1, 1, 1, 0, 0, .null, []),
  (19, .iconst 4, 1, 0, 0, 0, .int 4, []),
  (20, .if_icmp .ge 21, 3, 41, 0, 0, .null, []),
  (23, .aload_n 0, 1, 0, 0, 0, .null, []),
  (24, .getfield 49, 3, 12, 22, 2, .null, []),
  (27, .iload_n 1, 1, 1, 0, 0, .null, []),
  (28, .aload_n 0, 1, 0, 0, 0, .null, []),
  (29, .getfield 40, 3, 12, 17, 2, .null, []),
  (32, .iload_n 1, 1, 1, 0, 0, .null, []),
  (33, .iaload, 1, 0, 0, 0, .null, []),
  (34, .iastore, 1, 0, 0, 0, .null, []),
  (35, .iinc 1 1, 3, 1, 0, 0, .int 1, []),
  (38, .goto (-20), 3, 18, 0, 0, .null, []),
  (41, .iconst 0, 1, 0, 0, 0, .int 0, []),
  (42, .istore_n 1, 1, 1, 0, 0, .null, []),
  (43, .iload_n 1, 1, 1, 0, 0, .null, []),
  (44, .bipush 8, 2, 0, 0, 0, .int 8, []),
  (46, .if_icmp .ge 21, 3, 67, 0, 0, .null, []),
  (49, .aload_n 0, 1, 0, 0, 0, .null, []),
  (50, .getfield 52, 3, 12, 23, 2, .null, []),
  (53, .iload_n 1, 1, 1, 0, 0, .null, []),
  (54, .aload_n 0, 1, 0, 0, 0, .null, []),
  (55, .getfield 43, 3, 12, 18, 2, .null, []),
  (58, .iload_n 1, 1, 1, 0, 0, .null, []),
  (59, .iaload, 1, 0, 0, 0, .null, []),
  (60, .iastore, 1, 0, 0, 0, .null, []),
  (61, .iinc 1 1, 3, 1, 0, 0, .int 1, []),
  (64, .goto (-21), 3, 43, 0, 0, .null, []),
  (67, .iconst 0, 1, 0, 0, 0, .int 0, []),
  (68, .istore_n 1, 1, 1, 0, 0, .null, []),
  (69, .iload_n 1, 1, 1, 0, 0, .null, []),
  (70, .bipush 28, 2, 0, 0, 0, .int 28, []),
  (72, .if_icmp .ge 21, 3, 93, 0, 0, .null, []),
  (75, .aload_n 0, 1, 0, 0, 0, .null, []),
  (76, .getfield 55, 3, 12, 24, 2, .null, []),
  (79, .iload_n 1, 1, 1, 0, 0, .null, []),
  (80, .aload_n 0, 1, 0, 0, 0, .null, []),
  (81, .getfield 46, 3, 12, 19, 2, .null, []),
  (84, .iload_n 1, 1, 1, 0, 0, .null, []),
  (85, .iaload, 1, 0, 0, 0, .null, []),
  (86, .iastore, 1, 0, 0, 0, .null, []),
  (87, .iinc 1 1, 3, 1, 0, 0, .int 1, []),
  (90, .goto (-21), 3, 69, 0, 0, .null, []),
  (93, .iconst 0, 1, 0, 0, 0, .int 0, []),
  (94, .istore_n 1, 1, 1, 0, 0, .null, []),
  (95, .iload_n 1, 1, 1, 0, 0, .null, []),
  (96, .sipush 198, 3, 0, 0, 0, .int 198, []),
  (99, .if_icmp .ge 16, 3, 115, 0, 0, .null, []),
  (102, .aload_n 0, 1, 0, 0, 0, .null, []),
  (103, .getfield 58, 3, 12, 27, 2, .null, []),
  (106, .iload_n 1, 1, 1, 0, 0, .null, []),
  (107, .iconst 0, 1, 0, 0, 0, .int 0, []),
  (108, .iastore, 1, 0, 0, 0, .null, []),
  (109, .iinc 1 1, 3, 1, 0, 0, .int 1, []),
  (112, .goto (-17), 3, 95, 0, 0, .null, []),
  (115, .iconst 0, 1, 0, 0, 0, .int 0, []),
  (116, .istore_n 1, 1, 1, 0, 0, .null, []),
  (117, .iload_n 1, 1, 1, 0, 0, .null, []),
  (118, .aload_n 0, 1, 0, 0, 0, .null, []),
  (119, .getfield 245, 3, 12, 25, 0, .null, []),
  (122, .if_icmp .ge 27, 3, 149, 0, 0, .null, []),
  (125, .aload_n 0, 1, 0, 0, 0, .null, []),
  (126, .getfield 58, 3, 12, 27, 2, .null, []),
  (129, .iconst 0, 1, 0, 0, 0, .int 0, []),
  (130, .iload_n 1, 1, 1, 0, 0, .null, []),
  (131, .iadd, 1, 0, 0, 0, .null, []),
  (132, .aload_n 0, 1, 0, 0, 0, .null, []),
  (133, .getfield 52, 3, 12, 23, 2, .null, []),
  (136, .iconst 2, 1, 0, 0, 0, .int 2, []),
  (137, .iload_n 1, 1, 1, 0, 0, .null, []),
  (138, .imul, 1, 0, 0, 0, .null, []),
  (139, .iconst 0, 1, 0, 0, 0, .int 0, []),
  (140, .iadd, 1, 0, 0, 0, .null, []),
  (141, .iaload, 1, 0, 0, 0, .null, []),
  (142, .iastore, 1, 0, 0, 0, .null, []),
  (143, .iinc 1 1, 3, 1, 0, 0, .int 1, []),
  (146, .goto (-29), 3, 117, 0, 0, .null, []),
  (149, .aload_n 0, 1, 0, 0, 0, .null, []),
  (150, .getfield 58, 3, 12, 27, 2, .null, []),
  (153, .bipush 12, 2, 0, 0, 0, .int 12, []),
  (155, .aload_n 0, 1, 0, 0, 0, .null, []),
  (156, .getfield 49, 3, 12, 22, 2, .null, []),
  (159, .iconst 1, 1, 0, 0, 0, .int 1, []),
  (160, .iaload, 1, 0, 0, 0, .null, []),
  (161, .iastore, 1, 0, 0, 0, .null, []),
  (162, .aload_n 0, 1, 0, 0, 0, .null, []),
  (163, .getfield 58, 3, 12, 27, 2, .null, []),
  (166, .bipush 13, 2, 0, 0, 0, .int 13, []),
  (168, .aload_n 0, 1, 0, 0, 0, .null, []),
  (169, .getfield 49, 3, 12, 22, 2, .null, []),
  (172, .iconst 3, 1, 0, 0, 0, .int 3, []),
  (173, .iaload, 1, 0, 0, 0, .null, []),
  (174, .iastore, 1, 0, 0, 0, .null, []),
  (175, .aload_n 0, 1, 0, 0, 0, .null, []),
  (176, .iconst 0, 1, 0, 0, 0, .int 0, []),
  (177, .putfield 251, 3, 12, 43, 0, .null, []),
  (180, .aload_n 0, 1, 0, 0, 0, .null, []),
  (181, .iconst 0, 1, 0, 0, 0, .int 0, []),
  (182, .putfield 254, 3, 12, 32, 0, .null, []),
  (185, .aload_n 0, 1, 0, 0, 0, .null, []),
  (186, .iconst 0, 1, 0, 0, 0, .int 0, []),
  (187, .putfield 257, 3, 12, 45, 3, .null, []),
  (190, .aload_n 0, 1, 0, 0, 0, .null, []),
  (191, .getfield 248, 3, 12, 26, 0, .null, []),
  (194, .ireturn, 1, 0, 0, 0, .null, [])], [(18, [true, true]), (43, [true, true]), (69, [true, true]), (95, [true, true]), (117, [true, true])], 2)
def cd_X12_text : mmP := ([(0, .iload_n 1, 1, 1, 0, 0, .null, []),
  (1, .ifCond .ne 21, 3, 22, 0, 0, .null, []),
  (4, .aload_n 0, 1, 0, 0, 0, .null, []),
  (5, .invokevirtual 239, 3, 217, 0, 193, .null, []),
  (8, .iconst (-1), 1, 0, 0, 0, .int (-1), []),
  (9, .if_icmp .ne 13, 3, 22, 0, 0, .null, []),
  (12, .aload_n 0, 1, 0, 0, 0, .null, []),
  (13, .iconst 0, 1, 0, 0, 0, .int 0, []),
  (14, .putfield 100, 3, 12, 2, 0, .null, []),
  (17, .aload_n 0, 1, 0, 0, 0, .null, []),
  (18, .invokevirtual 261, 3, 219, 0, 193, .null, []),
  (21, .ireturn, 1, 0, 0, 0, .null, []),
  (22, .iload_n 1, 1, 1, 0, 0, .null, []),
  (23, .iconst 1, 1, 0, 0, 0, .int 1, []),
  (24, .if_icmp .ne 45, 3, 69, 0, 0, .null, []),
  (27, .aload_n 0, 1, 0, 0, 0, .null, []),
  (28, .getfield 264, 3, 12, 13, 0, .null, []),
  (31, .iconst 4, 1, 0, 0, 0, .int 4, []),
  (32, .if_icmp .ge 37, 3, 69, 0, 0, .null, []),
  (35, .aload_n 0, 1, 0, 0, 0, .null, []),
  (36, .aload_n 0, 1, 0, 0, 0, .null, []),
  (37, .getfield 264, 3, 12, 13, 0, .null, []),
  (40, .invokevirtual 242, 3, 207, 1, 193, .null, []),
  (43, .iconst (-1), 1, 0, 0, 0, .int (-1), []),
  (44, .if_icmp .ne 25, 3, 69, 0, 0, .null, []),
  (47, .aload_n 0, 1, 0, 0, 0, .null, []),
  (48, .iconst 0, 1, 0, 0, 0, .int 0, []),
  (49, .putfield 100, 3, 12, 2, 0, .null, []),
  (52, .aload_n 0, 1, 0, 0, 0, .null, []),
  (53, .dup, 1, 0, 0, 0, .null, []),
  (54, .getfield 264, 3, 12, 13, 0, .null, []),
  (57, .iconst 1, 1, 0, 0, 0, .int 1, []),
  (58, .iadd, 1, 0, 0, 0, .null, []),
  (59, .putfield 264, 3, 12, 13, 0, .null, []),
  (62, .aload_n 0, 1, 0, 0, 0, .null, []),
  (63, .getfield 264, 3, 12, 13, 0, .null, []),
  (66, .iconst 1, 1, 0, 0, 0, .int 1, []),
  (67, .isub, 1, 0, 0, 0, .null, []),
  (68, .ireturn, 1, 0, 0, 0, .null, []),
  (69, .iconst (-1), 1, 0, 0, 0, .int (-1), []),
  (70, .ireturn, 1, 0, 0, 0, .null, [])], [], 2)
def cd_X12_of : mmP := ([(0, .aload_n 0, 1, 0, 0, 0, .null, []),
  (1, .getfield 55, 3, 12, 24, 2, .null, []),
  (4, .iconst 4, 1, 0, 0, 0, .int 4, []),
  (5, .iload_n 1, 1, 1, 0, 0, .null, []),
  (6, .imul, 1, 0, 0, 0, .null, []),
  (7, .iload_n 2, 1, 2, 0, 0, .null, []),
  (8, .iadd, 1, 0, 0, 0, .null, []),
  (9, .iaload, 1, 0, 0, 0, .null, []),
  (10, .ireturn, 1, 0, 0, 0, .null, [])], [], 3)
def cd_X12_isCook : mmP := ([(0, .iload_n 1, 1, 1, 0, 0, .null, []),
  (1, .iconst 0, 1, 0, 0, 0, .int 0, []),
  (2, .aload_n 0, 1, 0, 0, 0, .null, []),
  (3, .getfield 245, 3, 12, 25, 0, .null, []),
  (6, .iconst 1, 1, 0, 0, 0, .int 1, []),
  (7, .isub, 1, 0, 0, 0, .null, []),
  (8, .invokestatic 208, 3, 179, 3, 1, .null, []),
  (11, .ireturn, 1, 0, 1, 0, .null, [])], [], 2)
def cd_X12_isMinister : mmP := ([(0, .iload_n 1, 1, 1, 0, 0, .null, []),
  (1, .iconst 0, 1, 0, 0, 0, .int 0, []),
  (2, .aload_n 0, 1, 0, 0, 0, .null, []),
  (3, .getfield 248, 3, 12, 26, 0, .null, []),
  (6, .iconst 1, 1, 0, 0, 0, .int 1, []),
  (7, .isub, 1, 0, 0, 0, .null, []),
  (8, .invokestatic 208, 3, 179, 3, 1, .null, []),
  (11, .ireturn, 1, 0, 1, 0, .null, [])], [], 2)
def cd_X12_leftOf : mmP := ([(0, .aload_n 0, 1, 0, 0, 0, .null, []),
  (1, .getfield 52, 3, 12, 23, 2, .null, []),
  (4, .iconst 2, 1, 0, 0, 0, .int 2, []),
  (5, .iload_n 1, 1, 1, 0, 0, .null, []),
  (6, .imul, 1, 0, 0, 0, .null, []),
  (7, .iconst 1, 1, 0, 0, 0, .int 1, []),
  (8, .iadd, 1, 0, 0, 0, .null, []),
  (9, .iaload, 1, 0, 0, 0, .null, []),
  (10, .aload_n 0, 1, 0, 0, 0, .null, []),
  (11, .getfield 58, 3, 12, 27, 2, .null, []),
  (14, .iconst 4, 1, 0, 0, 0, .int 4, []),
  (15, .iload_n 1, 1, 1, 0, 0, .null, []),
  (16, .iadd, 1, 0, 0, 0, .null, []),
  (17, .iaload, 1, 0, 0, 0, .null, []),
  (18, .isub, 1, 0, 0, 0, .null, []),
  (19, .ireturn, 1, 0, 0, 0, .null, [])], [], 2)
def cd_X12_held : mmP := ([(0, .iconst 0, 1, 0, 0, 0, .int 0, []),
  (1, .bipush 99, 2, 0, 0, 0, .int 99, []),
  (3, .iload_n 0, 1, 0, 0, 0, .null, []),
  (4, .invokestatic 267, 3, 304, 2, 1, .null, []),
  (7, .invokestatic 269, 3, 302, 2, 1, .null, []),
  (10, .ireturn, 1, 0, 0, 0, .null, [])], [], 1)
def cd_X12_strokeBy : mmP := ([(0, .iload_n 1, 1, 1, 0, 0, .null, []),
  (1, .iconst 2, 1, 0, 0, 0, .int 2, []),
  (2, .aload_n 0, 1, 0, 0, 0, .null, []),
  (3, .getfield 49, 3, 12, 22, 2, .null, []),
  (6, .iconst 2, 1, 0, 0, 0, .int 2, []),
  (7, .iaload, 1, 0, 0, 0, .null, []),
  (8, .imul, 1, 0, 0, 0, .null, []),
  (9, .iadd, 1, 0, 0, 0, .null, []),
  (10, .iload 4, 2, 4, 0, 0, .null, []),
  (12, .isub, 1, 0, 0, 0, .null, []),
  (13, .iconst 3, 1, 0, 0, 0, .int 3, []),
  (14, .iload_n 3, 1, 3, 0, 0, .null, []),
  (15, .bipush 10, 2, 0, 0, 0, .int 10, []),
  (17, .idiv, 1, 0, 0, 0, .null, []),
  (18, .imul, 1, 0, 0, 0, .null, []),
  (19, .isub, 1, 0, 0, 0, .null, []),
  (20, .istore 5, 2, 5, 0, 0, .null, []),
  (22, .aload_n 0, 1, 0, 0, 0, .null, []),
  (23, .getfield 64, 3, 12, 29, 0, .null, []),
  (26, .iconst (-1), 1, 0, 0, 0, .int (-1), []),
  (27, .if_icmp .eq 66, 3, 93, 0, 0, .null, []),
  (30, .aload_n 0, 1, 0, 0, 0, .null, []),
  (31, .getfield 34, 3, 12, 15, 2, .null, []),
  (34, .iconst 0, 1, 0, 0, 0, .int 0, []),
  (35, .iload_n 1, 1, 1, 0, 0, .null, []),
  (36, .iastore, 1, 0, 0, 0, .null, []),
  (37, .aload_n 0, 1, 0, 0, 0, .null, []),
  (38, .getfield 34, 3, 12, 15, 2, .null, []),
  (41, .iconst 1, 1, 0, 0, 0, .int 1, []),
  (42, .iload_n 2, 1, 2, 0, 0, .null, []),
  (43, .iastore, 1, 0, 0, 0, .null, []),
  (44, .aload_n 0, 1, 0, 0, 0, .null, []),
  (45, .getfield 34, 3, 12, 15, 2, .null, []),
  (48, .iconst 2, 1, 0, 0, 0, .int 2, []),
  (49, .iload_n 3, 1, 3, 0, 0, .null, []),
  (50, .iastore, 1, 0, 0, 0, .null, []),
  (51, .aload_n 0, 1, 0, 0, 0, .null, []),
  (52, .getfield 34, 3, 12, 15, 2, .null, []),
  (55, .iconst 3, 1, 0, 0, 0, .int 3, []),
  (56, .iload 4, 2, 4, 0, 0, .null, []),
  (58, .iastore, 1, 0, 0, 0, .null, []),
  (59, .aload_n 0, 1, 0, 0, 0, .null, []),
  (60, .getfield 34, 3, 12, 15, 2, .null, []),
  (63, .iconst 4, 1, 0, 0, 0, .int 4, []),
  (64, .aload_n 0, 1, 0, 0, 0, .null, []),
  (65, .getfield 49, 3, 12, 22, 2, .null, []),
  (68, .iconst 0, 1, 0, 0, 0, .int 0, []),
  (69, .iaload, 1, 0, 0, 0, .null, []),
  (70, .iastore, 1, 0, 0, 0, .null, []),
  (71, .aload_n 0, 1, 0, 0, 0, .null, []),
  (72, .getfield 34, 3, 12, 15, 2, .null, []),
  (75, .iconst 5, 1, 0, 0, 0, .int 5, []),
  (76, .aload_n 0, 1, 0, 0, 0, .null, []),
  (77, .getfield 49, 3, 12, 22, 2, .null, []),
  (80, .iconst 2, 1, 0, 0, 0, .int 2, []),
  (81, .iaload, 1, 0, 0, 0, .null, []),
  (82, .iastore, 1, 0, 0, 0, .null, []),
  (83, .aload_n 0, 1, 0, 0, 0, .null, []),
  (84, .aload_n 0, 1, 0, 0, 0, .null, []),
  (85, .getfield 64, 3, 12, 29, 0, .null, []),
  (88, .invokevirtual 271, 3, 211, 1, 193, .null, []),
  (91, .istore 5, 2, 5, 0, 0, .null, []),
  (93, .iload_n 2, 1, 2, 0, 0, .null, []),
  (94, .bipush (-9), 2, 0, 0, 0, .int (-9), []),
  (96, .bipush 9, 2, 0, 0, 0, .int 9, []),
  (98, .iload 5, 2, 5, 0, 0, .null, []),
  (100, .invokestatic 267, 3, 304, 2, 1, .null, []),
  (103, .invokestatic 269, 3, 302, 2, 1, .null, []),
  (106, .iadd, 1, 0, 0, 0, .null, []),
  (107, .invokestatic 274, 3, 225, 1, 1, .null, []),
  (110, .ireturn, 1, 0, 0, 0, .null, [])], [], 6)
def cd_X12_strokeNow : mmP := ([(0, .aload_n 0, 1, 0, 0, 0, .null, []),
  (1, .getfield 58, 3, 12, 27, 2, .null, []),
  (4, .bipush 8, 2, 0, 0, 0, .int 8, []),
  (6, .aload_n 0, 1, 0, 0, 0, .null, []),
  (7, .aload_n 0, 1, 0, 0, 0, .null, []),
  (8, .getfield 58, 3, 12, 27, 2, .null, []),
  (11, .iconst 0, 1, 0, 0, 0, .int 0, []),
  (12, .iload_n 1, 1, 1, 0, 0, .null, []),
  (13, .iadd, 1, 0, 0, 0, .null, []),
  (14, .iaload, 1, 0, 0, 0, .null, []),
  (15, .aload_n 0, 1, 0, 0, 0, .null, []),
  (16, .getfield 58, 3, 12, 27, 2, .null, []),
  (19, .bipush 8, 2, 0, 0, 0, .int 8, []),
  (21, .iaload, 1, 0, 0, 0, .null, []),
  (22, .aload_n 0, 1, 0, 0, 0, .null, []),
  (23, .getfield 58, 3, 12, 27, 2, .null, []),
  (26, .bipush 9, 2, 0, 0, 0, .int 9, []),
  (28, .iaload, 1, 0, 0, 0, .null, []),
  (29, .aload_n 0, 1, 0, 0, 0, .null, []),
  (30, .getfield 58, 3, 12, 27, 2, .null, []),
  (33, .bipush 12, 2, 0, 0, 0, .int 12, []),
  (35, .iaload, 1, 0, 0, 0, .null, []),
  (36, .invokevirtual 277, 3, 226, 4, 193, .null, []),
  (39, .iastore, 1, 0, 0, 0, .null, []),
  (40, .aload_n 0, 1, 0, 0, 0, .null, []),
  (41, .getfield 58, 3, 12, 27, 2, .null, []),
  (44, .bipush 9, 2, 0, 0, 0, .int 9, []),
  (46, .dup2, 1, 0, 0, 0, .null, []),
  (47, .iaload, 1, 0, 0, 0, .null, []),
  (48, .iconst 1, 1, 0, 0, 0, .int 1, []),
  (49, .iadd, 1, 0, 0, 0, .null, []),
  (50, .iastore, 1, 0, 0, 0, .null, []),
  (51, .aload_n 0, 1, 0, 0, 0, .null, []),
  (52, .getfield 58, 3, 12, 27, 2, .null, []),
  (55, .iconst 4, 1, 0, 0, 0, .int 4, []),
  (56, .iload_n 1, 1, 1, 0, 0, .null, []),
  (57, .iadd, 1, 0, 0, 0, .null, []),
  (58, .dup2, 1, 0, 0, 0, .null, []),
  (59, .iaload, 1, 0, 0, 0, .null, []),
  (60, .iconst 1, 1, 0, 0, 0, .int 1, []),
  (61, .iadd, 1, 0, 0, 0, .null, []),
  (62, .iastore, 1, 0, 0, 0, .null, []),
  (63, .return_, 1, 0, 0, 0, .null, [])], [], 2)
def cd_X12_strokesNow : mmP := ([(0, .iconst 0, 1, 0, 0, 0, .int 0, []),
  (1, .istore_n 3, 1, 3, 0, 0, .null, []),
  (2, .iload_n 3, 1, 3, 0, 0, .null, []),
  (3, .iload_n 2, 1, 2, 0, 0, .null, []),
  (4, .if_icmp .ge 14, 3, 18, 0, 0, .null, []),
  (7, .aload_n 0, 1, 0, 0, 0, .null, []),
  (8, .iload_n 1, 1, 1, 0, 0, .null, []),
  (9, .invokevirtual 281, 3, 227, 1, 192, .null, []),
  (12, .iinc 3 1, 3, 3, 0, 0, .int 1, []),
  (15, .goto (-13), 3, 2, 0, 0, .null, []),
  (18, .return_, 1, 0, 0, 0, .null, [])], [(2, [true, true, true, true])], 4)
def cd_X12_weightIn : mmP := ([(0, .iconst 0, 1, 0, 0, 0, .int 0, []),
  (1, .istore_n 1, 1, 1, 0, 0, .null, []),
  (2, .iconst 0, 1, 0, 0, 0, .int 0, []),
  (3, .istore_n 2, 1, 2, 0, 0, .null, []),
  (4, .iload_n 2, 1, 2, 0, 0, .null, []),
  (5, .aload_n 0, 1, 0, 0, 0, .null, []),
  (6, .getfield 248, 3, 12, 26, 0, .null, []),
  (9, .if_icmp .ge 36, 3, 45, 0, 0, .null, []),
  (12, .iload_n 1, 1, 1, 0, 0, .null, []),
  (13, .aload_n 0, 1, 0, 0, 0, .null, []),
  (14, .getfield 58, 3, 12, 27, 2, .null, []),
  (17, .bipush 10, 2, 0, 0, 0, .int 10, []),
  (19, .iaload, 1, 0, 0, 0, .null, []),
  (20, .iload_n 2, 1, 2, 0, 0, .null, []),
  (21, .invokestatic 219, 3, 180, 2, 1, .null, []),
  (24, .ifCond .eq 12, 3, 36, 0, 0, .null, []),
  (27, .aload_n 0, 1, 0, 0, 0, .null, []),
  (28, .iload_n 2, 1, 2, 0, 0, .null, []),
  (29, .iconst 0, 1, 0, 0, 0, .int 0, []),
  (30, .invokevirtual 284, 3, 221, 2, 193, .null, []),
  (33, .goto 4, 3, 37, 0, 0, .null, []),
  (36, .iconst 0, 1, 0, 0, 0, .int 0, []),
  (37, .iadd, 1, 0, 0, 0, .null, []),
  (38, .istore_n 1, 1, 1, 0, 0, .null, []),
  (39, .iinc 2 1, 3, 2, 0, 0, .int 1, []),
  (42, .goto (-38), 3, 4, 0, 0, .null, []),
  (45, .iload_n 1, 1, 1, 0, 0, .null, []),
  (46, .ireturn, 1, 0, 0, 0, .null, [])], [(4, [true, true, true])], 3)
def cd_X12_worthIn : mmP := ([(0, .iconst 0, 1, 0, 0, 0, .int 0, []),
  (1, .istore_n 1, 1, 1, 0, 0, .null, []),
  (2, .iconst 0, 1, 0, 0, 0, .int 0, []),
  (3, .istore_n 2, 1, 2, 0, 0, .null, []),
  (4, .iload_n 2, 1, 2, 0, 0, .null, []),
  (5, .aload_n 0, 1, 0, 0, 0, .null, []),
  (6, .getfield 248, 3, 12, 26, 0, .null, []),
  (9, .if_icmp .ge 36, 3, 45, 0, 0, .null, []),
  (12, .iload_n 1, 1, 1, 0, 0, .null, []),
  (13, .aload_n 0, 1, 0, 0, 0, .null, []),
  (14, .getfield 58, 3, 12, 27, 2, .null, []),
  (17, .bipush 10, 2, 0, 0, 0, .int 10, []),
  (19, .iaload, 1, 0, 0, 0, .null, []),
  (20, .iload_n 2, 1, 2, 0, 0, .null, []),
  (21, .invokestatic 219, 3, 180, 2, 1, .null, []),
  (24, .ifCond .eq 12, 3, 36, 0, 0, .null, []),
  (27, .aload_n 0, 1, 0, 0, 0, .null, []),
  (28, .iload_n 2, 1, 2, 0, 0, .null, []),
  (29, .iconst 1, 1, 0, 0, 0, .int 1, []),
  (30, .invokevirtual 284, 3, 221, 2, 193, .null, []),
  (33, .goto 4, 3, 37, 0, 0, .null, []),
  (36, .iconst 0, 1, 0, 0, 0, .int 0, []),
  (37, .iadd, 1, 0, 0, 0, .null, []),
  (38, .istore_n 1, 1, 1, 0, 0, .null, []),
  (39, .iinc 2 1, 3, 2, 0, 0, .int 1, []),
  (42, .goto (-38), 3, 4, 0, 0, .null, []),
  (45, .iload_n 1, 1, 1, 0, 0, .null, []),
  (46, .ireturn, 1, 0, 0, 0, .null, [])], [(4, [true, true, true])], 3)
def cd_X12_sinks : mmP := ([(0, .iconst 0, 1, 0, 0, 0, .int 0, []),
  (1, .iconst 1, 1, 0, 0, 0, .int 1, []),
  (2, .aload_n 0, 1, 0, 0, 0, .null, []),
  (3, .getfield 49, 3, 12, 22, 2, .null, []),
  (6, .iconst 0, 1, 0, 0, 0, .int 0, []),
  (7, .iaload, 1, 0, 0, 0, .null, []),
  (8, .iconst 3, 1, 0, 0, 0, .int 3, []),
  (9, .idiv, 1, 0, 0, 0, .null, []),
  (10, .iadd, 1, 0, 0, 0, .null, []),
  (11, .aload_n 0, 1, 0, 0, 0, .null, []),
  (12, .invokevirtual 287, 3, 229, 0, 193, .null, []),
  (15, .iconst 4, 1, 0, 0, 0, .int 4, []),
  (16, .idiv, 1, 0, 0, 0, .null, []),
  (17, .iadd, 1, 0, 0, 0, .null, []),
  (18, .aload_n 0, 1, 0, 0, 0, .null, []),
  (19, .getfield 58, 3, 12, 27, 2, .null, []),
  (22, .bipush 11, 2, 0, 0, 0, .int 11, []),
  (24, .iaload, 1, 0, 0, 0, .null, []),
  (25, .isub, 1, 0, 0, 0, .null, []),
  (26, .invokestatic 269, 3, 302, 2, 1, .null, []),
  (29, .ireturn, 1, 0, 0, 0, .null, [])], [], 1)
def cd_X12_mayFall : mmP := ([(0, .aload_n 0, 1, 0, 0, 0, .null, []),
  (1, .getfield 58, 3, 12, 27, 2, .null, []),
  (4, .bipush 8, 2, 0, 0, 0, .int 8, []),
  (6, .iaload, 1, 0, 0, 0, .null, []),
  (7, .ifCond .ne 32, 3, 39, 0, 0, .null, []),
  (10, .aload_n 0, 1, 0, 0, 0, .null, []),
  (11, .getfield 58, 3, 12, 27, 2, .null, []),
  (14, .bipush 10, 2, 0, 0, 0, .int 10, []),
  (16, .iaload, 1, 0, 0, 0, .null, []),
  (17, .ifCond .eq 22, 3, 39, 0, 0, .null, []),
  (20, .aload_n 0, 1, 0, 0, 0, .null, []),
  (21, .getfield 58, 3, 12, 27, 2, .null, []),
  (24, .bipush 10, 2, 0, 0, 0, .int 10, []),
  (26, .iconst 0, 1, 0, 0, 0, .int 0, []),
  (27, .iastore, 1, 0, 0, 0, .null, []),
  (28, .aload_n 0, 1, 0, 0, 0, .null, []),
  (29, .getfield 58, 3, 12, 27, 2, .null, []),
  (32, .bipush 15, 2, 0, 0, 0, .int 15, []),
  (34, .dup2, 1, 0, 0, 0, .null, []),
  (35, .iaload, 1, 0, 0, 0, .null, []),
  (36, .iconst 1, 1, 0, 0, 0, .int 1, []),
  (37, .iadd, 1, 0, 0, 0, .null, []),
  (38, .iastore, 1, 0, 0, 0, .null, []),
  (39, .return_, 1, 0, 0, 0, .null, [])], [], 1)
def cd_X12_doorNow : mmP := ([(0, .aload_n 0, 1, 0, 0, 0, .null, []),
  (1, .getfield 58, 3, 12, 27, 2, .null, []),
  (4, .bipush 8, 2, 0, 0, 0, .int 8, []),
  (6, .dup2, 1, 0, 0, 0, .null, []),
  (7, .iaload, 1, 0, 0, 0, .null, []),
  (8, .iconst 2, 1, 0, 0, 0, .int 2, []),
  (9, .idiv, 1, 0, 0, 0, .null, []),
  (10, .iastore, 1, 0, 0, 0, .null, []),
  (11, .aload_n 0, 1, 0, 0, 0, .null, []),
  (12, .invokevirtual 290, 3, 232, 0, 192, .null, []),
  (15, .return_, 1, 0, 0, 0, .null, [])], [], 1)
def cd_X12_hourNow : mmP := ([(0, .aload_n 0, 1, 0, 0, 0, .null, []),
  (1, .getfield 58, 3, 12, 27, 2, .null, []),
  (4, .bipush 8, 2, 0, 0, 0, .int 8, []),
  (6, .aload_n 0, 1, 0, 0, 0, .null, []),
  (7, .getfield 58, 3, 12, 27, 2, .null, []),
  (10, .bipush 8, 2, 0, 0, 0, .int 8, []),
  (12, .iaload, 1, 0, 0, 0, .null, []),
  (13, .aload_n 0, 1, 0, 0, 0, .null, []),
  (14, .invokevirtual 293, 3, 231, 0, 193, .null, []),
  (17, .isub, 1, 0, 0, 0, .null, []),
  (18, .invokestatic 274, 3, 225, 1, 1, .null, []),
  (21, .iastore, 1, 0, 0, 0, .null, []),
  (22, .aload_n 0, 1, 0, 0, 0, .null, []),
  (23, .invokevirtual 290, 3, 232, 0, 192, .null, []),
  (26, .return_, 1, 0, 0, 0, .null, [])], [], 1)
def cd_X12_canFold : mmP := ([(0, .aload_n 0, 1, 0, 0, 0, .null, []),
  (1, .getfield 58, 3, 12, 27, 2, .null, []),
  (4, .bipush 10, 2, 0, 0, 0, .int 10, []),
  (6, .iaload, 1, 0, 0, 0, .null, []),
  (7, .iload_n 1, 1, 1, 0, 0, .null, []),
  (8, .invokestatic 219, 3, 180, 2, 1, .null, []),
  (11, .ifCond .ne 23, 3, 34, 0, 0, .null, []),
  (14, .aload_n 0, 1, 0, 0, 0, .null, []),
  (15, .getfield 58, 3, 12, 27, 2, .null, []),
  (18, .bipush 8, 2, 0, 0, 0, .int 8, []),
  (20, .iaload, 1, 0, 0, 0, .null, []),
  (21, .aload_n 0, 1, 0, 0, 0, .null, []),
  (22, .iload_n 1, 1, 1, 0, 0, .null, []),
  (23, .iconst 2, 1, 0, 0, 0, .int 2, []),
  (24, .invokevirtual 284, 3, 221, 2, 193, .null, []),
  (27, .if_icmp .lt 7, 3, 34, 0, 0, .null, []),
  (30, .iconst 1, 1, 0, 0, 0, .int 1, []),
  (31, .goto 4, 3, 35, 0, 0, .null, []),
  (34, .iconst 0, 1, 0, 0, 0, .int 0, []),
  (35, .ireturn, 1, 0, 1, 0, .null, [])], [], 2)
def cd_X12_foldNow : mmP := ([(0, .aload_n 0, 1, 0, 0, 0, .null, []),
  (1, .getfield 58, 3, 12, 27, 2, .null, []),
  (4, .bipush 10, 2, 0, 0, 0, .int 10, []),
  (6, .dup2, 1, 0, 0, 0, .null, []),
  (7, .iaload, 1, 0, 0, 0, .null, []),
  (8, .iconst 1, 1, 0, 0, 0, .int 1, []),
  (9, .iload_n 1, 1, 1, 0, 0, .null, []),
  (10, .ishl, 1, 0, 0, 0, .null, []),
  (11, .ior, 1, 0, 0, 0, .null, []),
  (12, .iastore, 1, 0, 0, 0, .null, []),
  (13, .aload_n 0, 1, 0, 0, 0, .null, []),
  (14, .getfield 58, 3, 12, 27, 2, .null, []),
  (17, .bipush 8, 2, 0, 0, 0, .int 8, []),
  (19, .aload_n 0, 1, 0, 0, 0, .null, []),
  (20, .getfield 58, 3, 12, 27, 2, .null, []),
  (23, .bipush 8, 2, 0, 0, 0, .int 8, []),
  (25, .iaload, 1, 0, 0, 0, .null, []),
  (26, .aload_n 0, 1, 0, 0, 0, .null, []),
  (27, .iload_n 1, 1, 1, 0, 0, .null, []),
  (28, .iconst 3, 1, 0, 0, 0, .int 3, []),
  (29, .invokevirtual 284, 3, 221, 2, 193, .null, []),
  (32, .isub, 1, 0, 0, 0, .null, []),
  (33, .invokestatic 274, 3, 225, 1, 1, .null, []),
  (36, .iastore, 1, 0, 0, 0, .null, []),
  (37, .return_, 1, 0, 0, 0, .null, [])], [], 2)
def cd_X12_rule : mmP := ([(0, .aload_n 0, 1, 0, 0, 0, .null, []),
  (1, .getfield 248, 3, 12, 26, 0, .null, []),
  (4, .ifCond .eq 12, 3, 16, 0, 0, .null, []),
  (7, .iload_n 1, 1, 1, 0, 0, .null, []),
  (8, .iconst 0, 1, 0, 0, 0, .int 0, []),
  (9, .iconst 3, 1, 0, 0, 0, .int 3, []),
  (10, .invokestatic 208, 3, 179, 3, 1, .null, []),
  (13, .ifCond .ne 5, 3, 18, 0, 0, .null, []),
  (16, .iconst (-1), 1, 0, 0, 0, .int (-1), []),
  (17, .ireturn, 1, 0, 0, 0, .null, []),
  (18, .iload_n 1, 1, 1, 0, 0, .null, []),
  (19, .iconst 1, 1, 0, 0, 0, .int 1, []),
  (20, .if_icmp .ne 13, 3, 33, 0, 0, .null, []),
  (23, .aload_n 0, 1, 0, 0, 0, .null, []),
  (24, .getfield 58, 3, 12, 27, 2, .null, []),
  (27, .bipush 12, 2, 0, 0, 0, .int 12, []),
  (29, .iaload, 1, 0, 0, 0, .null, []),
  (30, .goto 24, 3, 54, 0, 0, .null, []),
  (33, .iload_n 1, 1, 1, 0, 0, .null, []),
  (34, .iconst 3, 1, 0, 0, 0, .int 3, []),
  (35, .if_icmp .ne 13, 3, 48, 0, 0, .null, []),
  (38, .aload_n 0, 1, 0, 0, 0, .null, []),
  (39, .getfield 58, 3, 12, 27, 2, .null, []),
  (42, .bipush 13, 2, 0, 0, 0, .int 13, []),
  (44, .iaload, 1, 0, 0, 0, .null, []),
  (45, .goto 9, 3, 54, 0, 0, .null, []),
  (48, .aload_n 0, 1, 0, 0, 0, .null, []),
  (49, .getfield 49, 3, 12, 22, 2, .null, []),
  (52, .iload_n 1, 1, 1, 0, 0, .null, []),
  (53, .iaload, 1, 0, 0, 0, .null, []),
  (54, .ireturn, 1, 0, 0, 0, .null, [])], [], 2)
def cd_X12_cook : mmP := ([(0, .aload_n 0, 1, 0, 0, 0, .null, []),
  (1, .iload_n 1, 1, 1, 0, 0, .null, []),
  (2, .invokevirtual 296, 3, 222, 1, 193, .null, []),
  (5, .ifCond .eq 12, 3, 17, 0, 0, .null, []),
  (8, .iload_n 2, 1, 2, 0, 0, .null, []),
  (9, .iconst 0, 1, 0, 0, 0, .int 0, []),
  (10, .iconst 2, 1, 0, 0, 0, .int 2, []),
  (11, .invokestatic 208, 3, 179, 3, 1, .null, []),
  (14, .ifCond .ne 5, 3, 19, 0, 0, .null, []),
  (17, .iconst (-1), 1, 0, 0, 0, .int (-1), []),
  (18, .ireturn, 1, 0, 0, 0, .null, []),
  (19, .iload_n 2, 1, 2, 0, 0, .null, []),
  (20, .ifCond .ne 14, 3, 34, 0, 0, .null, []),
  (23, .aload_n 0, 1, 0, 0, 0, .null, []),
  (24, .getfield 58, 3, 12, 27, 2, .null, []),
  (27, .iconst 0, 1, 0, 0, 0, .int 0, []),
  (28, .iload_n 1, 1, 1, 0, 0, .null, []),
  (29, .iadd, 1, 0, 0, 0, .null, []),
  (30, .iaload, 1, 0, 0, 0, .null, []),
  (31, .goto 29, 3, 60, 0, 0, .null, []),
  (34, .iload_n 2, 1, 2, 0, 0, .null, []),
  (35, .iconst 1, 1, 0, 0, 0, .int 1, []),
  (36, .if_icmp .ne 16, 3, 52, 0, 0, .null, []),
  (39, .aload_n 0, 1, 0, 0, 0, .null, []),
  (40, .getfield 52, 3, 12, 23, 2, .null, []),
  (43, .iconst 2, 1, 0, 0, 0, .int 2, []),
  (44, .iload_n 1, 1, 1, 0, 0, .null, []),
  (45, .imul, 1, 0, 0, 0, .null, []),
  (46, .iconst 1, 1, 0, 0, 0, .int 1, []),
  (47, .iadd, 1, 0, 0, 0, .null, []),
  (48, .iaload, 1, 0, 0, 0, .null, []),
  (49, .goto 11, 3, 60, 0, 0, .null, []),
  (52, .aload_n 0, 1, 0, 0, 0, .null, []),
  (53, .getfield 58, 3, 12, 27, 2, .null, []),
  (56, .iconst 4, 1, 0, 0, 0, .int 4, []),
  (57, .iload_n 1, 1, 1, 0, 0, .null, []),
  (58, .iadd, 1, 0, 0, 0, .null, []),
  (59, .iaload, 1, 0, 0, 0, .null, []),
  (60, .ireturn, 1, 0, 0, 0, .null, [])], [], 3)
def cd_X12_minister : mmP := ([(0, .aload_n 0, 1, 0, 0, 0, .null, []),
  (1, .aload_n 0, 1, 0, 0, 0, .null, []),
  (2, .iload_n 1, 1, 1, 0, 0, .null, []),
  (3, .invokevirtual 299, 3, 223, 1, 193, .null, []),
  (6, .ifCond .eq 16, 3, 22, 0, 0, .null, []),
  (9, .iload_n 2, 1, 2, 0, 0, .null, []),
  (10, .iconst 0, 1, 0, 0, 0, .int 0, []),
  (11, .iconst 4, 1, 0, 0, 0, .int 4, []),
  (12, .invokestatic 208, 3, 179, 3, 1, .null, []),
  (15, .ifCond .eq 7, 3, 22, 0, 0, .null, []),
  (18, .iconst 0, 1, 0, 0, 0, .int 0, []),
  (19, .goto 4, 3, 23, 0, 0, .null, []),
  (22, .iconst 1, 1, 0, 0, 0, .int 1, []),
  (23, .putfield 93, 3, 12, 0, 0, .null, []),
  (26, .aload_n 0, 1, 0, 0, 0, .null, []),
  (27, .getfield 93, 3, 12, 0, 0, .null, []),
  (30, .iconst 1, 1, 0, 0, 0, .int 1, []),
  (31, .if_icmp .ne 5, 3, 36, 0, 0, .null, []),
  (34, .iconst 0, 1, 0, 0, 0, .int 0, []),
  (35, .ireturn, 1, 0, 0, 0, .null, []),
  (36, .iload_n 2, 1, 2, 0, 0, .null, []),
  (37, .iconst 4, 1, 0, 0, 0, .int 4, []),
  (38, .if_icmp .ge 12, 3, 50, 0, 0, .null, []),
  (41, .aload_n 0, 1, 0, 0, 0, .null, []),
  (42, .iload_n 1, 1, 1, 0, 0, .null, []),
  (43, .iload_n 2, 1, 2, 0, 0, .null, []),
  (44, .invokevirtual 284, 3, 221, 2, 193, .null, []),
  (47, .goto 14, 3, 61, 0, 0, .null, []),
  (50, .aload_n 0, 1, 0, 0, 0, .null, []),
  (51, .getfield 58, 3, 12, 27, 2, .null, []),
  (54, .bipush 10, 2, 0, 0, 0, .int 10, []),
  (56, .iaload, 1, 0, 0, 0, .null, []),
  (57, .iload_n 1, 1, 1, 0, 0, .null, []),
  (58, .ishr, 1, 0, 0, 0, .null, []),
  (59, .iconst 1, 1, 0, 0, 0, .int 1, []),
  (60, .iand, 1, 0, 0, 0, .null, []),
  (61, .ireturn, 1, 0, 0, 0, .null, [])], [], 3)
def cd_X12_law : mmP := ([(0, .iload_n 1, 1, 1, 0, 0, .null, []),
  (1, .iconst (-1), 1, 0, 0, 0, .int (-1), []),
  (2, .aload_n 0, 1, 0, 0, 0, .null, []),
  (3, .getfield 264, 3, 12, 13, 0, .null, []),
  (6, .iconst 1, 1, 0, 0, 0, .int 1, []),
  (7, .isub, 1, 0, 0, 0, .null, []),
  (8, .invokestatic 208, 3, 179, 3, 1, .null, []),
  (11, .ifCond .ne 5, 3, 16, 0, 0, .null, []),
  (14, .iconst 0, 1, 0, 0, 0, .int 0, []),
  (15, .ireturn, 1, 0, 1, 0, .null, []),
  (16, .aload_n 0, 1, 0, 0, 0, .null, []),
  (17, .iload_n 1, 1, 1, 0, 0, .null, []),
  (18, .putfield 64, 3, 12, 29, 0, .null, []),
  (21, .iconst 1, 1, 0, 0, 0, .int 1, []),
  (22, .ireturn, 1, 0, 1, 0, .null, [])], [], 2)
def cd_X12_keep : mmP := ([(0, .aload_n 0, 1, 0, 0, 0, .null, []),
  (1, .getfield 254, 3, 12, 32, 0, .null, []),
  (4, .bipush 40, 2, 0, 0, 0, .int 40, []),
  (6, .if_icmp .ne 46, 3, 52, 0, 0, .null, []),
  (9, .sipush 198, 3, 0, 0, 0, .int 198, []),
  (12, .istore_n 1, 1, 1, 0, 0, .null, []),
  (13, .iload_n 1, 1, 1, 0, 0, .null, []),
  (14, .sipush 7920, 3, 0, 0, 0, .int 7920, []),
  (17, .if_icmp .ge 25, 3, 42, 0, 0, .null, []),
  (20, .aload_n 0, 1, 0, 0, 0, .null, []),
  (21, .getfield 71, 3, 12, 31, 2, .null, []),
  (24, .iload_n 1, 1, 1, 0, 0, .null, []),
  (25, .sipush 198, 3, 0, 0, 0, .int 198, []),
  (28, .isub, 1, 0, 0, 0, .null, []),
  (29, .aload_n 0, 1, 0, 0, 0, .null, []),
  (30, .getfield 71, 3, 12, 31, 2, .null, []),
  (33, .iload_n 1, 1, 1, 0, 0, .null, []),
  (34, .iaload, 1, 0, 0, 0, .null, []),
  (35, .iastore, 1, 0, 0, 0, .null, []),
  (36, .iinc 1 1, 3, 1, 0, 0, .int 1, []),
  (39, .goto (-26), 3, 13, 0, 0, .null, []),
  (42, .aload_n 0, 1, 0, 0, 0, .null, []),
  (43, .dup, 1, 0, 0, 0, .null, []),
  (44, .getfield 254, 3, 12, 32, 0, .null, []),
  (47, .iconst 1, 1, 0, 0, 0, .int 1, []),
  (48, .isub, 1, 0, 0, 0, .null, []),
  (49, .putfield 254, 3, 12, 32, 0, .null, []),
  (52, .iconst 0, 1, 0, 0, 0, .int 0, []),
  (53, .istore_n 1, 1, 1, 0, 0, .null, []),
  (54, .iload_n 1, 1, 1, 0, 0, .null, []),
  (55, .sipush 198, 3, 0, 0, 0, .int 198, []),
  (58, .if_icmp .ge 30, 3, 88, 0, 0, .null, []),
  (61, .aload_n 0, 1, 0, 0, 0, .null, []),
  (62, .getfield 71, 3, 12, 31, 2, .null, []),
  (65, .sipush 198, 3, 0, 0, 0, .int 198, []),
  (68, .aload_n 0, 1, 0, 0, 0, .null, []),
  (69, .getfield 254, 3, 12, 32, 0, .null, []),
  (72, .imul, 1, 0, 0, 0, .null, []),
  (73, .iload_n 1, 1, 1, 0, 0, .null, []),
  (74, .iadd, 1, 0, 0, 0, .null, []),
  (75, .aload_n 0, 1, 0, 0, 0, .null, []),
  (76, .getfield 58, 3, 12, 27, 2, .null, []),
  (79, .iload_n 1, 1, 1, 0, 0, .null, []),
  (80, .iaload, 1, 0, 0, 0, .null, []),
  (81, .iastore, 1, 0, 0, 0, .null, []),
  (82, .iinc 1 1, 3, 1, 0, 0, .int 1, []),
  (85, .goto (-31), 3, 54, 0, 0, .null, []),
  (88, .aload_n 0, 1, 0, 0, 0, .null, []),
  (89, .dup, 1, 0, 0, 0, .null, []),
  (90, .getfield 254, 3, 12, 32, 0, .null, []),
  (93, .iconst 1, 1, 0, 0, 0, .int 1, []),
  (94, .iadd, 1, 0, 0, 0, .null, []),
  (95, .putfield 254, 3, 12, 32, 0, .null, []),
  (98, .return_, 1, 0, 0, 0, .null, [])], [(13, [true, true]), (54, [true, true])], 2)
def cd_X12_isRefused : mmP := ([(0, .iload_n 1, 1, 1, 0, 0, .null, []),
  (1, .iconst (-1), 1, 0, 0, 0, .int (-1), []),
  (2, .if_icmp .eq 13, 3, 15, 0, 0, .null, []),
  (5, .aload_n 0, 1, 0, 0, 0, .null, []),
  (6, .getfield 61, 3, 12, 28, 2, .null, []),
  (9, .iload_n 1, 1, 1, 0, 0, .null, []),
  (10, .dup2, 1, 0, 0, 0, .null, []),
  (11, .iaload, 1, 0, 0, 0, .null, []),
  (12, .iconst 1, 1, 0, 0, 0, .int 1, []),
  (13, .iadd, 1, 0, 0, 0, .null, []),
  (14, .iastore, 1, 0, 0, 0, .null, []),
  (15, .iload_n 1, 1, 1, 0, 0, .null, []),
  (16, .iconst (-1), 1, 0, 0, 0, .int (-1), []),
  (17, .if_icmp .eq 7, 3, 24, 0, 0, .null, []),
  (20, .iconst 1, 1, 0, 0, 0, .int 1, []),
  (21, .goto 4, 3, 25, 0, 0, .null, []),
  (24, .iconst 0, 1, 0, 0, 0, .int 0, []),
  (25, .ireturn, 1, 0, 1, 0, .null, [])], [], 2)
def cd_X12_strokes : mmP := ([(0, .aload_n 0, 1, 0, 0, 0, .null, []),
  (1, .aload_n 0, 1, 0, 0, 0, .null, []),
  (2, .iload_n 1, 1, 1, 0, 0, .null, []),
  (3, .invokevirtual 296, 3, 222, 1, 193, .null, []),
  (6, .ifCond .ne 7, 3, 13, 0, 0, .null, []),
  (9, .iconst 0, 1, 0, 0, 0, .int 0, []),
  (10, .goto 31, 3, 41, 0, 0, .null, []),
  (13, .iload_n 2, 1, 2, 0, 0, .null, []),
  (14, .iconst 1, 1, 0, 0, 0, .int 1, []),
  (15, .bipush 40, 2, 0, 0, 0, .int 40, []),
  (17, .invokestatic 208, 3, 179, 3, 1, .null, []),
  (20, .ifCond .ne 7, 3, 27, 0, 0, .null, []),
  (23, .iconst 1, 1, 0, 0, 0, .int 1, []),
  (24, .goto 17, 3, 41, 0, 0, .null, []),
  (27, .iload_n 2, 1, 2, 0, 0, .null, []),
  (28, .aload_n 0, 1, 0, 0, 0, .null, []),
  (29, .iload_n 1, 1, 1, 0, 0, .null, []),
  (30, .invokevirtual 302, 3, 224, 1, 193, .null, []),
  (33, .if_icmp .le 7, 3, 40, 0, 0, .null, []),
  (36, .iconst 3, 1, 0, 0, 0, .int 3, []),
  (37, .goto 4, 3, 41, 0, 0, .null, []),
  (40, .iconst (-1), 1, 0, 0, 0, .int (-1), []),
  (41, .invokevirtual 305, 3, 242, 1, 193, .null, []),
  (44, .ifCond .eq 5, 3, 49, 0, 0, .null, []),
  (47, .iconst (-1), 1, 0, 0, 0, .int (-1), []),
  (48, .ireturn, 1, 0, 0, 0, .null, []),
  (49, .aload_n 0, 1, 0, 0, 0, .null, []),
  (50, .invokevirtual 308, 3, 241, 0, 192, .null, []),
  (53, .aload_n 0, 1, 0, 0, 0, .null, []),
  (54, .iload_n 1, 1, 1, 0, 0, .null, []),
  (55, .iload_n 2, 1, 2, 0, 0, .null, []),
  (56, .invokevirtual 311, 3, 228, 2, 192, .null, []),
  (59, .aload_n 0, 1, 0, 0, 0, .null, []),
  (60, .getfield 58, 3, 12, 27, 2, .null, []),
  (63, .bipush 8, 2, 0, 0, 0, .int 8, []),
  (65, .iaload, 1, 0, 0, 0, .null, []),
  (66, .ireturn, 1, 0, 0, 0, .null, [])], [], 3)
def cd_X12_fold : mmP := ([(0, .aload_n 0, 1, 0, 0, 0, .null, []),
  (1, .aload_n 0, 1, 0, 0, 0, .null, []),
  (2, .iload_n 1, 1, 1, 0, 0, .null, []),
  (3, .invokevirtual 299, 3, 223, 1, 193, .null, []),
  (6, .ifCond .ne 7, 3, 13, 0, 0, .null, []),
  (9, .iconst 0, 1, 0, 0, 0, .int 0, []),
  (10, .goto 34, 3, 44, 0, 0, .null, []),
  (13, .aload_n 0, 1, 0, 0, 0, .null, []),
  (14, .getfield 58, 3, 12, 27, 2, .null, []),
  (17, .bipush 10, 2, 0, 0, 0, .int 10, []),
  (19, .iaload, 1, 0, 0, 0, .null, []),
  (20, .iload_n 1, 1, 1, 0, 0, .null, []),
  (21, .invokestatic 219, 3, 180, 2, 1, .null, []),
  (24, .ifCond .eq 7, 3, 31, 0, 0, .null, []),
  (27, .iconst 2, 1, 0, 0, 0, .int 2, []),
  (28, .goto 16, 3, 44, 0, 0, .null, []),
  (31, .aload_n 0, 1, 0, 0, 0, .null, []),
  (32, .iload_n 1, 1, 1, 0, 0, .null, []),
  (33, .invokevirtual 314, 3, 235, 1, 193, .null, []),
  (36, .ifCond .ne 7, 3, 43, 0, 0, .null, []),
  (39, .iconst 3, 1, 0, 0, 0, .int 3, []),
  (40, .goto 4, 3, 44, 0, 0, .null, []),
  (43, .iconst (-1), 1, 0, 0, 0, .int (-1), []),
  (44, .invokevirtual 305, 3, 242, 1, 193, .null, []),
  (47, .ifCond .eq 5, 3, 52, 0, 0, .null, []),
  (50, .iconst (-1), 1, 0, 0, 0, .int (-1), []),
  (51, .ireturn, 1, 0, 0, 0, .null, []),
  (52, .aload_n 0, 1, 0, 0, 0, .null, []),
  (53, .invokevirtual 308, 3, 241, 0, 192, .null, []),
  (56, .aload_n 0, 1, 0, 0, 0, .null, []),
  (57, .iload_n 1, 1, 1, 0, 0, .null, []),
  (58, .invokevirtual 317, 3, 236, 1, 192, .null, []),
  (61, .aload_n 0, 1, 0, 0, 0, .null, []),
  (62, .getfield 58, 3, 12, 27, 2, .null, []),
  (65, .bipush 8, 2, 0, 0, 0, .int 8, []),
  (67, .iaload, 1, 0, 0, 0, .null, []),
  (68, .ireturn, 1, 0, 0, 0, .null, [])], [], 2)
def cd_X12_sugar : mmP := ([(0, .aload_n 0, 1, 0, 0, 0, .null, []),
  (1, .aload_n 0, 1, 0, 0, 0, .null, []),
  (2, .getfield 248, 3, 12, 26, 0, .null, []),
  (5, .ifCond .ne 7, 3, 12, 0, 0, .null, []),
  (8, .iconst 0, 1, 0, 0, 0, .int 0, []),
  (9, .goto 35, 3, 44, 0, 0, .null, []),
  (12, .aload_n 0, 1, 0, 0, 0, .null, []),
  (13, .getfield 58, 3, 12, 27, 2, .null, []),
  (16, .bipush 11, 2, 0, 0, 0, .int 11, []),
  (18, .iaload, 1, 0, 0, 0, .null, []),
  (19, .bipush 9, 2, 0, 0, 0, .int 9, []),
  (21, .if_icmp .ne 7, 3, 28, 0, 0, .null, []),
  (24, .iconst 2, 1, 0, 0, 0, .int 2, []),
  (25, .goto 19, 3, 44, 0, 0, .null, []),
  (28, .aload_n 0, 1, 0, 0, 0, .null, []),
  (29, .getfield 58, 3, 12, 27, 2, .null, []),
  (32, .bipush 13, 2, 0, 0, 0, .int 13, []),
  (34, .iaload, 1, 0, 0, 0, .null, []),
  (35, .iconst 2, 1, 0, 0, 0, .int 2, []),
  (36, .if_icmp .ge 7, 3, 43, 0, 0, .null, []),
  (39, .iconst 3, 1, 0, 0, 0, .int 3, []),
  (40, .goto 4, 3, 44, 0, 0, .null, []),
  (43, .iconst (-1), 1, 0, 0, 0, .int (-1), []),
  (44, .invokevirtual 305, 3, 242, 1, 193, .null, []),
  (47, .ifCond .eq 5, 3, 52, 0, 0, .null, []),
  (50, .iconst (-1), 1, 0, 0, 0, .int (-1), []),
  (51, .ireturn, 1, 0, 0, 0, .null, []),
  (52, .aload_n 0, 1, 0, 0, 0, .null, []),
  (53, .invokevirtual 308, 3, 241, 0, 192, .null, []),
  (56, .aload_n 0, 1, 0, 0, 0, .null, []),
  (57, .getfield 58, 3, 12, 27, 2, .null, []),
  (60, .bipush 11, 2, 0, 0, 0, .int 11, []),
  (62, .dup2, 1, 0, 0, 0, .null, []),
  (63, .iaload, 1, 0, 0, 0, .null, []),
  (64, .iconst 1, 1, 0, 0, 0, .int 1, []),
  (65, .iadd, 1, 0, 0, 0, .null, []),
  (66, .iastore, 1, 0, 0, 0, .null, []),
  (67, .aload_n 0, 1, 0, 0, 0, .null, []),
  (68, .getfield 58, 3, 12, 27, 2, .null, []),
  (71, .bipush 13, 2, 0, 0, 0, .int 13, []),
  (73, .dup2, 1, 0, 0, 0, .null, []),
  (74, .iaload, 1, 0, 0, 0, .null, []),
  (75, .iconst 2, 1, 0, 0, 0, .int 2, []),
  (76, .isub, 1, 0, 0, 0, .null, []),
  (77, .iastore, 1, 0, 0, 0, .null, []),
  (78, .aload_n 0, 1, 0, 0, 0, .null, []),
  (79, .getfield 58, 3, 12, 27, 2, .null, []),
  (82, .bipush 11, 2, 0, 0, 0, .int 11, []),
  (84, .iaload, 1, 0, 0, 0, .null, []),
  (85, .ireturn, 1, 0, 0, 0, .null, [])], [], 1)
def cd_X12_door : mmP := ([(0, .aload_n 0, 1, 0, 0, 0, .null, []),
  (1, .aload_n 0, 1, 0, 0, 0, .null, []),
  (2, .getfield 248, 3, 12, 26, 0, .null, []),
  (5, .ifCond .ne 7, 3, 12, 0, 0, .null, []),
  (8, .iconst 0, 1, 0, 0, 0, .int 0, []),
  (9, .goto 4, 3, 13, 0, 0, .null, []),
  (12, .iconst (-1), 1, 0, 0, 0, .int (-1), []),
  (13, .invokevirtual 305, 3, 242, 1, 193, .null, []),
  (16, .ifCond .eq 5, 3, 21, 0, 0, .null, []),
  (19, .iconst (-1), 1, 0, 0, 0, .int (-1), []),
  (20, .ireturn, 1, 0, 0, 0, .null, []),
  (21, .aload_n 0, 1, 0, 0, 0, .null, []),
  (22, .invokevirtual 308, 3, 241, 0, 192, .null, []),
  (25, .aload_n 0, 1, 0, 0, 0, .null, []),
  (26, .invokevirtual 320, 3, 233, 0, 192, .null, []),
  (29, .aload_n 0, 1, 0, 0, 0, .null, []),
  (30, .getfield 58, 3, 12, 27, 2, .null, []),
  (33, .bipush 8, 2, 0, 0, 0, .int 8, []),
  (35, .iaload, 1, 0, 0, 0, .null, []),
  (36, .ireturn, 1, 0, 0, 0, .null, [])], [], 1)
def cd_X12_hours : mmP := ([(0, .aload_n 0, 1, 0, 0, 0, .null, []),
  (1, .aload_n 0, 1, 0, 0, 0, .null, []),
  (2, .getfield 248, 3, 12, 26, 0, .null, []),
  (5, .ifCond .ne 7, 3, 12, 0, 0, .null, []),
  (8, .iconst 0, 1, 0, 0, 0, .int 0, []),
  (9, .goto 18, 3, 27, 0, 0, .null, []),
  (12, .iload_n 1, 1, 1, 0, 0, .null, []),
  (13, .iconst 1, 1, 0, 0, 0, .int 1, []),
  (14, .bipush 20, 2, 0, 0, 0, .int 20, []),
  (16, .invokestatic 208, 3, 179, 3, 1, .null, []),
  (19, .ifCond .ne 7, 3, 26, 0, 0, .null, []),
  (22, .iconst 1, 1, 0, 0, 0, .int 1, []),
  (23, .goto 4, 3, 27, 0, 0, .null, []),
  (26, .iconst (-1), 1, 0, 0, 0, .int (-1), []),
  (27, .invokevirtual 305, 3, 242, 1, 193, .null, []),
  (30, .ifCond .eq 5, 3, 35, 0, 0, .null, []),
  (33, .iconst (-1), 1, 0, 0, 0, .int (-1), []),
  (34, .ireturn, 1, 0, 0, 0, .null, []),
  (35, .iconst 0, 1, 0, 0, 0, .int 0, []),
  (36, .istore_n 2, 1, 2, 0, 0, .null, []),
  (37, .iload_n 2, 1, 2, 0, 0, .null, []),
  (38, .iload_n 1, 1, 1, 0, 0, .null, []),
  (39, .if_icmp .ge 17, 3, 56, 0, 0, .null, []),
  (42, .aload_n 0, 1, 0, 0, 0, .null, []),
  (43, .invokevirtual 308, 3, 241, 0, 192, .null, []),
  (46, .aload_n 0, 1, 0, 0, 0, .null, []),
  (47, .invokevirtual 323, 3, 234, 0, 192, .null, []),
  (50, .iinc 2 1, 3, 2, 0, 0, .int 1, []),
  (53, .goto (-16), 3, 37, 0, 0, .null, []),
  (56, .aload_n 0, 1, 0, 0, 0, .null, []),
  (57, .getfield 58, 3, 12, 27, 2, .null, []),
  (60, .bipush 8, 2, 0, 0, 0, .int 8, []),
  (62, .iaload, 1, 0, 0, 0, .null, []),
  (63, .ireturn, 1, 0, 0, 0, .null, [])], [(37, [true, true, true])], 3)
def cd_X12_practise : mmP := ([(0, .aload_n 0, 1, 0, 0, 0, .null, []),
  (1, .aload_n 0, 1, 0, 0, 0, .null, []),
  (2, .iload_n 1, 1, 1, 0, 0, .null, []),
  (3, .invokevirtual 296, 3, 222, 1, 193, .null, []),
  (6, .ifCond .ne 7, 3, 13, 0, 0, .null, []),
  (9, .iconst 0, 1, 0, 0, 0, .int 0, []),
  (10, .goto 36, 3, 46, 0, 0, .null, []),
  (13, .aload_n 0, 1, 0, 0, 0, .null, []),
  (14, .getfield 58, 3, 12, 27, 2, .null, []),
  (17, .iconst 0, 1, 0, 0, 0, .int 0, []),
  (18, .iload_n 1, 1, 1, 0, 0, .null, []),
  (19, .iadd, 1, 0, 0, 0, .null, []),
  (20, .iaload, 1, 0, 0, 0, .null, []),
  (21, .bipush 9, 2, 0, 0, 0, .int 9, []),
  (23, .if_icmp .ne 7, 3, 30, 0, 0, .null, []),
  (26, .iconst 2, 1, 0, 0, 0, .int 2, []),
  (27, .goto 19, 3, 46, 0, 0, .null, []),
  (30, .aload_n 0, 1, 0, 0, 0, .null, []),
  (31, .getfield 58, 3, 12, 27, 2, .null, []),
  (34, .bipush 13, 2, 0, 0, 0, .int 13, []),
  (36, .iaload, 1, 0, 0, 0, .null, []),
  (37, .iconst 4, 1, 0, 0, 0, .int 4, []),
  (38, .if_icmp .ge 7, 3, 45, 0, 0, .null, []),
  (41, .iconst 3, 1, 0, 0, 0, .int 3, []),
  (42, .goto 4, 3, 46, 0, 0, .null, []),
  (45, .iconst (-1), 1, 0, 0, 0, .int (-1), []),
  (46, .invokevirtual 305, 3, 242, 1, 193, .null, []),
  (49, .ifCond .eq 5, 3, 54, 0, 0, .null, []),
  (52, .iconst (-1), 1, 0, 0, 0, .int (-1), []),
  (53, .ireturn, 1, 0, 0, 0, .null, []),
  (54, .aload_n 0, 1, 0, 0, 0, .null, []),
  (55, .invokevirtual 308, 3, 241, 0, 192, .null, []),
  (58, .aload_n 0, 1, 0, 0, 0, .null, []),
  (59, .getfield 58, 3, 12, 27, 2, .null, []),
  (62, .iconst 0, 1, 0, 0, 0, .int 0, []),
  (63, .iload_n 1, 1, 1, 0, 0, .null, []),
  (64, .iadd, 1, 0, 0, 0, .null, []),
  (65, .dup2, 1, 0, 0, 0, .null, []),
  (66, .iaload, 1, 0, 0, 0, .null, []),
  (67, .iconst 1, 1, 0, 0, 0, .int 1, []),
  (68, .iadd, 1, 0, 0, 0, .null, []),
  (69, .iastore, 1, 0, 0, 0, .null, []),
  (70, .aload_n 0, 1, 0, 0, 0, .null, []),
  (71, .getfield 58, 3, 12, 27, 2, .null, []),
  (74, .bipush 13, 2, 0, 0, 0, .int 13, []),
  (76, .dup2, 1, 0, 0, 0, .null, []),
  (77, .iaload, 1, 0, 0, 0, .null, []),
  (78, .iconst 4, 1, 0, 0, 0, .int 4, []),
  (79, .isub, 1, 0, 0, 0, .null, []),
  (80, .iastore, 1, 0, 0, 0, .null, []),
  (81, .aload_n 0, 1, 0, 0, 0, .null, []),
  (82, .getfield 58, 3, 12, 27, 2, .null, []),
  (85, .iconst 0, 1, 0, 0, 0, .int 0, []),
  (86, .iload_n 1, 1, 1, 0, 0, .null, []),
  (87, .iadd, 1, 0, 0, 0, .null, []),
  (88, .iaload, 1, 0, 0, 0, .null, []),
  (89, .ireturn, 1, 0, 0, 0, .null, [])], [], 2)
def cd_X12_yolk : mmP := ([(0, .aload_n 0, 1, 0, 0, 0, .null, []),
  (1, .aload_n 0, 1, 0, 0, 0, .null, []),
  (2, .getfield 248, 3, 12, 26, 0, .null, []),
  (5, .ifCond .ne 7, 3, 12, 0, 0, .null, []),
  (8, .iconst 0, 1, 0, 0, 0, .int 0, []),
  (9, .goto 33, 3, 42, 0, 0, .null, []),
  (12, .aload_n 0, 1, 0, 0, 0, .null, []),
  (13, .getfield 58, 3, 12, 27, 2, .null, []),
  (16, .bipush 12, 2, 0, 0, 0, .int 12, []),
  (18, .iaload, 1, 0, 0, 0, .null, []),
  (19, .ifCond .ne 7, 3, 26, 0, 0, .null, []),
  (22, .iconst 2, 1, 0, 0, 0, .int 2, []),
  (23, .goto 19, 3, 42, 0, 0, .null, []),
  (26, .aload_n 0, 1, 0, 0, 0, .null, []),
  (27, .getfield 58, 3, 12, 27, 2, .null, []),
  (30, .bipush 13, 2, 0, 0, 0, .int 13, []),
  (32, .iaload, 1, 0, 0, 0, .null, []),
  (33, .iconst 3, 1, 0, 0, 0, .int 3, []),
  (34, .if_icmp .ge 7, 3, 41, 0, 0, .null, []),
  (37, .iconst 3, 1, 0, 0, 0, .int 3, []),
  (38, .goto 4, 3, 42, 0, 0, .null, []),
  (41, .iconst (-1), 1, 0, 0, 0, .int (-1), []),
  (42, .invokevirtual 305, 3, 242, 1, 193, .null, []),
  (45, .ifCond .eq 5, 3, 50, 0, 0, .null, []),
  (48, .iconst (-1), 1, 0, 0, 0, .int (-1), []),
  (49, .ireturn, 1, 0, 0, 0, .null, []),
  (50, .aload_n 0, 1, 0, 0, 0, .null, []),
  (51, .invokevirtual 308, 3, 241, 0, 192, .null, []),
  (54, .aload_n 0, 1, 0, 0, 0, .null, []),
  (55, .getfield 58, 3, 12, 27, 2, .null, []),
  (58, .bipush 12, 2, 0, 0, 0, .int 12, []),
  (60, .dup2, 1, 0, 0, 0, .null, []),
  (61, .iaload, 1, 0, 0, 0, .null, []),
  (62, .iconst 1, 1, 0, 0, 0, .int 1, []),
  (63, .isub, 1, 0, 0, 0, .null, []),
  (64, .iastore, 1, 0, 0, 0, .null, []),
  (65, .aload_n 0, 1, 0, 0, 0, .null, []),
  (66, .getfield 58, 3, 12, 27, 2, .null, []),
  (69, .bipush 13, 2, 0, 0, 0, .int 13, []),
  (71, .dup2, 1, 0, 0, 0, .null, []),
  (72, .iaload, 1, 0, 0, 0, .null, []),
  (73, .iconst 3, 1, 0, 0, 0, .int 3, []),
  (74, .isub, 1, 0, 0, 0, .null, []),
  (75, .iastore, 1, 0, 0, 0, .null, []),
  (76, .aload_n 0, 1, 0, 0, 0, .null, []),
  (77, .getfield 58, 3, 12, 27, 2, .null, []),
  (80, .bipush 12, 2, 0, 0, 0, .int 12, []),
  (82, .iaload, 1, 0, 0, 0, .null, []),
  (83, .ireturn, 1, 0, 0, 0, .null, [])], [], 1)
def cd_X12_give : mmP := ([(0, .aload_n 0, 1, 0, 0, 0, .null, []),
  (1, .aload_n 0, 1, 0, 0, 0, .null, []),
  (2, .getfield 248, 3, 12, 26, 0, .null, []),
  (5, .ifCond .ne 7, 3, 12, 0, 0, .null, []),
  (8, .iconst 0, 1, 0, 0, 0, .int 0, []),
  (9, .goto 33, 3, 42, 0, 0, .null, []),
  (12, .iload_n 1, 1, 1, 0, 0, .null, []),
  (13, .iconst 1, 1, 0, 0, 0, .int 1, []),
  (14, .bipush 50, 2, 0, 0, 0, .int 50, []),
  (16, .invokestatic 208, 3, 179, 3, 1, .null, []),
  (19, .ifCond .eq 18, 3, 37, 0, 0, .null, []),
  (22, .aload_n 0, 1, 0, 0, 0, .null, []),
  (23, .getfield 58, 3, 12, 27, 2, .null, []),
  (26, .bipush 13, 2, 0, 0, 0, .int 13, []),
  (28, .iaload, 1, 0, 0, 0, .null, []),
  (29, .iload_n 1, 1, 1, 0, 0, .null, []),
  (30, .iadd, 1, 0, 0, 0, .null, []),
  (31, .sipush 999, 3, 0, 0, 0, .int 999, []),
  (34, .if_icmp .le 7, 3, 41, 0, 0, .null, []),
  (37, .iconst 1, 1, 0, 0, 0, .int 1, []),
  (38, .goto 4, 3, 42, 0, 0, .null, []),
  (41, .iconst (-1), 1, 0, 0, 0, .int (-1), []),
  (42, .invokevirtual 305, 3, 242, 1, 193, .null, []),
  (45, .ifCond .eq 5, 3, 50, 0, 0, .null, []),
  (48, .iconst (-1), 1, 0, 0, 0, .int (-1), []),
  (49, .ireturn, 1, 0, 0, 0, .null, []),
  (50, .aload_n 0, 1, 0, 0, 0, .null, []),
  (51, .invokevirtual 308, 3, 241, 0, 192, .null, []),
  (54, .aload_n 0, 1, 0, 0, 0, .null, []),
  (55, .getfield 58, 3, 12, 27, 2, .null, []),
  (58, .bipush 13, 2, 0, 0, 0, .int 13, []),
  (60, .dup2, 1, 0, 0, 0, .null, []),
  (61, .iaload, 1, 0, 0, 0, .null, []),
  (62, .iload_n 1, 1, 1, 0, 0, .null, []),
  (63, .iadd, 1, 0, 0, 0, .null, []),
  (64, .iastore, 1, 0, 0, 0, .null, []),
  (65, .aload_n 0, 1, 0, 0, 0, .null, []),
  (66, .getfield 58, 3, 12, 27, 2, .null, []),
  (69, .bipush 13, 2, 0, 0, 0, .int 13, []),
  (71, .iaload, 1, 0, 0, 0, .null, []),
  (72, .ireturn, 1, 0, 0, 0, .null, [])], [], 2)
def cd_X12_passDay : mmP := ([(0, .aload_n 0, 1, 0, 0, 0, .null, []),
  (1, .getfield 58, 3, 12, 27, 2, .null, []),
  (4, .bipush 14, 2, 0, 0, 0, .int 14, []),
  (6, .sipush 9999, 3, 0, 0, 0, .int 9999, []),
  (9, .aload_n 0, 1, 0, 0, 0, .null, []),
  (10, .getfield 58, 3, 12, 27, 2, .null, []),
  (13, .bipush 14, 2, 0, 0, 0, .int 14, []),
  (15, .iaload, 1, 0, 0, 0, .null, []),
  (16, .aload_n 0, 1, 0, 0, 0, .null, []),
  (17, .invokevirtual 326, 3, 230, 0, 193, .null, []),
  (20, .iadd, 1, 0, 0, 0, .null, []),
  (21, .invokestatic 267, 3, 304, 2, 1, .null, []),
  (24, .iastore, 1, 0, 0, 0, .null, []),
  (25, .aload_n 0, 1, 0, 0, 0, .null, []),
  (26, .getfield 58, 3, 12, 27, 2, .null, []),
  (29, .bipush 13, 2, 0, 0, 0, .int 13, []),
  (31, .sipush 999, 3, 0, 0, 0, .int 999, []),
  (34, .aload_n 0, 1, 0, 0, 0, .null, []),
  (35, .getfield 58, 3, 12, 27, 2, .null, []),
  (38, .bipush 13, 2, 0, 0, 0, .int 13, []),
  (40, .iaload, 1, 0, 0, 0, .null, []),
  (41, .iconst 2, 1, 0, 0, 0, .int 2, []),
  (42, .iadd, 1, 0, 0, 0, .null, []),
  (43, .invokestatic 267, 3, 304, 2, 1, .null, []),
  (46, .iastore, 1, 0, 0, 0, .null, []),
  (47, .aload_n 0, 1, 0, 0, 0, .null, []),
  (48, .getfield 58, 3, 12, 27, 2, .null, []),
  (51, .bipush 17, 2, 0, 0, 0, .int 17, []),
  (53, .iaload, 1, 0, 0, 0, .null, []),
  (54, .bipush 60, 2, 0, 0, 0, .int 60, []),
  (56, .if_icmp .ne 49, 3, 105, 0, 0, .null, []),
  (59, .iconst 3, 1, 0, 0, 0, .int 3, []),
  (60, .istore_n 1, 1, 1, 0, 0, .null, []),
  (61, .iload_n 1, 1, 1, 0, 0, .null, []),
  (62, .sipush 180, 3, 0, 0, 0, .int 180, []),
  (65, .if_icmp .ge 29, 3, 94, 0, 0, .null, []),
  (68, .aload_n 0, 1, 0, 0, 0, .null, []),
  (69, .getfield 58, 3, 12, 27, 2, .null, []),
  (72, .bipush 18, 2, 0, 0, 0, .int 18, []),
  (74, .iload_n 1, 1, 1, 0, 0, .null, []),
  (75, .iadd, 1, 0, 0, 0, .null, []),
  (76, .iconst 3, 1, 0, 0, 0, .int 3, []),
  (77, .isub, 1, 0, 0, 0, .null, []),
  (78, .aload_n 0, 1, 0, 0, 0, .null, []),
  (79, .getfield 58, 3, 12, 27, 2, .null, []),
  (82, .bipush 18, 2, 0, 0, 0, .int 18, []),
  (84, .iload_n 1, 1, 1, 0, 0, .null, []),
  (85, .iadd, 1, 0, 0, 0, .null, []),
  (86, .iaload, 1, 0, 0, 0, .null, []),
  (87, .iastore, 1, 0, 0, 0, .null, []),
  (88, .iinc 1 1, 3, 1, 0, 0, .int 1, []),
  (91, .goto (-30), 3, 61, 0, 0, .null, []),
  (94, .aload_n 0, 1, 0, 0, 0, .null, []),
  (95, .getfield 58, 3, 12, 27, 2, .null, []),
  (98, .bipush 17, 2, 0, 0, 0, .int 17, []),
  (100, .dup2, 1, 0, 0, 0, .null, []),
  (101, .iaload, 1, 0, 0, 0, .null, []),
  (102, .iconst 1, 1, 0, 0, 0, .int 1, []),
  (103, .isub, 1, 0, 0, 0, .null, []),
  (104, .iastore, 1, 0, 0, 0, .null, []),
  (105, .bipush 18, 2, 0, 0, 0, .int 18, []),
  (107, .iconst 3, 1, 0, 0, 0, .int 3, []),
  (108, .aload_n 0, 1, 0, 0, 0, .null, []),
  (109, .getfield 58, 3, 12, 27, 2, .null, []),
  (112, .bipush 17, 2, 0, 0, 0, .int 17, []),
  (114, .iaload, 1, 0, 0, 0, .null, []),
  (115, .imul, 1, 0, 0, 0, .null, []),
  (116, .iadd, 1, 0, 0, 0, .null, []),
  (117, .istore_n 1, 1, 1, 0, 0, .null, []),
  (118, .aload_n 0, 1, 0, 0, 0, .null, []),
  (119, .getfield 58, 3, 12, 27, 2, .null, []),
  (122, .iload_n 1, 1, 1, 0, 0, .null, []),
  (123, .aload_n 0, 1, 0, 0, 0, .null, []),
  (124, .getfield 58, 3, 12, 27, 2, .null, []),
  (127, .bipush 8, 2, 0, 0, 0, .int 8, []),
  (129, .iaload, 1, 0, 0, 0, .null, []),
  (130, .iastore, 1, 0, 0, 0, .null, []),
  (131, .aload_n 0, 1, 0, 0, 0, .null, []),
  (132, .getfield 58, 3, 12, 27, 2, .null, []),
  (135, .iload_n 1, 1, 1, 0, 0, .null, []),
  (136, .iconst 1, 1, 0, 0, 0, .int 1, []),
  (137, .iadd, 1, 0, 0, 0, .null, []),
  (138, .aload_n 0, 1, 0, 0, 0, .null, []),
  (139, .getfield 58, 3, 12, 27, 2, .null, []),
  (142, .bipush 10, 2, 0, 0, 0, .int 10, []),
  (144, .iaload, 1, 0, 0, 0, .null, []),
  (145, .iastore, 1, 0, 0, 0, .null, []),
  (146, .aload_n 0, 1, 0, 0, 0, .null, []),
  (147, .getfield 58, 3, 12, 27, 2, .null, []),
  (150, .iload_n 1, 1, 1, 0, 0, .null, []),
  (151, .iconst 2, 1, 0, 0, 0, .int 2, []),
  (152, .iadd, 1, 0, 0, 0, .null, []),
  (153, .aload_n 0, 1, 0, 0, 0, .null, []),
  (154, .getfield 58, 3, 12, 27, 2, .null, []),
  (157, .bipush 9, 2, 0, 0, 0, .int 9, []),
  (159, .iaload, 1, 0, 0, 0, .null, []),
  (160, .iastore, 1, 0, 0, 0, .null, []),
  (161, .aload_n 0, 1, 0, 0, 0, .null, []),
  (162, .getfield 58, 3, 12, 27, 2, .null, []),
  (165, .bipush 17, 2, 0, 0, 0, .int 17, []),
  (167, .dup2, 1, 0, 0, 0, .null, []),
  (168, .iaload, 1, 0, 0, 0, .null, []),
  (169, .iconst 1, 1, 0, 0, 0, .int 1, []),
  (170, .iadd, 1, 0, 0, 0, .null, []),
  (171, .iastore, 1, 0, 0, 0, .null, []),
  (172, .aload_n 0, 1, 0, 0, 0, .null, []),
  (173, .getfield 58, 3, 12, 27, 2, .null, []),
  (176, .bipush 8, 2, 0, 0, 0, .int 8, []),
  (178, .iconst 0, 1, 0, 0, 0, .int 0, []),
  (179, .iastore, 1, 0, 0, 0, .null, []),
  (180, .aload_n 0, 1, 0, 0, 0, .null, []),
  (181, .getfield 58, 3, 12, 27, 2, .null, []),
  (184, .bipush 9, 2, 0, 0, 0, .int 9, []),
  (186, .iconst 0, 1, 0, 0, 0, .int 0, []),
  (187, .iastore, 1, 0, 0, 0, .null, []),
  (188, .aload_n 0, 1, 0, 0, 0, .null, []),
  (189, .getfield 58, 3, 12, 27, 2, .null, []),
  (192, .bipush 10, 2, 0, 0, 0, .int 10, []),
  (194, .iconst 0, 1, 0, 0, 0, .int 0, []),
  (195, .iastore, 1, 0, 0, 0, .null, []),
  (196, .aload_n 0, 1, 0, 0, 0, .null, []),
  (197, .getfield 58, 3, 12, 27, 2, .null, []),
  (200, .bipush 11, 2, 0, 0, 0, .int 11, []),
  (202, .iconst 0, 1, 0, 0, 0, .int 0, []),
  (203, .iastore, 1, 0, 0, 0, .null, []),
  (204, .iconst 0, 1, 0, 0, 0, .int 0, []),
  (205, .istore_n 2, 1, 2, 0, 0, .null, []),
  (206, .iload_n 2, 1, 2, 0, 0, .null, []),
  (207, .aload_n 0, 1, 0, 0, 0, .null, []),
  (208, .getfield 245, 3, 12, 25, 0, .null, []),
  (211, .if_icmp .ge 18, 3, 229, 0, 0, .null, []),
  (214, .aload_n 0, 1, 0, 0, 0, .null, []),
  (215, .getfield 58, 3, 12, 27, 2, .null, []),
  (218, .iconst 4, 1, 0, 0, 0, .int 4, []),
  (219, .iload_n 2, 1, 2, 0, 0, .null, []),
  (220, .iadd, 1, 0, 0, 0, .null, []),
  (221, .iconst 0, 1, 0, 0, 0, .int 0, []),
  (222, .iastore, 1, 0, 0, 0, .null, []),
  (223, .iinc 2 1, 3, 2, 0, 0, .int 1, []),
  (226, .goto (-20), 3, 206, 0, 0, .null, []),
  (229, .aload_n 0, 1, 0, 0, 0, .null, []),
  (230, .getfield 58, 3, 12, 27, 2, .null, []),
  (233, .bipush 16, 2, 0, 0, 0, .int 16, []),
  (235, .dup2, 1, 0, 0, 0, .null, []),
  (236, .iaload, 1, 0, 0, 0, .null, []),
  (237, .iconst 1, 1, 0, 0, 0, .int 1, []),
  (238, .iadd, 1, 0, 0, 0, .null, []),
  (239, .iastore, 1, 0, 0, 0, .null, []),
  (240, .return_, 1, 0, 0, 0, .null, [])], [(61, [true, true, false]), (206, [true, false, true])], 3)
def cd_X12_areDays : mmP := ([(0, .iload_n 1, 1, 1, 0, 0, .null, []),
  (1, .iconst 1, 1, 0, 0, 0, .int 1, []),
  (2, .bipush 60, 2, 0, 0, 0, .int 60, []),
  (4, .invokestatic 208, 3, 179, 3, 1, .null, []),
  (7, .ifCond .eq 22, 3, 29, 0, 0, .null, []),
  (10, .aload_n 0, 1, 0, 0, 0, .null, []),
  (11, .getfield 58, 3, 12, 27, 2, .null, []),
  (14, .bipush 16, 2, 0, 0, 0, .int 16, []),
  (16, .iaload, 1, 0, 0, 0, .null, []),
  (17, .iload_n 1, 1, 1, 0, 0, .null, []),
  (18, .iadd, 1, 0, 0, 0, .null, []),
  (19, .sipush 999, 3, 0, 0, 0, .int 999, []),
  (22, .if_icmp .gt 7, 3, 29, 0, 0, .null, []),
  (25, .iconst 1, 1, 0, 0, 0, .int 1, []),
  (26, .goto 4, 3, 30, 0, 0, .null, []),
  (29, .iconst 0, 1, 0, 0, 0, .int 0, []),
  (30, .ireturn, 1, 0, 1, 0, .null, [])], [], 2)
def cd_X12_days : mmP := ([(0, .aload_n 0, 1, 0, 0, 0, .null, []),
  (1, .aload_n 0, 1, 0, 0, 0, .null, []),
  (2, .getfield 248, 3, 12, 26, 0, .null, []),
  (5, .ifCond .ne 7, 3, 12, 0, 0, .null, []),
  (8, .iconst 0, 1, 0, 0, 0, .int 0, []),
  (9, .goto 30, 3, 39, 0, 0, .null, []),
  (12, .iload_n 1, 1, 1, 0, 0, .null, []),
  (13, .iconst 1, 1, 0, 0, 0, .int 1, []),
  (14, .bipush 60, 2, 0, 0, 0, .int 60, []),
  (16, .invokestatic 208, 3, 179, 3, 1, .null, []),
  (19, .ifCond .ne 7, 3, 26, 0, 0, .null, []),
  (22, .iconst 1, 1, 0, 0, 0, .int 1, []),
  (23, .goto 16, 3, 39, 0, 0, .null, []),
  (26, .aload_n 0, 1, 0, 0, 0, .null, []),
  (27, .iload_n 1, 1, 1, 0, 0, .null, []),
  (28, .invokevirtual 329, 3, 252, 1, 193, .null, []),
  (31, .ifCond .ne 7, 3, 38, 0, 0, .null, []),
  (34, .iconst 4, 1, 0, 0, 0, .int 4, []),
  (35, .goto 4, 3, 39, 0, 0, .null, []),
  (38, .iconst (-1), 1, 0, 0, 0, .int (-1), []),
  (39, .invokevirtual 305, 3, 242, 1, 193, .null, []),
  (42, .ifCond .eq 5, 3, 47, 0, 0, .null, []),
  (45, .iconst (-1), 1, 0, 0, 0, .int (-1), []),
  (46, .ireturn, 1, 0, 0, 0, .null, []),
  (47, .iconst 0, 1, 0, 0, 0, .int 0, []),
  (48, .istore_n 2, 1, 2, 0, 0, .null, []),
  (49, .iload_n 2, 1, 2, 0, 0, .null, []),
  (50, .iload_n 1, 1, 1, 0, 0, .null, []),
  (51, .if_icmp .ge 17, 3, 68, 0, 0, .null, []),
  (54, .aload_n 0, 1, 0, 0, 0, .null, []),
  (55, .invokevirtual 308, 3, 241, 0, 192, .null, []),
  (58, .aload_n 0, 1, 0, 0, 0, .null, []),
  (59, .invokevirtual 332, 3, 251, 0, 192, .null, []),
  (62, .iinc 2 1, 3, 2, 0, 0, .int 1, []),
  (65, .goto (-16), 3, 49, 0, 0, .null, []),
  (68, .aload_n 0, 1, 0, 0, 0, .null, []),
  (69, .getfield 58, 3, 12, 27, 2, .null, []),
  (72, .bipush 16, 2, 0, 0, 0, .int 16, []),
  (74, .iaload, 1, 0, 0, 0, .null, []),
  (75, .ireturn, 1, 0, 0, 0, .null, [])], [(49, [true, true, true])], 3)
def cd_X12_draught : mmP := ([(0, .iload_n 1, 1, 1, 0, 0, .null, []),
  (1, .iconst 0, 1, 0, 0, 0, .int 0, []),
  (2, .bipush 9, 2, 0, 0, 0, .int 9, []),
  (4, .invokestatic 208, 3, 179, 3, 1, .null, []),
  (7, .ifCond .eq 11, 3, 18, 0, 0, .null, []),
  (10, .iload_n 1, 1, 1, 0, 0, .null, []),
  (11, .aload_n 0, 1, 0, 0, 0, .null, []),
  (12, .getfield 68, 3, 12, 30, 0, .null, []),
  (15, .if_icmp .ne 5, 3, 20, 0, 0, .null, []),
  (18, .iconst 0, 1, 0, 0, 0, .int 0, []),
  (19, .ireturn, 1, 0, 1, 0, .null, []),
  (20, .aload_n 0, 1, 0, 0, 0, .null, []),
  (21, .iload_n 1, 1, 1, 0, 0, .null, []),
  (22, .putfield 68, 3, 12, 30, 0, .null, []),
  (25, .iconst 1, 1, 0, 0, 0, .int 1, []),
  (26, .ireturn, 1, 0, 1, 0, .null, [])], [], 2)
def cd_X12_draw : mmP := ([(0, .aload_n 0, 1, 0, 0, 0, .null, []),
  (1, .aload_n 0, 1, 0, 0, 0, .null, []),
  (2, .getfield 335, 3, 12, 33, 1, .null, []),
  (5, .ldc2_w 339, 3, 0, 0, 0, .long 6364136223846793005, []),
  (8, .lmul, 1, 0, 0, 0, .null, []),
  (9, .ldc2_w 341, 3, 0, 0, 0, .long 1442695040888963407, []),
  (12, .ladd, 1, 0, 0, 0, .null, []),
  (13, .putfield 335, 3, 12, 33, 1, .null, []),
  (16, .aload_n 0, 1, 0, 0, 0, .null, []),
  (17, .getfield 335, 3, 12, 33, 1, .null, []),
  (20, .bipush 33, 2, 0, 0, 0, .int 33, []),
  (22, .lushr, 1, 0, 0, 0, .null, []),
  (23, .iload_n 1, 1, 1, 0, 0, .null, []),
  (24, .i2l, 1, 0, 0, 0, .null, []),
  (25, .lrem, 1, 0, 0, 0, .null, []),
  (26, .l2i, 1, 0, 0, 0, .null, []),
  (27, .ireturn, 1, 0, 0, 0, .null, [])], [], 2)
def cd_X12_drawDay : mmP := ([(0, .aload_n 0, 1, 0, 0, 0, .null, []),
  (1, .aload_n 0, 1, 0, 0, 0, .null, []),
  (2, .getfield 245, 3, 12, 25, 0, .null, []),
  (5, .invokevirtual 343, 3, 255, 1, 193, .null, []),
  (8, .istore_n 1, 1, 1, 0, 0, .null, []),
  (9, .aload_n 0, 1, 0, 0, 0, .null, []),
  (10, .bipush 10, 2, 0, 0, 0, .int 10, []),
  (12, .invokevirtual 343, 3, 255, 1, 193, .null, []),
  (15, .iconst 5, 1, 0, 0, 0, .int 5, []),
  (16, .iadd, 1, 0, 0, 0, .null, []),
  (17, .istore_n 2, 1, 2, 0, 0, .null, []),
  (18, .aload_n 0, 1, 0, 0, 0, .null, []),
  (19, .iload_n 1, 1, 1, 0, 0, .null, []),
  (20, .iload_n 2, 1, 2, 0, 0, .null, []),
  (21, .aload_n 0, 1, 0, 0, 0, .null, []),
  (22, .iload_n 1, 1, 1, 0, 0, .null, []),
  (23, .invokevirtual 302, 3, 224, 1, 193, .null, []),
  (26, .invokestatic 267, 3, 304, 2, 1, .null, []),
  (29, .invokevirtual 311, 3, 228, 2, 192, .null, []),
  (32, .iconst 0, 1, 0, 0, 0, .int 0, []),
  (33, .istore_n 3, 1, 3, 0, 0, .null, []),
  (34, .iload_n 3, 1, 3, 0, 0, .null, []),
  (35, .aload_n 0, 1, 0, 0, 0, .null, []),
  (36, .getfield 248, 3, 12, 26, 0, .null, []),
  (39, .if_icmp .ge 34, 3, 73, 0, 0, .null, []),
  (42, .aload_n 0, 1, 0, 0, 0, .null, []),
  (43, .aload_n 0, 1, 0, 0, 0, .null, []),
  (44, .getfield 248, 3, 12, 26, 0, .null, []),
  (47, .invokevirtual 343, 3, 255, 1, 193, .null, []),
  (50, .istore 4, 2, 4, 0, 0, .null, []),
  (52, .aload_n 0, 1, 0, 0, 0, .null, []),
  (53, .iload 4, 2, 4, 0, 0, .null, []),
  (55, .invokevirtual 314, 3, 235, 1, 193, .null, []),
  (58, .ifCond .eq 9, 3, 67, 0, 0, .null, []),
  (61, .aload_n 0, 1, 0, 0, 0, .null, []),
  (62, .iload 4, 2, 4, 0, 0, .null, []),
  (64, .invokevirtual 317, 3, 236, 1, 192, .null, []),
  (67, .iinc 3 1, 3, 3, 0, 0, .int 1, []),
  (70, .goto (-36), 3, 34, 0, 0, .null, []),
  (73, .aload_n 0, 1, 0, 0, 0, .null, []),
  (74, .bipush 10, 2, 0, 0, 0, .int 10, []),
  (76, .invokevirtual 343, 3, 255, 1, 193, .null, []),
  (79, .aload_n 0, 1, 0, 0, 0, .null, []),
  (80, .getfield 68, 3, 12, 30, 0, .null, []),
  (83, .if_icmp .ge 7, 3, 90, 0, 0, .null, []),
  (86, .aload_n 0, 1, 0, 0, 0, .null, []),
  (87, .invokevirtual 320, 3, 233, 0, 192, .null, []),
  (90, .return_, 1, 0, 0, 0, .null, [])], [(34, [true, false, false, true, false])], 5)
def cd_X12_years : mmP := ([(0, .aload_n 0, 1, 0, 0, 0, .null, []),
  (1, .getfield 248, 3, 12, 26, 0, .null, []),
  (4, .ifCond .eq 11, 3, 15, 0, 0, .null, []),
  (7, .aload_n 0, 1, 0, 0, 0, .null, []),
  (8, .iload_n 1, 1, 1, 0, 0, .null, []),
  (9, .invokevirtual 329, 3, 252, 1, 193, .null, []),
  (12, .ifCond .ne 5, 3, 17, 0, 0, .null, []),
  (15, .iconst (-1), 1, 0, 0, 0, .int (-1), []),
  (16, .ireturn, 1, 0, 0, 0, .null, []),
  (17, .aload_n 0, 1, 0, 0, 0, .null, []),
  (18, .lload_n 2, 1, 2, 0, 0, .null, []),
  (19, .putfield 335, 3, 12, 33, 1, .null, []),
  (22, .iconst 0, 1, 0, 0, 0, .int 0, []),
  (23, .istore 4, 2, 4, 0, 0, .null, []),
  (25, .iload 4, 2, 4, 0, 0, .null, []),
  (27, .iload_n 1, 1, 1, 0, 0, .null, []),
  (28, .if_icmp .ge 21, 3, 49, 0, 0, .null, []),
  (31, .aload_n 0, 1, 0, 0, 0, .null, []),
  (32, .invokevirtual 308, 3, 241, 0, 192, .null, []),
  (35, .aload_n 0, 1, 0, 0, 0, .null, []),
  (36, .invokevirtual 346, 3, 256, 0, 192, .null, []),
  (39, .aload_n 0, 1, 0, 0, 0, .null, []),
  (40, .invokevirtual 332, 3, 251, 0, 192, .null, []),
  (43, .iinc 4 1, 3, 4, 0, 0, .int 1, []),
  (46, .goto (-21), 3, 25, 0, 0, .null, []),
  (49, .aload_n 0, 1, 0, 0, 0, .null, []),
  (50, .getfield 58, 3, 12, 27, 2, .null, []),
  (53, .bipush 16, 2, 0, 0, 0, .int 16, []),
  (55, .iaload, 1, 0, 0, 0, .null, []),
  (56, .ireturn, 1, 0, 0, 0, .null, [])], [(25, [true, true, false, false, true])], 5)
def cd_X12_status : mmP := ([(0, .iload_n 1, 1, 1, 0, 0, .null, []),
  (1, .iconst 0, 1, 0, 0, 0, .int 0, []),
  (2, .iconst 4, 1, 0, 0, 0, .int 4, []),
  (3, .invokestatic 208, 3, 179, 3, 1, .null, []),
  (6, .ifCond .eq 12, 3, 18, 0, 0, .null, []),
  (9, .aload_n 0, 1, 0, 0, 0, .null, []),
  (10, .getfield 61, 3, 12, 28, 2, .null, []),
  (13, .iload_n 1, 1, 1, 0, 0, .null, []),
  (14, .iaload, 1, 0, 0, 0, .null, []),
  (15, .goto 4, 3, 19, 0, 0, .null, []),
  (18, .iconst (-1), 1, 0, 0, 0, .int (-1), []),
  (19, .ireturn, 1, 0, 0, 0, .null, [])], [], 2)
def cd_X12_undo : mmP := ([(0, .aload_n 0, 1, 0, 0, 0, .null, []),
  (1, .getfield 254, 3, 12, 32, 0, .null, []),
  (4, .ifCond .ne 5, 3, 9, 0, 0, .null, []),
  (7, .iconst (-1), 1, 0, 0, 0, .int (-1), []),
  (8, .ireturn, 1, 0, 0, 0, .null, []),
  (9, .aload_n 0, 1, 0, 0, 0, .null, []),
  (10, .dup, 1, 0, 0, 0, .null, []),
  (11, .getfield 254, 3, 12, 32, 0, .null, []),
  (14, .iconst 1, 1, 0, 0, 0, .int 1, []),
  (15, .isub, 1, 0, 0, 0, .null, []),
  (16, .putfield 254, 3, 12, 32, 0, .null, []),
  (19, .iconst 0, 1, 0, 0, 0, .int 0, []),
  (20, .istore_n 1, 1, 1, 0, 0, .null, []),
  (21, .iload_n 1, 1, 1, 0, 0, .null, []),
  (22, .sipush 198, 3, 0, 0, 0, .int 198, []),
  (25, .if_icmp .ge 30, 3, 55, 0, 0, .null, []),
  (28, .aload_n 0, 1, 0, 0, 0, .null, []),
  (29, .getfield 58, 3, 12, 27, 2, .null, []),
  (32, .iload_n 1, 1, 1, 0, 0, .null, []),
  (33, .aload_n 0, 1, 0, 0, 0, .null, []),
  (34, .getfield 71, 3, 12, 31, 2, .null, []),
  (37, .sipush 198, 3, 0, 0, 0, .int 198, []),
  (40, .aload_n 0, 1, 0, 0, 0, .null, []),
  (41, .getfield 254, 3, 12, 32, 0, .null, []),
  (44, .imul, 1, 0, 0, 0, .null, []),
  (45, .iload_n 1, 1, 1, 0, 0, .null, []),
  (46, .iadd, 1, 0, 0, 0, .null, []),
  (47, .iaload, 1, 0, 0, 0, .null, []),
  (48, .iastore, 1, 0, 0, 0, .null, []),
  (49, .iinc 1 1, 3, 1, 0, 0, .int 1, []),
  (52, .goto (-31), 3, 21, 0, 0, .null, []),
  (55, .aload_n 0, 1, 0, 0, 0, .null, []),
  (56, .getfield 254, 3, 12, 32, 0, .null, []),
  (59, .ireturn, 1, 0, 0, 0, .null, [])], [(21, [true, true])], 2)
def cd_X12_log : mmP := ([(0, .iload_n 1, 1, 1, 0, 0, .null, []),
  (1, .iconst 0, 1, 0, 0, 0, .int 0, []),
  (2, .aload_n 0, 1, 0, 0, 0, .null, []),
  (3, .getfield 58, 3, 12, 27, 2, .null, []),
  (6, .bipush 17, 2, 0, 0, 0, .int 17, []),
  (8, .iaload, 1, 0, 0, 0, .null, []),
  (9, .iconst 1, 1, 0, 0, 0, .int 1, []),
  (10, .isub, 1, 0, 0, 0, .null, []),
  (11, .invokestatic 208, 3, 179, 3, 1, .null, []),
  (14, .ifCond .eq 38, 3, 52, 0, 0, .null, []),
  (17, .iload_n 2, 1, 2, 0, 0, .null, []),
  (18, .iconst 0, 1, 0, 0, 0, .int 0, []),
  (19, .iconst 2, 1, 0, 0, 0, .int 2, []),
  (20, .invokestatic 208, 3, 179, 3, 1, .null, []),
  (23, .ifCond .eq 29, 3, 52, 0, 0, .null, []),
  (26, .aload_n 0, 1, 0, 0, 0, .null, []),
  (27, .getfield 58, 3, 12, 27, 2, .null, []),
  (30, .bipush 18, 2, 0, 0, 0, .int 18, []),
  (32, .iconst 3, 1, 0, 0, 0, .int 3, []),
  (33, .aload_n 0, 1, 0, 0, 0, .null, []),
  (34, .getfield 58, 3, 12, 27, 2, .null, []),
  (37, .bipush 17, 2, 0, 0, 0, .int 17, []),
  (39, .iaload, 1, 0, 0, 0, .null, []),
  (40, .iconst 1, 1, 0, 0, 0, .int 1, []),
  (41, .isub, 1, 0, 0, 0, .null, []),
  (42, .iload_n 1, 1, 1, 0, 0, .null, []),
  (43, .isub, 1, 0, 0, 0, .null, []),
  (44, .imul, 1, 0, 0, 0, .null, []),
  (45, .iadd, 1, 0, 0, 0, .null, []),
  (46, .iload_n 2, 1, 2, 0, 0, .null, []),
  (47, .iadd, 1, 0, 0, 0, .null, []),
  (48, .iaload, 1, 0, 0, 0, .null, []),
  (49, .goto 4, 3, 53, 0, 0, .null, []),
  (52, .iconst (-1), 1, 0, 0, 0, .int (-1), []),
  (53, .ireturn, 1, 0, 0, 0, .null, [])], [], 3)
def cd_X12_putAside : mmP := ([(0, .iconst 0, 1, 0, 0, 0, .int 0, []),
  (1, .istore_n 2, 1, 2, 0, 0, .null, []),
  (2, .iload_n 2, 1, 2, 0, 0, .null, []),
  (3, .bipush 17, 2, 0, 0, 0, .int 17, []),
  (5, .if_icmp .ge 26, 3, 31, 0, 0, .null, []),
  (8, .aload_n 0, 1, 0, 0, 0, .null, []),
  (9, .getfield 74, 3, 12, 34, 2, .null, []),
  (12, .bipush 17, 2, 0, 0, 0, .int 17, []),
  (14, .iload_n 1, 1, 1, 0, 0, .null, []),
  (15, .imul, 1, 0, 0, 0, .null, []),
  (16, .iload_n 2, 1, 2, 0, 0, .null, []),
  (17, .iadd, 1, 0, 0, 0, .null, []),
  (18, .aload_n 0, 1, 0, 0, 0, .null, []),
  (19, .getfield 58, 3, 12, 27, 2, .null, []),
  (22, .iload_n 2, 1, 2, 0, 0, .null, []),
  (23, .iaload, 1, 0, 0, 0, .null, []),
  (24, .iastore, 1, 0, 0, 0, .null, []),
  (25, .iinc 2 1, 3, 2, 0, 0, .int 1, []),
  (28, .goto (-26), 3, 2, 0, 0, .null, []),
  (31, .return_, 1, 0, 0, 0, .null, [])], [(2, [true, true, true])], 3)
def cd_X12_takeBack : mmP := ([(0, .iconst 0, 1, 0, 0, 0, .int 0, []),
  (1, .istore_n 2, 1, 2, 0, 0, .null, []),
  (2, .iload_n 2, 1, 2, 0, 0, .null, []),
  (3, .bipush 17, 2, 0, 0, 0, .int 17, []),
  (5, .if_icmp .ge 26, 3, 31, 0, 0, .null, []),
  (8, .aload_n 0, 1, 0, 0, 0, .null, []),
  (9, .getfield 58, 3, 12, 27, 2, .null, []),
  (12, .iload_n 2, 1, 2, 0, 0, .null, []),
  (13, .aload_n 0, 1, 0, 0, 0, .null, []),
  (14, .getfield 74, 3, 12, 34, 2, .null, []),
  (17, .bipush 17, 2, 0, 0, 0, .int 17, []),
  (19, .iload_n 1, 1, 1, 0, 0, .null, []),
  (20, .imul, 1, 0, 0, 0, .null, []),
  (21, .iload_n 2, 1, 2, 0, 0, .null, []),
  (22, .iadd, 1, 0, 0, 0, .null, []),
  (23, .iaload, 1, 0, 0, 0, .null, []),
  (24, .iastore, 1, 0, 0, 0, .null, []),
  (25, .iinc 2 1, 3, 2, 0, 0, .int 1, []),
  (28, .goto (-26), 3, 2, 0, 0, .null, []),
  (31, .return_, 1, 0, 0, 0, .null, [])], [(2, [true, true, true])], 3)
def cd_X12_standsBehind : mmP := ([(0, .aload_n 0, 1, 0, 0, 0, .null, []),
  (1, .iconst 0, 1, 0, 0, 0, .int 0, []),
  (2, .invokevirtual 349, 3, 261, 1, 192, .null, []),
  (5, .aload_n 0, 1, 0, 0, 0, .null, []),
  (6, .iload_n 1, 1, 1, 0, 0, .null, []),
  (7, .iload_n 2, 1, 2, 0, 0, .null, []),
  (8, .aload_n 0, 1, 0, 0, 0, .null, []),
  (9, .iload_n 1, 1, 1, 0, 0, .null, []),
  (10, .invokevirtual 302, 3, 224, 1, 193, .null, []),
  (13, .invokestatic 267, 3, 304, 2, 1, .null, []),
  (16, .invokevirtual 311, 3, 228, 2, 192, .null, []),
  (19, .aload_n 0, 1, 0, 0, 0, .null, []),
  (20, .getfield 58, 3, 12, 27, 2, .null, []),
  (23, .bipush 8, 2, 0, 0, 0, .int 8, []),
  (25, .iaload, 1, 0, 0, 0, .null, []),
  (26, .istore_n 3, 1, 3, 0, 0, .null, []),
  (27, .aload_n 0, 1, 0, 0, 0, .null, []),
  (28, .iconst 0, 1, 0, 0, 0, .int 0, []),
  (29, .invokevirtual 352, 3, 262, 1, 192, .null, []),
  (32, .iload_n 3, 1, 3, 0, 0, .null, []),
  (33, .ireturn, 1, 0, 0, 0, .null, [])], [], 4)
def cd_X12_behind : mmP := ([(0, .aload_n 0, 1, 0, 0, 0, .null, []),
  (1, .iload_n 1, 1, 1, 0, 0, .null, []),
  (2, .invokevirtual 296, 3, 222, 1, 193, .null, []),
  (5, .ifCond .eq 22, 3, 27, 0, 0, .null, []),
  (8, .iload_n 2, 1, 2, 0, 0, .null, []),
  (9, .iconst 0, 1, 0, 0, 0, .int 0, []),
  (10, .bipush 40, 2, 0, 0, 0, .int 40, []),
  (12, .invokestatic 208, 3, 179, 3, 1, .null, []),
  (15, .ifCond .eq 12, 3, 27, 0, 0, .null, []),
  (18, .aload_n 0, 1, 0, 0, 0, .null, []),
  (19, .iload_n 1, 1, 1, 0, 0, .null, []),
  (20, .iload_n 2, 1, 2, 0, 0, .null, []),
  (21, .invokevirtual 355, 3, 263, 2, 193, .null, []),
  (24, .goto 4, 3, 28, 0, 0, .null, []),
  (27, .iconst (-1), 1, 0, 0, 0, .int (-1), []),
  (28, .ireturn, 1, 0, 0, 0, .null, [])], [], 3)
def cd_X12_soonestOf : mmP := ([(0, .iconst 0, 1, 0, 0, 0, .int 0, []),
  (1, .istore_n 3, 1, 3, 0, 0, .null, []),
  (2, .iload_n 3, 1, 3, 0, 0, .null, []),
  (3, .aload_n 0, 1, 0, 0, 0, .null, []),
  (4, .iload_n 1, 1, 1, 0, 0, .null, []),
  (5, .invokevirtual 302, 3, 224, 1, 193, .null, []),
  (8, .if_icmp .gt 21, 3, 29, 0, 0, .null, []),
  (11, .aload_n 0, 1, 0, 0, 0, .null, []),
  (12, .iload_n 1, 1, 1, 0, 0, .null, []),
  (13, .iload_n 3, 1, 3, 0, 0, .null, []),
  (14, .invokevirtual 355, 3, 263, 2, 193, .null, []),
  (17, .iload_n 2, 1, 2, 0, 0, .null, []),
  (18, .if_icmp .lt 5, 3, 23, 0, 0, .null, []),
  (21, .iload_n 3, 1, 3, 0, 0, .null, []),
  (22, .ireturn, 1, 0, 0, 0, .null, []),
  (23, .iinc 3 1, 3, 3, 0, 0, .int 1, []),
  (26, .goto (-24), 3, 2, 0, 0, .null, []),
  (29, .iconst (-1), 1, 0, 0, 0, .int (-1), []),
  (30, .ireturn, 1, 0, 0, 0, .null, [])], [(2, [true, true, true, true])], 4)
def cd_X12_soonest : mmP := ([(0, .aload_n 0, 1, 0, 0, 0, .null, []),
  (1, .iload_n 1, 1, 1, 0, 0, .null, []),
  (2, .invokevirtual 296, 3, 222, 1, 193, .null, []),
  (5, .ifCond .eq 22, 3, 27, 0, 0, .null, []),
  (8, .iload_n 2, 1, 2, 0, 0, .null, []),
  (9, .iconst 0, 1, 0, 0, 0, .int 0, []),
  (10, .bipush 99, 2, 0, 0, 0, .int 99, []),
  (12, .invokestatic 208, 3, 179, 3, 1, .null, []),
  (15, .ifCond .eq 12, 3, 27, 0, 0, .null, []),
  (18, .aload_n 0, 1, 0, 0, 0, .null, []),
  (19, .iload_n 1, 1, 1, 0, 0, .null, []),
  (20, .iload_n 2, 1, 2, 0, 0, .null, []),
  (21, .invokevirtual 358, 3, 265, 2, 193, .null, []),
  (24, .goto 4, 3, 28, 0, 0, .null, []),
  (27, .iconst (-1), 1, 0, 0, 0, .int (-1), []),
  (28, .ireturn, 1, 0, 0, 0, .null, [])], [], 3)
def cd_X12_stop : mmP := ([(0, .aload_n 0, 1, 0, 0, 0, .null, []),
  (1, .iload_n 1, 1, 1, 0, 0, .null, []),
  (2, .invokevirtual 296, 3, 222, 1, 193, .null, []),
  (5, .ifCond .eq 12, 3, 17, 0, 0, .null, []),
  (8, .iload_n 2, 1, 2, 0, 0, .null, []),
  (9, .iconst 0, 1, 0, 0, 0, .int 0, []),
  (10, .iconst 1, 1, 0, 0, 0, .int 1, []),
  (11, .invokestatic 208, 3, 179, 3, 1, .null, []),
  (14, .ifCond .ne 5, 3, 19, 0, 0, .null, []),
  (17, .iconst (-1), 1, 0, 0, 0, .int (-1), []),
  (18, .ireturn, 1, 0, 0, 0, .null, []),
  (19, .iconst 0, 1, 0, 0, 0, .int 0, []),
  (20, .istore_n 3, 1, 3, 0, 0, .null, []),
  (21, .iconst 1, 1, 0, 0, 0, .int 1, []),
  (22, .istore 4, 2, 4, 0, 0, .null, []),
  (24, .iload 4, 2, 4, 0, 0, .null, []),
  (26, .aload_n 0, 1, 0, 0, 0, .null, []),
  (27, .iload_n 1, 1, 1, 0, 0, .null, []),
  (28, .invokevirtual 302, 3, 224, 1, 193, .null, []),
  (31, .if_icmp .gt 32, 3, 63, 0, 0, .null, []),
  (34, .aload_n 0, 1, 0, 0, 0, .null, []),
  (35, .iload_n 1, 1, 1, 0, 0, .null, []),
  (36, .iload 4, 2, 4, 0, 0, .null, []),
  (38, .invokevirtual 355, 3, 263, 2, 193, .null, []),
  (41, .aload_n 0, 1, 0, 0, 0, .null, []),
  (42, .iload_n 1, 1, 1, 0, 0, .null, []),
  (43, .iload_n 3, 1, 3, 0, 0, .null, []),
  (44, .invokevirtual 355, 3, 263, 2, 193, .null, []),
  (47, .if_icmp .le 8, 3, 55, 0, 0, .null, []),
  (50, .iload 4, 2, 4, 0, 0, .null, []),
  (52, .goto 4, 3, 56, 0, 0, .null, []),
  (55, .iload_n 3, 1, 3, 0, 0, .null, []),
  (56, .istore_n 3, 1, 3, 0, 0, .null, []),
  (57, .iinc 4 1, 3, 4, 0, 0, .int 1, []),
  (60, .goto (-36), 3, 24, 0, 0, .null, []),
  (63, .iload_n 2, 1, 2, 0, 0, .null, []),
  (64, .ifCond .ne 7, 3, 71, 0, 0, .null, []),
  (67, .iload_n 3, 1, 3, 0, 0, .null, []),
  (68, .goto 9, 3, 77, 0, 0, .null, []),
  (71, .aload_n 0, 1, 0, 0, 0, .null, []),
  (72, .iload_n 1, 1, 1, 0, 0, .null, []),
  (73, .iload_n 3, 1, 3, 0, 0, .null, []),
  (74, .invokevirtual 355, 3, 263, 2, 193, .null, []),
  (77, .ireturn, 1, 0, 0, 0, .null, [])], [(24, [true, true, true, true, true])], 5)
def cd_X12_best : mmP := ([(0, .aload_n 0, 1, 0, 0, 0, .null, []),
  (1, .getfield 248, 3, 12, 26, 0, .null, []),
  (4, .ifCond .eq 13, 3, 17, 0, 0, .null, []),
  (7, .iload_n 1, 1, 1, 0, 0, .null, []),
  (8, .iconst 0, 1, 0, 0, 0, .int 0, []),
  (9, .bipush 99, 2, 0, 0, 0, .int 99, []),
  (11, .invokestatic 208, 3, 179, 3, 1, .null, []),
  (14, .ifCond .ne 5, 3, 19, 0, 0, .null, []),
  (17, .iconst (-1), 1, 0, 0, 0, .int (-1), []),
  (18, .ireturn, 1, 0, 0, 0, .null, []),
  (19, .iconst (-1), 1, 0, 0, 0, .int (-1), []),
  (20, .istore_n 2, 1, 2, 0, 0, .null, []),
  (21, .iconst 0, 1, 0, 0, 0, .int 0, []),
  (22, .istore_n 3, 1, 3, 0, 0, .null, []),
  (23, .iconst 0, 1, 0, 0, 0, .int 0, []),
  (24, .istore 4, 2, 4, 0, 0, .null, []),
  (26, .iload 4, 2, 4, 0, 0, .null, []),
  (28, .aload_n 0, 1, 0, 0, 0, .null, []),
  (29, .getfield 245, 3, 12, 25, 0, .null, []),
  (32, .if_icmp .ge 41, 3, 73, 0, 0, .null, []),
  (35, .aload_n 0, 1, 0, 0, 0, .null, []),
  (36, .iload 4, 2, 4, 0, 0, .null, []),
  (38, .iload_n 1, 1, 1, 0, 0, .null, []),
  (39, .invokevirtual 358, 3, 265, 2, 193, .null, []),
  (42, .istore 5, 2, 5, 0, 0, .null, []),
  (44, .iload 5, 2, 5, 0, 0, .null, []),
  (46, .iconst (-1), 1, 0, 0, 0, .int (-1), []),
  (47, .if_icmp .eq 20, 3, 67, 0, 0, .null, []),
  (50, .iload_n 2, 1, 2, 0, 0, .null, []),
  (51, .iconst (-1), 1, 0, 0, 0, .int (-1), []),
  (52, .if_icmp .eq 9, 3, 61, 0, 0, .null, []),
  (55, .iload 5, 2, 5, 0, 0, .null, []),
  (57, .iload_n 3, 1, 3, 0, 0, .null, []),
  (58, .if_icmp .ge 9, 3, 67, 0, 0, .null, []),
  (61, .iload 4, 2, 4, 0, 0, .null, []),
  (63, .istore_n 2, 1, 2, 0, 0, .null, []),
  (64, .iload 5, 2, 5, 0, 0, .null, []),
  (66, .istore_n 3, 1, 3, 0, 0, .null, []),
  (67, .iinc 4 1, 3, 4, 0, 0, .int 1, []),
  (70, .goto (-44), 3, 26, 0, 0, .null, []),
  (73, .iload_n 2, 1, 2, 0, 0, .null, []),
  (74, .ireturn, 1, 0, 0, 0, .null, [])], [(26, [true, true, true, true, true, false])], 6)
def cd_X12_nextOf : mmP := ([(0, .aload_n 0, 1, 0, 0, 0, .null, []),
  (1, .iload_n 1, 1, 1, 0, 0, .null, []),
  (2, .invokevirtual 302, 3, 224, 1, 193, .null, []),
  (5, .ifCond .le 7, 3, 12, 0, 0, .null, []),
  (8, .iload_n 1, 1, 1, 0, 0, .null, []),
  (9, .goto 16, 3, 25, 0, 0, .null, []),
  (12, .aload_n 0, 1, 0, 0, 0, .null, []),
  (13, .iload_n 2, 1, 2, 0, 0, .null, []),
  (14, .invokevirtual 302, 3, 224, 1, 193, .null, []),
  (17, .ifCond .le 7, 3, 24, 0, 0, .null, []),
  (20, .iload_n 2, 1, 2, 0, 0, .null, []),
  (21, .goto 4, 3, 25, 0, 0, .null, []),
  (24, .iconst (-1), 1, 0, 0, 0, .int (-1), []),
  (25, .ireturn, 1, 0, 0, 0, .null, [])], [], 3)
def cd_X12_byTurns : mmP := ([(0, .aload_n 0, 1, 0, 0, 0, .null, []),
  (1, .iload_n 1, 1, 1, 0, 0, .null, []),
  (2, .iload_n 2, 1, 2, 0, 0, .null, []),
  (3, .invokevirtual 361, 3, 282, 2, 193, .null, []),
  (6, .ifCond .eq 13, 3, 19, 0, 0, .null, []),
  (9, .iload_n 3, 1, 3, 0, 0, .null, []),
  (10, .iconst 0, 1, 0, 0, 0, .int 0, []),
  (11, .bipush 99, 2, 0, 0, 0, .int 99, []),
  (13, .invokestatic 208, 3, 179, 3, 1, .null, []),
  (16, .ifCond .ne 5, 3, 21, 0, 0, .null, []),
  (19, .iconst (-1), 1, 0, 0, 0, .int (-1), []),
  (20, .ireturn, 1, 0, 0, 0, .null, []),
  (21, .aload_n 0, 1, 0, 0, 0, .null, []),
  (22, .iconst 0, 1, 0, 0, 0, .int 0, []),
  (23, .invokevirtual 349, 3, 261, 1, 192, .null, []),
  (26, .iconst 0, 1, 0, 0, 0, .int 0, []),
  (27, .istore 4, 2, 4, 0, 0, .null, []),
  (29, .aload_n 0, 1, 0, 0, 0, .null, []),
  (30, .iload_n 1, 1, 1, 0, 0, .null, []),
  (31, .iload_n 2, 1, 2, 0, 0, .null, []),
  (32, .invokevirtual 364, 3, 269, 2, 193, .null, []),
  (35, .istore 5, 2, 5, 0, 0, .null, []),
  (37, .aload_n 0, 1, 0, 0, 0, .null, []),
  (38, .getfield 58, 3, 12, 27, 2, .null, []),
  (41, .bipush 8, 2, 0, 0, 0, .int 8, []),
  (43, .iaload, 1, 0, 0, 0, .null, []),
  (44, .iload_n 3, 1, 3, 0, 0, .null, []),
  (45, .if_icmp .ge 45, 3, 90, 0, 0, .null, []),
  (48, .iload 5, 2, 5, 0, 0, .null, []),
  (50, .iconst (-1), 1, 0, 0, 0, .int (-1), []),
  (51, .if_icmp .eq 39, 3, 90, 0, 0, .null, []),
  (54, .aload_n 0, 1, 0, 0, 0, .null, []),
  (55, .iload 5, 2, 5, 0, 0, .null, []),
  (57, .invokevirtual 281, 3, 227, 1, 192, .null, []),
  (60, .iinc 4 1, 3, 4, 0, 0, .int 1, []),
  (63, .iload 4, 2, 4, 0, 0, .null, []),
  (65, .iconst 2, 1, 0, 0, 0, .int 2, []),
  (66, .irem, 1, 0, 0, 0, .null, []),
  (67, .ifCond .ne 12, 3, 79, 0, 0, .null, []),
  (70, .aload_n 0, 1, 0, 0, 0, .null, []),
  (71, .iload_n 1, 1, 1, 0, 0, .null, []),
  (72, .iload_n 2, 1, 2, 0, 0, .null, []),
  (73, .invokevirtual 364, 3, 269, 2, 193, .null, []),
  (76, .goto 9, 3, 85, 0, 0, .null, []),
  (79, .aload_n 0, 1, 0, 0, 0, .null, []),
  (80, .iload_n 2, 1, 2, 0, 0, .null, []),
  (81, .iload_n 1, 1, 1, 0, 0, .null, []),
  (82, .invokevirtual 364, 3, 269, 2, 193, .null, []),
  (85, .istore 5, 2, 5, 0, 0, .null, []),
  (87, .goto (-50), 3, 37, 0, 0, .null, []),
  (90, .aload_n 0, 1, 0, 0, 0, .null, []),
  (91, .getfield 58, 3, 12, 27, 2, .null, []),
  (94, .bipush 8, 2, 0, 0, 0, .int 8, []),
  (96, .iaload, 1, 0, 0, 0, .null, []),
  (97, .iload_n 3, 1, 3, 0, 0, .null, []),
  (98, .if_icmp .lt 7, 3, 105, 0, 0, .null, []),
  (101, .iconst 1, 1, 0, 0, 0, .int 1, []),
  (102, .goto 4, 3, 106, 0, 0, .null, []),
  (105, .iconst 0, 1, 0, 0, 0, .int 0, []),
  (106, .istore 6, 2, 6, 0, 0, .null, []),
  (108, .aload_n 0, 1, 0, 0, 0, .null, []),
  (109, .iconst 0, 1, 0, 0, 0, .int 0, []),
  (110, .invokevirtual 352, 3, 262, 1, 192, .null, []),
  (113, .iload 6, 2, 6, 0, 0, .null, []),
  (115, .ifCond .eq 8, 3, 123, 0, 0, .null, []),
  (118, .iload 4, 2, 4, 0, 0, .null, []),
  (120, .goto 4, 3, 124, 0, 0, .null, []),
  (123, .iconst (-1), 1, 0, 0, 0, .int (-1), []),
  (124, .ireturn, 1, 0, 0, 0, .null, [])], [(37, [true, true, true, true, true, true, false])], 7)
def cd_X12_tryRow : mmP := ([(0, .iload_n 3, 1, 3, 0, 0, .null, []),
  (1, .aload_n 0, 1, 0, 0, 0, .null, []),
  (2, .getfield 367, 3, 12, 36, 0, .null, []),
  (5, .if_icmp .le 7, 3, 12, 0, 0, .null, []),
  (8, .iconst 1, 1, 0, 0, 0, .int 1, []),
  (9, .goto 4, 3, 13, 0, 0, .null, []),
  (12, .iconst 0, 1, 0, 0, 0, .int 0, []),
  (13, .istore 4, 2, 4, 0, 0, .null, []),
  (15, .iload_n 3, 1, 3, 0, 0, .null, []),
  (16, .aload_n 0, 1, 0, 0, 0, .null, []),
  (17, .getfield 367, 3, 12, 36, 0, .null, []),
  (20, .if_icmp .ne 58, 3, 78, 0, 0, .null, []),
  (23, .aload_n 0, 1, 0, 0, 0, .null, []),
  (24, .getfield 58, 3, 12, 27, 2, .null, []),
  (27, .bipush 8, 2, 0, 0, 0, .int 8, []),
  (29, .iaload, 1, 0, 0, 0, .null, []),
  (30, .aload_n 0, 1, 0, 0, 0, .null, []),
  (31, .getfield 370, 3, 12, 37, 0, .null, []),
  (34, .isub, 1, 0, 0, 0, .null, []),
  (35, .istore 5, 2, 5, 0, 0, .null, []),
  (37, .iload 5, 2, 5, 0, 0, .null, []),
  (39, .ifCond .gt 32, 3, 71, 0, 0, .null, []),
  (42, .iload 5, 2, 5, 0, 0, .null, []),
  (44, .ifCond .ne 31, 3, 75, 0, 0, .null, []),
  (47, .iload_n 1, 1, 1, 0, 0, .null, []),
  (48, .aload_n 0, 1, 0, 0, 0, .null, []),
  (49, .getfield 373, 3, 12, 38, 0, .null, []),
  (52, .if_icmp .lt 19, 3, 71, 0, 0, .null, []),
  (55, .iload_n 1, 1, 1, 0, 0, .null, []),
  (56, .aload_n 0, 1, 0, 0, 0, .null, []),
  (57, .getfield 373, 3, 12, 38, 0, .null, []),
  (60, .if_icmp .ne 15, 3, 75, 0, 0, .null, []),
  (63, .iload_n 2, 1, 2, 0, 0, .null, []),
  (64, .aload_n 0, 1, 0, 0, 0, .null, []),
  (65, .getfield 376, 3, 12, 35, 0, .null, []),
  (68, .if_icmp .ge 7, 3, 75, 0, 0, .null, []),
  (71, .iconst 1, 1, 0, 0, 0, .int 1, []),
  (72, .goto 4, 3, 76, 0, 0, .null, []),
  (75, .iconst 0, 1, 0, 0, 0, .int 0, []),
  (76, .istore 4, 2, 4, 0, 0, .null, []),
  (78, .iload 4, 2, 4, 0, 0, .null, []),
  (80, .ifCond .eq 29, 3, 109, 0, 0, .null, []),
  (83, .aload_n 0, 1, 0, 0, 0, .null, []),
  (84, .iload_n 2, 1, 2, 0, 0, .null, []),
  (85, .putfield 376, 3, 12, 35, 0, .null, []),
  (88, .aload_n 0, 1, 0, 0, 0, .null, []),
  (89, .iload_n 3, 1, 3, 0, 0, .null, []),
  (90, .putfield 367, 3, 12, 36, 0, .null, []),
  (93, .aload_n 0, 1, 0, 0, 0, .null, []),
  (94, .aload_n 0, 1, 0, 0, 0, .null, []),
  (95, .getfield 58, 3, 12, 27, 2, .null, []),
  (98, .bipush 8, 2, 0, 0, 0, .int 8, []),
  (100, .iaload, 1, 0, 0, 0, .null, []),
  (101, .putfield 370, 3, 12, 37, 0, .null, []),
  (104, .aload_n 0, 1, 0, 0, 0, .null, []),
  (105, .iload_n 1, 1, 1, 0, 0, .null, []),
  (106, .putfield 373, 3, 12, 38, 0, .null, []),
  (109, .aload_n 0, 1, 0, 0, 0, .null, []),
  (110, .iload_n 1, 1, 1, 0, 0, .null, []),
  (111, .invokevirtual 349, 3, 261, 1, 192, .null, []),
  (114, .iconst 0, 1, 0, 0, 0, .int 0, []),
  (115, .istore 5, 2, 5, 0, 0, .null, []),
  (117, .iload 5, 2, 5, 0, 0, .null, []),
  (119, .aload_n 0, 1, 0, 0, 0, .null, []),
  (120, .getfield 248, 3, 12, 26, 0, .null, []),
  (123, .if_icmp .ge 52, 3, 175, 0, 0, .null, []),
  (126, .aload_n 0, 1, 0, 0, 0, .null, []),
  (127, .iload 5, 2, 5, 0, 0, .null, []),
  (129, .invokevirtual 314, 3, 235, 1, 193, .null, []),
  (132, .ifCond .eq 37, 3, 169, 0, 0, .null, []),
  (135, .aload_n 0, 1, 0, 0, 0, .null, []),
  (136, .iload 5, 2, 5, 0, 0, .null, []),
  (138, .invokevirtual 317, 3, 236, 1, 192, .null, []),
  (141, .aload_n 0, 1, 0, 0, 0, .null, []),
  (142, .iload_n 1, 1, 1, 0, 0, .null, []),
  (143, .iconst 1, 1, 0, 0, 0, .int 1, []),
  (144, .iadd, 1, 0, 0, 0, .null, []),
  (145, .bipush 10, 2, 0, 0, 0, .int 10, []),
  (147, .iload_n 2, 1, 2, 0, 0, .null, []),
  (148, .imul, 1, 0, 0, 0, .null, []),
  (149, .iload 5, 2, 5, 0, 0, .null, []),
  (151, .iadd, 1, 0, 0, 0, .null, []),
  (152, .iload_n 3, 1, 3, 0, 0, .null, []),
  (153, .aload_n 0, 1, 0, 0, 0, .null, []),
  (154, .iload 5, 2, 5, 0, 0, .null, []),
  (156, .iconst 1, 1, 0, 0, 0, .int 1, []),
  (157, .invokevirtual 284, 3, 221, 2, 193, .null, []),
  (160, .iadd, 1, 0, 0, 0, .null, []),
  (161, .invokevirtual 379, 3, 271, 3, 192, .null, []),
  (164, .aload_n 0, 1, 0, 0, 0, .null, []),
  (165, .iload_n 1, 1, 1, 0, 0, .null, []),
  (166, .invokevirtual 352, 3, 262, 1, 192, .null, []),
  (169, .iinc 5 1, 3, 5, 0, 0, .int 1, []),
  (172, .goto (-55), 3, 117, 0, 0, .null, []),
  (175, .return_, 1, 0, 0, 0, .null, [])], [(117, [true, true, true, true, false, true])], 6)
def cd_X12_row : mmP := ([(0, .aload_n 0, 1, 0, 0, 0, .null, []),
  (1, .getfield 248, 3, 12, 26, 0, .null, []),
  (4, .ifCond .eq 12, 3, 16, 0, 0, .null, []),
  (7, .iload_n 1, 1, 1, 0, 0, .null, []),
  (8, .iconst 0, 1, 0, 0, 0, .int 0, []),
  (9, .iconst 2, 1, 0, 0, 0, .int 2, []),
  (10, .invokestatic 208, 3, 179, 3, 1, .null, []),
  (13, .ifCond .ne 5, 3, 18, 0, 0, .null, []),
  (16, .iconst (-1), 1, 0, 0, 0, .int (-1), []),
  (17, .ireturn, 1, 0, 0, 0, .null, []),
  (18, .aload_n 0, 1, 0, 0, 0, .null, []),
  (19, .iconst (-1), 1, 0, 0, 0, .int (-1), []),
  (20, .putfield 367, 3, 12, 36, 0, .null, []),
  (23, .aload_n 0, 1, 0, 0, 0, .null, []),
  (24, .iconst 0, 1, 0, 0, 0, .int 0, []),
  (25, .iconst 0, 1, 0, 0, 0, .int 0, []),
  (26, .iconst 0, 1, 0, 0, 0, .int 0, []),
  (27, .invokevirtual 379, 3, 271, 3, 192, .null, []),
  (30, .iload_n 1, 1, 1, 0, 0, .null, []),
  (31, .ifCond .ne 21, 3, 52, 0, 0, .null, []),
  (34, .aload_n 0, 1, 0, 0, 0, .null, []),
  (35, .getfield 373, 3, 12, 38, 0, .null, []),
  (38, .ifCond .ne 7, 3, 45, 0, 0, .null, []),
  (41, .iconst (-1), 1, 0, 0, 0, .int (-1), []),
  (42, .goto 26, 3, 68, 0, 0, .null, []),
  (45, .aload_n 0, 1, 0, 0, 0, .null, []),
  (46, .getfield 376, 3, 12, 35, 0, .null, []),
  (49, .goto 19, 3, 68, 0, 0, .null, []),
  (52, .iload_n 1, 1, 1, 0, 0, .null, []),
  (53, .iconst 1, 1, 0, 0, 0, .int 1, []),
  (54, .if_icmp .ne 10, 3, 64, 0, 0, .null, []),
  (57, .aload_n 0, 1, 0, 0, 0, .null, []),
  (58, .getfield 367, 3, 12, 36, 0, .null, []),
  (61, .goto 7, 3, 68, 0, 0, .null, []),
  (64, .aload_n 0, 1, 0, 0, 0, .null, []),
  (65, .getfield 370, 3, 12, 37, 0, .null, []),
  (68, .ireturn, 1, 0, 0, 0, .null, [])], [], 2)
def cd_X12_lasts : mmP := ([(0, .aload_n 0, 1, 0, 0, 0, .null, []),
  (1, .getfield 248, 3, 12, 26, 0, .null, []),
  (4, .ifCond .ne 5, 3, 9, 0, 0, .null, []),
  (7, .iconst (-1), 1, 0, 0, 0, .int (-1), []),
  (8, .ireturn, 1, 0, 0, 0, .null, []),
  (9, .aload_n 0, 1, 0, 0, 0, .null, []),
  (10, .iconst 0, 1, 0, 0, 0, .int 0, []),
  (11, .invokevirtual 349, 3, 261, 1, 192, .null, []),
  (14, .iconst 0, 1, 0, 0, 0, .int 0, []),
  (15, .istore_n 1, 1, 1, 0, 0, .null, []),
  (16, .iload_n 1, 1, 1, 0, 0, .null, []),
  (17, .bipush 60, 2, 0, 0, 0, .int 60, []),
  (19, .if_icmp .ge 23, 3, 42, 0, 0, .null, []),
  (22, .aload_n 0, 1, 0, 0, 0, .null, []),
  (23, .getfield 58, 3, 12, 27, 2, .null, []),
  (26, .bipush 8, 2, 0, 0, 0, .int 8, []),
  (28, .iaload, 1, 0, 0, 0, .null, []),
  (29, .ifCond .le 13, 3, 42, 0, 0, .null, []),
  (32, .aload_n 0, 1, 0, 0, 0, .null, []),
  (33, .invokevirtual 323, 3, 234, 0, 192, .null, []),
  (36, .iinc 1 1, 3, 1, 0, 0, .int 1, []),
  (39, .goto (-23), 3, 16, 0, 0, .null, []),
  (42, .aload_n 0, 1, 0, 0, 0, .null, []),
  (43, .getfield 58, 3, 12, 27, 2, .null, []),
  (46, .bipush 8, 2, 0, 0, 0, .int 8, []),
  (48, .iaload, 1, 0, 0, 0, .null, []),
  (49, .ifCond .ne 7, 3, 56, 0, 0, .null, []),
  (52, .iconst 1, 1, 0, 0, 0, .int 1, []),
  (53, .goto 4, 3, 57, 0, 0, .null, []),
  (56, .iconst 0, 1, 0, 0, 0, .int 0, []),
  (57, .istore_n 2, 1, 2, 0, 0, .null, []),
  (58, .aload_n 0, 1, 0, 0, 0, .null, []),
  (59, .iconst 0, 1, 0, 0, 0, .int 0, []),
  (60, .invokevirtual 352, 3, 262, 1, 192, .null, []),
  (63, .iload_n 2, 1, 2, 0, 0, .null, []),
  (64, .ifCond .eq 7, 3, 71, 0, 0, .null, []),
  (67, .iload_n 1, 1, 1, 0, 0, .null, []),
  (68, .goto 4, 3, 72, 0, 0, .null, []),
  (71, .iconst (-1), 1, 0, 0, 0, .int (-1), []),
  (72, .ireturn, 1, 0, 0, 0, .null, [])], [(16, [true, true, false])], 3)
def cd_X12_isUp : mmP := ([(0, .aload_n 0, 1, 0, 0, 0, .null, []),
  (1, .iconst 0, 1, 0, 0, 0, .int 0, []),
  (2, .invokevirtual 349, 3, 261, 1, 192, .null, []),
  (5, .aload_n 0, 1, 0, 0, 0, .null, []),
  (6, .getfield 58, 3, 12, 27, 2, .null, []),
  (9, .bipush 8, 2, 0, 0, 0, .int 8, []),
  (11, .iload_n 1, 1, 1, 0, 0, .null, []),
  (12, .iastore, 1, 0, 0, 0, .null, []),
  (13, .iconst 0, 1, 0, 0, 0, .int 0, []),
  (14, .istore_n 3, 1, 3, 0, 0, .null, []),
  (15, .iload_n 3, 1, 3, 0, 0, .null, []),
  (16, .iload_n 2, 1, 2, 0, 0, .null, []),
  (17, .if_icmp .ge 13, 3, 30, 0, 0, .null, []),
  (20, .aload_n 0, 1, 0, 0, 0, .null, []),
  (21, .invokevirtual 323, 3, 234, 0, 192, .null, []),
  (24, .iinc 3 1, 3, 3, 0, 0, .int 1, []),
  (27, .goto (-12), 3, 15, 0, 0, .null, []),
  (30, .aload_n 0, 1, 0, 0, 0, .null, []),
  (31, .getfield 58, 3, 12, 27, 2, .null, []),
  (34, .bipush 8, 2, 0, 0, 0, .int 8, []),
  (36, .iaload, 1, 0, 0, 0, .null, []),
  (37, .ifCond .le 7, 3, 44, 0, 0, .null, []),
  (40, .iconst 1, 1, 0, 0, 0, .int 1, []),
  (41, .goto 4, 3, 45, 0, 0, .null, []),
  (44, .iconst 0, 1, 0, 0, 0, .int 0, []),
  (45, .istore_n 3, 1, 3, 0, 0, .null, []),
  (46, .aload_n 0, 1, 0, 0, 0, .null, []),
  (47, .iconst 0, 1, 0, 0, 0, .int 0, []),
  (48, .invokevirtual 352, 3, 262, 1, 192, .null, []),
  (51, .iload_n 3, 1, 3, 0, 0, .null, []),
  (52, .ireturn, 1, 0, 1, 0, .null, [])], [(15, [true, false, true, true])], 4)
def cd_X12_holds : mmP := ([(0, .aload_n 0, 1, 0, 0, 0, .null, []),
  (1, .getfield 248, 3, 12, 26, 0, .null, []),
  (4, .ifCond .eq 13, 3, 17, 0, 0, .null, []),
  (7, .iload_n 1, 1, 1, 0, 0, .null, []),
  (8, .iconst 0, 1, 0, 0, 0, .int 0, []),
  (9, .bipush 20, 2, 0, 0, 0, .int 20, []),
  (11, .invokestatic 208, 3, 179, 3, 1, .null, []),
  (14, .ifCond .ne 5, 3, 19, 0, 0, .null, []),
  (17, .iconst (-1), 1, 0, 0, 0, .int (-1), []),
  (18, .ireturn, 1, 0, 0, 0, .null, []),
  (19, .iconst 0, 1, 0, 0, 0, .int 0, []),
  (20, .istore_n 2, 1, 2, 0, 0, .null, []),
  (21, .iload_n 2, 1, 2, 0, 0, .null, []),
  (22, .bipush 99, 2, 0, 0, 0, .int 99, []),
  (24, .if_icmp .gt 20, 3, 44, 0, 0, .null, []),
  (27, .aload_n 0, 1, 0, 0, 0, .null, []),
  (28, .iload_n 2, 1, 2, 0, 0, .null, []),
  (29, .iload_n 1, 1, 1, 0, 0, .null, []),
  (30, .invokevirtual 383, 3, 274, 2, 193, .null, []),
  (33, .ifCond .eq 5, 3, 38, 0, 0, .null, []),
  (36, .iload_n 2, 1, 2, 0, 0, .null, []),
  (37, .ireturn, 1, 0, 0, 0, .null, []),
  (38, .iinc 2 1, 3, 2, 0, 0, .int 1, []),
  (41, .goto (-20), 3, 21, 0, 0, .null, []),
  (44, .iconst (-1), 1, 0, 0, 0, .int (-1), []),
  (45, .ireturn, 1, 0, 0, 0, .null, [])], [(21, [true, true, true])], 3)
def cd_X12_seen : mmP := ([(0, .aload_n 0, 1, 0, 0, 0, .null, []),
  (1, .iload_n 1, 1, 1, 0, 0, .null, []),
  (2, .invokevirtual 296, 3, 222, 1, 193, .null, []),
  (5, .ifCond .eq 32, 3, 37, 0, 0, .null, []),
  (8, .iload_n 2, 1, 2, 0, 0, .null, []),
  (9, .iconst 1, 1, 0, 0, 0, .int 1, []),
  (10, .bipush 40, 2, 0, 0, 0, .int 40, []),
  (12, .invokestatic 208, 3, 179, 3, 1, .null, []),
  (15, .ifCond .eq 22, 3, 37, 0, 0, .null, []),
  (18, .iload_n 3, 1, 3, 0, 0, .null, []),
  (19, .iconst 0, 1, 0, 0, 0, .int 0, []),
  (20, .bipush 99, 2, 0, 0, 0, .int 99, []),
  (22, .invokestatic 208, 3, 179, 3, 1, .null, []),
  (25, .ifCond .eq 12, 3, 37, 0, 0, .null, []),
  (28, .aload_n 0, 1, 0, 0, 0, .null, []),
  (29, .getfield 251, 3, 12, 43, 0, .null, []),
  (32, .bipush 10, 2, 0, 0, 0, .int 10, []),
  (34, .if_icmp .ne 5, 3, 39, 0, 0, .null, []),
  (37, .iconst (-1), 1, 0, 0, 0, .int (-1), []),
  (38, .ireturn, 1, 0, 0, 0, .null, []),
  (39, .aload_n 0, 1, 0, 0, 0, .null, []),
  (40, .getfield 77, 3, 12, 39, 2, .null, []),
  (43, .aload_n 0, 1, 0, 0, 0, .null, []),
  (44, .getfield 251, 3, 12, 43, 0, .null, []),
  (47, .iload_n 1, 1, 1, 0, 0, .null, []),
  (48, .iastore, 1, 0, 0, 0, .null, []),
  (49, .aload_n 0, 1, 0, 0, 0, .null, []),
  (50, .getfield 80, 3, 12, 40, 2, .null, []),
  (53, .aload_n 0, 1, 0, 0, 0, .null, []),
  (54, .getfield 251, 3, 12, 43, 0, .null, []),
  (57, .iload_n 2, 1, 2, 0, 0, .null, []),
  (58, .iastore, 1, 0, 0, 0, .null, []),
  (59, .aload_n 0, 1, 0, 0, 0, .null, []),
  (60, .getfield 83, 3, 12, 41, 2, .null, []),
  (63, .aload_n 0, 1, 0, 0, 0, .null, []),
  (64, .getfield 251, 3, 12, 43, 0, .null, []),
  (67, .iload_n 3, 1, 3, 0, 0, .null, []),
  (68, .iastore, 1, 0, 0, 0, .null, []),
  (69, .aload_n 0, 1, 0, 0, 0, .null, []),
  (70, .getfield 86, 3, 12, 42, 2, .null, []),
  (73, .aload_n 0, 1, 0, 0, 0, .null, []),
  (74, .getfield 251, 3, 12, 43, 0, .null, []),
  (77, .iload 4, 2, 4, 0, 0, .null, []),
  (79, .bastore, 1, 0, 0, 0, .null, []),
  (80, .aload_n 0, 1, 0, 0, 0, .null, []),
  (81, .dup, 1, 0, 0, 0, .null, []),
  (82, .getfield 251, 3, 12, 43, 0, .null, []),
  (85, .iconst 1, 1, 0, 0, 0, .int 1, []),
  (86, .iadd, 1, 0, 0, 0, .null, []),
  (87, .putfield 251, 3, 12, 43, 0, .null, []),
  (90, .aload_n 0, 1, 0, 0, 0, .null, []),
  (91, .getfield 251, 3, 12, 43, 0, .null, []),
  (94, .ireturn, 1, 0, 0, 0, .null, [])], [], 5)
def cd_X12_morning : mmP := ([(0, .iconst 0, 1, 0, 0, 0, .int 0, []),
  (1, .istore 4, 2, 4, 0, 0, .null, []),
  (3, .iconst 0, 1, 0, 0, 0, .int 0, []),
  (4, .istore 5, 2, 5, 0, 0, .null, []),
  (6, .iload 5, 2, 5, 0, 0, .null, []),
  (8, .iload_n 2, 1, 2, 0, 0, .null, []),
  (9, .if_icmp .ge 28, 3, 37, 0, 0, .null, []),
  (12, .aload_n 0, 1, 0, 0, 0, .null, []),
  (13, .aload_n 0, 1, 0, 0, 0, .null, []),
  (14, .getfield 58, 3, 12, 27, 2, .null, []),
  (17, .iconst 0, 1, 0, 0, 0, .int 0, []),
  (18, .iload_n 1, 1, 1, 0, 0, .null, []),
  (19, .iadd, 1, 0, 0, 0, .null, []),
  (20, .iaload, 1, 0, 0, 0, .null, []),
  (21, .iload 4, 2, 4, 0, 0, .null, []),
  (23, .iload 5, 2, 5, 0, 0, .null, []),
  (25, .iload_n 3, 1, 3, 0, 0, .null, []),
  (26, .invokevirtual 277, 3, 226, 4, 193, .null, []),
  (29, .istore 4, 2, 4, 0, 0, .null, []),
  (31, .iinc 5 1, 3, 5, 0, 0, .int 1, []),
  (34, .goto (-28), 3, 6, 0, 0, .null, []),
  (37, .iload 4, 2, 4, 0, 0, .null, []),
  (39, .ireturn, 1, 0, 0, 0, .null, [])], [(6, [true, true, true, true, true, true])], 6)
def cd_X12_isYolk : mmP := ([(0, .iconst 0, 1, 0, 0, 0, .int 0, []),
  (1, .istore_n 2, 1, 2, 0, 0, .null, []),
  (2, .iload_n 2, 1, 2, 0, 0, .null, []),
  (3, .aload_n 0, 1, 0, 0, 0, .null, []),
  (4, .getfield 251, 3, 12, 43, 0, .null, []),
  (7, .if_icmp .ge 51, 3, 58, 0, 0, .null, []),
  (10, .aload_n 0, 1, 0, 0, 0, .null, []),
  (11, .aload_n 0, 1, 0, 0, 0, .null, []),
  (12, .getfield 77, 3, 12, 39, 2, .null, []),
  (15, .iload_n 2, 1, 2, 0, 0, .null, []),
  (16, .iaload, 1, 0, 0, 0, .null, []),
  (17, .aload_n 0, 1, 0, 0, 0, .null, []),
  (18, .getfield 80, 3, 12, 40, 2, .null, []),
  (21, .iload_n 2, 1, 2, 0, 0, .null, []),
  (22, .iaload, 1, 0, 0, 0, .null, []),
  (23, .iload_n 1, 1, 1, 0, 0, .null, []),
  (24, .invokevirtual 386, 3, 277, 3, 193, .null, []),
  (27, .aload_n 0, 1, 0, 0, 0, .null, []),
  (28, .getfield 83, 3, 12, 41, 2, .null, []),
  (31, .iload_n 2, 1, 2, 0, 0, .null, []),
  (32, .iaload, 1, 0, 0, 0, .null, []),
  (33, .if_icmp .lt 7, 3, 40, 0, 0, .null, []),
  (36, .iconst 1, 1, 0, 0, 0, .int 1, []),
  (37, .goto 4, 3, 41, 0, 0, .null, []),
  (40, .iconst 0, 1, 0, 0, 0, .int 0, []),
  (41, .aload_n 0, 1, 0, 0, 0, .null, []),
  (42, .getfield 86, 3, 12, 42, 2, .null, []),
  (45, .iload_n 2, 1, 2, 0, 0, .null, []),
  (46, .baload, 1, 0, 0, 0, .null, []),
  (47, .if_icmp .eq 5, 3, 52, 0, 0, .null, []),
  (50, .iconst 0, 1, 0, 0, 0, .int 0, []),
  (51, .ireturn, 1, 0, 1, 0, .null, []),
  (52, .iinc 2 1, 3, 2, 0, 0, .int 1, []),
  (55, .goto (-53), 3, 2, 0, 0, .null, []),
  (58, .iconst 1, 1, 0, 0, 0, .int 1, []),
  (59, .ireturn, 1, 0, 1, 0, .null, [])], [(2, [true, true, true])], 3)
def cd_X12_fits : mmP := ([(0, .aload_n 0, 1, 0, 0, 0, .null, []),
  (1, .getfield 248, 3, 12, 26, 0, .null, []),
  (4, .ifCond .eq 8, 3, 12, 0, 0, .null, []),
  (7, .iload_n 1, 1, 1, 0, 0, .null, []),
  (8, .iconst (-1), 1, 0, 0, 0, .int (-1), []),
  (9, .if_icmp .ge 5, 3, 14, 0, 0, .null, []),
  (12, .iconst (-1), 1, 0, 0, 0, .int (-1), []),
  (13, .ireturn, 1, 0, 0, 0, .null, []),
  (14, .iconst 0, 1, 0, 0, 0, .int 0, []),
  (15, .istore_n 2, 1, 2, 0, 0, .null, []),
  (16, .iconst 0, 1, 0, 0, 0, .int 0, []),
  (17, .istore_n 3, 1, 3, 0, 0, .null, []),
  (18, .iload_n 3, 1, 3, 0, 0, .null, []),
  (19, .bipush 9, 2, 0, 0, 0, .int 9, []),
  (21, .if_icmp .gt 27, 3, 48, 0, 0, .null, []),
  (24, .aload_n 0, 1, 0, 0, 0, .null, []),
  (25, .iload_n 3, 1, 3, 0, 0, .null, []),
  (26, .invokevirtual 389, 3, 278, 1, 193, .null, []),
  (29, .ifCond .eq 13, 3, 42, 0, 0, .null, []),
  (32, .iload_n 2, 1, 2, 0, 0, .null, []),
  (33, .iload_n 1, 1, 1, 0, 0, .null, []),
  (34, .if_icmp .ne 5, 3, 39, 0, 0, .null, []),
  (37, .iload_n 3, 1, 3, 0, 0, .null, []),
  (38, .ireturn, 1, 0, 0, 0, .null, []),
  (39, .iinc 2 1, 3, 2, 0, 0, .int 1, []),
  (42, .iinc 3 1, 3, 3, 0, 0, .int 1, []),
  (45, .goto (-27), 3, 18, 0, 0, .null, []),
  (48, .iload_n 1, 1, 1, 0, 0, .null, []),
  (49, .iconst (-1), 1, 0, 0, 0, .int (-1), []),
  (50, .if_icmp .ne 7, 3, 57, 0, 0, .null, []),
  (53, .iload_n 2, 1, 2, 0, 0, .null, []),
  (54, .goto 4, 3, 58, 0, 0, .null, []),
  (57, .iconst (-1), 1, 0, 0, 0, .int (-1), []),
  (58, .ireturn, 1, 0, 0, 0, .null, [])], [(18, [true, true, true, true])], 4)
def cd_X12_probe : mmP := ([(0, .aload_n 0, 1, 0, 0, 0, .null, []),
  (1, .iload_n 1, 1, 1, 0, 0, .null, []),
  (2, .invokevirtual 296, 3, 222, 1, 193, .null, []),
  (5, .ifCond .eq 22, 3, 27, 0, 0, .null, []),
  (8, .iload_n 2, 1, 2, 0, 0, .null, []),
  (9, .iconst 0, 1, 0, 0, 0, .int 0, []),
  (10, .bipush 99, 2, 0, 0, 0, .int 99, []),
  (12, .invokestatic 208, 3, 179, 3, 1, .null, []),
  (15, .ifCond .eq 12, 3, 27, 0, 0, .null, []),
  (18, .aload_n 0, 1, 0, 0, 0, .null, []),
  (19, .iconst 0, 1, 0, 0, 0, .int 0, []),
  (20, .invokevirtual 392, 3, 279, 1, 193, .null, []),
  (23, .iconst (-1), 1, 0, 0, 0, .int (-1), []),
  (24, .if_icmp .ne 5, 3, 29, 0, 0, .null, []),
  (27, .iconst (-1), 1, 0, 0, 0, .int (-1), []),
  (28, .ireturn, 1, 0, 0, 0, .null, []),
  (29, .iconst 0, 1, 0, 0, 0, .int 0, []),
  (30, .istore_n 3, 1, 3, 0, 0, .null, []),
  (31, .iconst 0, 1, 0, 0, 0, .int 0, []),
  (32, .istore 4, 2, 4, 0, 0, .null, []),
  (34, .iload 4, 2, 4, 0, 0, .null, []),
  (36, .bipush 9, 2, 0, 0, 0, .int 9, []),
  (38, .if_icmp .gt 29, 3, 67, 0, 0, .null, []),
  (41, .iload_n 3, 1, 3, 0, 0, .null, []),
  (42, .aload_n 0, 1, 0, 0, 0, .null, []),
  (43, .iload 4, 2, 4, 0, 0, .null, []),
  (45, .invokevirtual 389, 3, 278, 1, 193, .null, []),
  (48, .ifCond .eq 10, 3, 58, 0, 0, .null, []),
  (51, .iconst 1, 1, 0, 0, 0, .int 1, []),
  (52, .iload 4, 2, 4, 0, 0, .null, []),
  (54, .ishl, 1, 0, 0, 0, .null, []),
  (55, .goto 4, 3, 59, 0, 0, .null, []),
  (58, .iconst 0, 1, 0, 0, 0, .int 0, []),
  (59, .ior, 1, 0, 0, 0, .null, []),
  (60, .istore_n 3, 1, 3, 0, 0, .null, []),
  (61, .iinc 4 1, 3, 4, 0, 0, .int 1, []),
  (64, .goto (-30), 3, 34, 0, 0, .null, []),
  (67, .iconst (-1), 1, 0, 0, 0, .int (-1), []),
  (68, .istore 4, 2, 4, 0, 0, .null, []),
  (70, .iconst 0, 1, 0, 0, 0, .int 0, []),
  (71, .istore 5, 2, 5, 0, 0, .null, []),
  (73, .iconst 1, 1, 0, 0, 0, .int 1, []),
  (74, .istore 6, 2, 6, 0, 0, .null, []),
  (76, .iload 6, 2, 6, 0, 0, .null, []),
  (78, .bipush 40, 2, 0, 0, 0, .int 40, []),
  (80, .if_icmp .gt 91, 3, 171, 0, 0, .null, []),
  (83, .iconst 0, 1, 0, 0, 0, .int 0, []),
  (84, .istore 7, 2, 7, 0, 0, .null, []),
  (86, .iconst 0, 1, 0, 0, 0, .int 0, []),
  (87, .istore 8, 2, 8, 0, 0, .null, []),
  (89, .iload 8, 2, 8, 0, 0, .null, []),
  (91, .bipush 9, 2, 0, 0, 0, .int 9, []),
  (93, .if_icmp .gt 45, 3, 138, 0, 0, .null, []),
  (96, .iload 7, 2, 7, 0, 0, .null, []),
  (98, .iload_n 3, 1, 3, 0, 0, .null, []),
  (99, .iload 8, 2, 8, 0, 0, .null, []),
  (101, .invokestatic 219, 3, 180, 2, 1, .null, []),
  (104, .ifCond .ne 7, 3, 111, 0, 0, .null, []),
  (107, .iconst 0, 1, 0, 0, 0, .int 0, []),
  (108, .goto 21, 3, 129, 0, 0, .null, []),
  (111, .aload_n 0, 1, 0, 0, 0, .null, []),
  (112, .iload_n 1, 1, 1, 0, 0, .null, []),
  (113, .iload 6, 2, 6, 0, 0, .null, []),
  (115, .iload 8, 2, 8, 0, 0, .null, []),
  (117, .invokevirtual 386, 3, 277, 3, 193, .null, []),
  (120, .iload_n 2, 1, 2, 0, 0, .null, []),
  (121, .if_icmp .lt 7, 3, 128, 0, 0, .null, []),
  (124, .iconst 1, 1, 0, 0, 0, .int 1, []),
  (125, .goto 4, 3, 129, 0, 0, .null, []),
  (128, .iconst (-1), 1, 0, 0, 0, .int (-1), []),
  (129, .iadd, 1, 0, 0, 0, .null, []),
  (130, .istore 7, 2, 7, 0, 0, .null, []),
  (132, .iinc 8 1, 3, 8, 0, 0, .int 1, []),
  (135, .goto (-46), 3, 89, 0, 0, .null, []),
  (138, .iload 4, 2, 4, 0, 0, .null, []),
  (140, .iconst (-1), 1, 0, 0, 0, .int (-1), []),
  (141, .if_icmp .eq 13, 3, 154, 0, 0, .null, []),
  (144, .iload 7, 2, 7, 0, 0, .null, []),
  (146, .invokestatic 395, 3, 301, 1, 1, .null, []),
  (149, .iload 5, 2, 5, 0, 0, .null, []),
  (151, .if_icmp .ge 14, 3, 165, 0, 0, .null, []),
  (154, .iload 6, 2, 6, 0, 0, .null, []),
  (156, .istore 4, 2, 4, 0, 0, .null, []),
  (158, .iload 7, 2, 7, 0, 0, .null, []),
  (160, .invokestatic 395, 3, 301, 1, 1, .null, []),
  (163, .istore 5, 2, 5, 0, 0, .null, []),
  (165, .iinc 6 1, 3, 6, 0, 0, .int 1, []),
  (168, .goto (-92), 3, 76, 0, 0, .null, []),
  (171, .iload 4, 2, 4, 0, 0, .null, []),
  (173, .ireturn, 1, 0, 0, 0, .null, [])], [(34, [true, true, true, true, true, false, false, false, false]), (76, [true, true, true, true, true, true, true, false, false]), (89, [true, true, true, true, true, true, true, true, true])], 9)
def cd_X12_gameOf : mmP := ([(0, .aload_n 0, 1, 0, 0, 0, .null, []),
  (1, .iconst 0, 1, 0, 0, 0, .int 0, []),
  (2, .invokevirtual 349, 3, 261, 1, 192, .null, []),
  (5, .aload_n 0, 1, 0, 0, 0, .null, []),
  (6, .iload_n 1, 1, 1, 0, 0, .null, []),
  (7, .iload_n 3, 1, 3, 0, 0, .null, []),
  (8, .invokevirtual 311, 3, 228, 2, 192, .null, []),
  (11, .aload_n 0, 1, 0, 0, 0, .null, []),
  (12, .iload_n 2, 1, 2, 0, 0, .null, []),
  (13, .iload 4, 2, 4, 0, 0, .null, []),
  (15, .invokevirtual 311, 3, 228, 2, 192, .null, []),
  (18, .aload_n 0, 1, 0, 0, 0, .null, []),
  (19, .getfield 58, 3, 12, 27, 2, .null, []),
  (22, .bipush 8, 2, 0, 0, 0, .int 8, []),
  (24, .iaload, 1, 0, 0, 0, .null, []),
  (25, .iconst 4, 1, 0, 0, 0, .int 4, []),
  (26, .idiv, 1, 0, 0, 0, .null, []),
  (27, .istore 6, 2, 6, 0, 0, .null, []),
  (29, .aload_n 0, 1, 0, 0, 0, .null, []),
  (30, .iconst 0, 1, 0, 0, 0, .int 0, []),
  (31, .invokevirtual 352, 3, 262, 1, 192, .null, []),
  (34, .iload 6, 2, 6, 0, 0, .null, []),
  (36, .iload 5, 2, 5, 0, 0, .null, []),
  (38, .ifCond .ne 7, 3, 45, 0, 0, .null, []),
  (41, .iload_n 3, 1, 3, 0, 0, .null, []),
  (42, .goto 5, 3, 47, 0, 0, .null, []),
  (45, .iload 4, 2, 4, 0, 0, .null, []),
  (47, .isub, 1, 0, 0, 0, .null, []),
  (48, .ireturn, 1, 0, 0, 0, .null, [])], [], 7)
def cd_X12_areTwo : mmP := ([(0, .aload_n 0, 1, 0, 0, 0, .null, []),
  (1, .iload_n 1, 1, 1, 0, 0, .null, []),
  (2, .invokevirtual 296, 3, 222, 1, 193, .null, []),
  (5, .ifCond .eq 20, 3, 25, 0, 0, .null, []),
  (8, .aload_n 0, 1, 0, 0, 0, .null, []),
  (9, .iload_n 2, 1, 2, 0, 0, .null, []),
  (10, .invokevirtual 296, 3, 222, 1, 193, .null, []),
  (13, .ifCond .eq 12, 3, 25, 0, 0, .null, []),
  (16, .iload_n 1, 1, 1, 0, 0, .null, []),
  (17, .iload_n 2, 1, 2, 0, 0, .null, []),
  (18, .if_icmp .eq 7, 3, 25, 0, 0, .null, []),
  (21, .iconst 1, 1, 0, 0, 0, .int 1, []),
  (22, .goto 4, 3, 26, 0, 0, .null, []),
  (25, .iconst 0, 1, 0, 0, 0, .int 0, []),
  (26, .ireturn, 1, 0, 1, 0, .null, [])], [], 3)
def cd_X12_game : mmP := ([(0, .aload_n 0, 1, 0, 0, 0, .null, []),
  (1, .iload_n 1, 1, 1, 0, 0, .null, []),
  (2, .iload_n 2, 1, 2, 0, 0, .null, []),
  (3, .invokevirtual 361, 3, 282, 2, 193, .null, []),
  (6, .ifCond .eq 32, 3, 38, 0, 0, .null, []),
  (9, .iload_n 3, 1, 3, 0, 0, .null, []),
  (10, .iconst 0, 1, 0, 0, 0, .int 0, []),
  (11, .iconst 5, 1, 0, 0, 0, .int 5, []),
  (12, .invokestatic 208, 3, 179, 3, 1, .null, []),
  (15, .ifCond .eq 23, 3, 38, 0, 0, .null, []),
  (18, .iload 4, 2, 4, 0, 0, .null, []),
  (20, .iconst 0, 1, 0, 0, 0, .int 0, []),
  (21, .iconst 5, 1, 0, 0, 0, .int 5, []),
  (22, .invokestatic 208, 3, 179, 3, 1, .null, []),
  (25, .ifCond .eq 13, 3, 38, 0, 0, .null, []),
  (28, .iload 5, 2, 5, 0, 0, .null, []),
  (30, .iconst 0, 1, 0, 0, 0, .int 0, []),
  (31, .iconst 1, 1, 0, 0, 0, .int 1, []),
  (32, .invokestatic 208, 3, 179, 3, 1, .null, []),
  (35, .ifCond .ne 7, 3, 42, 0, 0, .null, []),
  (38, .ldc_w 398, 3, 0, 0, 0, .int (-1000000), []),
  (41, .ireturn, 1, 0, 0, 0, .null, []),
  (42, .aload_n 0, 1, 0, 0, 0, .null, []),
  (43, .iload_n 1, 1, 1, 0, 0, .null, []),
  (44, .iload_n 2, 1, 2, 0, 0, .null, []),
  (45, .iload_n 3, 1, 3, 0, 0, .null, []),
  (46, .iload 4, 2, 4, 0, 0, .null, []),
  (48, .iload 5, 2, 5, 0, 0, .null, []),
  (50, .invokevirtual 399, 3, 281, 5, 193, .null, []),
  (53, .ireturn, 1, 0, 0, 0, .null, [])], [], 6)
def cd_X12_isRest : mmP := ([(0, .iconst 0, 1, 0, 0, 0, .int 0, []),
  (1, .istore 5, 2, 5, 0, 0, .null, []),
  (3, .iload 5, 2, 5, 0, 0, .null, []),
  (5, .bipush 6, 2, 0, 0, 0, .int 6, []),
  (7, .if_icmp .ge 58, 3, 65, 0, 0, .null, []),
  (10, .aload_n 0, 1, 0, 0, 0, .null, []),
  (11, .iload_n 1, 1, 1, 0, 0, .null, []),
  (12, .iload_n 2, 1, 2, 0, 0, .null, []),
  (13, .iload 5, 2, 5, 0, 0, .null, []),
  (15, .iload 4, 2, 4, 0, 0, .null, []),
  (17, .iconst 0, 1, 0, 0, 0, .int 0, []),
  (18, .invokevirtual 399, 3, 281, 5, 193, .null, []),
  (21, .aload_n 0, 1, 0, 0, 0, .null, []),
  (22, .iload_n 1, 1, 1, 0, 0, .null, []),
  (23, .iload_n 2, 1, 2, 0, 0, .null, []),
  (24, .iload_n 3, 1, 3, 0, 0, .null, []),
  (25, .iload 4, 2, 4, 0, 0, .null, []),
  (27, .iconst 0, 1, 0, 0, 0, .int 0, []),
  (28, .invokevirtual 399, 3, 281, 5, 193, .null, []),
  (31, .if_icmp .gt 26, 3, 57, 0, 0, .null, []),
  (34, .aload_n 0, 1, 0, 0, 0, .null, []),
  (35, .iload_n 1, 1, 1, 0, 0, .null, []),
  (36, .iload_n 2, 1, 2, 0, 0, .null, []),
  (37, .iload_n 3, 1, 3, 0, 0, .null, []),
  (38, .iload 5, 2, 5, 0, 0, .null, []),
  (40, .iconst 1, 1, 0, 0, 0, .int 1, []),
  (41, .invokevirtual 399, 3, 281, 5, 193, .null, []),
  (44, .aload_n 0, 1, 0, 0, 0, .null, []),
  (45, .iload_n 1, 1, 1, 0, 0, .null, []),
  (46, .iload_n 2, 1, 2, 0, 0, .null, []),
  (47, .iload_n 3, 1, 3, 0, 0, .null, []),
  (48, .iload 4, 2, 4, 0, 0, .null, []),
  (50, .iconst 1, 1, 0, 0, 0, .int 1, []),
  (51, .invokevirtual 399, 3, 281, 5, 193, .null, []),
  (54, .if_icmp .le 5, 3, 59, 0, 0, .null, []),
  (57, .iconst 0, 1, 0, 0, 0, .int 0, []),
  (58, .ireturn, 1, 0, 1, 0, .null, []),
  (59, .iinc 5 1, 3, 5, 0, 0, .int 1, []),
  (62, .goto (-59), 3, 3, 0, 0, .null, []),
  (65, .iconst 1, 1, 0, 0, 0, .int 1, []),
  (66, .ireturn, 1, 0, 1, 0, .null, [])], [(3, [true, true, true, true, true, true])], 6)
def cd_X12_rests : mmP := ([(0, .aload_n 0, 1, 0, 0, 0, .null, []),
  (1, .iload_n 1, 1, 1, 0, 0, .null, []),
  (2, .iload_n 2, 1, 2, 0, 0, .null, []),
  (3, .invokevirtual 361, 3, 282, 2, 193, .null, []),
  (6, .ifCond .eq 8, 3, 14, 0, 0, .null, []),
  (9, .iload_n 3, 1, 3, 0, 0, .null, []),
  (10, .iconst (-1), 1, 0, 0, 0, .int (-1), []),
  (11, .if_icmp .ge 5, 3, 16, 0, 0, .null, []),
  (14, .iconst (-1), 1, 0, 0, 0, .int (-1), []),
  (15, .ireturn, 1, 0, 0, 0, .null, []),
  (16, .iconst 0, 1, 0, 0, 0, .int 0, []),
  (17, .istore 4, 2, 4, 0, 0, .null, []),
  (19, .iconst 0, 1, 0, 0, 0, .int 0, []),
  (20, .istore 5, 2, 5, 0, 0, .null, []),
  (22, .iload 5, 2, 5, 0, 0, .null, []),
  (24, .bipush 36, 2, 0, 0, 0, .int 36, []),
  (26, .if_icmp .ge 52, 3, 78, 0, 0, .null, []),
  (29, .aload_n 0, 1, 0, 0, 0, .null, []),
  (30, .iload_n 1, 1, 1, 0, 0, .null, []),
  (31, .iload_n 2, 1, 2, 0, 0, .null, []),
  (32, .iload 5, 2, 5, 0, 0, .null, []),
  (34, .bipush 6, 2, 0, 0, 0, .int 6, []),
  (36, .idiv, 1, 0, 0, 0, .null, []),
  (37, .iload 5, 2, 5, 0, 0, .null, []),
  (39, .bipush 6, 2, 0, 0, 0, .int 6, []),
  (41, .irem, 1, 0, 0, 0, .null, []),
  (42, .invokevirtual 403, 3, 284, 4, 193, .null, []),
  (45, .ifCond .eq 27, 3, 72, 0, 0, .null, []),
  (48, .iload 4, 2, 4, 0, 0, .null, []),
  (50, .iload_n 3, 1, 3, 0, 0, .null, []),
  (51, .if_icmp .ne 18, 3, 69, 0, 0, .null, []),
  (54, .bipush 10, 2, 0, 0, 0, .int 10, []),
  (56, .iload 5, 2, 5, 0, 0, .null, []),
  (58, .bipush 6, 2, 0, 0, 0, .int 6, []),
  (60, .idiv, 1, 0, 0, 0, .null, []),
  (61, .imul, 1, 0, 0, 0, .null, []),
  (62, .iload 5, 2, 5, 0, 0, .null, []),
  (64, .bipush 6, 2, 0, 0, 0, .int 6, []),
  (66, .irem, 1, 0, 0, 0, .null, []),
  (67, .iadd, 1, 0, 0, 0, .null, []),
  (68, .ireturn, 1, 0, 0, 0, .null, []),
  (69, .iinc 4 1, 3, 4, 0, 0, .int 1, []),
  (72, .iinc 5 1, 3, 5, 0, 0, .int 1, []),
  (75, .goto (-53), 3, 22, 0, 0, .null, []),
  (78, .iload_n 3, 1, 3, 0, 0, .null, []),
  (79, .iconst (-1), 1, 0, 0, 0, .int (-1), []),
  (80, .if_icmp .ne 8, 3, 88, 0, 0, .null, []),
  (83, .iload 4, 2, 4, 0, 0, .null, []),
  (85, .goto 4, 3, 89, 0, 0, .null, []),
  (88, .iconst (-1), 1, 0, 0, 0, .int (-1), []),
  (89, .ireturn, 1, 0, 0, 0, .null, [])], [(22, [true, true, true, true, true, true])], 6)
def cd_X12_oddsFrom : mmP := ([(0, .iload_n 2, 1, 2, 0, 0, .null, []),
  (1, .ifCond .ne 22, 3, 23, 0, 0, .null, []),
  (4, .aload_n 0, 1, 0, 0, 0, .null, []),
  (5, .getfield 58, 3, 12, 27, 2, .null, []),
  (8, .bipush 8, 2, 0, 0, 0, .int 8, []),
  (10, .iaload, 1, 0, 0, 0, .null, []),
  (11, .iload 4, 2, 4, 0, 0, .null, []),
  (13, .if_icmp .lt 8, 3, 21, 0, 0, .null, []),
  (16, .iload 5, 2, 5, 0, 0, .null, []),
  (18, .goto 4, 3, 22, 0, 0, .null, []),
  (21, .iconst 0, 1, 0, 0, 0, .int 0, []),
  (22, .ireturn, 1, 0, 0, 0, .null, []),
  (23, .iload 5, 2, 5, 0, 0, .null, []),
  (25, .i2l, 1, 0, 0, 0, .null, []),
  (26, .iload_n 3, 1, 3, 0, 0, .null, []),
  (27, .i2l, 1, 0, 0, 0, .null, []),
  (28, .lmul, 1, 0, 0, 0, .null, []),
  (29, .ldc2_w 407, 3, 0, 0, 0, .long 100, []),
  (32, .ldiv, 1, 0, 0, 0, .null, []),
  (33, .l2i, 1, 0, 0, 0, .null, []),
  (34, .istore 6, 2, 6, 0, 0, .null, []),
  (36, .iconst 0, 1, 0, 0, 0, .int 0, []),
  (37, .istore 7, 2, 7, 0, 0, .null, []),
  (39, .aload_n 0, 1, 0, 0, 0, .null, []),
  (40, .iload_n 1, 1, 1, 0, 0, .null, []),
  (41, .invokevirtual 349, 3, 261, 1, 192, .null, []),
  (44, .iconst 0, 1, 0, 0, 0, .int 0, []),
  (45, .istore 8, 2, 8, 0, 0, .null, []),
  (47, .iload 8, 2, 8, 0, 0, .null, []),
  (49, .iconst 2, 1, 0, 0, 0, .int 2, []),
  (50, .if_icmp .ge 62, 3, 112, 0, 0, .null, []),
  (53, .iload 8, 2, 8, 0, 0, .null, []),
  (55, .iconst 1, 1, 0, 0, 0, .int 1, []),
  (56, .if_icmp .ne 7, 3, 63, 0, 0, .null, []),
  (59, .aload_n 0, 1, 0, 0, 0, .null, []),
  (60, .invokevirtual 320, 3, 233, 0, 192, .null, []),
  (63, .aload_n 0, 1, 0, 0, 0, .null, []),
  (64, .invokevirtual 323, 3, 234, 0, 192, .null, []),
  (67, .iload 7, 2, 7, 0, 0, .null, []),
  (69, .aload_n 0, 1, 0, 0, 0, .null, []),
  (70, .iload_n 1, 1, 1, 0, 0, .null, []),
  (71, .iconst 1, 1, 0, 0, 0, .int 1, []),
  (72, .iadd, 1, 0, 0, 0, .null, []),
  (73, .iload_n 2, 1, 2, 0, 0, .null, []),
  (74, .iconst 1, 1, 0, 0, 0, .int 1, []),
  (75, .isub, 1, 0, 0, 0, .null, []),
  (76, .iload_n 3, 1, 3, 0, 0, .null, []),
  (77, .iload 4, 2, 4, 0, 0, .null, []),
  (79, .iload 8, 2, 8, 0, 0, .null, []),
  (81, .iconst 1, 1, 0, 0, 0, .int 1, []),
  (82, .if_icmp .ne 8, 3, 90, 0, 0, .null, []),
  (85, .iload 6, 2, 6, 0, 0, .null, []),
  (87, .goto 8, 3, 95, 0, 0, .null, []),
  (90, .iload 5, 2, 5, 0, 0, .null, []),
  (92, .iload 6, 2, 6, 0, 0, .null, []),
  (94, .isub, 1, 0, 0, 0, .null, []),
  (95, .invokevirtual 409, 3, 286, 5, 193, .null, []),
  (98, .iadd, 1, 0, 0, 0, .null, []),
  (99, .istore 7, 2, 7, 0, 0, .null, []),
  (101, .aload_n 0, 1, 0, 0, 0, .null, []),
  (102, .iload_n 1, 1, 1, 0, 0, .null, []),
  (103, .invokevirtual 352, 3, 262, 1, 192, .null, []),
  (106, .iinc 8 1, 3, 8, 0, 0, .int 1, []),
  (109, .goto (-62), 3, 47, 0, 0, .null, []),
  (112, .iload 7, 2, 7, 0, 0, .null, []),
  (114, .ireturn, 1, 0, 0, 0, .null, [])], [(47, [true, true, true, true, true, true, true, true, true])], 9)
def cd_X12_odds : mmP := ([(0, .aload_n 0, 1, 0, 0, 0, .null, []),
  (1, .getfield 248, 3, 12, 26, 0, .null, []),
  (4, .ifCond .eq 33, 3, 37, 0, 0, .null, []),
  (7, .iload_n 1, 1, 1, 0, 0, .null, []),
  (8, .iconst 0, 1, 0, 0, 0, .int 0, []),
  (9, .bipush 8, 2, 0, 0, 0, .int 8, []),
  (11, .invokestatic 208, 3, 179, 3, 1, .null, []),
  (14, .ifCond .eq 23, 3, 37, 0, 0, .null, []),
  (17, .iload_n 2, 1, 2, 0, 0, .null, []),
  (18, .iconst 0, 1, 0, 0, 0, .int 0, []),
  (19, .bipush 100, 2, 0, 0, 0, .int 100, []),
  (21, .invokestatic 208, 3, 179, 3, 1, .null, []),
  (24, .ifCond .eq 13, 3, 37, 0, 0, .null, []),
  (27, .iload_n 3, 1, 3, 0, 0, .null, []),
  (28, .iconst 0, 1, 0, 0, 0, .int 0, []),
  (29, .bipush 99, 2, 0, 0, 0, .int 99, []),
  (31, .invokestatic 208, 3, 179, 3, 1, .null, []),
  (34, .ifCond .ne 5, 3, 39, 0, 0, .null, []),
  (37, .iconst (-1), 1, 0, 0, 0, .int (-1), []),
  (38, .ireturn, 1, 0, 0, 0, .null, []),
  (39, .aload_n 0, 1, 0, 0, 0, .null, []),
  (40, .iconst 0, 1, 0, 0, 0, .int 0, []),
  (41, .iload_n 1, 1, 1, 0, 0, .null, []),
  (42, .iload_n 2, 1, 2, 0, 0, .null, []),
  (43, .iload_n 3, 1, 3, 0, 0, .null, []),
  (44, .ldc_w 412, 3, 0, 0, 0, .int 1000000000, []),
  (47, .invokevirtual 409, 3, 286, 5, 193, .null, []),
  (50, .ireturn, 1, 0, 0, 0, .null, [])], [], 4)
def cd_X12_shares : mmP := ([(0, .aload_n 0, 1, 0, 0, 0, .null, []),
  (1, .iload_n 1, 1, 1, 0, 0, .null, []),
  (2, .invokevirtual 296, 3, 222, 1, 193, .null, []),
  (5, .ifCond .eq 14, 3, 19, 0, 0, .null, []),
  (8, .iload_n 2, 1, 2, 0, 0, .null, []),
  (9, .iconst 0, 1, 0, 0, 0, .int 0, []),
  (10, .sipush 999, 3, 0, 0, 0, .int 999, []),
  (13, .invokestatic 208, 3, 179, 3, 1, .null, []),
  (16, .ifCond .ne 5, 3, 21, 0, 0, .null, []),
  (19, .iconst (-1), 1, 0, 0, 0, .int (-1), []),
  (20, .ireturn, 1, 0, 0, 0, .null, []),
  (21, .iconst 0, 1, 0, 0, 0, .int 0, []),
  (22, .istore_n 3, 1, 3, 0, 0, .null, []),
  (23, .iconst 0, 1, 0, 0, 0, .int 0, []),
  (24, .istore 4, 2, 4, 0, 0, .null, []),
  (26, .iload 4, 2, 4, 0, 0, .null, []),
  (28, .aload_n 0, 1, 0, 0, 0, .null, []),
  (29, .getfield 245, 3, 12, 25, 0, .null, []),
  (32, .if_icmp .ge 21, 3, 53, 0, 0, .null, []),
  (35, .iload_n 3, 1, 3, 0, 0, .null, []),
  (36, .aload_n 0, 1, 0, 0, 0, .null, []),
  (37, .getfield 58, 3, 12, 27, 2, .null, []),
  (40, .iconst 0, 1, 0, 0, 0, .int 0, []),
  (41, .iload 4, 2, 4, 0, 0, .null, []),
  (43, .iadd, 1, 0, 0, 0, .null, []),
  (44, .iaload, 1, 0, 0, 0, .null, []),
  (45, .iadd, 1, 0, 0, 0, .null, []),
  (46, .istore_n 3, 1, 3, 0, 0, .null, []),
  (47, .iinc 4 1, 3, 4, 0, 0, .int 1, []),
  (50, .goto (-24), 3, 26, 0, 0, .null, []),
  (53, .iload_n 2, 1, 2, 0, 0, .null, []),
  (54, .aload_n 0, 1, 0, 0, 0, .null, []),
  (55, .getfield 58, 3, 12, 27, 2, .null, []),
  (58, .iconst 0, 1, 0, 0, 0, .int 0, []),
  (59, .iload_n 1, 1, 1, 0, 0, .null, []),
  (60, .iadd, 1, 0, 0, 0, .null, []),
  (61, .iaload, 1, 0, 0, 0, .null, []),
  (62, .imul, 1, 0, 0, 0, .null, []),
  (63, .iload_n 3, 1, 3, 0, 0, .null, []),
  (64, .idiv, 1, 0, 0, 0, .null, []),
  (65, .ireturn, 1, 0, 0, 0, .null, [])], [(26, [true, true, true, true, true])], 5)
def cd_X12_topMinister : mmP := ([(0, .iconst 0, 1, 0, 0, 0, .int 0, []),
  (1, .istore_n 2, 1, 2, 0, 0, .null, []),
  (2, .iconst 1, 1, 0, 0, 0, .int 1, []),
  (3, .istore_n 3, 1, 3, 0, 0, .null, []),
  (4, .iload_n 3, 1, 3, 0, 0, .null, []),
  (5, .aload_n 0, 1, 0, 0, 0, .null, []),
  (6, .getfield 248, 3, 12, 26, 0, .null, []),
  (9, .if_icmp .ge 30, 3, 39, 0, 0, .null, []),
  (12, .aload_n 0, 1, 0, 0, 0, .null, []),
  (13, .iload_n 3, 1, 3, 0, 0, .null, []),
  (14, .iload_n 1, 1, 1, 0, 0, .null, []),
  (15, .invokevirtual 284, 3, 221, 2, 193, .null, []),
  (18, .aload_n 0, 1, 0, 0, 0, .null, []),
  (19, .iload_n 2, 1, 2, 0, 0, .null, []),
  (20, .iload_n 1, 1, 1, 0, 0, .null, []),
  (21, .invokevirtual 284, 3, 221, 2, 193, .null, []),
  (24, .if_icmp .le 7, 3, 31, 0, 0, .null, []),
  (27, .iload_n 3, 1, 3, 0, 0, .null, []),
  (28, .goto 4, 3, 32, 0, 0, .null, []),
  (31, .iload_n 2, 1, 2, 0, 0, .null, []),
  (32, .istore_n 2, 1, 2, 0, 0, .null, []),
  (33, .iinc 3 1, 3, 3, 0, 0, .int 1, []),
  (36, .goto (-32), 3, 4, 0, 0, .null, []),
  (39, .iload_n 2, 1, 2, 0, 0, .null, []),
  (40, .ireturn, 1, 0, 0, 0, .null, [])], [(4, [true, true, true, true])], 4)
def cd_X12_topCook : mmP := ([(0, .iconst 0, 1, 0, 0, 0, .int 0, []),
  (1, .istore_n 2, 1, 2, 0, 0, .null, []),
  (2, .iconst 1, 1, 0, 0, 0, .int 1, []),
  (3, .istore_n 3, 1, 3, 0, 0, .null, []),
  (4, .iload_n 3, 1, 3, 0, 0, .null, []),
  (5, .aload_n 0, 1, 0, 0, 0, .null, []),
  (6, .getfield 245, 3, 12, 25, 0, .null, []),
  (9, .if_icmp .ge 57, 3, 66, 0, 0, .null, []),
  (12, .iload_n 1, 1, 1, 0, 0, .null, []),
  (13, .ifCond .eq 23, 3, 36, 0, 0, .null, []),
  (16, .aload_n 0, 1, 0, 0, 0, .null, []),
  (17, .getfield 58, 3, 12, 27, 2, .null, []),
  (20, .iconst 0, 1, 0, 0, 0, .int 0, []),
  (21, .iload_n 3, 1, 3, 0, 0, .null, []),
  (22, .iadd, 1, 0, 0, 0, .null, []),
  (23, .iaload, 1, 0, 0, 0, .null, []),
  (24, .aload_n 0, 1, 0, 0, 0, .null, []),
  (25, .getfield 58, 3, 12, 27, 2, .null, []),
  (28, .iconst 0, 1, 0, 0, 0, .int 0, []),
  (29, .iload_n 2, 1, 2, 0, 0, .null, []),
  (30, .iadd, 1, 0, 0, 0, .null, []),
  (31, .iaload, 1, 0, 0, 0, .null, []),
  (32, .isub, 1, 0, 0, 0, .null, []),
  (33, .goto 14, 3, 47, 0, 0, .null, []),
  (36, .aload_n 0, 1, 0, 0, 0, .null, []),
  (37, .iload_n 3, 1, 3, 0, 0, .null, []),
  (38, .invokevirtual 302, 3, 224, 1, 193, .null, []),
  (41, .aload_n 0, 1, 0, 0, 0, .null, []),
  (42, .iload_n 2, 1, 2, 0, 0, .null, []),
  (43, .invokevirtual 302, 3, 224, 1, 193, .null, []),
  (46, .isub, 1, 0, 0, 0, .null, []),
  (47, .istore 4, 2, 4, 0, 0, .null, []),
  (49, .iload 4, 2, 4, 0, 0, .null, []),
  (51, .ifCond .le 7, 3, 58, 0, 0, .null, []),
  (54, .iload_n 3, 1, 3, 0, 0, .null, []),
  (55, .goto 4, 3, 59, 0, 0, .null, []),
  (58, .iload_n 2, 1, 2, 0, 0, .null, []),
  (59, .istore_n 2, 1, 2, 0, 0, .null, []),
  (60, .iinc 3 1, 3, 3, 0, 0, .int 1, []),
  (63, .goto (-59), 3, 4, 0, 0, .null, []),
  (66, .iload_n 2, 1, 2, 0, 0, .null, []),
  (67, .ireturn, 1, 0, 0, 0, .null, [])], [(4, [true, true, true, true, false])], 5)
def cd_X12_could : mmP := ([(0, .iconst 0, 1, 0, 0, 0, .int 0, []),
  (1, .istore_n 1, 1, 1, 0, 0, .null, []),
  (2, .iconst 0, 1, 0, 0, 0, .int 0, []),
  (3, .istore_n 2, 1, 2, 0, 0, .null, []),
  (4, .iload_n 2, 1, 2, 0, 0, .null, []),
  (5, .aload_n 0, 1, 0, 0, 0, .null, []),
  (6, .getfield 248, 3, 12, 26, 0, .null, []),
  (9, .if_icmp .ge 27, 3, 36, 0, 0, .null, []),
  (12, .iload_n 1, 1, 1, 0, 0, .null, []),
  (13, .aload_n 0, 1, 0, 0, 0, .null, []),
  (14, .iload_n 2, 1, 2, 0, 0, .null, []),
  (15, .invokevirtual 314, 3, 235, 1, 193, .null, []),
  (18, .ifCond .eq 9, 3, 27, 0, 0, .null, []),
  (21, .iconst 1, 1, 0, 0, 0, .int 1, []),
  (22, .iload_n 2, 1, 2, 0, 0, .null, []),
  (23, .ishl, 1, 0, 0, 0, .null, []),
  (24, .goto 4, 3, 28, 0, 0, .null, []),
  (27, .iconst 0, 1, 0, 0, 0, .int 0, []),
  (28, .ior, 1, 0, 0, 0, .null, []),
  (29, .istore_n 1, 1, 1, 0, 0, .null, []),
  (30, .iinc 2 1, 3, 2, 0, 0, .int 1, []),
  (33, .goto (-29), 3, 4, 0, 0, .null, []),
  (36, .iload_n 1, 1, 1, 0, 0, .null, []),
  (37, .ireturn, 1, 0, 0, 0, .null, [])], [(4, [true, true, true])], 3)
def cd_X12_doors : mmP := ([(0, .iconst 0, 1, 0, 0, 0, .int 0, []),
  (1, .istore_n 1, 1, 1, 0, 0, .null, []),
  (2, .aload_n 0, 1, 0, 0, 0, .null, []),
  (3, .getfield 58, 3, 12, 27, 2, .null, []),
  (6, .bipush 8, 2, 0, 0, 0, .int 8, []),
  (8, .iaload, 1, 0, 0, 0, .null, []),
  (9, .istore_n 2, 1, 2, 0, 0, .null, []),
  (10, .iload_n 2, 1, 2, 0, 0, .null, []),
  (11, .ifCond .le 13, 3, 24, 0, 0, .null, []),
  (14, .iinc 1 1, 3, 1, 0, 0, .int 1, []),
  (17, .iload_n 2, 1, 2, 0, 0, .null, []),
  (18, .iconst 2, 1, 0, 0, 0, .int 2, []),
  (19, .idiv, 1, 0, 0, 0, .null, []),
  (20, .istore_n 2, 1, 2, 0, 0, .null, []),
  (21, .goto (-11), 3, 10, 0, 0, .null, []),
  (24, .iload_n 1, 1, 1, 0, 0, .null, []),
  (25, .ireturn, 1, 0, 0, 0, .null, [])], [(10, [false, true, true])], 3)
def cd_X12_most : mmP := ([(0, .aload_n 0, 1, 0, 0, 0, .null, []),
  (1, .getfield 248, 3, 12, 26, 0, .null, []),
  (4, .ifCond .ne 5, 3, 9, 0, 0, .null, []),
  (7, .iconst (-1), 1, 0, 0, 0, .int (-1), []),
  (8, .ireturn, 1, 0, 0, 0, .null, []),
  (9, .iload_n 1, 1, 1, 0, 0, .null, []),
  (10, .tableswitch 112 0 9 #[54, 60, 66, 72, 78, 84, 92, 97, 102, 107], 54, 122, 0, 0, .null, [(0, 64), (1, 70), (2, 76), (3, 82), (4, 88), (5, 94), (6, 102), (7, 107), (8, 112), (9, 117)]),
  (64, .aload_n 0, 1, 0, 0, 0, .null, []),
  (65, .iconst 0, 1, 0, 0, 0, .int 0, []),
  (66, .invokevirtual 413, 3, 289, 1, 193, .null, []),
  (69, .ireturn, 1, 0, 0, 0, .null, []),
  (70, .aload_n 0, 1, 0, 0, 0, .null, []),
  (71, .iconst 1, 1, 0, 0, 0, .int 1, []),
  (72, .invokevirtual 413, 3, 289, 1, 193, .null, []),
  (75, .ireturn, 1, 0, 0, 0, .null, []),
  (76, .aload_n 0, 1, 0, 0, 0, .null, []),
  (77, .iconst 2, 1, 0, 0, 0, .int 2, []),
  (78, .invokevirtual 413, 3, 289, 1, 193, .null, []),
  (81, .ireturn, 1, 0, 0, 0, .null, []),
  (82, .aload_n 0, 1, 0, 0, 0, .null, []),
  (83, .iconst 1, 1, 0, 0, 0, .int 1, []),
  (84, .invokevirtual 416, 3, 290, 1, 193, .null, []),
  (87, .ireturn, 1, 0, 0, 0, .null, []),
  (88, .aload_n 0, 1, 0, 0, 0, .null, []),
  (89, .iconst 0, 1, 0, 0, 0, .int 0, []),
  (90, .invokevirtual 416, 3, 290, 1, 193, .null, []),
  (93, .ireturn, 1, 0, 0, 0, .null, []),
  (94, .aload_n 0, 1, 0, 0, 0, .null, []),
  (95, .getfield 58, 3, 12, 27, 2, .null, []),
  (98, .bipush 10, 2, 0, 0, 0, .int 10, []),
  (100, .iaload, 1, 0, 0, 0, .null, []),
  (101, .ireturn, 1, 0, 0, 0, .null, []),
  (102, .aload_n 0, 1, 0, 0, 0, .null, []),
  (103, .invokevirtual 420, 3, 291, 0, 193, .null, []),
  (106, .ireturn, 1, 0, 0, 0, .null, []),
  (107, .aload_n 0, 1, 0, 0, 0, .null, []),
  (108, .invokevirtual 287, 3, 229, 0, 193, .null, []),
  (111, .ireturn, 1, 0, 0, 0, .null, []),
  (112, .aload_n 0, 1, 0, 0, 0, .null, []),
  (113, .invokevirtual 423, 3, 292, 0, 193, .null, []),
  (116, .ireturn, 1, 0, 0, 0, .null, []),
  (117, .aload_n 0, 1, 0, 0, 0, .null, []),
  (118, .invokevirtual 326, 3, 230, 0, 193, .null, []),
  (121, .ireturn, 1, 0, 0, 0, .null, []),
  (122, .iconst (-1), 1, 0, 0, 0, .int (-1), []),
  (123, .ireturn, 1, 0, 0, 0, .null, [])], [], 2)
def cd_X12_ahead : mmP := ([(0, .aload_n 0, 1, 0, 0, 0, .null, []),
  (1, .getfield 248, 3, 12, 26, 0, .null, []),
  (4, .ifCond .eq 14, 3, 18, 0, 0, .null, []),
  (7, .iload_n 1, 1, 1, 0, 0, .null, []),
  (8, .iconst 1, 1, 0, 0, 0, .int 1, []),
  (9, .sipush 9999, 3, 0, 0, 0, .int 9999, []),
  (12, .invokestatic 208, 3, 179, 3, 1, .null, []),
  (15, .ifCond .ne 5, 3, 20, 0, 0, .null, []),
  (18, .iconst (-1), 1, 0, 0, 0, .int (-1), []),
  (19, .ireturn, 1, 0, 0, 0, .null, []),
  (20, .iconst 0, 1, 0, 0, 0, .int 0, []),
  (21, .istore_n 2, 1, 2, 0, 0, .null, []),
  (22, .iload_n 2, 1, 2, 0, 0, .null, []),
  (23, .sipush 999, 3, 0, 0, 0, .int 999, []),
  (26, .if_icmp .gt 29, 3, 55, 0, 0, .null, []),
  (29, .aload_n 0, 1, 0, 0, 0, .null, []),
  (30, .getfield 58, 3, 12, 27, 2, .null, []),
  (33, .bipush 14, 2, 0, 0, 0, .int 14, []),
  (35, .iaload, 1, 0, 0, 0, .null, []),
  (36, .iload_n 2, 1, 2, 0, 0, .null, []),
  (37, .aload_n 0, 1, 0, 0, 0, .null, []),
  (38, .invokevirtual 326, 3, 230, 0, 193, .null, []),
  (41, .imul, 1, 0, 0, 0, .null, []),
  (42, .iadd, 1, 0, 0, 0, .null, []),
  (43, .iload_n 1, 1, 1, 0, 0, .null, []),
  (44, .if_icmp .lt 5, 3, 49, 0, 0, .null, []),
  (47, .iload_n 2, 1, 2, 0, 0, .null, []),
  (48, .ireturn, 1, 0, 0, 0, .null, []),
  (49, .iinc 2 1, 3, 2, 0, 0, .int 1, []),
  (52, .goto (-30), 3, 22, 0, 0, .null, []),
  (55, .iconst (-1), 1, 0, 0, 0, .int (-1), []),
  (56, .ireturn, 1, 0, 0, 0, .null, [])], [(22, [true, true, true])], 3)
def cd_X12_image : mmP := ([(0, .aload_n 0, 1, 0, 0, 0, .null, []),
  (1, .getfield 248, 3, 12, 26, 0, .null, []),
  (4, .ifCond .ne 5, 3, 9, 0, 0, .null, []),
  (7, .iconst (-1), 1, 0, 0, 0, .int (-1), []),
  (8, .ireturn, 1, 0, 0, 0, .null, []),
  (9, .iconst 0, 1, 0, 0, 0, .int 0, []),
  (10, .istore_n 1, 1, 1, 0, 0, .null, []),
  (11, .iload_n 1, 1, 1, 0, 0, .null, []),
  (12, .sipush 198, 3, 0, 0, 0, .int 198, []),
  (15, .if_icmp .ge 21, 3, 36, 0, 0, .null, []),
  (18, .aload_n 0, 1, 0, 0, 0, .null, []),
  (19, .getfield 90, 3, 12, 44, 2, .null, []),
  (22, .iload_n 1, 1, 1, 0, 0, .null, []),
  (23, .aload_n 0, 1, 0, 0, 0, .null, []),
  (24, .getfield 58, 3, 12, 27, 2, .null, []),
  (27, .iload_n 1, 1, 1, 0, 0, .null, []),
  (28, .iaload, 1, 0, 0, 0, .null, []),
  (29, .iastore, 1, 0, 0, 0, .null, []),
  (30, .iinc 1 1, 3, 1, 0, 0, .int 1, []),
  (33, .goto (-22), 3, 11, 0, 0, .null, []),
  (36, .aload_n 0, 1, 0, 0, 0, .null, []),
  (37, .iconst 1, 1, 0, 0, 0, .int 1, []),
  (38, .putfield 257, 3, 12, 45, 3, .null, []),
  (41, .aload_n 0, 1, 0, 0, 0, .null, []),
  (42, .getfield 58, 3, 12, 27, 2, .null, []),
  (45, .bipush 16, 2, 0, 0, 0, .int 16, []),
  (47, .iaload, 1, 0, 0, 0, .null, []),
  (48, .ireturn, 1, 0, 0, 0, .null, [])], [(11, [true, true])], 2)
def cd_X12_back : mmP := ([(0, .aload_n 0, 1, 0, 0, 0, .null, []),
  (1, .getfield 257, 3, 12, 45, 3, .null, []),
  (4, .ifCond .ne 5, 3, 9, 0, 0, .null, []),
  (7, .iconst (-1), 1, 0, 0, 0, .int (-1), []),
  (8, .ireturn, 1, 0, 0, 0, .null, []),
  (9, .iconst 0, 1, 0, 0, 0, .int 0, []),
  (10, .istore_n 1, 1, 1, 0, 0, .null, []),
  (11, .iload_n 1, 1, 1, 0, 0, .null, []),
  (12, .sipush 198, 3, 0, 0, 0, .int 198, []),
  (15, .if_icmp .ge 21, 3, 36, 0, 0, .null, []),
  (18, .aload_n 0, 1, 0, 0, 0, .null, []),
  (19, .getfield 58, 3, 12, 27, 2, .null, []),
  (22, .iload_n 1, 1, 1, 0, 0, .null, []),
  (23, .aload_n 0, 1, 0, 0, 0, .null, []),
  (24, .getfield 90, 3, 12, 44, 2, .null, []),
  (27, .iload_n 1, 1, 1, 0, 0, .null, []),
  (28, .iaload, 1, 0, 0, 0, .null, []),
  (29, .iastore, 1, 0, 0, 0, .null, []),
  (30, .iinc 1 1, 3, 1, 0, 0, .int 1, []),
  (33, .goto (-22), 3, 11, 0, 0, .null, []),
  (36, .aload_n 0, 1, 0, 0, 0, .null, []),
  (37, .iconst 0, 1, 0, 0, 0, .int 0, []),
  (38, .putfield 254, 3, 12, 32, 0, .null, []),
  (41, .aload_n 0, 1, 0, 0, 0, .null, []),
  (42, .getfield 58, 3, 12, 27, 2, .null, []),
  (45, .bipush 16, 2, 0, 0, 0, .int 16, []),
  (47, .iaload, 1, 0, 0, 0, .null, []),
  (48, .ireturn, 1, 0, 0, 0, .null, [])], [(11, [true, true])], 2)
def cd_X12_count : mmP := ([(0, .iload_n 1, 1, 1, 0, 0, .null, []),
  (1, .tableswitch 171 0 14 #[75, 80, 85, 90, 95, 100, 108, 116, 124, 132, 140, 148, 153, 158, 166], 75, 172, 0, 0, .null, [(0, 76), (1, 81), (2, 86), (3, 91), (4, 96), (5, 101), (6, 109), (7, 117), (8, 125), (9, 133), (10, 141), (11, 149), (12, 154), (13, 159), (14, 167)]),
  (76, .aload_n 0, 1, 0, 0, 0, .null, []),
  (77, .getfield 248, 3, 12, 26, 0, .null, []),
  (80, .ireturn, 1, 0, 0, 0, .null, []),
  (81, .aload_n 0, 1, 0, 0, 0, .null, []),
  (82, .getfield 245, 3, 12, 25, 0, .null, []),
  (85, .ireturn, 1, 0, 0, 0, .null, []),
  (86, .aload_n 0, 1, 0, 0, 0, .null, []),
  (87, .getfield 264, 3, 12, 13, 0, .null, []),
  (90, .ireturn, 1, 0, 0, 0, .null, []),
  (91, .aload_n 0, 1, 0, 0, 0, .null, []),
  (92, .getfield 100, 3, 12, 2, 0, .null, []),
  (95, .ireturn, 1, 0, 0, 0, .null, []),
  (96, .aload_n 0, 1, 0, 0, 0, .null, []),
  (97, .getfield 64, 3, 12, 29, 0, .null, []),
  (100, .ireturn, 1, 0, 0, 0, .null, []),
  (101, .aload_n 0, 1, 0, 0, 0, .null, []),
  (102, .getfield 58, 3, 12, 27, 2, .null, []),
  (105, .bipush 16, 2, 0, 0, 0, .int 16, []),
  (107, .iaload, 1, 0, 0, 0, .null, []),
  (108, .ireturn, 1, 0, 0, 0, .null, []),
  (109, .aload_n 0, 1, 0, 0, 0, .null, []),
  (110, .getfield 58, 3, 12, 27, 2, .null, []),
  (113, .bipush 8, 2, 0, 0, 0, .int 8, []),
  (115, .iaload, 1, 0, 0, 0, .null, []),
  (116, .ireturn, 1, 0, 0, 0, .null, []),
  (117, .aload_n 0, 1, 0, 0, 0, .null, []),
  (118, .getfield 58, 3, 12, 27, 2, .null, []),
  (121, .bipush 9, 2, 0, 0, 0, .int 9, []),
  (123, .iaload, 1, 0, 0, 0, .null, []),
  (124, .ireturn, 1, 0, 0, 0, .null, []),
  (125, .aload_n 0, 1, 0, 0, 0, .null, []),
  (126, .getfield 58, 3, 12, 27, 2, .null, []),
  (129, .bipush 11, 2, 0, 0, 0, .int 11, []),
  (131, .iaload, 1, 0, 0, 0, .null, []),
  (132, .ireturn, 1, 0, 0, 0, .null, []),
  (133, .aload_n 0, 1, 0, 0, 0, .null, []),
  (134, .getfield 58, 3, 12, 27, 2, .null, []),
  (137, .bipush 14, 2, 0, 0, 0, .int 14, []),
  (139, .iaload, 1, 0, 0, 0, .null, []),
  (140, .ireturn, 1, 0, 0, 0, .null, []),
  (141, .aload_n 0, 1, 0, 0, 0, .null, []),
  (142, .getfield 58, 3, 12, 27, 2, .null, []),
  (145, .bipush 15, 2, 0, 0, 0, .int 15, []),
  (147, .iaload, 1, 0, 0, 0, .null, []),
  (148, .ireturn, 1, 0, 0, 0, .null, []),
  (149, .aload_n 0, 1, 0, 0, 0, .null, []),
  (150, .getfield 68, 3, 12, 30, 0, .null, []),
  (153, .ireturn, 1, 0, 0, 0, .null, []),
  (154, .aload_n 0, 1, 0, 0, 0, .null, []),
  (155, .getfield 251, 3, 12, 43, 0, .null, []),
  (158, .ireturn, 1, 0, 0, 0, .null, []),
  (159, .aload_n 0, 1, 0, 0, 0, .null, []),
  (160, .getfield 58, 3, 12, 27, 2, .null, []),
  (163, .bipush 17, 2, 0, 0, 0, .int 17, []),
  (165, .iaload, 1, 0, 0, 0, .null, []),
  (166, .ireturn, 1, 0, 0, 0, .null, []),
  (167, .aload_n 0, 1, 0, 0, 0, .null, []),
  (168, .getfield 254, 3, 12, 32, 0, .null, []),
  (171, .ireturn, 1, 0, 0, 0, .null, []),
  (172, .ldc_w 398, 3, 0, 0, 0, .int (-1000000), []),
  (175, .ireturn, 1, 0, 0, 0, .null, [])], [], 2)
def cd_J6_numberOfTrailingZeros_0f7a4 : mmP := ([(0, .iload_n 0, 1, 0, 0, 0, .null, []),
  (1, .iconst (-1), 1, 0, 0, 0, .int (-1), []),
  (2, .ixor, 1, 0, 0, 0, .null, []),
  (3, .iload_n 0, 1, 0, 0, 0, .null, []),
  (4, .iconst 1, 1, 0, 0, 0, .int 1, []),
  (5, .isub, 1, 0, 0, 0, .null, []),
  (6, .iand, 1, 0, 0, 0, .null, []),
  (7, .istore_n 0, 1, 0, 0, 0, .null, []),
  (8, .iload_n 0, 1, 0, 0, 0, .null, []),
  (9, .ifCond .gt 8, 3, 17, 0, 0, .null, []),
  (12, .iload_n 0, 1, 0, 0, 0, .null, []),
  (13, .bipush 32, 2, 0, 0, 0, .int 32, []),
  (15, .iand, 1, 0, 0, 0, .null, []),
  (16, .ireturn, 1, 0, 0, 0, .null, []),
  (17, .iconst 1, 1, 0, 0, 0, .int 1, []),
  (18, .istore_n 1, 1, 1, 0, 0, .null, []),
  (19, .iload_n 0, 1, 0, 0, 0, .null, []),
  (20, .ldc_w 264, 3, 0, 0, 0, .int 65536, []),
  (23, .if_icmp .le 11, 3, 34, 0, 0, .null, []),
  (26, .iinc 1 16, 3, 1, 0, 0, .int 16, []),
  (29, .iload_n 0, 1, 0, 0, 0, .null, []),
  (30, .bipush 16, 2, 0, 0, 0, .int 16, []),
  (32, .iushr, 1, 0, 0, 0, .null, []),
  (33, .istore_n 0, 1, 0, 0, 0, .null, []),
  (34, .iload_n 0, 1, 0, 0, 0, .null, []),
  (35, .sipush 256, 3, 0, 0, 0, .int 256, []),
  (38, .if_icmp .le 11, 3, 49, 0, 0, .null, []),
  (41, .iinc 1 8, 3, 1, 0, 0, .int 8, []),
  (44, .iload_n 0, 1, 0, 0, 0, .null, []),
  (45, .bipush 8, 2, 0, 0, 0, .int 8, []),
  (47, .iushr, 1, 0, 0, 0, .null, []),
  (48, .istore_n 0, 1, 0, 0, 0, .null, []),
  (49, .iload_n 0, 1, 0, 0, 0, .null, []),
  (50, .bipush 16, 2, 0, 0, 0, .int 16, []),
  (52, .if_icmp .le 10, 3, 62, 0, 0, .null, []),
  (55, .iinc 1 4, 3, 1, 0, 0, .int 4, []),
  (58, .iload_n 0, 1, 0, 0, 0, .null, []),
  (59, .iconst 4, 1, 0, 0, 0, .int 4, []),
  (60, .iushr, 1, 0, 0, 0, .null, []),
  (61, .istore_n 0, 1, 0, 0, 0, .null, []),
  (62, .iload_n 0, 1, 0, 0, 0, .null, []),
  (63, .iconst 4, 1, 0, 0, 0, .int 4, []),
  (64, .if_icmp .le 10, 3, 74, 0, 0, .null, []),
  (67, .iinc 1 2, 3, 1, 0, 0, .int 2, []),
  (70, .iload_n 0, 1, 0, 0, 0, .null, []),
  (71, .iconst 2, 1, 0, 0, 0, .int 2, []),
  (72, .iushr, 1, 0, 0, 0, .null, []),
  (73, .istore_n 0, 1, 0, 0, 0, .null, []),
  (74, .iload_n 1, 1, 1, 0, 0, .null, []),
  (75, .iload_n 0, 1, 0, 0, 0, .null, []),
  (76, .iconst 1, 1, 0, 0, 0, .int 1, []),
  (77, .iushr, 1, 0, 0, 0, .null, []),
  (78, .iadd, 1, 0, 0, 0, .null, []),
  (79, .ireturn, 1, 0, 0, 0, .null, [])], [], 2)
def cd_J6_bitCount_0f7a4 : mmP := ([(0, .iload_n 0, 1, 0, 0, 0, .null, []),
  (1, .iload_n 0, 1, 0, 0, 0, .null, []),
  (2, .iconst 1, 1, 0, 0, 0, .int 1, []),
  (3, .iushr, 1, 0, 0, 0, .null, []),
  (4, .ldc_w 265, 3, 0, 0, 0, .int 1431655765, []),
  (7, .iand, 1, 0, 0, 0, .null, []),
  (8, .isub, 1, 0, 0, 0, .null, []),
  (9, .istore_n 0, 1, 0, 0, 0, .null, []),
  (10, .iload_n 0, 1, 0, 0, 0, .null, []),
  (11, .ldc_w 266, 3, 0, 0, 0, .int 858993459, []),
  (14, .iand, 1, 0, 0, 0, .null, []),
  (15, .iload_n 0, 1, 0, 0, 0, .null, []),
  (16, .iconst 2, 1, 0, 0, 0, .int 2, []),
  (17, .iushr, 1, 0, 0, 0, .null, []),
  (18, .ldc_w 266, 3, 0, 0, 0, .int 858993459, []),
  (21, .iand, 1, 0, 0, 0, .null, []),
  (22, .iadd, 1, 0, 0, 0, .null, []),
  (23, .istore_n 0, 1, 0, 0, 0, .null, []),
  (24, .iload_n 0, 1, 0, 0, 0, .null, []),
  (25, .iload_n 0, 1, 0, 0, 0, .null, []),
  (26, .iconst 4, 1, 0, 0, 0, .int 4, []),
  (27, .iushr, 1, 0, 0, 0, .null, []),
  (28, .iadd, 1, 0, 0, 0, .null, []),
  (29, .ldc_w 267, 3, 0, 0, 0, .int 252645135, []),
  (32, .iand, 1, 0, 0, 0, .null, []),
  (33, .istore_n 0, 1, 0, 0, 0, .null, []),
  (34, .iload_n 0, 1, 0, 0, 0, .null, []),
  (35, .iload_n 0, 1, 0, 0, 0, .null, []),
  (36, .bipush 8, 2, 0, 0, 0, .int 8, []),
  (38, .iushr, 1, 0, 0, 0, .null, []),
  (39, .iadd, 1, 0, 0, 0, .null, []),
  (40, .istore_n 0, 1, 0, 0, 0, .null, []),
  (41, .iload_n 0, 1, 0, 0, 0, .null, []),
  (42, .iload_n 0, 1, 0, 0, 0, .null, []),
  (43, .bipush 16, 2, 0, 0, 0, .int 16, []),
  (45, .iushr, 1, 0, 0, 0, .null, []),
  (46, .iadd, 1, 0, 0, 0, .null, []),
  (47, .istore_n 0, 1, 0, 0, 0, .null, []),
  (48, .iload_n 0, 1, 0, 0, 0, .null, []),
  (49, .bipush 63, 2, 0, 0, 0, .int 63, []),
  (51, .iand, 1, 0, 0, 0, .null, []),
  (52, .ireturn, 1, 0, 0, 0, .null, [])], [], 1)
def cd_J9_floorMod_7cf53 : mmP := ([(0, .iload_n 0, 1, 0, 0, 0, .null, []),
  (1, .iload_n 1, 1, 1, 0, 0, .null, []),
  (2, .irem, 1, 0, 0, 0, .null, []),
  (3, .istore_n 2, 1, 2, 0, 0, .null, []),
  (4, .iload_n 0, 1, 0, 0, 0, .null, []),
  (5, .iload_n 1, 1, 1, 0, 0, .null, []),
  (6, .ixor, 1, 0, 0, 0, .null, []),
  (7, .ifCond .ge 11, 3, 18, 0, 0, .null, []),
  (10, .iload_n 2, 1, 2, 0, 0, .null, []),
  (11, .ifCond .eq 7, 3, 18, 0, 0, .null, []),
  (14, .iload_n 2, 1, 2, 0, 0, .null, []),
  (15, .iload_n 1, 1, 1, 0, 0, .null, []),
  (16, .iadd, 1, 0, 0, 0, .null, []),
  (17, .ireturn, 1, 0, 0, 0, .null, []),
  (18, .iload_n 2, 1, 2, 0, 0, .null, []),
  (19, .ireturn, 1, 0, 0, 0, .null, [])], [], 3)
def cd_J9_abs_0f7a4 : mmP := ([(0, .iload_n 0, 1, 0, 0, 0, .null, []),
  (1, .ifCond .ge 8, 3, 9, 0, 0, .null, []),
  (4, .iload_n 0, 1, 0, 0, 0, .null, []),
  (5, .ineg, 1, 0, 0, 0, .null, []),
  (6, .goto 4, 3, 10, 0, 0, .null, []),
  (9, .iload_n 0, 1, 0, 0, 0, .null, []),
  (10, .ireturn, 1, 0, 0, 0, .null, [])], [], 1)
def cd_J9_max_7cf53 : mmP := ([(0, .iload_n 0, 1, 0, 0, 0, .null, []),
  (1, .iload_n 1, 1, 1, 0, 0, .null, []),
  (2, .if_icmp .lt 7, 3, 9, 0, 0, .null, []),
  (5, .iload_n 0, 1, 0, 0, 0, .null, []),
  (6, .goto 4, 3, 10, 0, 0, .null, []),
  (9, .iload_n 1, 1, 1, 0, 0, .null, []),
  (10, .ireturn, 1, 0, 0, 0, .null, [])], [], 2)
def cd_J9_max_f86c9 : mmP := ([(0, .lload_n 0, 1, 0, 0, 0, .null, []),
  (1, .lload_n 2, 1, 2, 0, 0, .null, []),
  (2, .lcmp, 1, 0, 0, 0, .null, []),
  (3, .ifCond .lt 7, 3, 10, 0, 0, .null, []),
  (6, .lload_n 0, 1, 0, 0, 0, .null, []),
  (7, .goto 4, 3, 11, 0, 0, .null, []),
  (10, .lload_n 2, 1, 2, 0, 0, .null, []),
  (11, .lreturn, 1, 0, 0, 0, .null, [])], [], 4)
def cd_J9_min_7cf53 : mmP := ([(0, .iload_n 0, 1, 0, 0, 0, .null, []),
  (1, .iload_n 1, 1, 1, 0, 0, .null, []),
  (2, .if_icmp .gt 7, 3, 9, 0, 0, .null, []),
  (5, .iload_n 0, 1, 0, 0, 0, .null, []),
  (6, .goto 4, 3, 10, 0, 0, .null, []),
  (9, .iload_n 1, 1, 1, 0, 0, .null, []),
  (10, .ireturn, 1, 0, 0, 0, .null, [])], [], 2)
def cd_J9_min_f86c9 : mmP := ([(0, .lload_n 0, 1, 0, 0, 0, .null, []),
  (1, .lload_n 2, 1, 2, 0, 0, .null, []),
  (2, .lcmp, 1, 0, 0, 0, .null, []),
  (3, .ifCond .gt 7, 3, 10, 0, 0, .null, []),
  (6, .lload_n 0, 1, 0, 0, 0, .null, []),
  (7, .goto 4, 3, 11, 0, 0, .null, []),
  (10, .lload_n 2, 1, 2, 0, 0, .null, []),
  (11, .lreturn, 1, 0, 0, 0, .null, [])], [], 4)
def cd_J7_fill_53178 : mmP := ([(0, .iconst 0, 1, 0, 0, 0, .int 0, []),
  (1, .istore_n 2, 1, 2, 0, 0, .null, []),
  (2, .aload_n 0, 1, 0, 0, 0, .null, []),
  (3, .arraylength, 1, 0, 0, 0, .null, []),
  (4, .istore_n 3, 1, 3, 0, 0, .null, []),
  (5, .iload_n 2, 1, 2, 0, 0, .null, []),
  (6, .iload_n 3, 1, 3, 0, 0, .null, []),
  (7, .if_icmp .ge 13, 3, 20, 0, 0, .null, []),
  (10, .aload_n 0, 1, 0, 0, 0, .null, []),
  (11, .iload_n 2, 1, 2, 0, 0, .null, []),
  (12, .iload_n 1, 1, 1, 0, 0, .null, []),
  (13, .iastore, 1, 0, 0, 0, .null, []),
  (14, .iinc 2 1, 3, 2, 0, 0, .int 1, []),
  (17, .goto (-12), 3, 5, 0, 0, .null, []),
  (20, .return_, 1, 0, 0, 0, .null, [])], [(5, [true, true, true, true])], 4)
def cd_J7_copyOf_59c91 : mmP := ([(0, .iload_n 1, 1, 1, 0, 0, .null, []),
  (1, .aload_n 0, 1, 0, 0, 0, .null, []),
  (2, .arraylength, 1, 0, 0, 0, .null, []),
  (3, .if_icmp .ne 11, 3, 14, 0, 0, .null, []),
  (6, .aload_n 0, 1, 0, 0, 0, .null, []),
  (14, .iload_n 1, 1, 1, 0, 0, .null, []),
  (15, .newarray .int, 2, 0, 0, 0, .null, []),
  (17, .astore_n 2, 1, 2, 0, 0, .null, []),
  (18, .aload_n 0, 1, 0, 0, 0, .null, []),
  (19, .iconst 0, 1, 0, 0, 0, .int 0, []),
  (20, .aload_n 2, 1, 2, 0, 0, .null, []),
  (21, .iconst 0, 1, 0, 0, 0, .int 0, []),
  (22, .aload_n 0, 1, 0, 0, 0, .null, []),
  (23, .arraylength, 1, 0, 0, 0, .null, []),
  (24, .iload_n 1, 1, 1, 0, 0, .null, []),
  (25, .invokestatic 304, 3, 304, 2, 1, .null, []),
  (28, .invokestatic 150, 3, 0, 0, 8, .null, []),
  (31, .aload_n 2, 1, 2, 0, 0, .null, []),
  (32, .areturn, 1, 0, 0, 0, .null, [])], [], 3)
end
section
/-- all methods -/
def mm_prog : List mmP := [cd_X0_init, cd_X0_begin, cd_X0_beginMorning, cd_X0_copyFrom, cd_X0_tiredOf, cd_X0_wristOf, cd_X0_tire, cd_X0_strengthen, cd_X1_init, cd_X1_begin, cd_X1_below, cd_X2_init, cd_X2_read, cd_X2_firstFault, cd_X2_isClauseNext, cd_X2_isValueNext, cd_X3_init, cd_X3_code, cd_X3_write, cd_X3_firstFault, cd_X3_isClauseNext, cd_X3_isSumBehindCondition, cd_X3_isConditionNext, cd_X3_areTruthsNext, cd_X3_isTruthNext, cd_X3_areUnitsNext, cd_X3_isUnitNext, cd_X3_isComparedNext, cd_X3_isComparison, cd_X3_isSumNext, cd_X3_isTermNext, cd_X3_isAtomNext, cd_X3_isLetter, cd_X4_init, cd_X4_size, cd_X4_isFull, cd_X4_chosen, cd_X4_add, cd_X4_choose, cd_X4_worth, cd_X4_push, cd_X4_pop, cd_X4_apply, cd_X4_joined, cd_X5_init, cd_X5_write, cd_X5_read, cd_X5_copyFrom, cd_X5_placeOf, cd_X6_init, cd_X6_size, cd_X6_clear, cd_X6_keep, cd_X6_takeBack, cd_X7_init, cd_X7_bestSet, cd_X7_leastRowOf, cd_X7_valueOf, cd_X7_standsBehind, cd_X7_leastRowTo, cd_X7_canEnd, cd_X7_isBetter, cd_X8_init, cd_X8_size, cd_X8_isFull, cd_X8_clear, cd_X8_add, cd_X8_furthestOf, cd_X8_isAgainst, cd_X9_init, cd_X9_size, cd_X9_signsIn, cd_X9_put, cd_X9_cutBehind, cd_X9_rewind, cd_X9_at, cd_X9_look, cd_X9_step, cd_X9_stepBack, cd_X9_take, cd_X9_number, cd_X9_isDigitHere, cd_X9_isDigit, cd_X10_init, cd_X10_clear, cd_X10_copyFrom, cd_X10_howMany, cd_X10_isFull, cd_X10_kindBy, cd_X10_itemBy, cd_X10_isAllowed, cd_X10_add, cd_X10_fillWithout, cd_X10_set, cd_X10_item, cd_X10_isKind, cd_X10_lineOf, cd_X10_placeOf, cd_X11_init, cd_X11_feed, cd_X11_end, cd_X11_fault, cd_X11_text, cd_X11_beginDuchy, cd_X11_law, cd_X11_rule, cd_X11_cook, cd_X11_minister, cd_X11_hasCook, cd_X11_hasTwoCooks, cd_X11_hasMinister, cd_X11_isInside, cd_X11_sumInside, cd_X11_strokesLeft, cd_X11_canFold, cd_X11_couldFold, cd_X11_whisked, cd_X11_whisk, cd_X11_foldIn, cd_X11_openDoor, cd_X11_passHour, cd_X11_sinksBy, cd_X11_sunk, cd_X11_fallIfFlat, cd_X11_passDay, cd_X11_passDrawnDay, cd_X11_refuse, cd_X11_strokes, cd_X11_fold, cd_X11_sugar, cd_X11_door, cd_X11_hours, cd_X11_practise, cd_X11_yolk, cd_X11_give, cd_X11_days, cd_X11_draught, cd_X11_years, cd_X11_status, cd_X11_undo, cd_X11_log, cd_X11_logSize, cd_X11_behind, cd_X11_whiskedOften, cd_X11_soonest, cd_X11_soonestOf, cd_X11_stop, cd_X11_best, cd_X11_byTurns, cd_X11_row, cd_X11_lasts, cd_X11_holds, cd_X11_seen, cd_X11_fits, cd_X11_placeOfBit, cd_X11_fittingYolks, cd_X11_isFitting, cd_X11_probe, cd_X11_whiskAllYolks, cd_X11_game, cd_X11_rests, cd_X11_playAll, cd_X11_quarterOf, cd_X11_isRest, cd_X11_odds, cd_X11_partsAt, cd_X11_shares, cd_X11_most, cd_X11_firstMinisterByMost, cd_X11_strongestCook, cd_X11_freshestCook, cd_X11_doorsToFlat, cd_X11_ahead, cd_X11_image, cd_X11_back, cd_X11_count, cd_X11_isWithin, cd_X11_isStand, cd_X11_within, cd_X12_in, cd_X12_has, cd_X12_init, cd_X12_thrown, cd_X12_byteOf, cd_X12_feed, cd_X12_end, cd_X12_here, cd_X12_look, cd_X12_bad, cd_X12_isDigit, cd_X12_put, cd_X12_letterOf, cd_X12_opens, cd_X12_closes, cd_X12_plainNumber, cd_X12_atom, cd_X12_term, cd_X12_sum, cd_X12_isSign, cd_X12_compare, cd_X12_unit, cd_X12_goOnAnd, cd_X12_goOnOr, cd_X12_condition, cd_X12_clause, cd_X12_open, cd_X12_atEnd, cd_X12_readLaw, cd_X12_bounded, cd_X12_worked, cd_X12_workOut, cd_X12_worthOf, cd_X12_number, cd_X12_itemOf, cd_X12_highest, cd_X12_usual, cd_X12_items, cd_X12_readDuchy, cd_X12_fault, cd_X12_takeDuchy, cd_X12_text, cd_X12_of, cd_X12_isCook, cd_X12_isMinister, cd_X12_leftOf, cd_X12_held, cd_X12_strokeBy, cd_X12_strokeNow, cd_X12_strokesNow, cd_X12_weightIn, cd_X12_worthIn, cd_X12_sinks, cd_X12_mayFall, cd_X12_doorNow, cd_X12_hourNow, cd_X12_canFold, cd_X12_foldNow, cd_X12_rule, cd_X12_cook, cd_X12_minister, cd_X12_law, cd_X12_keep, cd_X12_isRefused, cd_X12_strokes, cd_X12_fold, cd_X12_sugar, cd_X12_door, cd_X12_hours, cd_X12_practise, cd_X12_yolk, cd_X12_give, cd_X12_passDay, cd_X12_areDays, cd_X12_days, cd_X12_draught, cd_X12_draw, cd_X12_drawDay, cd_X12_years, cd_X12_status, cd_X12_undo, cd_X12_log, cd_X12_putAside, cd_X12_takeBack, cd_X12_standsBehind, cd_X12_behind, cd_X12_soonestOf, cd_X12_soonest, cd_X12_stop, cd_X12_best, cd_X12_nextOf, cd_X12_byTurns, cd_X12_tryRow, cd_X12_row, cd_X12_lasts, cd_X12_isUp, cd_X12_holds, cd_X12_seen, cd_X12_morning, cd_X12_isYolk, cd_X12_fits, cd_X12_probe, cd_X12_gameOf, cd_X12_areTwo, cd_X12_game, cd_X12_isRest, cd_X12_rests, cd_X12_oddsFrom, cd_X12_odds, cd_X12_shares, cd_X12_topMinister, cd_X12_topCook, cd_X12_could, cd_X12_doors, cd_X12_most, cd_X12_ahead, cd_X12_image, cd_X12_back, cd_X12_count, cd_J6_numberOfTrailingZeros_0f7a4, cd_J6_bitCount_0f7a4, cd_J9_floorMod_7cf53, cd_J9_abs_0f7a4, cd_J9_max_7cf53, cd_J9_max_f86c9, cd_J9_min_7cf53, cd_J9_min_f86c9, cd_J7_fill_53178, cd_J7_copyOf_59c91]
/-- their names, bytes, locals, what they return -/
def mm_mth : List mmT := [(yX0_init, cX0_init, 1, none),
  (yX0_begin, cX0_begin, 3, none),
  (yX0_beginMorning, cX0_beginMorning, 1, none),
  (yX0_copyFrom, cX0_copyFrom, 2, none),
  (yX0_tiredOf, cX0_tiredOf, 2, (some .int)),
  (yX0_wristOf, cX0_wristOf, 2, (some .int)),
  (yX0_tire, cX0_tire, 3, none),
  (yX0_strengthen, cX0_strengthen, 2, none),
  (yX1_init, cX1_init, 1, none),
  (yX1_begin, cX1_begin, 3, none),
  (yX1_below, cX1_below, 2, (some .int)),
  (yX2_init, cX2_init, 2, none),
  (yX2_read, cX2_read, 1, (some (.object "WhiskedDuchy$Told"))),
  (yX2_firstFault, cX2_firstFault, 2, (some .int)),
  (yX2_isClauseNext, cX2_isClauseNext, 6, (some .boolean)),
  (yX2_isValueNext, cX2_isValueNext, 5, (some .boolean)),
  (yX3_init, cX3_init, 2, none),
  (yX3_code, cX3_code, 1, (some (.array .int))),
  (yX3_write, cX3_write, 2, none),
  (yX3_firstFault, cX3_firstFault, 2, (some .int)),
  (yX3_isClauseNext, cX3_isClauseNext, 2, (some .boolean)),
  (yX3_isSumBehindCondition, cX3_isSumBehindCondition, 1, (some .boolean)),
  (yX3_isConditionNext, cX3_isConditionNext, 2, (some .boolean)),
  (yX3_areTruthsNext, cX3_areTruthsNext, 3, (some .boolean)),
  (yX3_isTruthNext, cX3_isTruthNext, 2, (some .boolean)),
  (yX3_areUnitsNext, cX3_areUnitsNext, 3, (some .boolean)),
  (yX3_isUnitNext, cX3_isUnitNext, 3, (some .boolean)),
  (yX3_isComparedNext, cX3_isComparedNext, 3, (some .boolean)),
  (yX3_isComparison, cX3_isComparison, 1, (some .boolean)),
  (yX3_isSumNext, cX3_isSumNext, 4, (some .boolean)),
  (yX3_isTermNext, cX3_isTermNext, 4, (some .boolean)),
  (yX3_isAtomNext, cX3_isAtomNext, 4, (some .boolean)),
  (yX3_isLetter, cX3_isLetter, 1, (some .boolean)),
  (yX4_init, cX4_init, 1, none),
  (yX4_size, cX4_size, 1, (some .int)),
  (yX4_isFull, cX4_isFull, 1, (some .boolean)),
  (yX4_chosen, cX4_chosen, 1, (some .int)),
  (yX4_add, cX4_add, 2, (some .int)),
  (yX4_choose, cX4_choose, 2, (some .boolean)),
  (yX4_worth, cX4_worth, 11, (some .int)),
  (yX4_push, cX4_push, 3, none),
  (yX4_pop, cX4_pop, 1, (some .int)),
  (yX4_apply, cX4_apply, 6, none),
  (yX4_joined, cX4_joined, 5, (some .long)),
  (yX5_init, cX5_init, 1, none),
  (yX5_write, cX5_write, 6, none),
  (yX5_read, cX5_read, 4, (some .int)),
  (yX5_copyFrom, cX5_copyFrom, 2, none),
  (yX5_placeOf, cX5_placeOf, 1, (some .int)),
  (yX6_init, cX6_init, 1, none),
  (yX6_size, cX6_size, 1, (some .int)),
  (yX6_clear, cX6_clear, 1, none),
  (yX6_keep, cX6_keep, 2, none),
  (yX6_takeBack, cX6_takeBack, 3, (some .boolean)),
  (yX7_init, cX7_init, 3, none),
  (yX7_bestSet, cX7_bestSet, 6, (some .int)),
  (yX7_leastRowOf, cX7_leastRowOf, 2, (some .int)),
  (yX7_valueOf, cX7_valueOf, 2, (some .int)),
  (yX7_standsBehind, cX7_standsBehind, 2, (some .int)),
  (yX7_leastRowTo, cX7_leastRowTo, 5, (some .int)),
  (yX7_canEnd, cX7_canEnd, 4, (some .boolean)),
  (yX7_isBetter, cX7_isBetter, 6, (some .boolean)),
  (yX8_init, cX8_init, 1, none),
  (yX8_size, cX8_size, 1, (some .int)),
  (yX8_isFull, cX8_isFull, 1, (some .boolean)),
  (yX8_clear, cX8_clear, 1, none),
  (yX8_add, cX8_add, 5, none),
  (yX8_furthestOf, cX8_furthestOf, 4, (some .int)),
  (yX8_isAgainst, cX8_isAgainst, 5, (some .boolean)),
  (yX9_init, cX9_init, 1, none),
  (yX9_size, cX9_size, 1, (some .int)),
  (yX9_signsIn, cX9_signsIn, 3, (some .int)),
  (yX9_put, cX9_put, 4, none),
  (yX9_cutBehind, cX9_cutBehind, 2, (some .boolean)),
  (yX9_rewind, cX9_rewind, 1, none),
  (yX9_at, cX9_at, 1, (some .int)),
  (yX9_look, cX9_look, 1, (some .int)),
  (yX9_step, cX9_step, 1, none),
  (yX9_stepBack, cX9_stepBack, 1, none),
  (yX9_take, cX9_take, 2, (some .boolean)),
  (yX9_number, cX9_number, 4, (some .int)),
  (yX9_isDigitHere, cX9_isDigitHere, 1, (some .boolean)),
  (yX9_isDigit, cX9_isDigit, 1, (some .boolean)),
  (yX10_init, cX10_init, 1, none),
  (yX10_clear, cX10_clear, 1, none),
  (yX10_copyFrom, cX10_copyFrom, 2, none),
  (yX10_howMany, cX10_howMany, 2, (some .int)),
  (yX10_isFull, cX10_isFull, 2, (some .boolean)),
  (yX10_kindBy, cX10_kindBy, 2, (some .int)),
  (yX10_itemBy, cX10_itemBy, 5, (some .int)),
  (yX10_isAllowed, cX10_isAllowed, 4, (some .boolean)),
  (yX10_add, cX10_add, 3, (some .int)),
  (yX10_fillWithout, cX10_fillWithout, 6, none),
  (yX10_set, cX10_set, 6, none),
  (yX10_item, cX10_item, 5, (some .int)),
  (yX10_isKind, cX10_isKind, 1, (some .boolean)),
  (yX10_lineOf, cX10_lineOf, 2, (some .int)),
  (yX10_placeOf, cX10_placeOf, 3, (some .int)),
  (yX11_init, cX11_init, 1, none),
  (yX11_feed, cX11_feed, 7, (some .int)),
  (yX11_end, cX11_end, 2, (some .boolean)),
  (yX11_fault, cX11_fault, 2, (some .int)),
  (yX11_text, cX11_text, 2, (some .int)),
  (yX11_beginDuchy, cX11_beginDuchy, 1, none),
  (yX11_law, cX11_law, 2, (some .boolean)),
  (yX11_rule, cX11_rule, 2, (some .int)),
  (yX11_cook, cX11_cook, 3, (some .int)),
  (yX11_minister, cX11_minister, 3, (some .int)),
  (yX11_hasCook, cX11_hasCook, 2, (some .boolean)),
  (yX11_hasTwoCooks, cX11_hasTwoCooks, 3, (some .boolean)),
  (yX11_hasMinister, cX11_hasMinister, 2, (some .boolean)),
  (yX11_isInside, cX11_isInside, 2, (some .boolean)),
  (yX11_sumInside, cX11_sumInside, 4, (some .int)),
  (yX11_strokesLeft, cX11_strokesLeft, 2, (some .int)),
  (yX11_canFold, cX11_canFold, 2, (some .boolean)),
  (yX11_couldFold, cX11_couldFold, 3, (some .int)),
  (yX11_whisked, cX11_whisked, 9, (some .int)),
  (yX11_whisk, cX11_whisk, 5, none),
  (yX11_foldIn, cX11_foldIn, 2, none),
  (yX11_openDoor, cX11_openDoor, 1, none),
  (yX11_passHour, cX11_passHour, 1, none),
  (yX11_sinksBy, cX11_sinksBy, 2, (some .int)),
  (yX11_sunk, cX11_sunk, 2, (some .int)),
  (yX11_fallIfFlat, cX11_fallIfFlat, 1, none),
  (yX11_passDay, cX11_passDay, 1, none),
  (yX11_passDrawnDay, cX11_passDrawnDay, 6, none),
  (yX11_refuse, cX11_refuse, 2, (some .int)),
  (yX11_strokes, cX11_strokes, 3, (some .int)),
  (yX11_fold, cX11_fold, 2, (some .int)),
  (yX11_sugar, cX11_sugar, 1, (some .int)),
  (yX11_door, cX11_door, 1, (some .int)),
  (yX11_hours, cX11_hours, 3, (some .int)),
  (yX11_practise, cX11_practise, 2, (some .int)),
  (yX11_yolk, cX11_yolk, 1, (some .int)),
  (yX11_give, cX11_give, 2, (some .int)),
  (yX11_days, cX11_days, 3, (some .int)),
  (yX11_draught, cX11_draught, 2, (some .boolean)),
  (yX11_years, cX11_years, 5, (some .int)),
  (yX11_status, cX11_status, 2, (some .int)),
  (yX11_undo, cX11_undo, 1, (some .int)),
  (yX11_log, cX11_log, 3, (some .int)),
  (yX11_logSize, cX11_logSize, 1, (some .int)),
  (yX11_behind, cX11_behind, 4, (some .int)),
  (yX11_whiskedOften, cX11_whiskedOften, 8, (some .int)),
  (yX11_soonest, cX11_soonest, 3, (some .int)),
  (yX11_soonestOf, cX11_soonestOf, 7, (some .int)),
  (yX11_stop, cX11_stop, 9, (some .int)),
  (yX11_best, cX11_best, 6, (some .int)),
  (yX11_byTurns, cX11_byTurns, 11, (some .int)),
  (yX11_row, cX11_row, 3, (some .int)),
  (yX11_lasts, cX11_lasts, 4, (some .int)),
  (yX11_holds, cX11_holds, 3, (some .int)),
  (yX11_seen, cX11_seen, 5, (some .int)),
  (yX11_fits, cX11_fits, 3, (some .int)),
  (yX11_placeOfBit, cX11_placeOfBit, 4, (some .int)),
  (yX11_fittingYolks, cX11_fittingYolks, 3, (some .int)),
  (yX11_isFitting, cX11_isFitting, 7, (some .boolean)),
  (yX11_probe, cX11_probe, 9, (some .int)),
  (yX11_whiskAllYolks, cX11_whiskAllYolks, 7, (some .int)),
  (yX11_game, cX11_game, 9, (some .int)),
  (yX11_rests, cX11_rests, 8, (some .int)),
  (yX11_playAll, cX11_playAll, 8, none),
  (yX11_quarterOf, cX11_quarterOf, 4, (some .int)),
  (yX11_isRest, cX11_isRest, 5, (some .boolean)),
  (yX11_odds, cX11_odds, 4, (some .int)),
  (yX11_partsAt, cX11_partsAt, 9, (some .long)),
  (yX11_shares, cX11_shares, 5, (some .int)),
  (yX11_most, cX11_most, 2, (some .int)),
  (yX11_firstMinisterByMost, cX11_firstMinisterByMost, 4, (some .int)),
  (yX11_strongestCook, cX11_strongestCook, 3, (some .int)),
  (yX11_freshestCook, cX11_freshestCook, 3, (some .int)),
  (yX11_doorsToFlat, cX11_doorsToFlat, 3, (some .int)),
  (yX11_ahead, cX11_ahead, 5, (some .int)),
  (yX11_image, cX11_image, 1, (some .int)),
  (yX11_back, cX11_back, 1, (some .int)),
  (yX11_count, cX11_count, 2, (some .int)),
  (yX11_isWithin, cX11_isWithin, 3, (some .boolean)),
  (yX11_isStand, cX11_isStand, 1, (some .boolean)),
  (yX11_within, cX11_within, 3, (some .int)),
  (yX12_in, cX12_in, 3, (some .boolean)),
  (yX12_has, cX12_has, 2, (some .boolean)),
  (yX12_init, cX12_init, 1, none),
  (yX12_thrown, cX12_thrown, 1, (some .int)),
  (yX12_byteOf, cX12_byteOf, 7, (some .int)),
  (yX12_feed, cX12_feed, 9, (some .int)),
  (yX12_end, cX12_end, 2, (some .boolean)),
  (yX12_here, cX12_here, 1, (some .int)),
  (yX12_look, cX12_look, 1, (some .int)),
  (yX12_bad, cX12_bad, 1, none),
  (yX12_isDigit, cX12_isDigit, 1, (some .boolean)),
  (yX12_put, cX12_put, 3, none),
  (yX12_letterOf, cX12_letterOf, 1, (some .int)),
  (yX12_opens, cX12_opens, 1, none),
  (yX12_closes, cX12_closes, 2, none),
  (yX12_plainNumber, cX12_plainNumber, 3, (some .int)),
  (yX12_atom, cX12_atom, 2, none),
  (yX12_term, cX12_term, 2, none),
  (yX12_sum, cX12_sum, 2, none),
  (yX12_isSign, cX12_isSign, 1, (some .boolean)),
  (yX12_compare, cX12_compare, 2, none),
  (yX12_unit, cX12_unit, 2, none),
  (yX12_goOnAnd, cX12_goOnAnd, 1, none),
  (yX12_goOnOr, cX12_goOnOr, 1, none),
  (yX12_condition, cX12_condition, 1, none),
  (yX12_clause, cX12_clause, 3, none),
  (yX12_open, cX12_open, 2, none),
  (yX12_atEnd, cX12_atEnd, 1, (some .int)),
  (yX12_readLaw, cX12_readLaw, 2, (some .int)),
  (yX12_bounded, cX12_bounded, 2, (some .int)),
  (yX12_worked, cX12_worked, 5, (some .int)),
  (yX12_workOut, cX12_workOut, 6, (some .int)),
  (yX12_worthOf, cX12_worthOf, 3, (some .int)),
  (yX12_number, cX12_number, 4, (some .int)),
  (yX12_itemOf, cX12_itemOf, 2, (some .int)),
  (yX12_highest, cX12_highest, 2, (some .int)),
  (yX12_usual, cX12_usual, 2, (some .int)),
  (yX12_items, cX12_items, 7, none),
  (yX12_readDuchy, cX12_readDuchy, 4, (some .int)),
  (yX12_fault, cX12_fault, 2, (some .int)),
  (yX12_takeDuchy, cX12_takeDuchy, 2, (some .int)),
  (yX12_text, cX12_text, 2, (some .int)),
  (yX12_of, cX12_of, 3, (some .int)),
  (yX12_isCook, cX12_isCook, 2, (some .boolean)),
  (yX12_isMinister, cX12_isMinister, 2, (some .boolean)),
  (yX12_leftOf, cX12_leftOf, 2, (some .int)),
  (yX12_held, cX12_held, 1, (some .int)),
  (yX12_strokeBy, cX12_strokeBy, 6, (some .int)),
  (yX12_strokeNow, cX12_strokeNow, 2, none),
  (yX12_strokesNow, cX12_strokesNow, 4, none),
  (yX12_weightIn, cX12_weightIn, 3, (some .int)),
  (yX12_worthIn, cX12_worthIn, 3, (some .int)),
  (yX12_sinks, cX12_sinks, 1, (some .int)),
  (yX12_mayFall, cX12_mayFall, 1, none),
  (yX12_doorNow, cX12_doorNow, 1, none),
  (yX12_hourNow, cX12_hourNow, 1, none),
  (yX12_canFold, cX12_canFold, 2, (some .boolean)),
  (yX12_foldNow, cX12_foldNow, 2, none),
  (yX12_rule, cX12_rule, 2, (some .int)),
  (yX12_cook, cX12_cook, 3, (some .int)),
  (yX12_minister, cX12_minister, 3, (some .int)),
  (yX12_law, cX12_law, 2, (some .boolean)),
  (yX12_keep, cX12_keep, 2, none),
  (yX12_isRefused, cX12_isRefused, 2, (some .boolean)),
  (yX12_strokes, cX12_strokes, 3, (some .int)),
  (yX12_fold, cX12_fold, 2, (some .int)),
  (yX12_sugar, cX12_sugar, 1, (some .int)),
  (yX12_door, cX12_door, 1, (some .int)),
  (yX12_hours, cX12_hours, 3, (some .int)),
  (yX12_practise, cX12_practise, 2, (some .int)),
  (yX12_yolk, cX12_yolk, 1, (some .int)),
  (yX12_give, cX12_give, 2, (some .int)),
  (yX12_passDay, cX12_passDay, 3, none),
  (yX12_areDays, cX12_areDays, 2, (some .boolean)),
  (yX12_days, cX12_days, 3, (some .int)),
  (yX12_draught, cX12_draught, 2, (some .boolean)),
  (yX12_draw, cX12_draw, 2, (some .int)),
  (yX12_drawDay, cX12_drawDay, 5, none),
  (yX12_years, cX12_years, 5, (some .int)),
  (yX12_status, cX12_status, 2, (some .int)),
  (yX12_undo, cX12_undo, 2, (some .int)),
  (yX12_log, cX12_log, 3, (some .int)),
  (yX12_putAside, cX12_putAside, 3, none),
  (yX12_takeBack, cX12_takeBack, 3, none),
  (yX12_standsBehind, cX12_standsBehind, 4, (some .int)),
  (yX12_behind, cX12_behind, 3, (some .int)),
  (yX12_soonestOf, cX12_soonestOf, 4, (some .int)),
  (yX12_soonest, cX12_soonest, 3, (some .int)),
  (yX12_stop, cX12_stop, 5, (some .int)),
  (yX12_best, cX12_best, 6, (some .int)),
  (yX12_nextOf, cX12_nextOf, 3, (some .int)),
  (yX12_byTurns, cX12_byTurns, 7, (some .int)),
  (yX12_tryRow, cX12_tryRow, 6, none),
  (yX12_row, cX12_row, 2, (some .int)),
  (yX12_lasts, cX12_lasts, 3, (some .int)),
  (yX12_isUp, cX12_isUp, 4, (some .boolean)),
  (yX12_holds, cX12_holds, 3, (some .int)),
  (yX12_seen, cX12_seen, 5, (some .int)),
  (yX12_morning, cX12_morning, 6, (some .int)),
  (yX12_isYolk, cX12_isYolk, 3, (some .boolean)),
  (yX12_fits, cX12_fits, 4, (some .int)),
  (yX12_probe, cX12_probe, 9, (some .int)),
  (yX12_gameOf, cX12_gameOf, 7, (some .int)),
  (yX12_areTwo, cX12_areTwo, 3, (some .boolean)),
  (yX12_game, cX12_game, 6, (some .int)),
  (yX12_isRest, cX12_isRest, 6, (some .boolean)),
  (yX12_rests, cX12_rests, 6, (some .int)),
  (yX12_oddsFrom, cX12_oddsFrom, 9, (some .int)),
  (yX12_odds, cX12_odds, 4, (some .int)),
  (yX12_shares, cX12_shares, 5, (some .int)),
  (yX12_topMinister, cX12_topMinister, 4, (some .int)),
  (yX12_topCook, cX12_topCook, 5, (some .int)),
  (yX12_could, cX12_could, 3, (some .int)),
  (yX12_doors, cX12_doors, 3, (some .int)),
  (yX12_most, cX12_most, 2, (some .int)),
  (yX12_ahead, cX12_ahead, 3, (some .int)),
  (yX12_image, cX12_image, 2, (some .int)),
  (yX12_back, cX12_back, 2, (some .int)),
  (yX12_count, cX12_count, 2, (some .int)),
  (yJ6_numberOfTrailingZeros_0f7a4, cJ6_numberOfTrailingZeros_0f7a4, 2, (some .int)),
  (yJ6_bitCount_0f7a4, cJ6_bitCount_0f7a4, 1, (some .int)),
  (yJ9_floorMod_7cf53, cJ9_floorMod_7cf53, 3, (some .int)),
  (yJ9_abs_0f7a4, cJ9_abs_0f7a4, 1, (some .int)),
  (yJ9_max_7cf53, cJ9_max_7cf53, 2, (some .int)),
  (yJ9_max_f86c9, cJ9_max_f86c9, 4, (some .long)),
  (yJ9_min_7cf53, cJ9_min_7cf53, 2, (some .int)),
  (yJ9_min_f86c9, cJ9_min_f86c9, 4, (some .long)),
  (yJ7_fill_53178, cJ7_fill_53178, 4, none),
  (yJ7_copyOf_59c91, cJ7_copyOf_59c91, 3, (some (.array .int)))]
def mm_nest : List Cond := [.fieldLinkNest "WhiskedDuchy" 177 "WhiskedDuchy$Bowl" "yolk" "I" mm_host,
  .fieldLinkNest "WhiskedDuchy" 180 "WhiskedDuchy$Bowl" "purse" "I" mm_host,
  .fieldLinkNest "WhiskedDuchy" 209 "WhiskedDuchy$Bowl" "inside" "I" mm_host,
  .fieldLinkNest "WhiskedDuchy" 212 "WhiskedDuchy$Bowl" "stands" "I" mm_host,
  .fieldLinkNest "WhiskedDuchy" 228 "WhiskedDuchy$Bowl" "strokes" "I" mm_host,
  .fieldLinkNest "WhiskedDuchy" 257 "WhiskedDuchy$Bowl" "sugar" "I" mm_host,
  .fieldLinkNest "WhiskedDuchy" 260 "WhiskedDuchy$Bowl" "fallen" "I" mm_host,
  .fieldLinkNest "WhiskedDuchy" 263 "WhiskedDuchy$Bowl" "glory" "I" mm_host,
  .fieldLinkNest "WhiskedDuchy" 269 "WhiskedDuchy$Bowl" "day" "I" mm_host,
  .fieldLinkNest "WhiskedDuchy$Rows" 57 "WhiskedDuchy$Bowl" "stands" "I" mm_host,
  .fieldLinkNest "WhiskedDuchy$Rows" 66 "WhiskedDuchy$Bowl" "inside" "I" mm_host,
  .methodLinkNest "WhiskedDuchy" 9 ⟨"WhiskedDuchy$Tape", "<init>", "()V"⟩ mm_host,
  .methodLinkNest "WhiskedDuchy" 34 ⟨"WhiskedDuchy$Laws", "<init>", "()V"⟩ mm_host,
  .methodLinkNest "WhiskedDuchy" 41 ⟨"WhiskedDuchy$Told", "<init>", "()V"⟩ mm_host,
  .methodLinkNest "WhiskedDuchy" 48 ⟨"WhiskedDuchy$Bowl", "<init>", "()V"⟩ mm_host,
  .methodLinkNest "WhiskedDuchy" 55 ⟨"WhiskedDuchy$Past", "<init>", "()V"⟩ mm_host,
  .methodLinkNest "WhiskedDuchy" 62 ⟨"WhiskedDuchy$Log", "<init>", "()V"⟩ mm_host,
  .methodLinkNest "WhiskedDuchy" 75 ⟨"WhiskedDuchy$Sightings", "<init>", "()V"⟩ mm_host,
  .methodLinkNest "WhiskedDuchy" 91 ⟨"WhiskedDuchy$Draws", "<init>", "()V"⟩ mm_host,
  .methodLinkNest "WhiskedDuchy$DuchyReader" 11 ⟨"WhiskedDuchy$Told", "<init>", "()V"⟩ mm_host,
  .methodLinkNest "WhiskedDuchy$Past" 22 ⟨"WhiskedDuchy$Bowl", "<init>", "()V"⟩ mm_host,
  .methodLinkNest "WhiskedDuchy$Told" 61 ⟨"WhiskedDuchy", "isWithin", "(III)Z"⟩ mm_host]
theorem mm_nest_ok : ∀ w ∈ mm_nest, mm_isN w = true := by decide +kernel
def mm_T0 (n : Nat) : List mmSh := [.inr (0, 3), .inr (0, 3), .inr (0, 3), .inr (0, 10), .inr (0, 10), .inr (0, 10), .inr (0, 3), .inr (2, 3), .inr (2, 10), .inr (0, n), .inl 99, .inl 99, .inl 99, .inl 99, .inl 99, .inl 99, .inl 11, .inl 9, .inr (0, 240), .inl 2, .inl 10, .inr (0, 40), .inr (0, 3), .inl 3, .inr (0, 240), .inl 4, .inr (5, 4), .inr (0, 0), .inr (0, 0), .inr (0, 0), .inr (0, 0), .inr (0, 64), .inl 10, .inr (0, 40), .inr (0, 3), .inl 0, .inr (0, 4), .inr (0, 4), .inl 6, .inr (4, 40), .inl 5, .inr (0, 300), .inl 0, .inr (0, 4), .inr (0, 4), .inl 5, .inr (0, 300), .inl 8, .inr (0, 10), .inr (0, 10), .inr (0, 10), .inr (1, 10), .inl 7, .inr (0, 128), .inr (0, 128), .inr (0, 128), .inl 1, .inr (0, 5), .inr (0, 10), .inr (0, 36), .inl 12, .inr (0, 240), .inr (0, 2600), .inr (0, 2600), .inr (0, 5), .inr (0, 5), .inr (0, 700), .inr (0, 700), .inr (0, 700), .inr (0, 6), .inr (0, 80), .inr (0, 4), .inr (0, 8), .inr (0, 28), .inr (0, 4), .inr (0, 8), .inr (0, 28), .inr (0, 198), .inr (0, 5), .inr (0, 7920), .inr (0, 170), .inr (0, 10), .inr (0, 10), .inr (0, 10), .inr (1, 10), .inr (0, 198), .inr (3, 1)]
def mm_P0 : List (List (Nat × Option Nat)) := [[], [], [], [], [], [], [], [], [], [], [], [], [], [], [], [], [(0, some 17), (1, some 19), (2, some 23), (3, some 25), (4, some 32), (5, some 35), (6, some 38), (7, some 40), (8, some 42), (9, some 45), (10, some 47), (11, some 52), (12, some 56), (13, some 57), (14, some 58), (15, some 59)], [(0, some 18)], [], [(0, some 17), (1, some 20)], [(0, some 21), (1, some 22)], [], [], [(0, some 17), (1, some 24)], [], [(0, some 26), (3, some 31)], [], [], [], [], [], [], [(0, some 33), (1, some 34)], [], [], [(9, some 36), (10, some 37)], [], [], [(0, some 39)], [], [(0, some 41)], [], [(9, some 43), (10, some 44)], [], [], [(0, some 46)], [], [(0, some 48), (1, some 49), (2, some 50), (3, some 51)], [], [], [], [], [(0, some 32), (1, some 35), (2, some 53), (3, some 54), (4, some 55)], [], [], [], [], [], [], [], [(1, some 61), (6, some 62), (7, some 63), (8, some 64), (9, some 65), (10, some 66), (11, some 67), (12, some 68), (15, some 69), (16, some 70), (17, some 71), (18, some 72), (19, some 73), (22, some 74), (23, some 75), (24, some 76), (27, some 77), (28, some 78), (31, some 79), (34, some 80), (39, some 81), (40, some 82), (41, some 83), (42, some 84), (44, some 85)], [], [], [], [], [], [], [], [], [], [], [], [], [], [], [], [], [], [], [], [], [], [], [], [], [], []]
def mm_look (l : List (Nat × Option Nat)) (k : Nat) : Option (Option Nat) := match l with
  | [] => none
  | q :: r => cond (Nat.beq q.1 k) (some q.2) (mm_look r k)
def mm_tbl : List (List Int32) := [[4, 2, 4], [1, 4, 7], [0, 4, 6], [0, 0, 0, 0, 1, 1, 0, 0, 0, 0], [9, 9, 1, 99, 9, 40, 9, 9, 40, 9], [2, 0, 0, 20, 4, 15, 2, 3, 10, 1], [0, 4, 12], [115, 107, 109], [97, 121, 99, 112, 119, 101, 119, 118, 110, 108]]
def mm_tb (t k : Nat) : Int32 := (mm_tbl.getD t []).getD k 0
/-- the law's cells as they lie once it has made its objects; xs the script, n its length -/
def mm_Y (n : Nat) (xs : Nat → Int32) : mmY := (87, fun a => (mm_T0 n).getD a (.inl 99), fun a k => mm_look (mm_P0.getD a []) k, fun t k => cond (Nat.beq t 9) (xs k) (mm_tb t k))
noncomputable abbrev mm_E (n : Nat) (xs : Nat → Int32) (N d : Nat) : mmC := mm_ev (mm_Y n xs) mm_prog N d
end
section
theorem goodIn_r {big : List Cond} (ws : List Cond) (ps : List Nat) (hp : ws = ps.filterMap (fun i => big[i]?)) (h : ws.all goodWord = true) : GoodIn big ws := by
  intro w hw
  have h1 := List.all_eq_true.mp h w hw
  rw [hp] at hw
  obtain ⟨i, -, hi⟩ := List.mem_filterMap.mp hw
  have hm : w ∈ big := by first | exact List.mem_of_getElem? hi | exact List.getElem?_mem hi
  exact ⟨hm, good_of_word h1⟩
def mm_wdE (mth : List mmT) (own : String) (e : mmE) : List Cond := mm_wds mth own e.2.1 e.2.2.2.1 e.2.2.2.2.1 e.2.2.2.2.2.1 e.2.2.2.2.2.2.1
def mm_okB (mth : List mmT) (nest : List Cond) (y : mmT) (e : mmE) : Bool := decide (decode y.2.1 e.1 = .ok (e.2.1, e.2.2.1)) && (mm_okI mth y.1.cls y.1.name y.2.2.2 y.2.2.1 e.1 e.2.1 e.2.2.1 e.2.2.2.1 e.2.2.2.2.1 e.2.2.2.2.2.1 e.2.2.2.2.2.2.1 e.2.2.2.2.2.2.2 && decide (∀ z ∈ mm_nwd mth y.1.cls e.2.1 e.2.2.2.1 e.2.2.2.2.1 e.2.2.2.2.2.1, z ∈ nest))
end
section
theorem ka_X0_init : cd_X0_init.1.all (fun e => mm_okB mm_mth mm_nest (yX0_init, cX0_init, 1, none) e) = true := by decide +kernel
theorem kb_X0_init : GoodIn lw_tbl (cd_X0_init.1.flatMap (fun e => mm_wdE mm_mth yX0_init.cls e)) := goodIn_r _ [256, 146, 147, 164, 277, 164, 278] (by decide +kernel) (by decide +kernel)
theorem ka_X0_begin : cd_X0_begin.1.all (fun e => mm_okB mm_mth mm_nest (yX0_begin, cX0_begin, 3, none) e) = true := by decide +kernel
theorem kb_X0_begin : GoodIn lw_tbl (cd_X0_begin.1.flatMap (fun e => mm_wdE mm_mth yX0_begin.cls e)) := goodIn_r _ [677, 678, 679, 125, 682, 683, 684, 122, 267, 682, 683, 684, 122, 269, 271, 273, 275, 278, 278, 682, 683, 684, 122] (by decide +kernel) (by decide +kernel)
theorem ka_X0_beginMorning : cd_X0_beginMorning.1.all (fun e => mm_okB mm_mth mm_nest (yX0_beginMorning, cX0_beginMorning, 1, none) e) = true := by decide +kernel
theorem kb_X0_beginMorning : GoodIn lw_tbl (cd_X0_beginMorning.1.flatMap (fun e => mm_wdE mm_mth yX0_beginMorning.cls e)) := goodIn_r _ [257, 260, 262, 265, 277, 681, 479, 132] (by decide +kernel) (by decide +kernel)
theorem ka_X0_copyFrom : cd_X0_copyFrom.1.all (fun e => mm_okB mm_mth mm_nest (yX0_copyFrom, cX0_copyFrom, 2, none) e) = true := by decide +kernel
theorem kb_X0_copyFrom : GoodIn lw_tbl (cd_X0_copyFrom.1.flatMap (fun e => mm_wdE mm_mth yX0_copyFrom.cls e)) := goodIn_r _ [257, 257, 260, 260, 262, 262, 265, 265, 267, 267, 269, 269, 271, 271, 273, 273, 275, 275, 277, 277, 277, 773, 672, 671, 134, 278, 278, 278, 773, 672, 671, 134] (by decide +kernel) (by decide +kernel)
theorem ka_X0_tiredOf : cd_X0_tiredOf.1.all (fun e => mm_okB mm_mth mm_nest (yX0_tiredOf, cX0_tiredOf, 2, (some .int)) e) = true := by decide +kernel
theorem kb_X0_tiredOf : GoodIn lw_tbl (cd_X0_tiredOf.1.flatMap (fun e => mm_wdE mm_mth yX0_tiredOf.cls e)) := goodIn_r _ [277, 277] (by decide +kernel) (by decide +kernel)
theorem ka_X0_wristOf : cd_X0_wristOf.1.all (fun e => mm_okB mm_mth mm_nest (yX0_wristOf, cX0_wristOf, 2, (some .int)) e) = true := by decide +kernel
theorem kb_X0_wristOf : GoodIn lw_tbl (cd_X0_wristOf.1.flatMap (fun e => mm_wdE mm_mth yX0_wristOf.cls e)) := goodIn_r _ [278, 278] (by decide +kernel) (by decide +kernel)
theorem ka_X0_tire : cd_X0_tire.1.all (fun e => mm_okB mm_mth mm_nest (yX0_tire, cX0_tire, 3, none) e) = true := by decide +kernel
theorem kb_X0_tire : GoodIn lw_tbl (cd_X0_tire.1.flatMap (fun e => mm_wdE mm_mth yX0_tire.cls e)) := goodIn_r _ [277, 277] (by decide +kernel) (by decide +kernel)
theorem ka_X0_strengthen : cd_X0_strengthen.1.all (fun e => mm_okB mm_mth mm_nest (yX0_strengthen, cX0_strengthen, 2, none) e) = true := by decide +kernel
theorem kb_X0_strengthen : GoodIn lw_tbl (cd_X0_strengthen.1.flatMap (fun e => mm_wdE mm_mth yX0_strengthen.cls e)) := goodIn_r _ [278, 278] (by decide +kernel) (by decide +kernel)
theorem ka_X1_init : cd_X1_init.1.all (fun e => mm_okB mm_mth mm_nest (yX1_init, cX1_init, 1, none) e) = true := by decide +kernel
theorem kb_X1_init : GoodIn lw_tbl (cd_X1_init.1.flatMap (fun e => mm_wdE mm_mth yX1_init.cls e)) := goodIn_r _ [380, 146, 147] (by decide +kernel) (by decide +kernel)
theorem ka_X1_begin : cd_X1_begin.1.all (fun e => mm_okB mm_mth mm_nest (yX1_begin, cX1_begin, 3, none) e) = true := by decide +kernel
theorem kb_X1_begin : GoodIn lw_tbl (cd_X1_begin.1.flatMap (fun e => mm_wdE mm_mth yX1_begin.cls e)) := goodIn_r _ [381] (by decide +kernel) (by decide +kernel)
theorem ka_X1_below : cd_X1_below.1.all (fun e => mm_okB mm_mth mm_nest (yX1_below, cX1_below, 2, (some .int)) e) = true := by decide +kernel
theorem kb_X1_below : GoodIn lw_tbl (cd_X1_below.1.flatMap (fun e => mm_wdE mm_mth yX1_below.cls e)) := goodIn_r _ [381, 933, 934, 381, 381] (by decide +kernel) (by decide +kernel)
theorem ka_X2_init : cd_X2_init.1.all (fun e => mm_okB mm_mth mm_nest (yX2_init, cX2_init, 2, none) e) = true := by decide +kernel
theorem kb_X2_init : GoodIn lw_tbl (cd_X2_init.1.flatMap (fun e => mm_wdE mm_mth yX2_init.cls e)) := goodIn_r _ [170, 146, 147, 171, 172, 122, 174, 122, 185, 184] (by decide +kernel) (by decide +kernel)
theorem ka_X2_read : cd_X2_read.1.all (fun e => mm_okB mm_mth mm_nest (yX2_read, cX2_read, 1, (some (.object "WhiskedDuchy$Told"))) e) = true := by decide +kernel
theorem kb_X2_read : GoodIn lw_tbl (cd_X2_read.1.flatMap (fun e => mm_wdE mm_mth yX2_read.cls e)) := goodIn_r _ [185] (by decide +kernel) (by decide +kernel)
theorem ka_X2_firstFault : cd_X2_firstFault.1.all (fun e => mm_okB mm_mth mm_nest (yX2_firstFault, cX2_firstFault, 2, (some .int)) e) = true := by decide +kernel
theorem kb_X2_firstFault : GoodIn lw_tbl (cd_X2_firstFault.1.flatMap (fun e => mm_wdE mm_mth yX2_firstFault.cls e)) := goodIn_r _ [185, 474, 475, 476, 122, 184, 508, 509, 510, 120, 512, 514, 1, 121, 184, 576, 577, 578, 120, 184, 580, 581, 582, 120, 185, 585, 586, 587, 122, 185, 585, 586, 587, 122, 184, 516, 517, 518, 120, 184, 576, 577, 578, 120] (by decide +kernel) (by decide +kernel)
theorem ka_X2_isClauseNext : cd_X2_isClauseNext.1.all (fun e => mm_okB mm_mth mm_nest (yX2_isClauseNext, cX2_isClauseNext, 6, (some .boolean)) e) = true := by decide +kernel
theorem kb_X2_isClauseNext : GoodIn lw_tbl (cd_X2_isClauseNext.1.flatMap (fun e => mm_wdE mm_mth yX2_isClauseNext.cls e)) := goodIn_r _ [184, 516, 517, 518, 120, 520, 521, 122, 185, 525, 526, 527, 122, 184, 529, 530, 531, 120, 185, 533, 534, 535, 122, 184, 516, 517, 518, 120, 538, 539, 122, 184, 529, 530, 531, 120, 543, 545, 2, 121] (by decide +kernel) (by decide +kernel)
theorem ka_X2_isValueNext : cd_X2_isValueNext.1.all (fun e => mm_okB mm_mth mm_nest (yX2_isValueNext, cX2_isValueNext, 5, (some .boolean)) e) = true := by decide +kernel
theorem kb_X2_isValueNext : GoodIn lw_tbl (cd_X2_isValueNext.1.flatMap (fun e => mm_wdE mm_mth yX2_isValueNext.cls e)) := goodIn_r _ [184, 516, 517, 518, 120, 547, 548, 120, 184, 550, 551, 552, 120, 561, 562, 122, 184, 571, 572, 573, 120, 185, 575, 498, 499, 122] (by decide +kernel) (by decide +kernel)
theorem ka_X3_init : cd_X3_init.1.all (fun e => mm_okB mm_mth mm_nest (yX3_init, cX3_init, 2, none) e) = true := by decide +kernel
theorem kb_X3_init : GoodIn lw_tbl (cd_X3_init.1.flatMap (fun e => mm_wdE mm_mth yX3_init.cls e)) := goodIn_r _ [196, 146, 147, 164, 198, 197] (by decide +kernel) (by decide +kernel)
theorem ka_X3_code : cd_X3_code.1.all (fun e => mm_okB mm_mth mm_nest (yX3_code, cX3_code, 1, (some (.array .int))) e) = true := by decide +kernel
theorem kb_X3_code : GoodIn lw_tbl (cd_X3_code.1.flatMap (fun e => mm_wdE mm_mth yX3_code.cls e)) := goodIn_r _ [198, 199, 703, 704, 132] (by decide +kernel) (by decide +kernel)
theorem ka_X3_write : cd_X3_write.1.all (fun e => mm_okB mm_mth mm_nest (yX3_write, cX3_write, 2, none) e) = true := by decide +kernel
theorem kb_X3_write : GoodIn lw_tbl (cd_X3_write.1.flatMap (fun e => mm_wdE mm_mth yX3_write.cls e)) := goodIn_r _ [199, 199, 198, 198, 199, 199, 199] (by decide +kernel) (by decide +kernel)
theorem ka_X3_firstFault : cd_X3_firstFault.1.all (fun e => mm_okB mm_mth mm_nest (yX3_firstFault, cX3_firstFault, 2, (some .int)) e) = true := by decide +kernel
theorem kb_X3_firstFault : GoodIn lw_tbl (cd_X3_firstFault.1.flatMap (fun e => mm_wdE mm_mth yX3_firstFault.cls e)) := goodIn_r _ [199, 197, 593, 509, 510, 120, 594, 596, 4, 123, 197, 653, 577, 578, 120, 626, 628, 11, 123, 197, 598, 581, 582, 120, 197, 599, 517, 518, 120, 197, 653, 577, 578, 120] (by decide +kernel) (by decide +kernel)
theorem ka_X3_isClauseNext : cd_X3_isClauseNext.1.all (fun e => mm_okB mm_mth mm_nest (yX3_isClauseNext, cX3_isClauseNext, 2, (some .boolean)) e) = true := by decide +kernel
theorem kb_X3_isClauseNext : GoodIn lw_tbl (cd_X3_isClauseNext.1.flatMap (fun e => mm_wdE mm_mth yX3_isClauseNext.cls e)) := goodIn_r _ [197, 598, 581, 582, 120, 197, 598, 581, 582, 120, 197, 599, 517, 518, 120, 600, 602, 5, 123, 649, 651, 15, 123, 612, 614, 8, 123, 197, 599, 517, 518, 120, 638, 639, 123, 634, 636, 12, 123, 641, 643, 13, 123, 645, 647, 14, 123, 649, 651, 15, 123] (by decide +kernel) (by decide +kernel)
theorem ka_X3_isSumBehindCondition : cd_X3_isSumBehindCondition.1.all (fun e => mm_okB mm_mth mm_nest (yX3_isSumBehindCondition, cX3_isSumBehindCondition, 1, (some .boolean)) e) = true := by decide +kernel
theorem kb_X3_isSumBehindCondition : GoodIn lw_tbl (cd_X3_isSumBehindCondition.1.flatMap (fun e => mm_wdE mm_mth yX3_isSumBehindCondition.cls e)) := goodIn_r _ [197, 598, 581, 582, 120, 626, 628, 11, 123, 612, 614, 8, 123] (by decide +kernel) (by decide +kernel)
theorem ka_X3_isConditionNext : cd_X3_isConditionNext.1.all (fun e => mm_okB mm_mth mm_nest (yX3_isConditionNext, cX3_isConditionNext, 2, (some .boolean)) e) = true := by decide +kernel
theorem kb_X3_isConditionNext : GoodIn lw_tbl (cd_X3_isConditionNext.1.flatMap (fun e => mm_wdE mm_mth yX3_isConditionNext.cls e)) := goodIn_r _ [604, 606, 6, 123, 645, 647, 14, 123] (by decide +kernel) (by decide +kernel)
theorem ka_X3_areTruthsNext : cd_X3_areTruthsNext.1.all (fun e => mm_okB mm_mth mm_nest (yX3_areTruthsNext, cX3_areTruthsNext, 3, (some .boolean)) e) = true := by decide +kernel
theorem kb_X3_areTruthsNext : GoodIn lw_tbl (cd_X3_areTruthsNext.1.flatMap (fun e => mm_wdE mm_mth yX3_areTruthsNext.cls e)) := goodIn_r _ [197, 598, 581, 582, 120, 604, 606, 6, 123, 626, 628, 11, 123] (by decide +kernel) (by decide +kernel)
theorem ka_X3_isTruthNext : cd_X3_isTruthNext.1.all (fun e => mm_okB mm_mth mm_nest (yX3_isTruthNext, cX3_isTruthNext, 2, (some .boolean)) e) = true := by decide +kernel
theorem kb_X3_isTruthNext : GoodIn lw_tbl (cd_X3_isTruthNext.1.flatMap (fun e => mm_wdE mm_mth yX3_isTruthNext.cls e)) := goodIn_r _ [608, 610, 7, 123, 641, 643, 13, 123] (by decide +kernel) (by decide +kernel)
theorem ka_X3_areUnitsNext : cd_X3_areUnitsNext.1.all (fun e => mm_okB mm_mth mm_nest (yX3_areUnitsNext, cX3_areUnitsNext, 3, (some .boolean)) e) = true := by decide +kernel
theorem kb_X3_areUnitsNext : GoodIn lw_tbl (cd_X3_areUnitsNext.1.flatMap (fun e => mm_wdE mm_mth yX3_areUnitsNext.cls e)) := goodIn_r _ [197, 598, 581, 582, 120, 608, 610, 7, 123, 626, 628, 11, 123] (by decide +kernel) (by decide +kernel)
theorem ka_X3_isUnitNext : cd_X3_isUnitNext.1.all (fun e => mm_okB mm_mth mm_nest (yX3_isUnitNext, cX3_isUnitNext, 3, (some .boolean)) e) = true := by decide +kernel
theorem kb_X3_isUnitNext : GoodIn lw_tbl (cd_X3_isUnitNext.1.flatMap (fun e => mm_wdE mm_mth yX3_isUnitNext.cls e)) := goodIn_r _ [197, 599, 517, 518, 120, 612, 614, 8, 123, 634, 636, 12, 123, 197, 633, 530, 531, 120, 600, 602, 5, 123, 197, 598, 581, 582, 120, 608, 610, 7, 123, 626, 628, 11, 123] (by decide +kernel) (by decide +kernel)
theorem ka_X3_isComparedNext : cd_X3_isComparedNext.1.all (fun e => mm_okB mm_mth mm_nest (yX3_isComparedNext, cX3_isComparedNext, 3, (some .boolean)) e) = true := by decide +kernel
theorem kb_X3_isComparedNext : GoodIn lw_tbl (cd_X3_isComparedNext.1.flatMap (fun e => mm_wdE mm_mth yX3_isComparedNext.cls e)) := goodIn_r _ [197, 599, 517, 518, 120, 638, 639, 123, 197, 633, 530, 531, 120, 612, 614, 8, 123, 626, 628, 11, 123] (by decide +kernel) (by decide +kernel)
theorem ka_X3_isComparison : cd_X3_isComparison.1.all (fun e => mm_okB mm_mth mm_nest (yX3_isComparison, cX3_isComparison, 1, (some .boolean)) e) = true := by decide +kernel
theorem kb_X3_isComparison : GoodIn lw_tbl (cd_X3_isComparison.1.flatMap (fun e => mm_wdE mm_mth yX3_isComparison.cls e)) := goodIn_r _ [] (by decide +kernel) (by decide +kernel)
theorem ka_X3_isSumNext : cd_X3_isSumNext.1.all (fun e => mm_okB mm_mth mm_nest (yX3_isSumNext, cX3_isSumNext, 4, (some .boolean)) e) = true := by decide +kernel
theorem kb_X3_isSumNext : GoodIn lw_tbl (cd_X3_isSumNext.1.flatMap (fun e => mm_wdE mm_mth yX3_isSumNext.cls e)) := goodIn_r _ [616, 618, 9, 123, 197, 599, 517, 518, 120, 197, 633, 530, 531, 120, 616, 618, 9, 123, 626, 628, 11, 123] (by decide +kernel) (by decide +kernel)
theorem ka_X3_isTermNext : cd_X3_isTermNext.1.all (fun e => mm_okB mm_mth mm_nest (yX3_isTermNext, cX3_isTermNext, 4, (some .boolean)) e) = true := by decide +kernel
theorem kb_X3_isTermNext : GoodIn lw_tbl (cd_X3_isTermNext.1.flatMap (fun e => mm_wdE mm_mth yX3_isTermNext.cls e)) := goodIn_r _ [620, 622, 10, 123, 197, 599, 517, 518, 120, 197, 633, 530, 531, 120, 620, 622, 10, 123, 626, 628, 11, 123] (by decide +kernel) (by decide +kernel)
theorem ka_X3_isAtomNext : cd_X3_isAtomNext.1.all (fun e => mm_okB mm_mth mm_nest (yX3_isAtomNext, cX3_isAtomNext, 4, (some .boolean)) e) = true := by decide +kernel
theorem kb_X3_isAtomNext : GoodIn lw_tbl (cd_X3_isAtomNext.1.flatMap (fun e => mm_wdE mm_mth yX3_isAtomNext.cls e)) := goodIn_r _ [197, 599, 517, 518, 120, 624, 548, 120, 197, 625, 551, 552, 120, 626, 628, 11, 123, 630, 631, 123, 197, 633, 530, 531, 120, 626, 628, 11, 123, 197, 633, 530, 531, 120, 612, 614, 8, 123, 197, 598, 581, 582, 120] (by decide +kernel) (by decide +kernel)
theorem ka_X3_isLetter : cd_X3_isLetter.1.all (fun e => mm_okB mm_mth mm_nest (yX3_isLetter, cX3_isLetter, 1, (some .boolean)) e) = true := by decide +kernel
theorem kb_X3_isLetter : GoodIn lw_tbl (cd_X3_isLetter.1.flatMap (fun e => mm_wdE mm_mth yX3_isLetter.cls e)) := goodIn_r _ [] (by decide +kernel) (by decide +kernel)
theorem ka_X4_init : cd_X4_init.1.all (fun e => mm_okB mm_mth mm_nest (yX4_init, cX4_init, 1, none) e) = true := by decide +kernel
theorem kb_X4_init : GoodIn lw_tbl (cd_X4_init.1.flatMap (fun e => mm_wdE mm_mth yX4_init.cls e)) := goodIn_r _ [212, 146, 147] (by decide +kernel) (by decide +kernel)
theorem ka_X4_size : cd_X4_size.1.all (fun e => mm_okB mm_mth mm_nest (yX4_size, cX4_size, 1, (some .int)) e) = true := by decide +kernel
theorem kb_X4_size : GoodIn lw_tbl (cd_X4_size.1.flatMap (fun e => mm_wdE mm_mth yX4_size.cls e)) := goodIn_r _ [216] (by decide +kernel) (by decide +kernel)
theorem ka_X4_isFull : cd_X4_isFull.1.all (fun e => mm_okB mm_mth mm_nest (yX4_isFull, cX4_isFull, 1, (some .boolean)) e) = true := by decide +kernel
theorem kb_X4_isFull : GoodIn lw_tbl (cd_X4_isFull.1.flatMap (fun e => mm_wdE mm_mth yX4_isFull.cls e)) := goodIn_r _ [216] (by decide +kernel) (by decide +kernel)
theorem ka_X4_chosen : cd_X4_chosen.1.all (fun e => mm_okB mm_mth mm_nest (yX4_chosen, cX4_chosen, 1, (some .int)) e) = true := by decide +kernel
theorem kb_X4_chosen : GoodIn lw_tbl (cd_X4_chosen.1.flatMap (fun e => mm_wdE mm_mth yX4_chosen.cls e)) := goodIn_r _ [217] (by decide +kernel) (by decide +kernel)
theorem ka_X4_add : cd_X4_add.1.all (fun e => mm_okB mm_mth mm_nest (yX4_add, cX4_add, 2, (some .int)) e) = true := by decide +kernel
theorem kb_X4_add : GoodIn lw_tbl (cd_X4_add.1.flatMap (fun e => mm_wdE mm_mth yX4_add.cls e)) := goodIn_r _ [721, 696, 697, 124, 215, 216, 216, 216, 216] (by decide +kernel) (by decide +kernel)
theorem ka_X4_choose : cd_X4_choose.1.all (fun e => mm_okB mm_mth mm_nest (yX4_choose, cX4_choose, 2, (some .boolean)) e) = true := by decide +kernel
theorem kb_X4_choose : GoodIn lw_tbl (cd_X4_choose.1.flatMap (fun e => mm_wdE mm_mth yX4_choose.cls e)) := goodIn_r _ [216, 217] (by decide +kernel) (by decide +kernel)
theorem ka_X4_worth : cd_X4_worth.1.all (fun e => mm_okB mm_mth mm_nest (yX4_worth, cX4_worth, 11, (some .int)) e) = true := by decide +kernel
theorem kb_X4_worth : GoodIn lw_tbl (cd_X4_worth.1.flatMap (fun e => mm_wdE mm_mth yX4_worth.cls e)) := goodIn_r _ [220, 221, 222, 223, 224, 225, 219, 217, 217, 215, 215, 217, 215, 217, 791, 793, 22, 124, 791, 793, 22, 124, 795, 797, 23, 124, 807, 809, 24, 124] (by decide +kernel) (by decide +kernel)
theorem ka_X4_push : cd_X4_push.1.all (fun e => mm_okB mm_mth mm_nest (yX4_push, cX4_push, 3, none) e) = true := by decide +kernel
theorem kb_X4_push : GoodIn lw_tbl (cd_X4_push.1.flatMap (fun e => mm_wdE mm_mth yX4_push.cls e)) := goodIn_r _ [219, 219, 218, 218, 219, 799, 800, 801, 802, 133, 804, 805, 133, 219, 219] (by decide +kernel) (by decide +kernel)
theorem ka_X4_pop : cd_X4_pop.1.all (fun e => mm_okB mm_mth mm_nest (yX4_pop, cX4_pop, 1, (some .int)) e) = true := by decide +kernel
theorem kb_X4_pop : GoodIn lw_tbl (cd_X4_pop.1.flatMap (fun e => mm_wdE mm_mth yX4_pop.cls e)) := goodIn_r _ [219, 219, 218, 219, 219, 218, 219] (by decide +kernel) (by decide +kernel)
theorem ka_X4_apply : cd_X4_apply.1.all (fun e => mm_okB mm_mth mm_nest (yX4_apply, cX4_apply, 6, none) e) = true := by decide +kernel
theorem kb_X4_apply : GoodIn lw_tbl (cd_X4_apply.1.flatMap (fun e => mm_wdE mm_mth yX4_apply.cls e)) := goodIn_r _ [220, 795, 797, 23, 124, 221, 795, 797, 23, 124, 222, 795, 797, 23, 124, 223, 795, 797, 23, 124, 224, 795, 797, 23, 124, 225, 795, 797, 23, 124, 791, 793, 22, 124, 795, 797, 23, 124, 791, 793, 22, 124, 791, 793, 22, 124, 811, 812, 124, 795, 797, 23, 124] (by decide +kernel) (by decide +kernel)
theorem ka_X4_joined : cd_X4_joined.1.all (fun e => mm_okB mm_mth mm_nest (yX4_joined, cX4_joined, 5, (some .long)) e) = true := by decide +kernel
theorem kb_X4_joined : GoodIn lw_tbl (cd_X4_joined.1.flatMap (fun e => mm_wdE mm_mth yX4_joined.cls e)) := goodIn_r _ [] (by decide +kernel) (by decide +kernel)
theorem ka_X5_init : cd_X5_init.1.all (fun e => mm_okB mm_mth mm_nest (yX5_init, cX5_init, 1, none) e) = true := by decide +kernel
theorem kb_X5_init : GoodIn lw_tbl (cd_X5_init.1.flatMap (fun e => mm_wdE mm_mth yX5_init.cls e)) := goodIn_r _ [325, 146, 147, 164, 326] (by decide +kernel) (by decide +kernel)
theorem ka_X5_write : cd_X5_write.1.all (fun e => mm_okB mm_mth mm_nest (yX5_write, cX5_write, 6, none) e) = true := by decide +kernel
theorem kb_X5_write : GoodIn lw_tbl (cd_X5_write.1.flatMap (fun e => mm_wdE mm_mth yX5_write.cls e)) := goodIn_r _ [906, 907, 127, 326, 326, 326, 326] (by decide +kernel) (by decide +kernel)
theorem ka_X5_read : cd_X5_read.1.all (fun e => mm_okB mm_mth mm_nest (yX5_read, cX5_read, 4, (some .int)) e) = true := by decide +kernel
theorem kb_X5_read : GoodIn lw_tbl (cd_X5_read.1.flatMap (fun e => mm_wdE mm_mth yX5_read.cls e)) := goodIn_r _ [906, 907, 127, 326, 326] (by decide +kernel) (by decide +kernel)
theorem ka_X5_copyFrom : cd_X5_copyFrom.1.all (fun e => mm_okB mm_mth mm_nest (yX5_copyFrom, cX5_copyFrom, 2, none) e) = true := by decide +kernel
theorem kb_X5_copyFrom : GoodIn lw_tbl (cd_X5_copyFrom.1.flatMap (fun e => mm_wdE mm_mth yX5_copyFrom.cls e)) := goodIn_r _ [326, 326, 326, 1179, 672, 671, 134] (by decide +kernel) (by decide +kernel)
theorem ka_X5_placeOf : cd_X5_placeOf.1.all (fun e => mm_okB mm_mth mm_nest (yX5_placeOf, cX5_placeOf, 1, (some .int)) e) = true := by decide +kernel
theorem kb_X5_placeOf : GoodIn lw_tbl (cd_X5_placeOf.1.flatMap (fun e => mm_wdE mm_mth yX5_placeOf.cls e)) := goodIn_r _ [909, 910, 133] (by decide +kernel) (by decide +kernel)
theorem ka_X6_init : cd_X6_init.1.all (fun e => mm_okB mm_mth mm_nest (yX6_init, cX6_init, 1, none) e) = true := by decide +kernel
theorem kb_X6_init : GoodIn lw_tbl (cd_X6_init.1.flatMap (fun e => mm_wdE mm_mth yX6_init.cls e)) := goodIn_r _ [307, 146, 147, 308, 310] (by decide +kernel) (by decide +kernel)
theorem ka_X6_size : cd_X6_size.1.all (fun e => mm_okB mm_mth mm_nest (yX6_size, cX6_size, 1, (some .int)) e) = true := by decide +kernel
theorem kb_X6_size : GoodIn lw_tbl (cd_X6_size.1.flatMap (fun e => mm_wdE mm_mth yX6_size.cls e)) := goodIn_r _ [311] (by decide +kernel) (by decide +kernel)
end
section
theorem ka_X6_clear : cd_X6_clear.1.all (fun e => mm_okB mm_mth mm_nest (yX6_clear, cX6_clear, 1, none) e) = true := by decide +kernel
theorem kb_X6_clear : GoodIn lw_tbl (cd_X6_clear.1.flatMap (fun e => mm_wdE mm_mth yX6_clear.cls e)) := goodIn_r _ [311] (by decide +kernel) (by decide +kernel)
theorem ka_X6_keep : cd_X6_keep.1.all (fun e => mm_okB mm_mth mm_nest (yX6_keep, cX6_keep, 2, none) e) = true := by decide +kernel
theorem kb_X6_keep : GoodIn lw_tbl (cd_X6_keep.1.flatMap (fun e => mm_wdE mm_mth yX6_keep.cls e)) := goodIn_r _ [312, 312, 310, 310, 312, 310, 312, 308, 252, 125, 254, 125, 310, 312, 769, 770, 771, 125, 312, 312, 311, 774, 714, 133, 311] (by decide +kernel) (by decide +kernel)
theorem ka_X6_takeBack : cd_X6_takeBack.1.all (fun e => mm_okB mm_mth mm_nest (yX6_takeBack, cX6_takeBack, 3, (some .boolean)) e) = true := by decide +kernel
theorem kb_X6_takeBack : GoodIn lw_tbl (cd_X6_takeBack.1.flatMap (fun e => mm_wdE mm_mth yX6_takeBack.cls e)) := goodIn_r _ [312, 311, 310, 310, 310, 769, 770, 771, 125, 312, 311, 311] (by decide +kernel) (by decide +kernel)
theorem ka_X7_init : cd_X7_init.1.all (fun e => mm_okB mm_mth mm_nest (yX7_init, cX7_init, 3, none) e) = true := by decide +kernel
theorem kb_X7_init : GoodIn lw_tbl (cd_X7_init.1.flatMap (fun e => mm_wdE mm_mth yX7_init.cls e)) := goodIn_r _ [358, 146, 147, 164, 361, 164, 362, 164, 363, 359, 360] (by decide +kernel) (by decide +kernel)
theorem ka_X7_bestSet : cd_X7_bestSet.1.all (fun e => mm_okB mm_mth mm_nest (yX7_bestSet, cX7_bestSet, 6, (some .int)) e) = true := by decide +kernel
theorem kb_X7_bestSet : GoodIn lw_tbl (cd_X7_bestSet.1.flatMap (fun e => mm_wdE mm_mth yX7_bestSet.cls e)) := goodIn_r _ [359, 1006, 586, 587, 122, 1007, 714, 133, 361, 1008, 1009, 139, 362, 362, 359, 1012, 683, 684, 122, 363, 363, 359, 1012, 683, 684, 122, 361, 1013, 1015, 40, 129, 361, 1030, 1032, 42, 129] (by decide +kernel) (by decide +kernel)
theorem ka_X7_leastRowOf : cd_X7_leastRowOf.1.all (fun e => mm_okB mm_mth mm_nest (yX7_leastRowOf, cX7_leastRowOf, 2, (some .int)) e) = true := by decide +kernel
theorem kb_X7_leastRowOf : GoodIn lw_tbl (cd_X7_leastRowOf.1.flatMap (fun e => mm_wdE mm_mth yX7_leastRowOf.cls e)) := goodIn_r _ [361] (by decide +kernel) (by decide +kernel)
theorem ka_X7_valueOf : cd_X7_valueOf.1.all (fun e => mm_okB mm_mth mm_nest (yX7_valueOf, cX7_valueOf, 2, (some .int)) e) = true := by decide +kernel
theorem kb_X7_valueOf : GoodIn lw_tbl (cd_X7_valueOf.1.flatMap (fun e => mm_wdE mm_mth yX7_valueOf.cls e)) := goodIn_r _ [363] (by decide +kernel) (by decide +kernel)
theorem ka_X7_standsBehind : cd_X7_standsBehind.1.all (fun e => mm_okB mm_mth mm_nest (yX7_standsBehind, cX7_standsBehind, 2, (some .int)) e) = true := by decide +kernel
theorem kb_X7_standsBehind : GoodIn lw_tbl (cd_X7_standsBehind.1.flatMap (fun e => mm_wdE mm_mth yX7_standsBehind.cls e)) := goodIn_r _ [360, 362, 1029, 559, 133] (by decide +kernel) (by decide +kernel)
theorem ka_X7_leastRowTo : cd_X7_leastRowTo.1.all (fun e => mm_okB mm_mth mm_nest (yX7_leastRowTo, cX7_leastRowTo, 5, (some .int)) e) = true := by decide +kernel
theorem kb_X7_leastRowTo : GoodIn lw_tbl (cd_X7_leastRowTo.1.flatMap (fun e => mm_wdE mm_mth yX7_leastRowTo.cls e)) := goodIn_r _ [360, 359, 1006, 586, 587, 122, 1017, 1019, 41, 129, 1021, 1022, 1023, 129, 1007, 714, 133] (by decide +kernel) (by decide +kernel)
theorem ka_X7_canEnd : cd_X7_canEnd.1.all (fun e => mm_okB mm_mth mm_nest (yX7_canEnd, cX7_canEnd, 4, (some .boolean)) e) = true := by decide +kernel
theorem kb_X7_canEnd : GoodIn lw_tbl (cd_X7_canEnd.1.flatMap (fun e => mm_wdE mm_mth yX7_canEnd.cls e)) := goodIn_r _ [1021, 1022, 1023, 129, 1025, 1026, 1027, 129, 359, 1012, 683, 684, 122] (by decide +kernel) (by decide +kernel)
theorem ka_X7_isBetter : cd_X7_isBetter.1.all (fun e => mm_okB mm_mth mm_nest (yX7_isBetter, cX7_isBetter, 6, (some .boolean)) e) = true := by decide +kernel
theorem kb_X7_isBetter : GoodIn lw_tbl (cd_X7_isBetter.1.flatMap (fun e => mm_wdE mm_mth yX7_isBetter.cls e)) := goodIn_r _ [1034, 1035, 1036, 129, 1034, 1035, 1036, 129, 1025, 1026, 1027, 129, 1025, 1026, 1027, 129, 1038, 1039, 139, 1038, 1039, 139, 1021, 1022, 1023, 129, 1021, 1022, 1023, 129] (by decide +kernel) (by decide +kernel)
theorem ka_X8_init : cd_X8_init.1.all (fun e => mm_okB mm_mth mm_nest (yX8_init, cX8_init, 1, none) e) = true := by decide +kernel
theorem kb_X8_init : GoodIn lw_tbl (cd_X8_init.1.flatMap (fun e => mm_wdE mm_mth yX8_init.cls e)) := goodIn_r _ [335, 146, 147, 164, 336, 164, 337, 164, 338, 352, 339] (by decide +kernel) (by decide +kernel)
theorem ka_X8_size : cd_X8_size.1.all (fun e => mm_okB mm_mth mm_nest (yX8_size, cX8_size, 1, (some .int)) e) = true := by decide +kernel
theorem kb_X8_size : GoodIn lw_tbl (cd_X8_size.1.flatMap (fun e => mm_wdE mm_mth yX8_size.cls e)) := goodIn_r _ [340] (by decide +kernel) (by decide +kernel)
theorem ka_X8_isFull : cd_X8_isFull.1.all (fun e => mm_okB mm_mth mm_nest (yX8_isFull, cX8_isFull, 1, (some .boolean)) e) = true := by decide +kernel
theorem kb_X8_isFull : GoodIn lw_tbl (cd_X8_isFull.1.flatMap (fun e => mm_wdE mm_mth yX8_isFull.cls e)) := goodIn_r _ [340] (by decide +kernel) (by decide +kernel)
theorem ka_X8_clear : cd_X8_clear.1.all (fun e => mm_okB mm_mth mm_nest (yX8_clear, cX8_clear, 1, none) e) = true := by decide +kernel
theorem kb_X8_clear : GoodIn lw_tbl (cd_X8_clear.1.flatMap (fun e => mm_wdE mm_mth yX8_clear.cls e)) := goodIn_r _ [340] (by decide +kernel) (by decide +kernel)
theorem ka_X8_add : cd_X8_add.1.all (fun e => mm_okB mm_mth mm_nest (yX8_add, cX8_add, 5, none) e) = true := by decide +kernel
theorem kb_X8_add : GoodIn lw_tbl (cd_X8_add.1.flatMap (fun e => mm_wdE mm_mth yX8_add.cls e)) := goodIn_r _ [340, 340, 336, 340, 337, 340, 338, 340, 339, 340, 340, 340] (by decide +kernel) (by decide +kernel)
theorem ka_X8_furthestOf : cd_X8_furthestOf.1.all (fun e => mm_okB mm_mth mm_nest (yX8_furthestOf, cX8_furthestOf, 4, (some .int)) e) = true := by decide +kernel
theorem kb_X8_furthestOf : GoodIn lw_tbl (cd_X8_furthestOf.1.flatMap (fun e => mm_wdE mm_mth yX8_furthestOf.cls e)) := goodIn_r _ [340, 336, 337, 1087, 559, 133] (by decide +kernel) (by decide +kernel)
theorem ka_X8_isAgainst : cd_X8_isAgainst.1.all (fun e => mm_okB mm_mth mm_nest (yX8_isAgainst, cX8_isAgainst, 5, (some .boolean)) e) = true := by decide +kernel
theorem kb_X8_isAgainst : GoodIn lw_tbl (cd_X8_isAgainst.1.flatMap (fun e => mm_wdE mm_mth yX8_isAgainst.cls e)) := goodIn_r _ [340, 336, 337, 338, 339] (by decide +kernel) (by decide +kernel)
theorem ka_X9_init : cd_X9_init.1.all (fun e => mm_okB mm_mth mm_nest (yX9_init, cX9_init, 1, none) e) = true := by decide +kernel
theorem kb_X9_init : GoodIn lw_tbl (cd_X9_init.1.flatMap (fun e => mm_wdE mm_mth yX9_init.cls e)) := goodIn_r _ [153, 146, 147, 164, 154] (by decide +kernel) (by decide +kernel)
theorem ka_X9_size : cd_X9_size.1.all (fun e => mm_okB mm_mth mm_nest (yX9_size, cX9_size, 1, (some .int)) e) = true := by decide +kernel
theorem kb_X9_size : GoodIn lw_tbl (cd_X9_size.1.flatMap (fun e => mm_wdE mm_mth yX9_size.cls e)) := goodIn_r _ [155] (by decide +kernel) (by decide +kernel)
theorem ka_X9_signsIn : cd_X9_signsIn.1.all (fun e => mm_okB mm_mth mm_nest (yX9_signsIn, cX9_signsIn, 3, (some .int)) e) = true := by decide +kernel
theorem kb_X9_signsIn : GoodIn lw_tbl (cd_X9_signsIn.1.flatMap (fun e => mm_wdE mm_mth yX9_signsIn.cls e)) := goodIn_r _ [] (by decide +kernel) (by decide +kernel)
theorem ka_X9_put : cd_X9_put.1.all (fun e => mm_okB mm_mth mm_nest (yX9_put, cX9_put, 4, none) e) = true := by decide +kernel
theorem kb_X9_put : GoodIn lw_tbl (cd_X9_put.1.flatMap (fun e => mm_wdE mm_mth yX9_put.cls e)) := goodIn_r _ [155, 154, 154, 155, 155, 155] (by decide +kernel) (by decide +kernel)
theorem ka_X9_cutBehind : cd_X9_cutBehind.1.all (fun e => mm_okB mm_mth mm_nest (yX9_cutBehind, cX9_cutBehind, 2, (some .boolean)) e) = true := by decide +kernel
theorem kb_X9_cutBehind : GoodIn lw_tbl (cd_X9_cutBehind.1.flatMap (fun e => mm_wdE mm_mth yX9_cutBehind.cls e)) := goodIn_r _ [155, 155] (by decide +kernel) (by decide +kernel)
theorem ka_X9_rewind : cd_X9_rewind.1.all (fun e => mm_okB mm_mth mm_nest (yX9_rewind, cX9_rewind, 1, none) e) = true := by decide +kernel
theorem kb_X9_rewind : GoodIn lw_tbl (cd_X9_rewind.1.flatMap (fun e => mm_wdE mm_mth yX9_rewind.cls e)) := goodIn_r _ [156] (by decide +kernel) (by decide +kernel)
theorem ka_X9_at : cd_X9_at.1.all (fun e => mm_okB mm_mth mm_nest (yX9_at, cX9_at, 1, (some .int)) e) = true := by decide +kernel
theorem kb_X9_at : GoodIn lw_tbl (cd_X9_at.1.flatMap (fun e => mm_wdE mm_mth yX9_at.cls e)) := goodIn_r _ [156] (by decide +kernel) (by decide +kernel)
theorem ka_X9_look : cd_X9_look.1.all (fun e => mm_okB mm_mth mm_nest (yX9_look, cX9_look, 1, (some .int)) e) = true := by decide +kernel
theorem kb_X9_look : GoodIn lw_tbl (cd_X9_look.1.flatMap (fun e => mm_wdE mm_mth yX9_look.cls e)) := goodIn_r _ [156, 156, 155, 156, 154, 154, 156, 156, 156, 156, 156, 155, 156, 154, 154, 156] (by decide +kernel) (by decide +kernel)
theorem ka_X9_step : cd_X9_step.1.all (fun e => mm_okB mm_mth mm_nest (yX9_step, cX9_step, 1, none) e) = true := by decide +kernel
theorem kb_X9_step : GoodIn lw_tbl (cd_X9_step.1.flatMap (fun e => mm_wdE mm_mth yX9_step.cls e)) := goodIn_r _ [156, 156] (by decide +kernel) (by decide +kernel)
theorem ka_X9_stepBack : cd_X9_stepBack.1.all (fun e => mm_okB mm_mth mm_nest (yX9_stepBack, cX9_stepBack, 1, none) e) = true := by decide +kernel
theorem kb_X9_stepBack : GoodIn lw_tbl (cd_X9_stepBack.1.flatMap (fun e => mm_wdE mm_mth yX9_stepBack.cls e)) := goodIn_r _ [156, 156] (by decide +kernel) (by decide +kernel)
theorem ka_X9_take : cd_X9_take.1.all (fun e => mm_okB mm_mth mm_nest (yX9_take, cX9_take, 2, (some .boolean)) e) = true := by decide +kernel
theorem kb_X9_take : GoodIn lw_tbl (cd_X9_take.1.flatMap (fun e => mm_wdE mm_mth yX9_take.cls e)) := goodIn_r _ [584, 517, 518, 120, 156, 156] (by decide +kernel) (by decide +kernel)
theorem ka_X9_number : cd_X9_number.1.all (fun e => mm_okB mm_mth mm_nest (yX9_number, cX9_number, 4, (some .int)) e) = true := by decide +kernel
theorem kb_X9_number : GoodIn lw_tbl (cd_X9_number.1.flatMap (fun e => mm_wdE mm_mth yX9_number.cls e)) := goodIn_r _ [554, 556, 3, 120, 558, 559, 133, 154, 156, 156, 156, 554, 556, 3, 120] (by decide +kernel) (by decide +kernel)
theorem ka_X9_isDigitHere : cd_X9_isDigitHere.1.all (fun e => mm_okB mm_mth mm_nest (yX9_isDigitHere, cX9_isDigitHere, 1, (some .boolean)) e) = true := by decide +kernel
theorem kb_X9_isDigitHere : GoodIn lw_tbl (cd_X9_isDigitHere.1.flatMap (fun e => mm_wdE mm_mth yX9_isDigitHere.cls e)) := goodIn_r _ [156, 156, 155, 156, 154, 154, 156, 154, 156] (by decide +kernel) (by decide +kernel)
theorem ka_X9_isDigit : cd_X9_isDigit.1.all (fun e => mm_okB mm_mth mm_nest (yX9_isDigit, cX9_isDigit, 1, (some .boolean)) e) = true := by decide +kernel
theorem kb_X9_isDigit : GoodIn lw_tbl (cd_X9_isDigit.1.flatMap (fun e => mm_wdE mm_mth yX9_isDigit.cls e)) := goodIn_r _ [] (by decide +kernel) (by decide +kernel)
theorem ka_X10_init : cd_X10_init.1.all (fun e => mm_okB mm_mth mm_nest (yX10_init, cX10_init, 1, none) e) = true := by decide +kernel
theorem kb_X10_init : GoodIn lw_tbl (cd_X10_init.1.flatMap (fun e => mm_wdE mm_mth yX10_init.cls e)) := goodIn_r _ [176, 146, 147, 164, 177, 164, 178] (by decide +kernel) (by decide +kernel)
theorem ka_X10_clear : cd_X10_clear.1.all (fun e => mm_okB mm_mth mm_nest (yX10_clear, cX10_clear, 1, none) e) = true := by decide +kernel
theorem kb_X10_clear : GoodIn lw_tbl (cd_X10_clear.1.flatMap (fun e => mm_wdE mm_mth yX10_clear.cls e)) := goodIn_r _ [178, 478, 479, 132, 481, 483, 0, 122] (by decide +kernel) (by decide +kernel)
theorem ka_X10_copyFrom : cd_X10_copyFrom.1.all (fun e => mm_okB mm_mth mm_nest (yX10_copyFrom, cX10_copyFrom, 2, none) e) = true := by decide +kernel
theorem kb_X10_copyFrom : GoodIn lw_tbl (cd_X10_copyFrom.1.flatMap (fun e => mm_wdE mm_mth yX10_copyFrom.cls e)) := goodIn_r _ [177, 177, 670, 672, 671, 134, 178, 178, 670, 672, 671, 134] (by decide +kernel) (by decide +kernel)
theorem ka_X10_howMany : cd_X10_howMany.1.all (fun e => mm_okB mm_mth mm_nest (yX10_howMany, cX10_howMany, 2, (some .int)) e) = true := by decide +kernel
theorem kb_X10_howMany : GoodIn lw_tbl (cd_X10_howMany.1.flatMap (fun e => mm_wdE mm_mth yX10_howMany.cls e)) := goodIn_r _ [485, 486, 122, 178] (by decide +kernel) (by decide +kernel)
theorem ka_X10_isFull : cd_X10_isFull.1.all (fun e => mm_okB mm_mth mm_nest (yX10_isFull, cX10_isFull, 2, (some .boolean)) e) = true := by decide +kernel
theorem kb_X10_isFull : GoodIn lw_tbl (cd_X10_isFull.1.flatMap (fun e => mm_wdE mm_mth yX10_isFull.cls e)) := goodIn_r _ [485, 486, 122, 178, 504] (by decide +kernel) (by decide +kernel)
theorem ka_X10_kindBy : cd_X10_kindBy.1.all (fun e => mm_okB mm_mth mm_nest (yX10_kindBy, cX10_kindBy, 2, (some .int)) e) = true := by decide +kernel
theorem kb_X10_kindBy : GoodIn lw_tbl (cd_X10_kindBy.1.flatMap (fun e => mm_wdE mm_mth yX10_kindBy.cls e)) := goodIn_r _ [523, 523] (by decide +kernel) (by decide +kernel)
theorem ka_X10_itemBy : cd_X10_itemBy.1.all (fun e => mm_okB mm_mth mm_nest (yX10_itemBy, cX10_itemBy, 5, (some .int)) e) = true := by decide +kernel
theorem kb_X10_itemBy : GoodIn lw_tbl (cd_X10_itemBy.1.flatMap (fun e => mm_wdE mm_mth yX10_itemBy.cls e)) := goodIn_r _ [485, 486, 122, 488, 490, 491, 122, 541] (by decide +kernel) (by decide +kernel)
theorem ka_X10_isAllowed : cd_X10_isAllowed.1.all (fun e => mm_okB mm_mth mm_nest (yX10_isAllowed, cX10_isAllowed, 4, (some .boolean)) e) = true := by decide +kernel
theorem kb_X10_isAllowed : GoodIn lw_tbl (cd_X10_isAllowed.1.flatMap (fun e => mm_wdE mm_mth yX10_isAllowed.cls e)) := goodIn_r _ [490, 491, 122, 564, 566, 569, 119] (by decide +kernel) (by decide +kernel)
theorem ka_X10_add : cd_X10_add.1.all (fun e => mm_okB mm_mth mm_nest (yX10_add, cX10_add, 3, (some .int)) e) = true := by decide +kernel
theorem kb_X10_add : GoodIn lw_tbl (cd_X10_add.1.flatMap (fun e => mm_wdE mm_mth yX10_add.cls e)) := goodIn_r _ [537, 526, 527, 122, 178, 178, 481, 483, 0, 122] (by decide +kernel) (by decide +kernel)
theorem ka_X10_fillWithout : cd_X10_fillWithout.1.all (fun e => mm_okB mm_mth mm_nest (yX10_fillWithout, cX10_fillWithout, 6, none) e) = true := by decide +kernel
theorem kb_X10_fillWithout : GoodIn lw_tbl (cd_X10_fillWithout.1.flatMap (fun e => mm_wdE mm_mth yX10_fillWithout.cls e)) := goodIn_r _ [485, 486, 122, 488, 490, 491, 122, 495, 497, 498, 499, 122] (by decide +kernel) (by decide +kernel)
theorem ka_X10_set : cd_X10_set.1.all (fun e => mm_okB mm_mth mm_nest (yX10_set, cX10_set, 6, none) e) = true := by decide +kernel
theorem kb_X10_set : GoodIn lw_tbl (cd_X10_set.1.flatMap (fun e => mm_wdE mm_mth yX10_set.cls e)) := goodIn_r _ [501, 502, 122, 177] (by decide +kernel) (by decide +kernel)
theorem ka_X10_item : cd_X10_item.1.all (fun e => mm_okB mm_mth mm_nest (yX10_item, cX10_item, 5, (some .int)) e) = true := by decide +kernel
theorem kb_X10_item : GoodIn lw_tbl (cd_X10_item.1.flatMap (fun e => mm_wdE mm_mth yX10_item.cls e)) := goodIn_r _ [501, 502, 122, 177] (by decide +kernel) (by decide +kernel)
theorem ka_X10_isKind : cd_X10_isKind.1.all (fun e => mm_okB mm_mth mm_nest (yX10_isKind, cX10_isKind, 1, (some .boolean)) e) = true := by decide +kernel
theorem kb_X10_isKind : GoodIn lw_tbl (cd_X10_isKind.1.flatMap (fun e => mm_wdE mm_mth yX10_isKind.cls e)) := goodIn_r _ [] (by decide +kernel) (by decide +kernel)
theorem ka_X10_lineOf : cd_X10_lineOf.1.all (fun e => mm_okB mm_mth mm_nest (yX10_lineOf, cX10_lineOf, 2, (some .int)) e) = true := by decide +kernel
theorem kb_X10_lineOf : GoodIn lw_tbl (cd_X10_lineOf.1.flatMap (fun e => mm_wdE mm_mth yX10_lineOf.cls e)) := goodIn_r _ [485, 486, 122, 488, 493] (by decide +kernel) (by decide +kernel)
theorem ka_X10_placeOf : cd_X10_placeOf.1.all (fun e => mm_okB mm_mth mm_nest (yX10_placeOf, cX10_placeOf, 3, (some .int)) e) = true := by decide +kernel
theorem kb_X10_placeOf : GoodIn lw_tbl (cd_X10_placeOf.1.flatMap (fun e => mm_wdE mm_mth yX10_placeOf.cls e)) := goodIn_r _ [485, 486, 122, 504, 488, 506, 488] (by decide +kernel) (by decide +kernel)
theorem ka_X11_init : cd_X11_init.1.all (fun e => mm_okB mm_mth mm_nest (yX11_init, cX11_init, 1, none) e) = true := by decide +kernel
theorem kb_X11_init : GoodIn lw_tbl (cd_X11_init.1.flatMap (fun e => mm_wdE mm_mth yX11_init.cls e)) := goodIn_r _ [145, 146, 147, 148, 149, 120, 151, 120, 385, 165, 166, 121, 385, 167, 168, 121, 386, 191, 192, 123, 385, 193, 194, 123, 387, 207, 208, 124, 210, 124, 388, 249, 172, 122, 174, 122, 389, 251, 252, 125, 254, 125, 390, 302, 303, 126, 305, 126, 391, 320, 321, 127, 323, 127, 392, 251, 252, 125, 254, 125, 393, 320, 321, 127, 323, 127, 394, 330, 331, 128, 333, 128, 395, 353, 354, 129, 389, 390, 355, 356, 129, 396, 375, 376, 130, 378, 130, 397, 164, 398, 164, 399, 164, 400, 403] (by decide +kernel) (by decide +kernel)
theorem ka_X11_feed : cd_X11_feed.1.all (fun e => mm_okB mm_mth mm_nest (yX11_feed, cX11_feed, 7, (some .int)) e) = true := by decide +kernel
theorem kb_X11_feed : GoodIn lw_tbl (cd_X11_feed.1.flatMap (fun e => mm_wdE mm_mth yX11_feed.cls e)) := goodIn_r _ [447, 448, 120, 447, 448, 120, 447, 448, 120, 447, 448, 120, 447, 448, 120, 385, 450, 451, 452, 120, 385, 454, 455, 456, 120, 385, 454, 455, 456, 120, 385, 454, 455, 456, 120, 385, 454, 455, 456, 120, 385, 454, 455, 456, 120, 385, 450, 451, 452, 120] (by decide +kernel) (by decide +kernel)
theorem ka_X11_end : cd_X11_end.1.all (fun e => mm_okB mm_mth mm_nest (yX11_end, cX11_end, 2, (some .boolean)) e) = true := by decide +kernel
theorem kb_X11_end : GoodIn lw_tbl (cd_X11_end.1.flatMap (fun e => mm_wdE mm_mth yX11_end.cls e)) := goodIn_r _ [385, 462, 463, 464, 120] (by decide +kernel) (by decide +kernel)
theorem ka_X11_fault : cd_X11_fault.1.all (fun e => mm_okB mm_mth mm_nest (yX11_fault, cX11_fault, 2, (some .int)) e) = true := by decide +kernel
theorem kb_X11_fault : GoodIn lw_tbl (cd_X11_fault.1.flatMap (fun e => mm_wdE mm_mth yX11_fault.cls e)) := goodIn_r _ [386, 470, 471, 472, 121, 387, 589, 590, 591, 123] (by decide +kernel) (by decide +kernel)
end
section
theorem ka_X11_text : cd_X11_text.1.all (fun e => mm_okB mm_mth mm_nest (yX11_text, cX11_text, 2, (some .int)) e) = true := by decide +kernel
theorem kb_X11_text : GoodIn lw_tbl (cd_X11_text.1.flatMap (fun e => mm_wdE mm_mth yX11_text.cls e)) := goodIn_r _ [386, 470, 471, 472, 121, 385, 462, 463, 464, 120, 658, 660, 16, 119, 389, 694, 586, 587, 122, 388, 695, 696, 697, 124, 387, 589, 590, 591, 123, 385, 462, 463, 464, 120, 388, 387, 699, 700, 701, 123, 717, 718, 719, 124] (by decide +kernel) (by decide +kernel)
theorem ka_X11_beginDuchy : cd_X11_beginDuchy.1.all (fun e => mm_okB mm_mth mm_nest (yX11_beginDuchy, cX11_beginDuchy, 1, none) e) = true := by decide +kernel
theorem kb_X11_beginDuchy : GoodIn lw_tbl (cd_X11_beginDuchy.1.flatMap (fun e => mm_wdE mm_mth yX11_beginDuchy.cls e)) := goodIn_r _ [389, 386, 662, 663, 664, 121, 666, 667, 668, 122, 390, 389, 673, 674, 675, 125, 391, 686, 687, 688, 126, 395, 690, 691, 692, 128, 401, 402] (by decide +kernel) (by decide +kernel)
theorem ka_X11_law : cd_X11_law.1.all (fun e => mm_okB mm_mth mm_nest (yX11_law, cX11_law, 2, (some .boolean)) e) = true := by decide +kernel
theorem kb_X11_law : GoodIn lw_tbl (cd_X11_law.1.flatMap (fun e => mm_wdE mm_mth yX11_law.cls e)) := goodIn_r _ [388, 726, 727, 728, 124] (by decide +kernel) (by decide +kernel)
theorem ka_X11_rule : cd_X11_rule.1.all (fun e => mm_okB mm_mth mm_nest (yX11_rule, cX11_rule, 2, (some .int)) e) = true := by decide +kernel
theorem kb_X11_rule : GoodIn lw_tbl (cd_X11_rule.1.flatMap (fun e => mm_wdE mm_mth yX11_rule.cls e)) := goodIn_r _ [401, 389, 734, 683, 684, 122, 390, 390] (by decide +kernel) (by decide +kernel)
theorem ka_X11_cook : cd_X11_cook.1.all (fun e => mm_okB mm_mth mm_nest (yX11_cook, cX11_cook, 3, (some .int)) e) = true := by decide +kernel
theorem kb_X11_cook : GoodIn lw_tbl (cd_X11_cook.1.flatMap (fun e => mm_wdE mm_mth yX11_cook.cls e)) := goodIn_r _ [739, 741, 17, 119, 390, 744, 745, 746, 125, 389, 734, 683, 684, 122, 390, 748, 749, 750, 125] (by decide +kernel) (by decide +kernel)
theorem ka_X11_minister : cd_X11_minister.1.all (fun e => mm_okB mm_mth mm_nest (yX11_minister, cX11_minister, 3, (some .int)) e) = true := by decide +kernel
theorem kb_X11_minister : GoodIn lw_tbl (cd_X11_minister.1.flatMap (fun e => mm_wdE mm_mth yX11_minister.cls e)) := goodIn_r _ [827, 829, 25, 119, 743, 569, 119, 831, 833, 26, 119, 389, 734, 683, 684, 122] (by decide +kernel) (by decide +kernel)
theorem ka_X11_hasCook : cd_X11_hasCook.1.all (fun e => mm_okB mm_mth mm_nest (yX11_hasCook, cX11_hasCook, 2, (some .boolean)) e) = true := by decide +kernel
theorem kb_X11_hasCook : GoodIn lw_tbl (cd_X11_hasCook.1.flatMap (fun e => mm_wdE mm_mth yX11_hasCook.cls e)) := goodIn_r _ [401, 389, 694, 586, 587, 122, 743, 569, 119] (by decide +kernel) (by decide +kernel)
theorem ka_X11_hasTwoCooks : cd_X11_hasTwoCooks.1.all (fun e => mm_okB mm_mth mm_nest (yX11_hasTwoCooks, cX11_hasTwoCooks, 3, (some .boolean)) e) = true := by decide +kernel
theorem kb_X11_hasTwoCooks : GoodIn lw_tbl (cd_X11_hasTwoCooks.1.flatMap (fun e => mm_wdE mm_mth yX11_hasTwoCooks.cls e)) := goodIn_r _ [739, 741, 17, 119, 739, 741, 17, 119] (by decide +kernel) (by decide +kernel)
theorem ka_X11_hasMinister : cd_X11_hasMinister.1.all (fun e => mm_okB mm_mth mm_nest (yX11_hasMinister, cX11_hasMinister, 2, (some .boolean)) e) = true := by decide +kernel
theorem kb_X11_hasMinister : GoodIn lw_tbl (cd_X11_hasMinister.1.flatMap (fun e => mm_wdE mm_mth yX11_hasMinister.cls e)) := goodIn_r _ [401, 389, 694, 586, 587, 122, 743, 569, 119] (by decide +kernel) (by decide +kernel)
theorem ka_X11_isInside : cd_X11_isInside.1.all (fun e => mm_okB mm_mth mm_nest (yX11_isInside, cX11_isInside, 2, (some .boolean)) e) = true := by decide +kernel
theorem kb_X11_isInside : GoodIn lw_tbl (cd_X11_isInside.1.flatMap (fun e => mm_wdE mm_mth yX11_isInside.cls e)) := goodIn_r _ [390] (by decide +kernel) (by decide +kernel)
theorem ka_X11_sumInside : cd_X11_sumInside.1.all (fun e => mm_okB mm_mth mm_nest (yX11_sumInside, cX11_sumInside, 4, (some .int)) e) = true := by decide +kernel
theorem kb_X11_sumInside : GoodIn lw_tbl (cd_X11_sumInside.1.flatMap (fun e => mm_wdE mm_mth yX11_sumInside.cls e)) := goodIn_r _ [389, 694, 586, 587, 122, 831, 833, 26, 119, 389, 734, 683, 684, 122] (by decide +kernel) (by decide +kernel)
theorem ka_X11_strokesLeft : cd_X11_strokesLeft.1.all (fun e => mm_okB mm_mth mm_nest (yX11_strokesLeft, cX11_strokesLeft, 2, (some .int)) e) = true := by decide +kernel
theorem kb_X11_strokesLeft : GoodIn lw_tbl (cd_X11_strokesLeft.1.flatMap (fun e => mm_wdE mm_mth yX11_strokesLeft.cls e)) := goodIn_r _ [389, 734, 683, 684, 122, 390, 748, 749, 750, 125] (by decide +kernel) (by decide +kernel)
theorem ka_X11_canFold : cd_X11_canFold.1.all (fun e => mm_okB mm_mth mm_nest (yX11_canFold, cX11_canFold, 2, (some .boolean)) e) = true := by decide +kernel
theorem kb_X11_canFold : GoodIn lw_tbl (cd_X11_canFold.1.flatMap (fun e => mm_wdE mm_mth yX11_canFold.cls e)) := goodIn_r _ [831, 833, 26, 119, 390, 389, 734, 683, 684, 122] (by decide +kernel) (by decide +kernel)
theorem ka_X11_couldFold : cd_X11_couldFold.1.all (fun e => mm_okB mm_mth mm_nest (yX11_couldFold, cX11_couldFold, 3, (some .int)) e) = true := by decide +kernel
theorem kb_X11_couldFold : GoodIn lw_tbl (cd_X11_couldFold.1.flatMap (fun e => mm_wdE mm_mth yX11_couldFold.cls e)) := goodIn_r _ [389, 694, 586, 587, 122, 835, 837, 27, 119] (by decide +kernel) (by decide +kernel)
theorem ka_X11_whisked : cd_X11_whisked.1.all (fun e => mm_okB mm_mth mm_nest (yX11_whisked, cX11_whisked, 9, (some .int)) e) = true := by decide +kernel
theorem kb_X11_whisked : GoodIn lw_tbl (cd_X11_whisked.1.flatMap (fun e => mm_wdE mm_mth yX11_whisked.cls e)) := goodIn_r _ [389, 734, 683, 684, 122, 389, 734, 683, 684, 122, 388, 783, 784, 785, 124, 388, 787, 788, 789, 124, 814, 815, 119, 814, 815, 119] (by decide +kernel) (by decide +kernel)
theorem ka_X11_whisk : cd_X11_whisk.1.all (fun e => mm_okB mm_mth mm_nest (yX11_whisk, cX11_whisk, 5, none) e) = true := by decide +kernel
theorem kb_X11_whisk : GoodIn lw_tbl (cd_X11_whisk.1.flatMap (fun e => mm_wdE mm_mth yX11_whisk.cls e)) := goodIn_r _ [390, 744, 745, 746, 125, 390, 390, 390, 390, 779, 781, 21, 119, 390, 390, 819, 820, 821, 125] (by decide +kernel) (by decide +kernel)
theorem ka_X11_foldIn : cd_X11_foldIn.1.all (fun e => mm_okB mm_mth mm_nest (yX11_foldIn, cX11_foldIn, 2, none) e) = true := by decide +kernel
theorem kb_X11_foldIn : GoodIn lw_tbl (cd_X11_foldIn.1.flatMap (fun e => mm_wdE mm_mth yX11_foldIn.cls e)) := goodIn_r _ [390, 390, 389, 734, 683, 684, 122, 818, 559, 133, 390] (by decide +kernel) (by decide +kernel)
theorem ka_X11_openDoor : cd_X11_openDoor.1.all (fun e => mm_okB mm_mth mm_nest (yX11_openDoor, cX11_openDoor, 1, none) e) = true := by decide +kernel
theorem kb_X11_openDoor : GoodIn lw_tbl (cd_X11_openDoor.1.flatMap (fun e => mm_wdE mm_mth yX11_openDoor.cls e)) := goodIn_r _ [390, 390, 855, 857, 30, 119] (by decide +kernel) (by decide +kernel)
theorem ka_X11_passHour : cd_X11_passHour.1.all (fun e => mm_okB mm_mth mm_nest (yX11_passHour, cX11_passHour, 1, none) e) = true := by decide +kernel
theorem kb_X11_passHour : GoodIn lw_tbl (cd_X11_passHour.1.flatMap (fun e => mm_wdE mm_mth yX11_passHour.cls e)) := goodIn_r _ [390, 390, 867, 869, 32, 119, 875, 876, 119, 855, 857, 30, 119] (by decide +kernel) (by decide +kernel)
theorem ka_X11_sinksBy : cd_X11_sinksBy.1.all (fun e => mm_okB mm_mth mm_nest (yX11_sinksBy, cX11_sinksBy, 2, (some .int)) e) = true := by decide +kernel
theorem kb_X11_sinksBy : GoodIn lw_tbl (cd_X11_sinksBy.1.flatMap (fun e => mm_wdE mm_mth yX11_sinksBy.cls e)) := goodIn_r _ [871, 873, 33, 119, 389, 734, 683, 684, 122, 390, 818, 559, 133] (by decide +kernel) (by decide +kernel)
theorem ka_X11_sunk : cd_X11_sunk.1.all (fun e => mm_okB mm_mth mm_nest (yX11_sunk, cX11_sunk, 2, (some .int)) e) = true := by decide +kernel
theorem kb_X11_sunk : GoodIn lw_tbl (cd_X11_sunk.1.flatMap (fun e => mm_wdE mm_mth yX11_sunk.cls e)) := goodIn_r _ [818, 559, 133] (by decide +kernel) (by decide +kernel)
theorem ka_X11_fallIfFlat : cd_X11_fallIfFlat.1.all (fun e => mm_okB mm_mth mm_nest (yX11_fallIfFlat, cX11_fallIfFlat, 1, none) e) = true := by decide +kernel
theorem kb_X11_fallIfFlat : GoodIn lw_tbl (cd_X11_fallIfFlat.1.flatMap (fun e => mm_wdE mm_mth yX11_fallIfFlat.cls e)) := goodIn_r _ [390, 390, 390, 390] (by decide +kernel) (by decide +kernel)
theorem ka_X11_passDay : cd_X11_passDay.1.all (fun e => mm_okB mm_mth mm_nest (yX11_passDay, cX11_passDay, 1, none) e) = true := by decide +kernel
theorem kb_X11_passDay : GoodIn lw_tbl (cd_X11_passDay.1.flatMap (fun e => mm_wdE mm_mth yX11_passDay.cls e)) := goodIn_r _ [390, 390, 871, 873, 33, 119, 817, 714, 133, 390, 390, 817, 714, 133, 392, 390, 390, 390, 390, 902, 903, 904, 127, 390, 390, 912, 678, 679, 125] (by decide +kernel) (by decide +kernel)
theorem ka_X11_passDrawnDay : cd_X11_passDrawnDay.1.all (fun e => mm_okB mm_mth mm_nest (yX11_passDrawnDay, cX11_passDrawnDay, 6, none) e) = true := by decide +kernel
theorem kb_X11_passDrawnDay : GoodIn lw_tbl (cd_X11_passDrawnDay.1.flatMap (fun e => mm_wdE mm_mth yX11_passDrawnDay.cls e)) := goodIn_r _ [397, 389, 694, 586, 587, 122, 929, 930, 931, 130, 397, 929, 930, 931, 130, 760, 762, 19, 119, 817, 714, 133, 775, 777, 20, 119, 389, 694, 586, 587, 122, 397, 929, 930, 931, 130, 835, 837, 27, 119, 839, 841, 28, 119, 397, 929, 930, 931, 130, 403, 851, 853, 29, 119, 898, 900, 34, 119] (by decide +kernel) (by decide +kernel)
theorem ka_X11_refuse : cd_X11_refuse.1.all (fun e => mm_okB mm_mth mm_nest (yX11_refuse, cX11_refuse, 2, (some .int)) e) = true := by decide +kernel
theorem kb_X11_refuse : GoodIn lw_tbl (cd_X11_refuse.1.flatMap (fun e => mm_wdE mm_mth yX11_refuse.cls e)) := goodIn_r _ [398, 743, 569, 119, 398] (by decide +kernel) (by decide +kernel)
theorem ka_X11_strokes : cd_X11_strokes.1.all (fun e => mm_okB mm_mth mm_nest (yX11_strokes, cX11_strokes, 3, (some .int)) e) = true := by decide +kernel
theorem kb_X11_strokes : GoodIn lw_tbl (cd_X11_strokes.1.flatMap (fun e => mm_wdE mm_mth yX11_strokes.cls e)) := goodIn_r _ [739, 741, 17, 119, 756, 758, 18, 119, 743, 569, 119, 756, 758, 18, 119, 760, 762, 19, 119, 756, 758, 18, 119, 391, 390, 764, 765, 766, 126, 775, 777, 20, 119, 390] (by decide +kernel) (by decide +kernel)
theorem ka_X11_fold : cd_X11_fold.1.all (fun e => mm_okB mm_mth mm_nest (yX11_fold, cX11_fold, 2, (some .int)) e) = true := by decide +kernel
theorem kb_X11_fold : GoodIn lw_tbl (cd_X11_fold.1.flatMap (fun e => mm_wdE mm_mth yX11_fold.cls e)) := goodIn_r _ [827, 829, 25, 119, 756, 758, 18, 119, 831, 833, 26, 119, 756, 758, 18, 119, 835, 837, 27, 119, 756, 758, 18, 119, 391, 390, 764, 765, 766, 126, 839, 841, 28, 119, 390] (by decide +kernel) (by decide +kernel)
theorem ka_X11_sugar : cd_X11_sugar.1.all (fun e => mm_okB mm_mth mm_nest (yX11_sugar, cX11_sugar, 1, (some .int)) e) = true := by decide +kernel
theorem kb_X11_sugar : GoodIn lw_tbl (cd_X11_sugar.1.flatMap (fun e => mm_wdE mm_mth yX11_sugar.cls e)) := goodIn_r _ [401, 756, 758, 18, 119, 390, 756, 758, 18, 119, 390, 756, 758, 18, 119, 391, 390, 764, 765, 766, 126, 390, 390, 390] (by decide +kernel) (by decide +kernel)
theorem ka_X11_door : cd_X11_door.1.all (fun e => mm_okB mm_mth mm_nest (yX11_door, cX11_door, 1, (some .int)) e) = true := by decide +kernel
theorem kb_X11_door : GoodIn lw_tbl (cd_X11_door.1.flatMap (fun e => mm_wdE mm_mth yX11_door.cls e)) := goodIn_r _ [401, 756, 758, 18, 119, 391, 390, 764, 765, 766, 126, 851, 853, 29, 119, 390] (by decide +kernel) (by decide +kernel)
theorem ka_X11_hours : cd_X11_hours.1.all (fun e => mm_okB mm_mth mm_nest (yX11_hours, cX11_hours, 3, (some .int)) e) = true := by decide +kernel
theorem kb_X11_hours : GoodIn lw_tbl (cd_X11_hours.1.flatMap (fun e => mm_wdE mm_mth yX11_hours.cls e)) := goodIn_r _ [401, 756, 758, 18, 119, 743, 569, 119, 756, 758, 18, 119, 391, 390, 764, 765, 766, 126, 863, 865, 31, 119, 390] (by decide +kernel) (by decide +kernel)
theorem ka_X11_practise : cd_X11_practise.1.all (fun e => mm_okB mm_mth mm_nest (yX11_practise, cX11_practise, 2, (some .int)) e) = true := by decide +kernel
theorem kb_X11_practise : GoodIn lw_tbl (cd_X11_practise.1.flatMap (fun e => mm_wdE mm_mth yX11_practise.cls e)) := goodIn_r _ [739, 741, 17, 119, 756, 758, 18, 119, 390, 744, 745, 746, 125, 756, 758, 18, 119, 390, 756, 758, 18, 119, 391, 390, 764, 765, 766, 126, 390, 390, 882, 883, 884, 125, 390, 744, 745, 746, 125] (by decide +kernel) (by decide +kernel)
theorem ka_X11_yolk : cd_X11_yolk.1.all (fun e => mm_okB mm_mth mm_nest (yX11_yolk, cX11_yolk, 1, (some .int)) e) = true := by decide +kernel
theorem kb_X11_yolk : GoodIn lw_tbl (cd_X11_yolk.1.flatMap (fun e => mm_wdE mm_mth yX11_yolk.cls e)) := goodIn_r _ [401, 756, 758, 18, 119, 390, 756, 758, 18, 119, 390, 756, 758, 18, 119, 391, 390, 764, 765, 766, 126, 390, 390, 390] (by decide +kernel) (by decide +kernel)
theorem ka_X11_give : cd_X11_give.1.all (fun e => mm_okB mm_mth mm_nest (yX11_give, cX11_give, 2, (some .int)) e) = true := by decide +kernel
theorem kb_X11_give : GoodIn lw_tbl (cd_X11_give.1.flatMap (fun e => mm_wdE mm_mth yX11_give.cls e)) := goodIn_r _ [401, 756, 758, 18, 119, 743, 569, 119, 390, 756, 758, 18, 119, 391, 390, 764, 765, 766, 126, 390, 390] (by decide +kernel) (by decide +kernel)
theorem ka_X11_days : cd_X11_days.1.all (fun e => mm_okB mm_mth mm_nest (yX11_days, cX11_days, 3, (some .int)) e) = true := by decide +kernel
theorem kb_X11_days : GoodIn lw_tbl (cd_X11_days.1.flatMap (fun e => mm_wdE mm_mth yX11_days.cls e)) := goodIn_r _ [401, 756, 758, 18, 119, 743, 569, 119, 756, 758, 18, 119, 390, 756, 758, 18, 119, 391, 390, 764, 765, 766, 126, 898, 900, 34, 119, 390] (by decide +kernel) (by decide +kernel)
theorem ka_X11_draught : cd_X11_draught.1.all (fun e => mm_okB mm_mth mm_nest (yX11_draught, cX11_draught, 2, (some .boolean)) e) = true := by decide +kernel
theorem kb_X11_draught : GoodIn lw_tbl (cd_X11_draught.1.flatMap (fun e => mm_wdE mm_mth yX11_draught.cls e)) := goodIn_r _ [743, 569, 119, 403, 403] (by decide +kernel) (by decide +kernel)
theorem ka_X11_years : cd_X11_years.1.all (fun e => mm_okB mm_mth mm_nest (yX11_years, cX11_years, 5, (some .int)) e) = true := by decide +kernel
theorem kb_X11_years : GoodIn lw_tbl (cd_X11_years.1.flatMap (fun e => mm_wdE mm_mth yX11_years.cls e)) := goodIn_r _ [401, 743, 569, 119, 390, 397, 921, 922, 923, 130, 391, 390, 764, 765, 766, 126, 925, 927, 35, 119, 390] (by decide +kernel) (by decide +kernel)
theorem ka_X11_status : cd_X11_status.1.all (fun e => mm_okB mm_mth mm_nest (yX11_status, cX11_status, 2, (some .int)) e) = true := by decide +kernel
theorem kb_X11_status : GoodIn lw_tbl (cd_X11_status.1.flatMap (fun e => mm_wdE mm_mth yX11_status.cls e)) := goodIn_r _ [398, 743, 569, 119, 398] (by decide +kernel) (by decide +kernel)
theorem ka_X11_undo : cd_X11_undo.1.all (fun e => mm_okB mm_mth mm_nest (yX11_undo, cX11_undo, 1, (some .int)) e) = true := by decide +kernel
theorem kb_X11_undo : GoodIn lw_tbl (cd_X11_undo.1.flatMap (fun e => mm_wdE mm_mth yX11_undo.cls e)) := goodIn_r _ [391, 390, 943, 944, 945, 126, 391, 947, 948, 949, 126] (by decide +kernel) (by decide +kernel)
theorem ka_X11_log : cd_X11_log.1.all (fun e => mm_okB mm_mth mm_nest (yX11_log, cX11_log, 3, (some .int)) e) = true := by decide +kernel
theorem kb_X11_log : GoodIn lw_tbl (cd_X11_log.1.flatMap (fun e => mm_wdE mm_mth yX11_log.cls e)) := goodIn_r _ [955, 957, 36, 119, 743, 569, 119, 743, 569, 119, 392, 390, 959, 960, 961, 127] (by decide +kernel) (by decide +kernel)
theorem ka_X11_logSize : cd_X11_logSize.1.all (fun e => mm_okB mm_mth mm_nest (yX11_logSize, cX11_logSize, 1, (some .int)) e) = true := by decide +kernel
theorem kb_X11_logSize : GoodIn lw_tbl (cd_X11_logSize.1.flatMap (fun e => mm_wdE mm_mth yX11_logSize.cls e)) := goodIn_r _ [390, 817, 714, 133] (by decide +kernel) (by decide +kernel)
theorem ka_X11_behind : cd_X11_behind.1.all (fun e => mm_okB mm_mth mm_nest (yX11_behind, cX11_behind, 4, (some .int)) e) = true := by decide +kernel
theorem kb_X11_behind : GoodIn lw_tbl (cd_X11_behind.1.flatMap (fun e => mm_wdE mm_mth yX11_behind.cls e)) := goodIn_r _ [739, 741, 17, 119, 743, 569, 119, 760, 762, 19, 119, 817, 714, 133, 390, 744, 745, 746, 125, 390, 390, 390, 967, 969, 37, 119] (by decide +kernel) (by decide +kernel)
theorem ka_X11_whiskedOften : cd_X11_whiskedOften.1.all (fun e => mm_okB mm_mth mm_nest (yX11_whiskedOften, cX11_whiskedOften, 8, (some .int)) e) = true := by decide +kernel
theorem kb_X11_whiskedOften : GoodIn lw_tbl (cd_X11_whiskedOften.1.flatMap (fun e => mm_wdE mm_mth yX11_whiskedOften.cls e)) := goodIn_r _ [779, 781, 21, 119] (by decide +kernel) (by decide +kernel)
theorem ka_X11_soonest : cd_X11_soonest.1.all (fun e => mm_okB mm_mth mm_nest (yX11_soonest, cX11_soonest, 3, (some .int)) e) = true := by decide +kernel
theorem kb_X11_soonest : GoodIn lw_tbl (cd_X11_soonest.1.flatMap (fun e => mm_wdE mm_mth yX11_soonest.cls e)) := goodIn_r _ [739, 741, 17, 119, 975, 976, 119, 978, 980, 38, 119] (by decide +kernel) (by decide +kernel)
theorem ka_X11_soonestOf : cd_X11_soonestOf.1.all (fun e => mm_okB mm_mth mm_nest (yX11_soonestOf, cX11_soonestOf, 7, (some .int)) e) = true := by decide +kernel
theorem kb_X11_soonestOf : GoodIn lw_tbl (cd_X11_soonestOf.1.flatMap (fun e => mm_wdE mm_mth yX11_soonestOf.cls e)) := goodIn_r _ [390, 744, 745, 746, 125, 760, 762, 19, 119, 390, 390, 390, 779, 781, 21, 119] (by decide +kernel) (by decide +kernel)
theorem ka_X11_stop : cd_X11_stop.1.all (fun e => mm_okB mm_mth mm_nest (yX11_stop, cX11_stop, 9, (some .int)) e) = true := by decide +kernel
theorem kb_X11_stop : GoodIn lw_tbl (cd_X11_stop.1.flatMap (fun e => mm_wdE mm_mth yX11_stop.cls e)) := goodIn_r _ [739, 741, 17, 119, 743, 569, 119, 390, 744, 745, 746, 125, 760, 762, 19, 119, 390, 390, 390, 779, 781, 21, 119] (by decide +kernel) (by decide +kernel)
theorem ka_X11_best : cd_X11_best.1.all (fun e => mm_okB mm_mth mm_nest (yX11_best, cX11_best, 6, (some .int)) e) = true := by decide +kernel
theorem kb_X11_best : GoodIn lw_tbl (cd_X11_best.1.flatMap (fun e => mm_wdE mm_mth yX11_best.cls e)) := goodIn_r _ [401, 975, 976, 119, 389, 694, 586, 587, 122, 978, 980, 38, 119] (by decide +kernel) (by decide +kernel)
theorem ka_X11_byTurns : cd_X11_byTurns.1.all (fun e => mm_okB mm_mth mm_nest (yX11_byTurns, cX11_byTurns, 11, (some .int)) e) = true := by decide +kernel
theorem kb_X11_byTurns : GoodIn lw_tbl (cd_X11_byTurns.1.flatMap (fun e => mm_wdE mm_mth yX11_byTurns.cls e)) := goodIn_r _ [994, 996, 39, 119, 975, 976, 119, 760, 762, 19, 119, 760, 762, 19, 119, 390, 390, 744, 745, 746, 125, 390, 390, 779, 781, 21, 119] (by decide +kernel) (by decide +kernel)
theorem ka_X11_row : cd_X11_row.1.all (fun e => mm_okB mm_mth mm_nest (yX11_row, cX11_row, 3, (some .int)) e) = true := by decide +kernel
theorem kb_X11_row : GoodIn lw_tbl (cd_X11_row.1.flatMap (fun e => mm_wdE mm_mth yX11_row.cls e)) := goodIn_r _ [401, 743, 569, 119, 396, 1002, 1003, 1004, 129, 396, 1044, 1022, 1023, 129, 396, 1045, 1035, 1036, 129, 396, 1046, 1026, 1027, 129] (by decide +kernel) (by decide +kernel)
theorem ka_X11_lasts : cd_X11_lasts.1.all (fun e => mm_okB mm_mth mm_nest (yX11_lasts, cX11_lasts, 4, (some .int)) e) = true := by decide +kernel
theorem kb_X11_lasts : GoodIn lw_tbl (cd_X11_lasts.1.flatMap (fun e => mm_wdE mm_mth yX11_lasts.cls e)) := goodIn_r _ [401, 867, 869, 32, 119, 390, 875, 876, 119] (by decide +kernel) (by decide +kernel)
theorem ka_X11_holds : cd_X11_holds.1.all (fun e => mm_okB mm_mth mm_nest (yX11_holds, cX11_holds, 3, (some .int)) e) = true := by decide +kernel
theorem kb_X11_holds : GoodIn lw_tbl (cd_X11_holds.1.flatMap (fun e => mm_wdE mm_mth yX11_holds.cls e)) := goodIn_r _ [401, 743, 569, 119, 867, 869, 32, 119] (by decide +kernel) (by decide +kernel)
theorem ka_X11_seen : cd_X11_seen.1.all (fun e => mm_okB mm_mth mm_nest (yX11_seen, cX11_seen, 5, (some .int)) e) = true := by decide +kernel
theorem kb_X11_seen : GoodIn lw_tbl (cd_X11_seen.1.flatMap (fun e => mm_wdE mm_mth yX11_seen.cls e)) := goodIn_r _ [739, 741, 17, 119, 743, 569, 119, 975, 976, 119, 395, 1059, 1060, 1061, 128, 395, 1063, 1064, 1065, 128, 395, 1067, 1068, 1069, 128] (by decide +kernel) (by decide +kernel)
theorem ka_X11_fits : cd_X11_fits.1.all (fun e => mm_okB mm_mth mm_nest (yX11_fits, cX11_fits, 3, (some .int)) e) = true := by decide +kernel
theorem kb_X11_fits : GoodIn lw_tbl (cd_X11_fits.1.flatMap (fun e => mm_wdE mm_mth yX11_fits.cls e)) := goodIn_r _ [401, 1075, 1077, 43, 119, 1092, 1039, 139, 1093, 1094, 119] (by decide +kernel) (by decide +kernel)
end
section
theorem ka_X11_placeOfBit : cd_X11_placeOfBit.1.all (fun e => mm_okB mm_mth mm_nest (yX11_placeOfBit, cX11_placeOfBit, 4, (some .int)) e) = true := by decide +kernel
theorem kb_X11_placeOfBit : GoodIn lw_tbl (cd_X11_placeOfBit.1.flatMap (fun e => mm_wdE mm_mth yX11_placeOfBit.cls e)) := goodIn_r _ [] (by decide +kernel) (by decide +kernel)
theorem ka_X11_fittingYolks : cd_X11_fittingYolks.1.all (fun e => mm_okB mm_mth mm_nest (yX11_fittingYolks, cX11_fittingYolks, 3, (some .int)) e) = true := by decide +kernel
theorem kb_X11_fittingYolks : GoodIn lw_tbl (cd_X11_fittingYolks.1.flatMap (fun e => mm_wdE mm_mth yX11_fittingYolks.cls e)) := goodIn_r _ [1079, 1081, 44, 119] (by decide +kernel) (by decide +kernel)
theorem ka_X11_isFitting : cd_X11_isFitting.1.all (fun e => mm_okB mm_mth mm_nest (yX11_isFitting, cX11_isFitting, 7, (some .boolean)) e) = true := by decide +kernel
theorem kb_X11_isFitting : GoodIn lw_tbl (cd_X11_isFitting.1.flatMap (fun e => mm_wdE mm_mth yX11_isFitting.cls e)) := goodIn_r _ [389, 694, 586, 587, 122, 390, 744, 745, 746, 125, 395, 1083, 1084, 1085, 128, 779, 781, 21, 119, 395, 1088, 1089, 1090, 128] (by decide +kernel) (by decide +kernel)
theorem ka_X11_probe : cd_X11_probe.1.all (fun e => mm_okB mm_mth mm_nest (yX11_probe, cX11_probe, 9, (some .int)) e) = true := by decide +kernel
theorem kb_X11_probe : GoodIn lw_tbl (cd_X11_probe.1.flatMap (fun e => mm_wdE mm_mth yX11_probe.cls e)) := goodIn_r _ [739, 741, 17, 119, 975, 976, 119, 1075, 1077, 43, 119, 399, 1100, 479, 132, 390, 744, 745, 746, 125, 1101, 1103, 45, 119, 1092, 1039, 139, 1105, 1106, 133] (by decide +kernel) (by decide +kernel)
theorem ka_X11_whiskAllYolks : cd_X11_whiskAllYolks.1.all (fun e => mm_okB mm_mth mm_nest (yX11_whiskAllYolks, cX11_whiskAllYolks, 7, (some .int)) e) = true := by decide +kernel
theorem kb_X11_whiskAllYolks : GoodIn lw_tbl (cd_X11_whiskAllYolks.1.flatMap (fun e => mm_wdE mm_mth yX11_whiskAllYolks.cls e)) := goodIn_r _ [399, 399, 399, 779, 781, 21, 119, 399] (by decide +kernel) (by decide +kernel)
theorem ka_X11_game : cd_X11_game.1.all (fun e => mm_okB mm_mth mm_nest (yX11_game, cX11_game, 9, (some .int)) e) = true := by decide +kernel
theorem kb_X11_game : GoodIn lw_tbl (cd_X11_game.1.flatMap (fun e => mm_wdE mm_mth yX11_game.cls e)) := goodIn_r _ [743, 569, 119, 743, 569, 119, 994, 996, 39, 119, 743, 569, 119, 1112, 390, 744, 745, 746, 125, 390, 390, 390, 967, 969, 37, 119, 390, 744, 745, 746, 125, 390, 390, 967, 969, 37, 119] (by decide +kernel) (by decide +kernel)
theorem ka_X11_rests : cd_X11_rests.1.all (fun e => mm_okB mm_mth mm_nest (yX11_rests, cX11_rests, 8, (some .int)) e) = true := by decide +kernel
theorem kb_X11_rests : GoodIn lw_tbl (cd_X11_rests.1.flatMap (fun e => mm_wdE mm_mth yX11_rests.cls e)) := goodIn_r _ [994, 996, 39, 119, 1117, 1119, 46, 119, 400, 1121, 1123, 47, 119] (by decide +kernel) (by decide +kernel)
theorem ka_X11_playAll : cd_X11_playAll.1.all (fun e => mm_okB mm_mth mm_nest (yX11_playAll, cX11_playAll, 8, none) e) = true := by decide +kernel
theorem kb_X11_playAll : GoodIn lw_tbl (cd_X11_playAll.1.flatMap (fun e => mm_wdE mm_mth yX11_playAll.cls e)) := goodIn_r _ [390, 400, 400, 390, 744, 745, 746, 125, 390, 390, 779, 781, 21, 119, 390, 744, 745, 746, 125, 390, 390, 779, 781, 21, 119] (by decide +kernel) (by decide +kernel)
theorem ka_X11_quarterOf : cd_X11_quarterOf.1.all (fun e => mm_okB mm_mth mm_nest (yX11_quarterOf, cX11_quarterOf, 4, (some .int)) e) = true := by decide +kernel
theorem kb_X11_quarterOf : GoodIn lw_tbl (cd_X11_quarterOf.1.flatMap (fun e => mm_wdE mm_mth yX11_quarterOf.cls e)) := goodIn_r _ [400, 743, 569, 119, 400] (by decide +kernel) (by decide +kernel)
theorem ka_X11_isRest : cd_X11_isRest.1.all (fun e => mm_okB mm_mth mm_nest (yX11_isRest, cX11_isRest, 5, (some .boolean)) e) = true := by decide +kernel
theorem kb_X11_isRest : GoodIn lw_tbl (cd_X11_isRest.1.flatMap (fun e => mm_wdE mm_mth yX11_isRest.cls e)) := goodIn_r _ [1125, 1127, 48, 119, 1125, 1127, 48, 119, 1125, 1127, 48, 119] (by decide +kernel) (by decide +kernel)
theorem ka_X11_odds : cd_X11_odds.1.all (fun e => mm_okB mm_mth mm_nest (yX11_odds, cX11_odds, 4, (some .int)) e) = true := by decide +kernel
theorem kb_X11_odds : GoodIn lw_tbl (cd_X11_odds.1.flatMap (fun e => mm_wdE mm_mth yX11_odds.cls e)) := goodIn_r _ [401, 743, 569, 119, 743, 569, 119, 975, 976, 119, 1133, 390, 867, 869, 32, 119, 1134, 1135, 119] (by decide +kernel) (by decide +kernel)
theorem ka_X11_partsAt : cd_X11_partsAt.1.all (fun e => mm_okB mm_mth mm_nest (yX11_partsAt, cX11_partsAt, 9, (some .long)) e) = true := by decide +kernel
theorem kb_X11_partsAt : GoodIn lw_tbl (cd_X11_partsAt.1.flatMap (fun e => mm_wdE mm_mth yX11_partsAt.cls e)) := goodIn_r _ [1137, 875, 876, 119, 1134, 1135, 119, 875, 876, 119, 1134, 1135, 119] (by decide +kernel) (by decide +kernel)
theorem ka_X11_shares : cd_X11_shares.1.all (fun e => mm_okB mm_mth mm_nest (yX11_shares, cX11_shares, 5, (some .int)) e) = true := by decide +kernel
theorem kb_X11_shares : GoodIn lw_tbl (cd_X11_shares.1.flatMap (fun e => mm_wdE mm_mth yX11_shares.cls e)) := goodIn_r _ [739, 741, 17, 119, 743, 569, 119, 389, 694, 586, 587, 122, 390, 744, 745, 746, 125, 390, 744, 745, 746, 125] (by decide +kernel) (by decide +kernel)
theorem ka_X11_most : cd_X11_most.1.all (fun e => mm_okB mm_mth mm_nest (yX11_most, cX11_most, 2, (some .int)) e) = true := by decide +kernel
theorem kb_X11_most : GoodIn lw_tbl (cd_X11_most.1.flatMap (fun e => mm_wdE mm_mth yX11_most.cls e)) := goodIn_r _ [401, 1146, 1148, 49, 119, 1146, 1148, 49, 119, 1146, 1148, 49, 119, 1150, 1152, 50, 119, 1154, 1156, 51, 119, 390, 1158, 1160, 52, 119, 871, 873, 33, 119, 1162, 1164, 53, 119, 871, 873, 33, 119] (by decide +kernel) (by decide +kernel)
theorem ka_X11_firstMinisterByMost : cd_X11_firstMinisterByMost.1.all (fun e => mm_okB mm_mth mm_nest (yX11_firstMinisterByMost, cX11_firstMinisterByMost, 4, (some .int)) e) = true := by decide +kernel
theorem kb_X11_firstMinisterByMost : GoodIn lw_tbl (cd_X11_firstMinisterByMost.1.flatMap (fun e => mm_wdE mm_mth yX11_firstMinisterByMost.cls e)) := goodIn_r _ [389, 694, 586, 587, 122, 389, 734, 683, 684, 122, 389, 734, 683, 684, 122] (by decide +kernel) (by decide +kernel)
theorem ka_X11_strongestCook : cd_X11_strongestCook.1.all (fun e => mm_okB mm_mth mm_nest (yX11_strongestCook, cX11_strongestCook, 3, (some .int)) e) = true := by decide +kernel
theorem kb_X11_strongestCook : GoodIn lw_tbl (cd_X11_strongestCook.1.flatMap (fun e => mm_wdE mm_mth yX11_strongestCook.cls e)) := goodIn_r _ [389, 694, 586, 587, 122, 390, 744, 745, 746, 125, 390, 744, 745, 746, 125] (by decide +kernel) (by decide +kernel)
theorem ka_X11_freshestCook : cd_X11_freshestCook.1.all (fun e => mm_okB mm_mth mm_nest (yX11_freshestCook, cX11_freshestCook, 3, (some .int)) e) = true := by decide +kernel
theorem kb_X11_freshestCook : GoodIn lw_tbl (cd_X11_freshestCook.1.flatMap (fun e => mm_wdE mm_mth yX11_freshestCook.cls e)) := goodIn_r _ [389, 694, 586, 587, 122, 760, 762, 19, 119, 760, 762, 19, 119] (by decide +kernel) (by decide +kernel)
theorem ka_X11_doorsToFlat : cd_X11_doorsToFlat.1.all (fun e => mm_okB mm_mth mm_nest (yX11_doorsToFlat, cX11_doorsToFlat, 3, (some .int)) e) = true := by decide +kernel
theorem kb_X11_doorsToFlat : GoodIn lw_tbl (cd_X11_doorsToFlat.1.flatMap (fun e => mm_wdE mm_mth yX11_doorsToFlat.cls e)) := goodIn_r _ [390] (by decide +kernel) (by decide +kernel)
theorem ka_X11_ahead : cd_X11_ahead.1.all (fun e => mm_okB mm_mth mm_nest (yX11_ahead, cX11_ahead, 5, (some .int)) e) = true := by decide +kernel
theorem kb_X11_ahead : GoodIn lw_tbl (cd_X11_ahead.1.flatMap (fun e => mm_wdE mm_mth yX11_ahead.cls e)) := goodIn_r _ [401, 743, 569, 119, 390, 871, 873, 33, 119] (by decide +kernel) (by decide +kernel)
theorem ka_X11_image : cd_X11_image.1.all (fun e => mm_okB mm_mth mm_nest (yX11_image, cX11_image, 1, (some .int)) e) = true := by decide +kernel
theorem kb_X11_image : GoodIn lw_tbl (cd_X11_image.1.flatMap (fun e => mm_wdE mm_mth yX11_image.cls e)) := goodIn_r _ [401, 393, 390, 1174, 770, 771, 125, 394, 392, 1175, 1176, 1177, 127, 402, 390] (by decide +kernel) (by decide +kernel)
theorem ka_X11_back : cd_X11_back.1.all (fun e => mm_okB mm_mth mm_nest (yX11_back, cX11_back, 1, (some .int)) e) = true := by decide +kernel
theorem kb_X11_back : GoodIn lw_tbl (cd_X11_back.1.flatMap (fun e => mm_wdE mm_mth yX11_back.cls e)) := goodIn_r _ [402, 390, 393, 1174, 770, 771, 125, 392, 394, 1175, 1176, 1177, 127, 391, 686, 687, 688, 126, 390] (by decide +kernel) (by decide +kernel)
theorem ka_X11_count : cd_X11_count.1.all (fun e => mm_okB mm_mth mm_nest (yX11_count, cX11_count, 2, (some .int)) e) = true := by decide +kernel
theorem kb_X11_count : GoodIn lw_tbl (cd_X11_count.1.flatMap (fun e => mm_wdE mm_mth yX11_count.cls e)) := goodIn_r _ [389, 694, 586, 587, 122, 389, 694, 586, 587, 122, 388, 1188, 1189, 1190, 124, 385, 450, 451, 452, 120, 388, 783, 784, 785, 124, 390, 390, 390, 390, 390, 390, 403, 395, 1067, 1068, 1069, 128, 955, 957, 36, 119, 391, 947, 948, 949, 126, 1112] (by decide +kernel) (by decide +kernel)
theorem ka_X11_isWithin : cd_X11_isWithin.1.all (fun e => mm_okB mm_mth mm_nest (yX11_isWithin, cX11_isWithin, 3, (some .boolean)) e) = true := by decide +kernel
theorem kb_X11_isWithin : GoodIn lw_tbl (cd_X11_isWithin.1.flatMap (fun e => mm_wdE mm_mth yX11_isWithin.cls e)) := goodIn_r _ [] (by decide +kernel) (by decide +kernel)
theorem ka_X11_isStand : cd_X11_isStand.1.all (fun e => mm_okB mm_mth mm_nest (yX11_isStand, cX11_isStand, 1, (some .boolean)) e) = true := by decide +kernel
theorem kb_X11_isStand : GoodIn lw_tbl (cd_X11_isStand.1.flatMap (fun e => mm_wdE mm_mth yX11_isStand.cls e)) := goodIn_r _ [743, 569, 119] (by decide +kernel) (by decide +kernel)
theorem ka_X11_within : cd_X11_within.1.all (fun e => mm_okB mm_mth mm_nest (yX11_within, cX11_within, 3, (some .int)) e) = true := by decide +kernel
theorem kb_X11_within : GoodIn lw_tbl (cd_X11_within.1.flatMap (fun e => mm_wdE mm_mth yX11_within.cls e)) := goodIn_r _ [817, 714, 133, 818, 559, 133] (by decide +kernel) (by decide +kernel)
theorem ka_X12_in : cd_X12_in.1.all (fun e => mm_okB mm_mth mm_nest (yX12_in, cX12_in, 3, (some .boolean)) e) = true := by decide +kernel
theorem kb_X12_in : GoodIn lw_tbl (cd_X12_in.1.flatMap (fun e => mm_wdE mm_mth yX12_in.cls e)) := goodIn_r _ [] (by decide +kernel) (by decide +kernel)
theorem ka_X12_has : cd_X12_has.1.all (fun e => mm_okB mm_mth mm_nest (yX12_has, cX12_has, 2, (some .boolean)) e) = true := by decide +kernel
theorem kb_X12_has : GoodIn lw_tbl (cd_X12_has.1.flatMap (fun e => mm_wdE mm_mth yX12_has.cls e)) := goodIn_r _ [] (by decide +kernel) (by decide +kernel)
theorem ka_X12_init : cd_X12_init.1.all (fun e => mm_okB mm_mth mm_nest (yX12_init, cX12_init, 1, none) e) = true := by decide +kernel
theorem kb_X12_init : GoodIn lw_tbl (cd_X12_init.1.flatMap (fun e => mm_wdE mm_mth yX12_init.cls e)) := goodIn_r _ [1271, 146, 147, 164, 1273, 164, 1278, 164, 1279, 164, 1280, 164, 1281, 164, 1282, 164, 1283, 164, 1284, 164, 1287, 164, 1288, 164, 1289, 164, 1290, 164, 1291, 164, 1294, 164, 1295, 164, 1296, 164, 1299, 164, 1300, 1301, 1302, 164, 1303, 164, 1306, 164, 1311, 164, 1312, 164, 1313, 352, 1314, 164, 1316] (by decide +kernel) (by decide +kernel)
theorem ka_X12_thrown : cd_X12_thrown.1.all (fun e => mm_okB mm_mth mm_nest (yX12_thrown, cX12_thrown, 1, (some .int)) e) = true := by decide +kernel
theorem kb_X12_thrown : GoodIn lw_tbl (cd_X12_thrown.1.flatMap (fun e => mm_wdE mm_mth yX12_thrown.cls e)) := goodIn_r _ [1272] (by decide +kernel) (by decide +kernel)
theorem ka_X12_byteOf : cd_X12_byteOf.1.all (fun e => mm_okB mm_mth mm_nest (yX12_byteOf, cX12_byteOf, 7, (some .int)) e) = true := by decide +kernel
theorem kb_X12_byteOf : GoodIn lw_tbl (cd_X12_byteOf.1.flatMap (fun e => mm_wdE mm_mth yX12_byteOf.cls e)) := goodIn_r _ [] (by decide +kernel) (by decide +kernel)
theorem ka_X12_feed : cd_X12_feed.1.all (fun e => mm_okB mm_mth mm_nest (yX12_feed, cX12_feed, 9, (some .int)) e) = true := by decide +kernel
theorem kb_X12_feed : GoodIn lw_tbl (cd_X12_feed.1.flatMap (fun e => mm_wdE mm_mth yX12_feed.cls e)) := goodIn_r _ [1419, 1420, 131, 1274, 1419, 1420, 131, 1273, 1274, 1274, 1274, 1274] (by decide +kernel) (by decide +kernel)
theorem ka_X12_end : cd_X12_end.1.all (fun e => mm_okB mm_mth mm_nest (yX12_end, cX12_end, 2, (some .boolean)) e) = true := by decide +kernel
theorem kb_X12_end : GoodIn lw_tbl (cd_X12_end.1.flatMap (fun e => mm_wdE mm_mth yX12_end.cls e)) := goodIn_r _ [1274, 1274] (by decide +kernel) (by decide +kernel)
theorem ka_X12_here : cd_X12_here.1.all (fun e => mm_okB mm_mth mm_nest (yX12_here, cX12_here, 1, (some .int)) e) = true := by decide +kernel
theorem kb_X12_here : GoodIn lw_tbl (cd_X12_here.1.flatMap (fun e => mm_wdE mm_mth yX12_here.cls e)) := goodIn_r _ [1275, 1274, 1273, 1275] (by decide +kernel) (by decide +kernel)
theorem ka_X12_look : cd_X12_look.1.all (fun e => mm_okB mm_mth mm_nest (yX12_look, cX12_look, 1, (some .int)) e) = true := by decide +kernel
theorem kb_X12_look : GoodIn lw_tbl (cd_X12_look.1.flatMap (fun e => mm_wdE mm_mth yX12_look.cls e)) := goodIn_r _ [1441, 1443, 57, 131, 1275, 1275, 1441, 1443, 57, 131] (by decide +kernel) (by decide +kernel)
theorem ka_X12_bad : cd_X12_bad.1.all (fun e => mm_okB mm_mth mm_nest (yX12_bad, cX12_bad, 1, none) e) = true := by decide +kernel
theorem kb_X12_bad : GoodIn lw_tbl (cd_X12_bad.1.flatMap (fun e => mm_wdE mm_mth yX12_bad.cls e)) := goodIn_r _ [1276, 1275, 1276, 1276] (by decide +kernel) (by decide +kernel)
theorem ka_X12_isDigit : cd_X12_isDigit.1.all (fun e => mm_okB mm_mth mm_nest (yX12_isDigit, cX12_isDigit, 1, (some .boolean)) e) = true := by decide +kernel
theorem kb_X12_isDigit : GoodIn lw_tbl (cd_X12_isDigit.1.flatMap (fun e => mm_wdE mm_mth yX12_isDigit.cls e)) := goodIn_r _ [] (by decide +kernel) (by decide +kernel)
theorem ka_X12_put : cd_X12_put.1.all (fun e => mm_okB mm_mth mm_nest (yX12_put, cX12_put, 3, none) e) = true := by decide +kernel
theorem kb_X12_put : GoodIn lw_tbl (cd_X12_put.1.flatMap (fun e => mm_wdE mm_mth yX12_put.cls e)) := goodIn_r _ [1278, 1286, 1280, 1286, 1279, 1286, 1280, 1286, 1280, 1286] (by decide +kernel) (by decide +kernel)
theorem ka_X12_letterOf : cd_X12_letterOf.1.all (fun e => mm_okB mm_mth mm_nest (yX12_letterOf, cX12_letterOf, 1, (some .int)) e) = true := by decide +kernel
theorem kb_X12_letterOf : GoodIn lw_tbl (cd_X12_letterOf.1.flatMap (fun e => mm_wdE mm_mth yX12_letterOf.cls e)) := goodIn_r _ [] (by decide +kernel) (by decide +kernel)
theorem ka_X12_opens : cd_X12_opens.1.all (fun e => mm_okB mm_mth mm_nest (yX12_opens, cX12_opens, 1, none) e) = true := by decide +kernel
theorem kb_X12_opens : GoodIn lw_tbl (cd_X12_opens.1.flatMap (fun e => mm_wdE mm_mth yX12_opens.cls e)) := goodIn_r _ [1277, 1465, 1467, 60, 131, 1277, 1277, 1275, 1275] (by decide +kernel) (by decide +kernel)
theorem ka_X12_closes : cd_X12_closes.1.all (fun e => mm_okB mm_mth mm_nest (yX12_closes, cX12_closes, 2, none) e) = true := by decide +kernel
theorem kb_X12_closes : GoodIn lw_tbl (cd_X12_closes.1.flatMap (fun e => mm_wdE mm_mth yX12_closes.cls e)) := goodIn_r _ [1276, 1437, 1439, 56, 131, 1465, 1467, 60, 131, 1275, 1275, 1277, 1277] (by decide +kernel) (by decide +kernel)
theorem ka_X12_plainNumber : cd_X12_plainNumber.1.all (fun e => mm_okB mm_mth mm_nest (yX12_plainNumber, cX12_plainNumber, 3, (some .int)) e) = true := by decide +kernel
theorem kb_X12_plainNumber : GoodIn lw_tbl (cd_X12_plainNumber.1.flatMap (fun e => mm_wdE mm_mth yX12_plainNumber.cls e)) := goodIn_r _ [1441, 1443, 57, 131, 1462, 1463, 131, 1441, 1443, 57, 131, 1275, 1275, 1441, 1443, 57, 131, 1462, 1463, 131, 1465, 1467, 60, 131] (by decide +kernel) (by decide +kernel)
theorem ka_X12_atom : cd_X12_atom.1.all (fun e => mm_okB mm_mth mm_nest (yX12_atom, cX12_atom, 2, none) e) = true := by decide +kernel
theorem kb_X12_atom : GoodIn lw_tbl (cd_X12_atom.1.flatMap (fun e => mm_wdE mm_mth yX12_atom.cls e)) := goodIn_r _ [1437, 1439, 56, 131, 1462, 1463, 131, 1516, 1518, 72, 131, 1496, 1498, 67, 131, 1520, 1521, 131, 1275, 1275, 1520, 1521, 131, 1496, 1498, 67, 131, 1492, 1494, 66, 131, 1276, 1504, 1506, 69, 131, 1500, 1502, 68, 131, 1465, 1467, 60, 131] (by decide +kernel) (by decide +kernel)
theorem ka_X12_term : cd_X12_term.1.all (fun e => mm_okB mm_mth mm_nest (yX12_term, cX12_term, 2, none) e) = true := by decide +kernel
theorem kb_X12_term : GoodIn lw_tbl (cd_X12_term.1.flatMap (fun e => mm_wdE mm_mth yX12_term.cls e)) := goodIn_r _ [1512, 1514, 71, 131, 1276, 1437, 1439, 56, 131, 1275, 1275, 1512, 1514, 71, 131, 1496, 1498, 67, 131, 1276, 1437, 1439, 56, 131] (by decide +kernel) (by decide +kernel)
theorem ka_X12_sum : cd_X12_sum.1.all (fun e => mm_okB mm_mth mm_nest (yX12_sum, cX12_sum, 2, none) e) = true := by decide +kernel
theorem kb_X12_sum : GoodIn lw_tbl (cd_X12_sum.1.flatMap (fun e => mm_wdE mm_mth yX12_sum.cls e)) := goodIn_r _ [1508, 1510, 70, 131, 1276, 1437, 1439, 56, 131, 1275, 1275, 1508, 1510, 70, 131, 1496, 1498, 67, 131, 1276, 1437, 1439, 56, 131] (by decide +kernel) (by decide +kernel)
theorem ka_X12_isSign : cd_X12_isSign.1.all (fun e => mm_okB mm_mth mm_nest (yX12_isSign, cX12_isSign, 1, (some .boolean)) e) = true := by decide +kernel
theorem kb_X12_isSign : GoodIn lw_tbl (cd_X12_isSign.1.flatMap (fun e => mm_wdE mm_mth yX12_isSign.cls e)) := goodIn_r _ [] (by decide +kernel) (by decide +kernel)
theorem ka_X12_compare : cd_X12_compare.1.all (fun e => mm_okB mm_mth mm_nest (yX12_compare, cX12_compare, 2, none) e) = true := by decide +kernel
theorem kb_X12_compare : GoodIn lw_tbl (cd_X12_compare.1.flatMap (fun e => mm_wdE mm_mth yX12_compare.cls e)) := goodIn_r _ [1276, 1437, 1439, 56, 131, 1527, 1528, 131, 1465, 1467, 60, 131, 1275, 1275, 1504, 1506, 69, 131, 1496, 1498, 67, 131] (by decide +kernel) (by decide +kernel)
theorem ka_X12_unit : cd_X12_unit.1.all (fun e => mm_okB mm_mth mm_nest (yX12_unit, cX12_unit, 2, none) e) = true := by decide +kernel
theorem kb_X12_unit : GoodIn lw_tbl (cd_X12_unit.1.flatMap (fun e => mm_wdE mm_mth yX12_unit.cls e)) := goodIn_r _ [1437, 1439, 56, 131, 1492, 1494, 66, 131, 1276, 1488, 1490, 65, 131, 1496, 1498, 67, 131, 1277, 1277, 1492, 1494, 66, 131, 1276, 1484, 1486, 64, 131, 1500, 1502, 68, 131, 1504, 1506, 69, 131, 1276, 1523, 1525, 73, 131] (by decide +kernel) (by decide +kernel)
theorem ka_X12_goOnAnd : cd_X12_goOnAnd.1.all (fun e => mm_okB mm_mth mm_nest (yX12_goOnAnd, cX12_goOnAnd, 1, none) e) = true := by decide +kernel
theorem kb_X12_goOnAnd : GoodIn lw_tbl (cd_X12_goOnAnd.1.flatMap (fun e => mm_wdE mm_mth yX12_goOnAnd.cls e)) := goodIn_r _ [1276, 1437, 1439, 56, 131, 1275, 1275, 1488, 1490, 65, 131, 1496, 1498, 67, 131] (by decide +kernel) (by decide +kernel)
theorem ka_X12_goOnOr : cd_X12_goOnOr.1.all (fun e => mm_okB mm_mth mm_nest (yX12_goOnOr, cX12_goOnOr, 1, none) e) = true := by decide +kernel
theorem kb_X12_goOnOr : GoodIn lw_tbl (cd_X12_goOnOr.1.flatMap (fun e => mm_wdE mm_mth yX12_goOnOr.cls e)) := goodIn_r _ [1276, 1437, 1439, 56, 131, 1275, 1275, 1488, 1490, 65, 131, 1530, 1532, 74, 131, 1496, 1498, 67, 131] (by decide +kernel) (by decide +kernel)
theorem ka_X12_condition : cd_X12_condition.1.all (fun e => mm_okB mm_mth mm_nest (yX12_condition, cX12_condition, 1, none) e) = true := by decide +kernel
theorem kb_X12_condition : GoodIn lw_tbl (cd_X12_condition.1.flatMap (fun e => mm_wdE mm_mth yX12_condition.cls e)) := goodIn_r _ [1488, 1490, 65, 131, 1530, 1532, 74, 131, 1534, 1536, 75, 131] (by decide +kernel) (by decide +kernel)
theorem ka_X12_clause : cd_X12_clause.1.all (fun e => mm_okB mm_mth mm_nest (yX12_clause, cX12_clause, 3, none) e) = true := by decide +kernel
theorem kb_X12_clause : GoodIn lw_tbl (cd_X12_clause.1.flatMap (fun e => mm_wdE mm_mth yX12_clause.cls e)) := goodIn_r _ [1286, 1281, 1286, 1276, 1437, 1439, 56, 131, 1465, 1467, 60, 131, 1275, 1275, 1276, 1437, 1439, 56, 131, 1465, 1467, 60, 131, 1275, 1275, 1276, 1282, 1280, 1286, 1437, 1439, 56, 131, 1437, 1439, 56, 131, 1484, 1486, 64, 131, 1504, 1506, 69, 131, 1276, 1437, 1439, 56, 131, 1527, 1528, 131, 1523, 1525, 73, 131, 1530, 1532, 74, 131, 1534, 1536, 75, 131, 1283, 1282, 1276, 1437, 1439, 56, 131, 1465, 1467, 60, 131, 1275, 1275, 1283, 1280, 1286, 1504, 1506, 69, 131, 1284, 1280, 1286, 1281, 1286] (by decide +kernel) (by decide +kernel)
end
section
theorem ka_X12_open : cd_X12_open.1.all (fun e => mm_okB mm_mth mm_nest (yX12_open, cX12_open, 2, none) e) = true := by decide +kernel
theorem kb_X12_open : GoodIn lw_tbl (cd_X12_open.1.flatMap (fun e => mm_wdE mm_mth yX12_open.cls e)) := goodIn_r _ [1286, 1275, 1276, 1277, 1280, 1281] (by decide +kernel) (by decide +kernel)
theorem ka_X12_atEnd : cd_X12_atEnd.1.all (fun e => mm_okB mm_mth mm_nest (yX12_atEnd, cX12_atEnd, 1, (some .int)) e) = true := by decide +kernel
theorem kb_X12_atEnd : GoodIn lw_tbl (cd_X12_atEnd.1.flatMap (fun e => mm_wdE mm_mth yX12_atEnd.cls e)) := goodIn_r _ [1276, 1437, 1439, 56, 131, 1465, 1467, 60, 131, 1276] (by decide +kernel) (by decide +kernel)
theorem ka_X12_readLaw : cd_X12_readLaw.1.all (fun e => mm_okB mm_mth mm_nest (yX12_readLaw, cX12_readLaw, 2, (some .int)) e) = true := by decide +kernel
theorem kb_X12_readLaw : GoodIn lw_tbl (cd_X12_readLaw.1.flatMap (fun e => mm_wdE mm_mth yX12_readLaw.cls e)) := goodIn_r _ [1476, 1478, 62, 131, 1480, 1482, 63, 131, 1276, 1437, 1439, 56, 131, 1275, 1275, 1480, 1482, 63, 131, 1538, 1540, 76, 131] (by decide +kernel) (by decide +kernel)
theorem ka_X12_bounded : cd_X12_bounded.1.all (fun e => mm_okB mm_mth mm_nest (yX12_bounded, cX12_bounded, 2, (some .int)) e) = true := by decide +kernel
theorem kb_X12_bounded : GoodIn lw_tbl (cd_X12_bounded.1.flatMap (fun e => mm_wdE mm_mth yX12_bounded.cls e)) := goodIn_r _ [1620, 1621, 1622, 802, 133, 1623, 805, 133] (by decide +kernel) (by decide +kernel)
theorem ka_X12_worked : cd_X12_worked.1.all (fun e => mm_okB mm_mth mm_nest (yX12_worked, cX12_worked, 5, (some .int)) e) = true := by decide +kernel
theorem kb_X12_worked : GoodIn lw_tbl (cd_X12_worked.1.flatMap (fun e => mm_wdE mm_mth yX12_worked.cls e)) := goodIn_r _ [1617, 1618, 131, 1617, 1618, 131, 1617, 1618, 131, 1617, 1618, 131] (by decide +kernel) (by decide +kernel)
theorem ka_X12_workOut : cd_X12_workOut.1.all (fun e => mm_okB mm_mth mm_nest (yX12_workOut, cX12_workOut, 6, (some .int)) e) = true := by decide +kernel
theorem kb_X12_workOut : GoodIn lw_tbl (cd_X12_workOut.1.flatMap (fun e => mm_wdE mm_mth yX12_workOut.cls e)) := goodIn_r _ [1278, 1278, 1288, 1278, 1279, 1287, 1279, 1278, 1288, 1288, 1288, 1278, 1288, 1288, 1614, 1615, 131, 1288] (by decide +kernel) (by decide +kernel)
theorem ka_X12_worthOf : cd_X12_worthOf.1.all (fun e => mm_okB mm_mth mm_nest (yX12_worthOf, cX12_worthOf, 3, (some .int)) e) = true := by decide +kernel
theorem kb_X12_worthOf : GoodIn lw_tbl (cd_X12_worthOf.1.flatMap (fun e => mm_wdE mm_mth yX12_worthOf.cls e)) := goodIn_r _ [1281, 1282, 1283, 1282, 1283, 1610, 1612, 88, 131, 1283, 1284, 1610, 1612, 88, 131] (by decide +kernel) (by decide +kernel)
theorem ka_X12_number : cd_X12_number.1.all (fun e => mm_okB mm_mth mm_nest (yX12_number, cX12_number, 4, (some .int)) e) = true := by decide +kernel
theorem kb_X12_number : GoodIn lw_tbl (cd_X12_number.1.flatMap (fun e => mm_wdE mm_mth yX12_number.cls e)) := goodIn_r _ [1437, 1439, 56, 131, 1462, 1463, 131, 1465, 1467, 60, 131, 1441, 1443, 57, 131, 1275, 1275, 1441, 1443, 57, 131, 1462, 1463, 131, 1441, 1443, 57, 131, 1275, 1275, 1441, 1443, 57, 131, 1462, 1463, 131, 1465, 1467, 60, 131, 1469, 1470, 131, 1275, 1275, 1465, 1467, 60, 131] (by decide +kernel) (by decide +kernel)
theorem ka_X12_itemOf : cd_X12_itemOf.1.all (fun e => mm_okB mm_mth mm_nest (yX12_itemOf, cX12_itemOf, 2, (some .int)) e) = true := by decide +kernel
theorem kb_X12_itemOf : GoodIn lw_tbl (cd_X12_itemOf.1.flatMap (fun e => mm_wdE mm_mth yX12_itemOf.cls e)) := goodIn_r _ [] (by decide +kernel) (by decide +kernel)
theorem ka_X12_highest : cd_X12_highest.1.all (fun e => mm_okB mm_mth mm_nest (yX12_highest, cX12_highest, 2, (some .int)) e) = true := by decide +kernel
theorem kb_X12_highest : GoodIn lw_tbl (cd_X12_highest.1.flatMap (fun e => mm_wdE mm_mth yX12_highest.cls e)) := goodIn_r _ [] (by decide +kernel) (by decide +kernel)
theorem ka_X12_usual : cd_X12_usual.1.all (fun e => mm_okB mm_mth mm_nest (yX12_usual, cX12_usual, 2, (some .int)) e) = true := by decide +kernel
theorem kb_X12_usual : GoodIn lw_tbl (cd_X12_usual.1.flatMap (fun e => mm_wdE mm_mth yX12_usual.cls e)) := goodIn_r _ [] (by decide +kernel) (by decide +kernel)
theorem ka_X12_items : cd_X12_items.1.all (fun e => mm_okB mm_mth mm_nest (yX12_items, cX12_items, 7, none) e) = true := by decide +kernel
theorem kb_X12_items : GoodIn lw_tbl (cd_X12_items.1.flatMap (fun e => mm_wdE mm_mth yX12_items.cls e)) := goodIn_r _ [1434, 1435, 131, 1437, 1439, 56, 131, 1449, 1450, 131, 1276, 1452, 1453, 131, 1275, 1275, 1455, 1456, 131, 1458, 1460, 59, 131, 1276, 1437, 1439, 56, 131, 1449, 1450, 131] (by decide +kernel) (by decide +kernel)
theorem ka_X12_readDuchy : cd_X12_readDuchy.1.all (fun e => mm_okB mm_mth mm_nest (yX12_readDuchy, cX12_readDuchy, 4, (some .int)) e) = true := by decide +kernel
theorem kb_X12_readDuchy : GoodIn lw_tbl (cd_X12_readDuchy.1.flatMap (fun e => mm_wdE mm_mth yX12_readDuchy.cls e)) := goodIn_r _ [1275, 1276, 1292, 1293, 1289, 1434, 1435, 131, 1276, 1437, 1439, 56, 131, 1275, 1275, 1289, 1445, 1447, 58, 131, 1292, 1275, 1275, 1290, 1292, 1445, 1447, 58, 131, 1292, 1292, 1293, 1275, 1275, 1291, 1293, 1445, 1447, 58, 131, 1293, 1293, 1465, 1467, 60, 131, 1276, 1437, 1439, 56, 131, 1275, 1275, 1276, 1437, 1439, 56, 131, 1292, 1293, 1465, 1467, 60, 131, 1276] (by decide +kernel) (by decide +kernel)
theorem ka_X12_fault : cd_X12_fault.1.all (fun e => mm_okB mm_mth mm_nest (yX12_fault, cX12_fault, 2, (some .int)) e) = true := by decide +kernel
theorem kb_X12_fault : GoodIn lw_tbl (cd_X12_fault.1.flatMap (fun e => mm_wdE mm_mth yX12_fault.cls e)) := goodIn_r _ [1430, 1432, 55, 131, 1472, 1474, 61, 131] (by decide +kernel) (by decide +kernel)
theorem ka_X12_takeDuchy : cd_X12_takeDuchy.1.all (fun e => mm_okB mm_mth mm_nest (yX12_takeDuchy, cX12_takeDuchy, 2, (some .int)) e) = true := by decide +kernel
theorem kb_X12_takeDuchy : GoodIn lw_tbl (cd_X12_takeDuchy.1.flatMap (fun e => mm_wdE mm_mth yX12_takeDuchy.cls e)) := goodIn_r _ [1292, 1297, 1293, 1298, 1294, 1289, 1295, 1290, 1296, 1291, 1299, 1297, 1299, 1295, 1299, 1294, 1299, 1294, 1315, 1304, 1317, 1298] (by decide +kernel) (by decide +kernel)
theorem ka_X12_text : cd_X12_text.1.all (fun e => mm_okB mm_mth mm_nest (yX12_text, cX12_text, 2, (some .int)) e) = true := by decide +kernel
theorem kb_X12_text : GoodIn lw_tbl (cd_X12_text.1.flatMap (fun e => mm_wdE mm_mth yX12_text.cls e)) := goodIn_r _ [1430, 1432, 55, 131, 1274, 1546, 1548, 77, 131, 1285, 1285, 1472, 1474, 61, 131, 1274, 1285, 1285, 1285] (by decide +kernel) (by decide +kernel)
theorem ka_X12_of : cd_X12_of.1.all (fun e => mm_okB mm_mth mm_nest (yX12_of, cX12_of, 3, (some .int)) e) = true := by decide +kernel
theorem kb_X12_of : GoodIn lw_tbl (cd_X12_of.1.flatMap (fun e => mm_wdE mm_mth yX12_of.cls e)) := goodIn_r _ [1296] (by decide +kernel) (by decide +kernel)
theorem ka_X12_isCook : cd_X12_isCook.1.all (fun e => mm_okB mm_mth mm_nest (yX12_isCook, cX12_isCook, 2, (some .boolean)) e) = true := by decide +kernel
theorem kb_X12_isCook : GoodIn lw_tbl (cd_X12_isCook.1.flatMap (fun e => mm_wdE mm_mth yX12_isCook.cls e)) := goodIn_r _ [1297, 1469, 1470, 131] (by decide +kernel) (by decide +kernel)
theorem ka_X12_isMinister : cd_X12_isMinister.1.all (fun e => mm_okB mm_mth mm_nest (yX12_isMinister, cX12_isMinister, 2, (some .boolean)) e) = true := by decide +kernel
theorem kb_X12_isMinister : GoodIn lw_tbl (cd_X12_isMinister.1.flatMap (fun e => mm_wdE mm_mth yX12_isMinister.cls e)) := goodIn_r _ [1298, 1469, 1470, 131] (by decide +kernel) (by decide +kernel)
theorem ka_X12_leftOf : cd_X12_leftOf.1.all (fun e => mm_okB mm_mth mm_nest (yX12_leftOf, cX12_leftOf, 2, (some .int)) e) = true := by decide +kernel
theorem kb_X12_leftOf : GoodIn lw_tbl (cd_X12_leftOf.1.flatMap (fun e => mm_wdE mm_mth yX12_leftOf.cls e)) := goodIn_r _ [1295, 1299] (by decide +kernel) (by decide +kernel)
theorem ka_X12_held : cd_X12_held.1.all (fun e => mm_okB mm_mth mm_nest (yX12_held, cX12_held, 1, (some .int)) e) = true := by decide +kernel
theorem kb_X12_held : GoodIn lw_tbl (cd_X12_held.1.flatMap (fun e => mm_wdE mm_mth yX12_held.cls e)) := goodIn_r _ [1624, 714, 133, 1625, 559, 133] (by decide +kernel) (by decide +kernel)
theorem ka_X12_strokeBy : cd_X12_strokeBy.1.all (fun e => mm_okB mm_mth mm_nest (yX12_strokeBy, cX12_strokeBy, 6, (some .int)) e) = true := by decide +kernel
theorem kb_X12_strokeBy : GoodIn lw_tbl (cd_X12_strokeBy.1.flatMap (fun e => mm_wdE mm_mth yX12_strokeBy.cls e)) := goodIn_r _ [1294, 1301, 1287, 1287, 1287, 1287, 1287, 1294, 1287, 1294, 1301, 1606, 1608, 87, 131, 1624, 714, 133, 1625, 559, 133, 1626, 1627, 131] (by decide +kernel) (by decide +kernel)
theorem ka_X12_strokeNow : cd_X12_strokeNow.1.all (fun e => mm_okB mm_mth mm_nest (yX12_strokeNow, cX12_strokeNow, 2, none) e) = true := by decide +kernel
theorem kb_X12_strokeNow : GoodIn lw_tbl (cd_X12_strokeNow.1.flatMap (fun e => mm_wdE mm_mth yX12_strokeNow.cls e)) := goodIn_r _ [1299, 1299, 1299, 1299, 1299, 1602, 1604, 86, 131, 1299, 1299] (by decide +kernel) (by decide +kernel)
theorem ka_X12_strokesNow : cd_X12_strokesNow.1.all (fun e => mm_okB mm_mth mm_nest (yX12_strokesNow, cX12_strokesNow, 4, none) e) = true := by decide +kernel
theorem kb_X12_strokesNow : GoodIn lw_tbl (cd_X12_strokesNow.1.flatMap (fun e => mm_wdE mm_mth yX12_strokesNow.cls e)) := goodIn_r _ [1598, 1600, 85, 131] (by decide +kernel) (by decide +kernel)
theorem ka_X12_weightIn : cd_X12_weightIn.1.all (fun e => mm_okB mm_mth mm_nest (yX12_weightIn, cX12_weightIn, 3, (some .int)) e) = true := by decide +kernel
theorem kb_X12_weightIn : GoodIn lw_tbl (cd_X12_weightIn.1.flatMap (fun e => mm_wdE mm_mth yX12_weightIn.cls e)) := goodIn_r _ [1298, 1299, 1452, 1453, 131, 1570, 1572, 80, 131] (by decide +kernel) (by decide +kernel)
theorem ka_X12_worthIn : cd_X12_worthIn.1.all (fun e => mm_okB mm_mth mm_nest (yX12_worthIn, cX12_worthIn, 3, (some .int)) e) = true := by decide +kernel
theorem kb_X12_worthIn : GoodIn lw_tbl (cd_X12_worthIn.1.flatMap (fun e => mm_wdE mm_mth yX12_worthIn.cls e)) := goodIn_r _ [1298, 1299, 1452, 1453, 131, 1570, 1572, 80, 131] (by decide +kernel) (by decide +kernel)
theorem ka_X12_sinks : cd_X12_sinks.1.all (fun e => mm_okB mm_mth mm_nest (yX12_sinks, cX12_sinks, 1, (some .int)) e) = true := by decide +kernel
theorem kb_X12_sinks : GoodIn lw_tbl (cd_X12_sinks.1.flatMap (fun e => mm_wdE mm_mth yX12_sinks.cls e)) := goodIn_r _ [1294, 1669, 1671, 95, 131, 1299, 1625, 559, 133] (by decide +kernel) (by decide +kernel)
theorem ka_X12_mayFall : cd_X12_mayFall.1.all (fun e => mm_okB mm_mth mm_nest (yX12_mayFall, cX12_mayFall, 1, none) e) = true := by decide +kernel
theorem kb_X12_mayFall : GoodIn lw_tbl (cd_X12_mayFall.1.flatMap (fun e => mm_wdE mm_mth yX12_mayFall.cls e)) := goodIn_r _ [1299, 1299, 1299, 1299] (by decide +kernel) (by decide +kernel)
theorem ka_X12_doorNow : cd_X12_doorNow.1.all (fun e => mm_okB mm_mth mm_nest (yX12_doorNow, cX12_doorNow, 1, none) e) = true := by decide +kernel
theorem kb_X12_doorNow : GoodIn lw_tbl (cd_X12_doorNow.1.flatMap (fun e => mm_wdE mm_mth yX12_doorNow.cls e)) := goodIn_r _ [1299, 1653, 1655, 92, 131] (by decide +kernel) (by decide +kernel)
theorem ka_X12_hourNow : cd_X12_hourNow.1.all (fun e => mm_okB mm_mth mm_nest (yX12_hourNow, cX12_hourNow, 1, none) e) = true := by decide +kernel
theorem kb_X12_hourNow : GoodIn lw_tbl (cd_X12_hourNow.1.flatMap (fun e => mm_wdE mm_mth yX12_hourNow.cls e)) := goodIn_r _ [1299, 1299, 1665, 1667, 94, 131, 1626, 1627, 131, 1653, 1655, 92, 131] (by decide +kernel) (by decide +kernel)
theorem ka_X12_canFold : cd_X12_canFold.1.all (fun e => mm_okB mm_mth mm_nest (yX12_canFold, cX12_canFold, 2, (some .boolean)) e) = true := by decide +kernel
theorem kb_X12_canFold : GoodIn lw_tbl (cd_X12_canFold.1.flatMap (fun e => mm_wdE mm_mth yX12_canFold.cls e)) := goodIn_r _ [1299, 1452, 1453, 131, 1299, 1570, 1572, 80, 131] (by decide +kernel) (by decide +kernel)
theorem ka_X12_foldNow : cd_X12_foldNow.1.all (fun e => mm_okB mm_mth mm_nest (yX12_foldNow, cX12_foldNow, 2, none) e) = true := by decide +kernel
theorem kb_X12_foldNow : GoodIn lw_tbl (cd_X12_foldNow.1.flatMap (fun e => mm_wdE mm_mth yX12_foldNow.cls e)) := goodIn_r _ [1299, 1299, 1299, 1570, 1572, 80, 131, 1626, 1627, 131] (by decide +kernel) (by decide +kernel)
theorem ka_X12_rule : cd_X12_rule.1.all (fun e => mm_okB mm_mth mm_nest (yX12_rule, cX12_rule, 2, (some .int)) e) = true := by decide +kernel
theorem kb_X12_rule : GoodIn lw_tbl (cd_X12_rule.1.flatMap (fun e => mm_wdE mm_mth yX12_rule.cls e)) := goodIn_r _ [1298, 1469, 1470, 131, 1299, 1299, 1294] (by decide +kernel) (by decide +kernel)
theorem ka_X12_cook : cd_X12_cook.1.all (fun e => mm_okB mm_mth mm_nest (yX12_cook, cX12_cook, 3, (some .int)) e) = true := by decide +kernel
theorem kb_X12_cook : GoodIn lw_tbl (cd_X12_cook.1.flatMap (fun e => mm_wdE mm_mth yX12_cook.cls e)) := goodIn_r _ [1558, 1560, 78, 131, 1469, 1470, 131, 1299, 1295, 1299] (by decide +kernel) (by decide +kernel)
theorem ka_X12_minister : cd_X12_minister.1.all (fun e => mm_okB mm_mth mm_nest (yX12_minister, cX12_minister, 3, (some .int)) e) = true := by decide +kernel
theorem kb_X12_minister : GoodIn lw_tbl (cd_X12_minister.1.flatMap (fun e => mm_wdE mm_mth yX12_minister.cls e)) := goodIn_r _ [1566, 1568, 79, 131, 1469, 1470, 131, 1272, 1272, 1570, 1572, 80, 131, 1299] (by decide +kernel) (by decide +kernel)
theorem ka_X12_law : cd_X12_law.1.all (fun e => mm_okB mm_mth mm_nest (yX12_law, cX12_law, 2, (some .boolean)) e) = true := by decide +kernel
theorem kb_X12_law : GoodIn lw_tbl (cd_X12_law.1.flatMap (fun e => mm_wdE mm_mth yX12_law.cls e)) := goodIn_r _ [1285, 1469, 1470, 131, 1301] (by decide +kernel) (by decide +kernel)
theorem ka_X12_keep : cd_X12_keep.1.all (fun e => mm_okB mm_mth mm_nest (yX12_keep, cX12_keep, 2, none) e) = true := by decide +kernel
theorem kb_X12_keep : GoodIn lw_tbl (cd_X12_keep.1.flatMap (fun e => mm_wdE mm_mth yX12_keep.cls e)) := goodIn_r _ [1304, 1303, 1303, 1304, 1304, 1303, 1304, 1299, 1304, 1304] (by decide +kernel) (by decide +kernel)
theorem ka_X12_isRefused : cd_X12_isRefused.1.all (fun e => mm_okB mm_mth mm_nest (yX12_isRefused, cX12_isRefused, 2, (some .boolean)) e) = true := by decide +kernel
theorem kb_X12_isRefused : GoodIn lw_tbl (cd_X12_isRefused.1.flatMap (fun e => mm_wdE mm_mth yX12_isRefused.cls e)) := goodIn_r _ [1300] (by decide +kernel) (by decide +kernel)
theorem ka_X12_strokes : cd_X12_strokes.1.all (fun e => mm_okB mm_mth mm_nest (yX12_strokes, cX12_strokes, 3, (some .int)) e) = true := by decide +kernel
theorem kb_X12_strokes : GoodIn lw_tbl (cd_X12_strokes.1.flatMap (fun e => mm_wdE mm_mth yX12_strokes.cls e)) := goodIn_r _ [1558, 1560, 78, 131, 1469, 1470, 131, 1582, 1584, 81, 131, 1586, 1588, 82, 131, 1590, 1592, 83, 131, 1594, 1596, 84, 131, 1299] (by decide +kernel) (by decide +kernel)
theorem ka_X12_fold : cd_X12_fold.1.all (fun e => mm_okB mm_mth mm_nest (yX12_fold, cX12_fold, 2, (some .int)) e) = true := by decide +kernel
theorem kb_X12_fold : GoodIn lw_tbl (cd_X12_fold.1.flatMap (fun e => mm_wdE mm_mth yX12_fold.cls e)) := goodIn_r _ [1566, 1568, 79, 131, 1299, 1452, 1453, 131, 1633, 1635, 89, 131, 1586, 1588, 82, 131, 1590, 1592, 83, 131, 1637, 1639, 90, 131, 1299] (by decide +kernel) (by decide +kernel)
theorem ka_X12_sugar : cd_X12_sugar.1.all (fun e => mm_okB mm_mth mm_nest (yX12_sugar, cX12_sugar, 1, (some .int)) e) = true := by decide +kernel
theorem kb_X12_sugar : GoodIn lw_tbl (cd_X12_sugar.1.flatMap (fun e => mm_wdE mm_mth yX12_sugar.cls e)) := goodIn_r _ [1298, 1299, 1299, 1586, 1588, 82, 131, 1590, 1592, 83, 131, 1299, 1299, 1299] (by decide +kernel) (by decide +kernel)
theorem ka_X12_door : cd_X12_door.1.all (fun e => mm_okB mm_mth mm_nest (yX12_door, cX12_door, 1, (some .int)) e) = true := by decide +kernel
theorem kb_X12_door : GoodIn lw_tbl (cd_X12_door.1.flatMap (fun e => mm_wdE mm_mth yX12_door.cls e)) := goodIn_r _ [1298, 1586, 1588, 82, 131, 1590, 1592, 83, 131, 1649, 1651, 91, 131, 1299] (by decide +kernel) (by decide +kernel)
theorem ka_X12_hours : cd_X12_hours.1.all (fun e => mm_okB mm_mth mm_nest (yX12_hours, cX12_hours, 3, (some .int)) e) = true := by decide +kernel
theorem kb_X12_hours : GoodIn lw_tbl (cd_X12_hours.1.flatMap (fun e => mm_wdE mm_mth yX12_hours.cls e)) := goodIn_r _ [1298, 1469, 1470, 131, 1586, 1588, 82, 131, 1590, 1592, 83, 131, 1661, 1663, 93, 131, 1299] (by decide +kernel) (by decide +kernel)
theorem ka_X12_practise : cd_X12_practise.1.all (fun e => mm_okB mm_mth mm_nest (yX12_practise, cX12_practise, 2, (some .int)) e) = true := by decide +kernel
theorem kb_X12_practise : GoodIn lw_tbl (cd_X12_practise.1.flatMap (fun e => mm_wdE mm_mth yX12_practise.cls e)) := goodIn_r _ [1558, 1560, 78, 131, 1299, 1299, 1586, 1588, 82, 131, 1590, 1592, 83, 131, 1299, 1299, 1299] (by decide +kernel) (by decide +kernel)
theorem ka_X12_yolk : cd_X12_yolk.1.all (fun e => mm_okB mm_mth mm_nest (yX12_yolk, cX12_yolk, 1, (some .int)) e) = true := by decide +kernel
theorem kb_X12_yolk : GoodIn lw_tbl (cd_X12_yolk.1.flatMap (fun e => mm_wdE mm_mth yX12_yolk.cls e)) := goodIn_r _ [1298, 1299, 1299, 1586, 1588, 82, 131, 1590, 1592, 83, 131, 1299, 1299, 1299] (by decide +kernel) (by decide +kernel)
theorem ka_X12_give : cd_X12_give.1.all (fun e => mm_okB mm_mth mm_nest (yX12_give, cX12_give, 2, (some .int)) e) = true := by decide +kernel
theorem kb_X12_give : GoodIn lw_tbl (cd_X12_give.1.flatMap (fun e => mm_wdE mm_mth yX12_give.cls e)) := goodIn_r _ [1298, 1469, 1470, 131, 1299, 1586, 1588, 82, 131, 1590, 1592, 83, 131, 1299, 1299] (by decide +kernel) (by decide +kernel)
theorem ka_X12_passDay : cd_X12_passDay.1.all (fun e => mm_okB mm_mth mm_nest (yX12_passDay, cX12_passDay, 3, none) e) = true := by decide +kernel
theorem kb_X12_passDay : GoodIn lw_tbl (cd_X12_passDay.1.flatMap (fun e => mm_wdE mm_mth yX12_passDay.cls e)) := goodIn_r _ [1299, 1299, 1697, 1699, 98, 131, 1624, 714, 133, 1299, 1299, 1624, 714, 133, 1299, 1299, 1299, 1299, 1299, 1299, 1299, 1299, 1299, 1299, 1299, 1299, 1299, 1299, 1299, 1299, 1297, 1299, 1299] (by decide +kernel) (by decide +kernel)
theorem ka_X12_areDays : cd_X12_areDays.1.all (fun e => mm_okB mm_mth mm_nest (yX12_areDays, cX12_areDays, 2, (some .boolean)) e) = true := by decide +kernel
theorem kb_X12_areDays : GoodIn lw_tbl (cd_X12_areDays.1.flatMap (fun e => mm_wdE mm_mth yX12_areDays.cls e)) := goodIn_r _ [1469, 1470, 131, 1299] (by decide +kernel) (by decide +kernel)
theorem ka_X12_days : cd_X12_days.1.all (fun e => mm_okB mm_mth mm_nest (yX12_days, cX12_days, 3, (some .int)) e) = true := by decide +kernel
theorem kb_X12_days : GoodIn lw_tbl (cd_X12_days.1.flatMap (fun e => mm_wdE mm_mth yX12_days.cls e)) := goodIn_r _ [1298, 1469, 1470, 131, 1689, 1691, 96, 131, 1586, 1588, 82, 131, 1590, 1592, 83, 131, 1693, 1695, 97, 131, 1299] (by decide +kernel) (by decide +kernel)
theorem ka_X12_draught : cd_X12_draught.1.all (fun e => mm_okB mm_mth mm_nest (yX12_draught, cX12_draught, 2, (some .boolean)) e) = true := by decide +kernel
theorem kb_X12_draught : GoodIn lw_tbl (cd_X12_draught.1.flatMap (fun e => mm_wdE mm_mth yX12_draught.cls e)) := goodIn_r _ [1469, 1470, 131, 1302, 1302] (by decide +kernel) (by decide +kernel)
theorem ka_X12_draw : cd_X12_draw.1.all (fun e => mm_okB mm_mth mm_nest (yX12_draw, cX12_draw, 2, (some .int)) e) = true := by decide +kernel
theorem kb_X12_draw : GoodIn lw_tbl (cd_X12_draw.1.flatMap (fun e => mm_wdE mm_mth yX12_draw.cls e)) := goodIn_r _ [1305, 1717, 1718, 1305, 1305] (by decide +kernel) (by decide +kernel)
end
section
theorem ka_X12_drawDay : cd_X12_drawDay.1.all (fun e => mm_okB mm_mth mm_nest (yX12_drawDay, cX12_drawDay, 5, none) e) = true := by decide +kernel
theorem kb_X12_drawDay : GoodIn lw_tbl (cd_X12_drawDay.1.flatMap (fun e => mm_wdE mm_mth yX12_drawDay.cls e)) := goodIn_r _ [1297, 1713, 1715, 100, 131, 1713, 1715, 100, 131, 1582, 1584, 81, 131, 1624, 714, 133, 1594, 1596, 84, 131, 1298, 1298, 1713, 1715, 100, 131, 1633, 1635, 89, 131, 1637, 1639, 90, 131, 1713, 1715, 100, 131, 1302, 1649, 1651, 91, 131] (by decide +kernel) (by decide +kernel)
theorem ka_X12_years : cd_X12_years.1.all (fun e => mm_okB mm_mth mm_nest (yX12_years, cX12_years, 5, (some .int)) e) = true := by decide +kernel
theorem kb_X12_years : GoodIn lw_tbl (cd_X12_years.1.flatMap (fun e => mm_wdE mm_mth yX12_years.cls e)) := goodIn_r _ [1298, 1689, 1691, 96, 131, 1305, 1590, 1592, 83, 131, 1709, 1711, 99, 131, 1693, 1695, 97, 131, 1299] (by decide +kernel) (by decide +kernel)
theorem ka_X12_status : cd_X12_status.1.all (fun e => mm_okB mm_mth mm_nest (yX12_status, cX12_status, 2, (some .int)) e) = true := by decide +kernel
theorem kb_X12_status : GoodIn lw_tbl (cd_X12_status.1.flatMap (fun e => mm_wdE mm_mth yX12_status.cls e)) := goodIn_r _ [1469, 1470, 131, 1300] (by decide +kernel) (by decide +kernel)
theorem ka_X12_undo : cd_X12_undo.1.all (fun e => mm_okB mm_mth mm_nest (yX12_undo, cX12_undo, 2, (some .int)) e) = true := by decide +kernel
theorem kb_X12_undo : GoodIn lw_tbl (cd_X12_undo.1.flatMap (fun e => mm_wdE mm_mth yX12_undo.cls e)) := goodIn_r _ [1304, 1304, 1304, 1299, 1303, 1304, 1304] (by decide +kernel) (by decide +kernel)
theorem ka_X12_log : cd_X12_log.1.all (fun e => mm_okB mm_mth mm_nest (yX12_log, cX12_log, 3, (some .int)) e) = true := by decide +kernel
theorem kb_X12_log : GoodIn lw_tbl (cd_X12_log.1.flatMap (fun e => mm_wdE mm_mth yX12_log.cls e)) := goodIn_r _ [1299, 1469, 1470, 131, 1469, 1470, 131, 1299, 1299] (by decide +kernel) (by decide +kernel)
theorem ka_X12_putAside : cd_X12_putAside.1.all (fun e => mm_okB mm_mth mm_nest (yX12_putAside, cX12_putAside, 3, none) e) = true := by decide +kernel
theorem kb_X12_putAside : GoodIn lw_tbl (cd_X12_putAside.1.flatMap (fun e => mm_wdE mm_mth yX12_putAside.cls e)) := goodIn_r _ [1306, 1299] (by decide +kernel) (by decide +kernel)
theorem ka_X12_takeBack : cd_X12_takeBack.1.all (fun e => mm_okB mm_mth mm_nest (yX12_takeBack, cX12_takeBack, 3, none) e) = true := by decide +kernel
theorem kb_X12_takeBack : GoodIn lw_tbl (cd_X12_takeBack.1.flatMap (fun e => mm_wdE mm_mth yX12_takeBack.cls e)) := goodIn_r _ [1299, 1306] (by decide +kernel) (by decide +kernel)
theorem ka_X12_standsBehind : cd_X12_standsBehind.1.all (fun e => mm_okB mm_mth mm_nest (yX12_standsBehind, cX12_standsBehind, 4, (some .int)) e) = true := by decide +kernel
theorem kb_X12_standsBehind : GoodIn lw_tbl (cd_X12_standsBehind.1.flatMap (fun e => mm_wdE mm_mth yX12_standsBehind.cls e)) := goodIn_r _ [1739, 1741, 102, 131, 1582, 1584, 81, 131, 1624, 714, 133, 1594, 1596, 84, 131, 1299, 1743, 1745, 103, 131] (by decide +kernel) (by decide +kernel)
theorem ka_X12_behind : cd_X12_behind.1.all (fun e => mm_okB mm_mth mm_nest (yX12_behind, cX12_behind, 3, (some .int)) e) = true := by decide +kernel
theorem kb_X12_behind : GoodIn lw_tbl (cd_X12_behind.1.flatMap (fun e => mm_wdE mm_mth yX12_behind.cls e)) := goodIn_r _ [1558, 1560, 78, 131, 1469, 1470, 131, 1735, 1737, 101, 131] (by decide +kernel) (by decide +kernel)
theorem ka_X12_soonestOf : cd_X12_soonestOf.1.all (fun e => mm_okB mm_mth mm_nest (yX12_soonestOf, cX12_soonestOf, 4, (some .int)) e) = true := by decide +kernel
theorem kb_X12_soonestOf : GoodIn lw_tbl (cd_X12_soonestOf.1.flatMap (fun e => mm_wdE mm_mth yX12_soonestOf.cls e)) := goodIn_r _ [1582, 1584, 81, 131, 1735, 1737, 101, 131] (by decide +kernel) (by decide +kernel)
theorem ka_X12_soonest : cd_X12_soonest.1.all (fun e => mm_okB mm_mth mm_nest (yX12_soonest, cX12_soonest, 3, (some .int)) e) = true := by decide +kernel
theorem kb_X12_soonest : GoodIn lw_tbl (cd_X12_soonest.1.flatMap (fun e => mm_wdE mm_mth yX12_soonest.cls e)) := goodIn_r _ [1558, 1560, 78, 131, 1469, 1470, 131, 1751, 1753, 104, 131] (by decide +kernel) (by decide +kernel)
theorem ka_X12_stop : cd_X12_stop.1.all (fun e => mm_okB mm_mth mm_nest (yX12_stop, cX12_stop, 5, (some .int)) e) = true := by decide +kernel
theorem kb_X12_stop : GoodIn lw_tbl (cd_X12_stop.1.flatMap (fun e => mm_wdE mm_mth yX12_stop.cls e)) := goodIn_r _ [1558, 1560, 78, 131, 1469, 1470, 131, 1582, 1584, 81, 131, 1735, 1737, 101, 131, 1735, 1737, 101, 131, 1735, 1737, 101, 131] (by decide +kernel) (by decide +kernel)
theorem ka_X12_best : cd_X12_best.1.all (fun e => mm_okB mm_mth mm_nest (yX12_best, cX12_best, 6, (some .int)) e) = true := by decide +kernel
theorem kb_X12_best : GoodIn lw_tbl (cd_X12_best.1.flatMap (fun e => mm_wdE mm_mth yX12_best.cls e)) := goodIn_r _ [1298, 1469, 1470, 131, 1297, 1751, 1753, 104, 131] (by decide +kernel) (by decide +kernel)
theorem ka_X12_nextOf : cd_X12_nextOf.1.all (fun e => mm_okB mm_mth mm_nest (yX12_nextOf, cX12_nextOf, 3, (some .int)) e) = true := by decide +kernel
theorem kb_X12_nextOf : GoodIn lw_tbl (cd_X12_nextOf.1.flatMap (fun e => mm_wdE mm_mth yX12_nextOf.cls e)) := goodIn_r _ [1582, 1584, 81, 131, 1582, 1584, 81, 131] (by decide +kernel) (by decide +kernel)
theorem ka_X12_byTurns : cd_X12_byTurns.1.all (fun e => mm_okB mm_mth mm_nest (yX12_byTurns, cX12_byTurns, 7, (some .int)) e) = true := by decide +kernel
theorem kb_X12_byTurns : GoodIn lw_tbl (cd_X12_byTurns.1.flatMap (fun e => mm_wdE mm_mth yX12_byTurns.cls e)) := goodIn_r _ [1767, 1769, 105, 131, 1469, 1470, 131, 1739, 1741, 102, 131, 1771, 1773, 106, 131, 1299, 1598, 1600, 85, 131, 1771, 1773, 106, 131, 1771, 1773, 106, 131, 1299, 1743, 1745, 103, 131] (by decide +kernel) (by decide +kernel)
theorem ka_X12_tryRow : cd_X12_tryRow.1.all (fun e => mm_okB mm_mth mm_nest (yX12_tryRow, cX12_tryRow, 6, none) e) = true := by decide +kernel
theorem kb_X12_tryRow : GoodIn lw_tbl (cd_X12_tryRow.1.flatMap (fun e => mm_wdE mm_mth yX12_tryRow.cls e)) := goodIn_r _ [1308, 1308, 1299, 1309, 1310, 1310, 1307, 1307, 1308, 1299, 1309, 1310, 1739, 1741, 102, 131, 1298, 1633, 1635, 89, 131, 1637, 1639, 90, 131, 1570, 1572, 80, 131, 1779, 1781, 107, 131, 1743, 1745, 103, 131] (by decide +kernel) (by decide +kernel)
theorem ka_X12_row : cd_X12_row.1.all (fun e => mm_okB mm_mth mm_nest (yX12_row, cX12_row, 2, (some .int)) e) = true := by decide +kernel
theorem kb_X12_row : GoodIn lw_tbl (cd_X12_row.1.flatMap (fun e => mm_wdE mm_mth yX12_row.cls e)) := goodIn_r _ [1298, 1469, 1470, 131, 1308, 1779, 1781, 107, 131, 1310, 1307, 1308, 1309] (by decide +kernel) (by decide +kernel)
theorem ka_X12_lasts : cd_X12_lasts.1.all (fun e => mm_okB mm_mth mm_nest (yX12_lasts, cX12_lasts, 3, (some .int)) e) = true := by decide +kernel
theorem kb_X12_lasts : GoodIn lw_tbl (cd_X12_lasts.1.flatMap (fun e => mm_wdE mm_mth yX12_lasts.cls e)) := goodIn_r _ [1298, 1739, 1741, 102, 131, 1299, 1661, 1663, 93, 131, 1299, 1743, 1745, 103, 131] (by decide +kernel) (by decide +kernel)
theorem ka_X12_isUp : cd_X12_isUp.1.all (fun e => mm_okB mm_mth mm_nest (yX12_isUp, cX12_isUp, 4, (some .boolean)) e) = true := by decide +kernel
theorem kb_X12_isUp : GoodIn lw_tbl (cd_X12_isUp.1.flatMap (fun e => mm_wdE mm_mth yX12_isUp.cls e)) := goodIn_r _ [1739, 1741, 102, 131, 1299, 1661, 1663, 93, 131, 1299, 1743, 1745, 103, 131] (by decide +kernel) (by decide +kernel)
theorem ka_X12_holds : cd_X12_holds.1.all (fun e => mm_okB mm_mth mm_nest (yX12_holds, cX12_holds, 3, (some .int)) e) = true := by decide +kernel
theorem kb_X12_holds : GoodIn lw_tbl (cd_X12_holds.1.flatMap (fun e => mm_wdE mm_mth yX12_holds.cls e)) := goodIn_r _ [1298, 1469, 1470, 131, 1791, 1793, 108, 131] (by decide +kernel) (by decide +kernel)
theorem ka_X12_seen : cd_X12_seen.1.all (fun e => mm_okB mm_mth mm_nest (yX12_seen, cX12_seen, 5, (some .int)) e) = true := by decide +kernel
theorem kb_X12_seen : GoodIn lw_tbl (cd_X12_seen.1.flatMap (fun e => mm_wdE mm_mth yX12_seen.cls e)) := goodIn_r _ [1558, 1560, 78, 131, 1469, 1470, 131, 1469, 1470, 131, 1315, 1311, 1315, 1312, 1315, 1313, 1315, 1314, 1315, 1315, 1315, 1315] (by decide +kernel) (by decide +kernel)
theorem ka_X12_morning : cd_X12_morning.1.all (fun e => mm_okB mm_mth mm_nest (yX12_morning, cX12_morning, 6, (some .int)) e) = true := by decide +kernel
theorem kb_X12_morning : GoodIn lw_tbl (cd_X12_morning.1.flatMap (fun e => mm_wdE mm_mth yX12_morning.cls e)) := goodIn_r _ [1299, 1602, 1604, 86, 131] (by decide +kernel) (by decide +kernel)
theorem ka_X12_isYolk : cd_X12_isYolk.1.all (fun e => mm_okB mm_mth mm_nest (yX12_isYolk, cX12_isYolk, 3, (some .boolean)) e) = true := by decide +kernel
theorem kb_X12_isYolk : GoodIn lw_tbl (cd_X12_isYolk.1.flatMap (fun e => mm_wdE mm_mth yX12_isYolk.cls e)) := goodIn_r _ [1315, 1311, 1312, 1807, 1809, 110, 131, 1313, 1314] (by decide +kernel) (by decide +kernel)
theorem ka_X12_fits : cd_X12_fits.1.all (fun e => mm_okB mm_mth mm_nest (yX12_fits, cX12_fits, 4, (some .int)) e) = true := by decide +kernel
theorem kb_X12_fits : GoodIn lw_tbl (cd_X12_fits.1.flatMap (fun e => mm_wdE mm_mth yX12_fits.cls e)) := goodIn_r _ [1298, 1803, 1805, 109, 131] (by decide +kernel) (by decide +kernel)
theorem ka_X12_probe : cd_X12_probe.1.all (fun e => mm_okB mm_mth mm_nest (yX12_probe, cX12_probe, 9, (some .int)) e) = true := by decide +kernel
theorem kb_X12_probe : GoodIn lw_tbl (cd_X12_probe.1.flatMap (fun e => mm_wdE mm_mth yX12_probe.cls e)) := goodIn_r _ [1558, 1560, 78, 131, 1469, 1470, 131, 1815, 1800, 1801, 131, 1803, 1805, 109, 131, 1452, 1453, 131, 1807, 1809, 110, 131, 1816, 1106, 133, 1816, 1106, 133] (by decide +kernel) (by decide +kernel)
theorem ka_X12_gameOf : cd_X12_gameOf.1.all (fun e => mm_okB mm_mth mm_nest (yX12_gameOf, cX12_gameOf, 7, (some .int)) e) = true := by decide +kernel
theorem kb_X12_gameOf : GoodIn lw_tbl (cd_X12_gameOf.1.flatMap (fun e => mm_wdE mm_mth yX12_gameOf.cls e)) := goodIn_r _ [1739, 1741, 102, 131, 1594, 1596, 84, 131, 1594, 1596, 84, 131, 1299, 1743, 1745, 103, 131] (by decide +kernel) (by decide +kernel)
theorem ka_X12_areTwo : cd_X12_areTwo.1.all (fun e => mm_okB mm_mth mm_nest (yX12_areTwo, cX12_areTwo, 3, (some .boolean)) e) = true := by decide +kernel
theorem kb_X12_areTwo : GoodIn lw_tbl (cd_X12_areTwo.1.flatMap (fun e => mm_wdE mm_mth yX12_areTwo.cls e)) := goodIn_r _ [1558, 1560, 78, 131, 1558, 1560, 78, 131] (by decide +kernel) (by decide +kernel)
theorem ka_X12_game : cd_X12_game.1.all (fun e => mm_okB mm_mth mm_nest (yX12_game, cX12_game, 6, (some .int)) e) = true := by decide +kernel
theorem kb_X12_game : GoodIn lw_tbl (cd_X12_game.1.flatMap (fun e => mm_wdE mm_mth yX12_game.cls e)) := goodIn_r _ [1767, 1769, 105, 131, 1469, 1470, 131, 1469, 1470, 131, 1469, 1470, 131, 1821, 1822, 1824, 111, 131] (by decide +kernel) (by decide +kernel)
theorem ka_X12_isRest : cd_X12_isRest.1.all (fun e => mm_okB mm_mth mm_nest (yX12_isRest, cX12_isRest, 6, (some .boolean)) e) = true := by decide +kernel
theorem kb_X12_isRest : GoodIn lw_tbl (cd_X12_isRest.1.flatMap (fun e => mm_wdE mm_mth yX12_isRest.cls e)) := goodIn_r _ [1822, 1824, 111, 131, 1822, 1824, 111, 131, 1822, 1824, 111, 131, 1822, 1824, 111, 131] (by decide +kernel) (by decide +kernel)
theorem ka_X12_rests : cd_X12_rests.1.all (fun e => mm_okB mm_mth mm_nest (yX12_rests, cX12_rests, 6, (some .int)) e) = true := by decide +kernel
theorem kb_X12_rests : GoodIn lw_tbl (cd_X12_rests.1.flatMap (fun e => mm_wdE mm_mth yX12_rests.cls e)) := goodIn_r _ [1767, 1769, 105, 131, 1830, 1832, 112, 131] (by decide +kernel) (by decide +kernel)
theorem ka_X12_oddsFrom : cd_X12_oddsFrom.1.all (fun e => mm_okB mm_mth mm_nest (yX12_oddsFrom, cX12_oddsFrom, 9, (some .int)) e) = true := by decide +kernel
theorem kb_X12_oddsFrom : GoodIn lw_tbl (cd_X12_oddsFrom.1.flatMap (fun e => mm_wdE mm_mth yX12_oddsFrom.cls e)) := goodIn_r _ [1299, 1843, 1739, 1741, 102, 131, 1649, 1651, 91, 131, 1661, 1663, 93, 131, 1839, 1841, 113, 131, 1743, 1745, 103, 131] (by decide +kernel) (by decide +kernel)
theorem ka_X12_odds : cd_X12_odds.1.all (fun e => mm_okB mm_mth mm_nest (yX12_odds, cX12_odds, 4, (some .int)) e) = true := by decide +kernel
theorem kb_X12_odds : GoodIn lw_tbl (cd_X12_odds.1.flatMap (fun e => mm_wdE mm_mth yX12_odds.cls e)) := goodIn_r _ [1298, 1469, 1470, 131, 1469, 1470, 131, 1469, 1470, 131, 1838, 1839, 1841, 113, 131] (by decide +kernel) (by decide +kernel)
theorem ka_X12_shares : cd_X12_shares.1.all (fun e => mm_okB mm_mth mm_nest (yX12_shares, cX12_shares, 5, (some .int)) e) = true := by decide +kernel
theorem kb_X12_shares : GoodIn lw_tbl (cd_X12_shares.1.flatMap (fun e => mm_wdE mm_mth yX12_shares.cls e)) := goodIn_r _ [1558, 1560, 78, 131, 1469, 1470, 131, 1297, 1299, 1299] (by decide +kernel) (by decide +kernel)
theorem ka_X12_topMinister : cd_X12_topMinister.1.all (fun e => mm_okB mm_mth mm_nest (yX12_topMinister, cX12_topMinister, 4, (some .int)) e) = true := by decide +kernel
theorem kb_X12_topMinister : GoodIn lw_tbl (cd_X12_topMinister.1.flatMap (fun e => mm_wdE mm_mth yX12_topMinister.cls e)) := goodIn_r _ [1298, 1570, 1572, 80, 131, 1570, 1572, 80, 131] (by decide +kernel) (by decide +kernel)
theorem ka_X12_topCook : cd_X12_topCook.1.all (fun e => mm_okB mm_mth mm_nest (yX12_topCook, cX12_topCook, 5, (some .int)) e) = true := by decide +kernel
theorem kb_X12_topCook : GoodIn lw_tbl (cd_X12_topCook.1.flatMap (fun e => mm_wdE mm_mth yX12_topCook.cls e)) := goodIn_r _ [1297, 1299, 1299, 1582, 1584, 81, 131, 1582, 1584, 81, 131] (by decide +kernel) (by decide +kernel)
theorem ka_X12_could : cd_X12_could.1.all (fun e => mm_okB mm_mth mm_nest (yX12_could, cX12_could, 3, (some .int)) e) = true := by decide +kernel
theorem kb_X12_could : GoodIn lw_tbl (cd_X12_could.1.flatMap (fun e => mm_wdE mm_mth yX12_could.cls e)) := goodIn_r _ [1298, 1633, 1635, 89, 131] (by decide +kernel) (by decide +kernel)
theorem ka_X12_doors : cd_X12_doors.1.all (fun e => mm_okB mm_mth mm_nest (yX12_doors, cX12_doors, 3, (some .int)) e) = true := by decide +kernel
theorem kb_X12_doors : GoodIn lw_tbl (cd_X12_doors.1.flatMap (fun e => mm_wdE mm_mth yX12_doors.cls e)) := goodIn_r _ [1299] (by decide +kernel) (by decide +kernel)
theorem ka_X12_most : cd_X12_most.1.all (fun e => mm_okB mm_mth mm_nest (yX12_most, cX12_most, 2, (some .int)) e) = true := by decide +kernel
theorem kb_X12_most : GoodIn lw_tbl (cd_X12_most.1.flatMap (fun e => mm_wdE mm_mth yX12_most.cls e)) := goodIn_r _ [1298, 1852, 1854, 114, 131, 1852, 1854, 114, 131, 1852, 1854, 114, 131, 1856, 1858, 115, 131, 1856, 1858, 115, 131, 1299, 1860, 1862, 116, 131, 1669, 1671, 95, 131, 1864, 1866, 117, 131, 1697, 1699, 98, 131] (by decide +kernel) (by decide +kernel)
theorem ka_X12_ahead : cd_X12_ahead.1.all (fun e => mm_okB mm_mth mm_nest (yX12_ahead, cX12_ahead, 3, (some .int)) e) = true := by decide +kernel
theorem kb_X12_ahead : GoodIn lw_tbl (cd_X12_ahead.1.flatMap (fun e => mm_wdE mm_mth yX12_ahead.cls e)) := goodIn_r _ [1298, 1469, 1470, 131, 1299, 1697, 1699, 98, 131] (by decide +kernel) (by decide +kernel)
theorem ka_X12_image : cd_X12_image.1.all (fun e => mm_okB mm_mth mm_nest (yX12_image, cX12_image, 2, (some .int)) e) = true := by decide +kernel
theorem kb_X12_image : GoodIn lw_tbl (cd_X12_image.1.flatMap (fun e => mm_wdE mm_mth yX12_image.cls e)) := goodIn_r _ [1298, 1316, 1299, 1317, 1299] (by decide +kernel) (by decide +kernel)
theorem ka_X12_back : cd_X12_back.1.all (fun e => mm_okB mm_mth mm_nest (yX12_back, cX12_back, 2, (some .int)) e) = true := by decide +kernel
theorem kb_X12_back : GoodIn lw_tbl (cd_X12_back.1.flatMap (fun e => mm_wdE mm_mth yX12_back.cls e)) := goodIn_r _ [1317, 1299, 1316, 1304, 1299] (by decide +kernel) (by decide +kernel)
theorem ka_X12_count : cd_X12_count.1.all (fun e => mm_okB mm_mth mm_nest (yX12_count, cX12_count, 2, (some .int)) e) = true := by decide +kernel
theorem kb_X12_count : GoodIn lw_tbl (cd_X12_count.1.flatMap (fun e => mm_wdE mm_mth yX12_count.cls e)) := goodIn_r _ [1298, 1297, 1285, 1274, 1301, 1299, 1299, 1299, 1299, 1299, 1299, 1302, 1315, 1299, 1304, 1821] (by decide +kernel) (by decide +kernel)
theorem ka_J6_numberOfTrailingZeros_0f7a4 : cd_J6_numberOfTrailingZeros_0f7a4.1.all (fun e => mm_okB mm_mth mm_nest (yJ6_numberOfTrailingZeros_0f7a4, cJ6_numberOfTrailingZeros_0f7a4, 2, (some .int)) e) = true := by decide +kernel
theorem kb_J6_numberOfTrailingZeros_0f7a4 : GoodIn lw_tbl (cd_J6_numberOfTrailingZeros_0f7a4.1.flatMap (fun e => mm_wdE mm_mth yJ6_numberOfTrailingZeros_0f7a4.cls e)) := goodIn_r _ [1011] (by decide +kernel) (by decide +kernel)
theorem ka_J6_bitCount_0f7a4 : cd_J6_bitCount_0f7a4.1.all (fun e => mm_okB mm_mth mm_nest (yJ6_bitCount_0f7a4, cJ6_bitCount_0f7a4, 1, (some .int)) e) = true := by decide +kernel
theorem kb_J6_bitCount_0f7a4 : GoodIn lw_tbl (cd_J6_bitCount_0f7a4.1.flatMap (fun e => mm_wdE mm_mth yJ6_bitCount_0f7a4.cls e)) := goodIn_r _ [1041, 1042, 1042, 1043] (by decide +kernel) (by decide +kernel)
theorem ka_J9_floorMod_7cf53 : cd_J9_floorMod_7cf53.1.all (fun e => mm_okB mm_mth mm_nest (yJ9_floorMod_7cf53, cJ9_floorMod_7cf53, 3, (some .int)) e) = true := by decide +kernel
theorem kb_J9_floorMod_7cf53 : GoodIn lw_tbl (cd_J9_floorMod_7cf53.1.flatMap (fun e => mm_wdE mm_mth yJ9_floorMod_7cf53.cls e)) := goodIn_r _ [] (by decide +kernel) (by decide +kernel)
theorem ka_J9_abs_0f7a4 : cd_J9_abs_0f7a4.1.all (fun e => mm_okB mm_mth mm_nest (yJ9_abs_0f7a4, cJ9_abs_0f7a4, 1, (some .int)) e) = true := by decide +kernel
theorem kb_J9_abs_0f7a4 : GoodIn lw_tbl (cd_J9_abs_0f7a4.1.flatMap (fun e => mm_wdE mm_mth yJ9_abs_0f7a4.cls e)) := goodIn_r _ [] (by decide +kernel) (by decide +kernel)
theorem ka_J9_max_7cf53 : cd_J9_max_7cf53.1.all (fun e => mm_okB mm_mth mm_nest (yJ9_max_7cf53, cJ9_max_7cf53, 2, (some .int)) e) = true := by decide +kernel
theorem kb_J9_max_7cf53 : GoodIn lw_tbl (cd_J9_max_7cf53.1.flatMap (fun e => mm_wdE mm_mth yJ9_max_7cf53.cls e)) := goodIn_r _ [] (by decide +kernel) (by decide +kernel)
theorem ka_J9_max_f86c9 : cd_J9_max_f86c9.1.all (fun e => mm_okB mm_mth mm_nest (yJ9_max_f86c9, cJ9_max_f86c9, 4, (some .long)) e) = true := by decide +kernel
theorem kb_J9_max_f86c9 : GoodIn lw_tbl (cd_J9_max_f86c9.1.flatMap (fun e => mm_wdE mm_mth yJ9_max_f86c9.cls e)) := goodIn_r _ [] (by decide +kernel) (by decide +kernel)
theorem ka_J9_min_7cf53 : cd_J9_min_7cf53.1.all (fun e => mm_okB mm_mth mm_nest (yJ9_min_7cf53, cJ9_min_7cf53, 2, (some .int)) e) = true := by decide +kernel
theorem kb_J9_min_7cf53 : GoodIn lw_tbl (cd_J9_min_7cf53.1.flatMap (fun e => mm_wdE mm_mth yJ9_min_7cf53.cls e)) := goodIn_r _ [] (by decide +kernel) (by decide +kernel)
theorem ka_J9_min_f86c9 : cd_J9_min_f86c9.1.all (fun e => mm_okB mm_mth mm_nest (yJ9_min_f86c9, cJ9_min_f86c9, 4, (some .long)) e) = true := by decide +kernel
theorem kb_J9_min_f86c9 : GoodIn lw_tbl (cd_J9_min_f86c9.1.flatMap (fun e => mm_wdE mm_mth yJ9_min_f86c9.cls e)) := goodIn_r _ [] (by decide +kernel) (by decide +kernel)
theorem ka_J7_fill_53178 : cd_J7_fill_53178.1.all (fun e => mm_okB mm_mth mm_nest (yJ7_fill_53178, cJ7_fill_53178, 4, none) e) = true := by decide +kernel
theorem kb_J7_fill_53178 : GoodIn lw_tbl (cd_J7_fill_53178.1.flatMap (fun e => mm_wdE mm_mth yJ7_fill_53178.cls e)) := goodIn_r _ [] (by decide +kernel) (by decide +kernel)
theorem ka_J7_copyOf_59c91 : cd_J7_copyOf_59c91.1.all (fun e => mm_okB mm_mth mm_nest (yJ7_copyOf_59c91, cJ7_copyOf_59c91, 3, (some (.array .int))) e) = true := by decide +kernel
theorem kb_J7_copyOf_59c91 : GoodIn lw_tbl (cd_J7_copyOf_59c91.1.flatMap (fun e => mm_wdE mm_mth yJ7_copyOf_59c91.cls e)) := goodIn_r _ [164, 713, 714, 133, 716, 672, 671, 134] (by decide +kernel) (by decide +kernel)
end
