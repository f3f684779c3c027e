section
-- ===== PART A: goes FIRST, ahead of the names: the tables' words, and 'selects' of the private methods out of them =====
/-- a private method of a class that the tables say can be made, by its rows of tables_1 -/
def lw_okq (q : MethodName × Nat) : Prop := (q.1.cls ≠ "java/lang/invoke/MethodHandle" ∧ q.1.cls ≠ "java/lang/invoke/VarHandle") ∧ Cond.instantiable q.1.cls q.2 ∈ tables_1 ∧ Cond.privateMethod q.1 ∈ tables_1 ∧ Cond.instanceMethod q.1 ∈ tables_1
theorem lw_p0 : lw_okq (⟨"WhiskedDuchy$Told", "fillWithout", "(II)V"⟩, 2) := ⟨⟨by decide +kernel, by decide +kernel⟩, List.mem_of_getElem? (i := 54) (by decide +kernel), List.mem_of_getElem? (i := 364) (by decide +kernel), List.mem_of_getElem? (i := 365) (by decide +kernel)⟩
theorem lw_p1 : lw_okq (⟨"WhiskedDuchy$DuchyReader", "isClauseNext", "()Z"⟩, 2) := ⟨⟨by decide +kernel, by decide +kernel⟩, List.mem_of_getElem? (i := 48) (by decide +kernel), List.mem_of_getElem? (i := 395) (by decide +kernel), List.mem_of_getElem? (i := 396) (by decide +kernel)⟩
theorem lw_p2 : lw_okq (⟨"WhiskedDuchy$DuchyReader", "isValueNext", "(III)Z"⟩, 2) := ⟨⟨by decide +kernel, by decide +kernel⟩, List.mem_of_getElem? (i := 48) (by decide +kernel), List.mem_of_getElem? (i := 426) (by decide +kernel), List.mem_of_getElem? (i := 427) (by decide +kernel)⟩
theorem lw_p3 : lw_okq (⟨"WhiskedDuchy$Tape", "isDigitHere", "()Z"⟩, 3) := ⟨⟨by decide +kernel, by decide +kernel⟩, List.mem_of_getElem? (i := 31) (by decide +kernel), List.mem_of_getElem? (i := 437) (by decide +kernel), List.mem_of_getElem? (i := 438) (by decide +kernel)⟩
theorem lw_p4 : lw_okq (⟨"WhiskedDuchy$LawReader", "isClauseNext", "()Z"⟩, 3) := ⟨⟨by decide +kernel, by decide +kernel⟩, List.mem_of_getElem? (i := 74) (by decide +kernel), List.mem_of_getElem? (i := 477) (by decide +kernel), List.mem_of_getElem? (i := 478) (by decide +kernel)⟩
theorem lw_p5 : lw_okq (⟨"WhiskedDuchy$LawReader", "isConditionNext", "(I)Z"⟩, 3) := ⟨⟨by decide +kernel, by decide +kernel⟩, List.mem_of_getElem? (i := 74) (by decide +kernel), List.mem_of_getElem? (i := 483) (by decide +kernel), List.mem_of_getElem? (i := 484) (by decide +kernel)⟩
theorem lw_p6 : lw_okq (⟨"WhiskedDuchy$LawReader", "isTruthNext", "(I)Z"⟩, 3) := ⟨⟨by decide +kernel, by decide +kernel⟩, List.mem_of_getElem? (i := 74) (by decide +kernel), List.mem_of_getElem? (i := 487) (by decide +kernel), List.mem_of_getElem? (i := 488) (by decide +kernel)⟩
theorem lw_p7 : lw_okq (⟨"WhiskedDuchy$LawReader", "isUnitNext", "(I)Z"⟩, 3) := ⟨⟨by decide +kernel, by decide +kernel⟩, List.mem_of_getElem? (i := 74) (by decide +kernel), List.mem_of_getElem? (i := 491) (by decide +kernel), List.mem_of_getElem? (i := 492) (by decide +kernel)⟩
theorem lw_p8 : lw_okq (⟨"WhiskedDuchy$LawReader", "isSumNext", "(I)Z"⟩, 3) := ⟨⟨by decide +kernel, by decide +kernel⟩, List.mem_of_getElem? (i := 74) (by decide +kernel), List.mem_of_getElem? (i := 495) (by decide +kernel), List.mem_of_getElem? (i := 496) (by decide +kernel)⟩
theorem lw_p9 : lw_okq (⟨"WhiskedDuchy$LawReader", "isTermNext", "(I)Z"⟩, 3) := ⟨⟨by decide +kernel, by decide +kernel⟩, List.mem_of_getElem? (i := 74) (by decide +kernel), List.mem_of_getElem? (i := 499) (by decide +kernel), List.mem_of_getElem? (i := 500) (by decide +kernel)⟩
theorem lw_p10 : lw_okq (⟨"WhiskedDuchy$LawReader", "isAtomNext", "(I)Z"⟩, 3) := ⟨⟨by decide +kernel, by decide +kernel⟩, List.mem_of_getElem? (i := 74) (by decide +kernel), List.mem_of_getElem? (i := 503) (by decide +kernel), List.mem_of_getElem? (i := 504) (by decide +kernel)⟩
theorem lw_p11 : lw_okq (⟨"WhiskedDuchy$LawReader", "write", "(I)V"⟩, 3) := ⟨⟨by decide +kernel, by decide +kernel⟩, List.mem_of_getElem? (i := 74) (by decide +kernel), List.mem_of_getElem? (i := 509) (by decide +kernel), List.mem_of_getElem? (i := 510) (by decide +kernel)⟩
theorem lw_p12 : lw_okq (⟨"WhiskedDuchy$LawReader", "isComparedNext", "(I)Z"⟩, 3) := ⟨⟨by decide +kernel, by decide +kernel⟩, List.mem_of_getElem? (i := 74) (by decide +kernel), List.mem_of_getElem? (i := 517) (by decide +kernel), List.mem_of_getElem? (i := 518) (by decide +kernel)⟩
theorem lw_p13 : lw_okq (⟨"WhiskedDuchy$LawReader", "areUnitsNext", "(I)Z"⟩, 3) := ⟨⟨by decide +kernel, by decide +kernel⟩, List.mem_of_getElem? (i := 74) (by decide +kernel), List.mem_of_getElem? (i := 524) (by decide +kernel), List.mem_of_getElem? (i := 525) (by decide +kernel)⟩
theorem lw_p14 : lw_okq (⟨"WhiskedDuchy$LawReader", "areTruthsNext", "(I)Z"⟩, 3) := ⟨⟨by decide +kernel, by decide +kernel⟩, List.mem_of_getElem? (i := 74) (by decide +kernel), List.mem_of_getElem? (i := 528) (by decide +kernel), List.mem_of_getElem? (i := 529) (by decide +kernel)⟩
theorem lw_p15 : lw_okq (⟨"WhiskedDuchy$LawReader", "isSumBehindCondition", "()Z"⟩, 3) := ⟨⟨by decide +kernel, by decide +kernel⟩, List.mem_of_getElem? (i := 74) (by decide +kernel), List.mem_of_getElem? (i := 532) (by decide +kernel), List.mem_of_getElem? (i := 533) (by decide +kernel)⟩
def lw_privs_1 : List (MethodName × Nat) := [(⟨"WhiskedDuchy$Told", "fillWithout", "(II)V"⟩, 2), (⟨"WhiskedDuchy$DuchyReader", "isClauseNext", "()Z"⟩, 2), (⟨"WhiskedDuchy$DuchyReader", "isValueNext", "(III)Z"⟩, 2), (⟨"WhiskedDuchy$Tape", "isDigitHere", "()Z"⟩, 3), (⟨"WhiskedDuchy$LawReader", "isClauseNext", "()Z"⟩, 3), (⟨"WhiskedDuchy$LawReader", "isConditionNext", "(I)Z"⟩, 3), (⟨"WhiskedDuchy$LawReader", "isTruthNext", "(I)Z"⟩, 3), (⟨"WhiskedDuchy$LawReader", "isUnitNext", "(I)Z"⟩, 3), (⟨"WhiskedDuchy$LawReader", "isSumNext", "(I)Z"⟩, 3), (⟨"WhiskedDuchy$LawReader", "isTermNext", "(I)Z"⟩, 3), (⟨"WhiskedDuchy$LawReader", "isAtomNext", "(I)Z"⟩, 3), (⟨"WhiskedDuchy$LawReader", "write", "(I)V"⟩, 3), (⟨"WhiskedDuchy$LawReader", "isComparedNext", "(I)Z"⟩, 3), (⟨"WhiskedDuchy$LawReader", "areUnitsNext", "(I)Z"⟩, 3), (⟨"WhiskedDuchy$LawReader", "areTruthsNext", "(I)Z"⟩, 3), (⟨"WhiskedDuchy$LawReader", "isSumBehindCondition", "()Z"⟩, 3)]
theorem lw_r1 : ∀ q ∈ lw_privs_1, lw_okq q := List.forall_mem_cons.mpr ⟨lw_p0, List.forall_mem_cons.mpr ⟨lw_p1, List.forall_mem_cons.mpr ⟨lw_p2, List.forall_mem_cons.mpr ⟨lw_p3, List.forall_mem_cons.mpr ⟨lw_p4, List.forall_mem_cons.mpr ⟨lw_p5, List.forall_mem_cons.mpr ⟨lw_p6, List.forall_mem_cons.mpr ⟨lw_p7, List.forall_mem_cons.mpr ⟨lw_p8, List.forall_mem_cons.mpr ⟨lw_p9, List.forall_mem_cons.mpr ⟨lw_p10, List.forall_mem_cons.mpr ⟨lw_p11, List.forall_mem_cons.mpr ⟨lw_p12, List.forall_mem_cons.mpr ⟨lw_p13, List.forall_mem_cons.mpr ⟨lw_p14, List.forall_mem_cons.mpr ⟨lw_p15, fun _ h => absurd h List.not_mem_nil⟩⟩⟩⟩⟩⟩⟩⟩⟩⟩⟩⟩⟩⟩⟩⟩
theorem lw_p16 : lw_okq (⟨"WhiskedDuchy", "beginDuchy", "()V"⟩, 19) := ⟨⟨by decide +kernel, by decide +kernel⟩, List.mem_of_getElem? (i := 23) (by decide +kernel), List.mem_of_getElem? (i := 541) (by decide +kernel), List.mem_of_getElem? (i := 542) (by decide +kernel)⟩
theorem lw_p17 : lw_okq (⟨"WhiskedDuchy", "hasCook", "(I)Z"⟩, 19) := ⟨⟨by decide +kernel, by decide +kernel⟩, List.mem_of_getElem? (i := 23) (by decide +kernel), List.mem_of_getElem? (i := 622) (by decide +kernel), List.mem_of_getElem? (i := 623) (by decide +kernel)⟩
theorem lw_p18 : lw_okq (⟨"WhiskedDuchy", "refuse", "(I)I"⟩, 19) := ⟨⟨by decide +kernel, by decide +kernel⟩, List.mem_of_getElem? (i := 23) (by decide +kernel), List.mem_of_getElem? (i := 639) (by decide +kernel), List.mem_of_getElem? (i := 640) (by decide +kernel)⟩
theorem lw_p19 : lw_okq (⟨"WhiskedDuchy", "strokesLeft", "(I)I"⟩, 19) := ⟨⟨by decide +kernel, by decide +kernel⟩, List.mem_of_getElem? (i := 23) (by decide +kernel), List.mem_of_getElem? (i := 643) (by decide +kernel), List.mem_of_getElem? (i := 644) (by decide +kernel)⟩
theorem lw_p20 : lw_okq (⟨"WhiskedDuchy", "whisk", "(II)V"⟩, 19) := ⟨⟨by decide +kernel, by decide +kernel⟩, List.mem_of_getElem? (i := 23) (by decide +kernel), List.mem_of_getElem? (i := 658) (by decide +kernel), List.mem_of_getElem? (i := 659) (by decide +kernel)⟩
theorem lw_p21 : lw_okq (⟨"WhiskedDuchy", "whisked", "(IIII)I"⟩, 19) := ⟨⟨by decide +kernel, by decide +kernel⟩, List.mem_of_getElem? (i := 23) (by decide +kernel), List.mem_of_getElem? (i := 662) (by decide +kernel), List.mem_of_getElem? (i := 663) (by decide +kernel)⟩
theorem lw_p22 : lw_okq (⟨"WhiskedDuchy$Laws", "pop", "()I"⟩, 11) := ⟨⟨by decide +kernel, by decide +kernel⟩, List.mem_of_getElem? (i := 90) (by decide +kernel), List.mem_of_getElem? (i := 674) (by decide +kernel), List.mem_of_getElem? (i := 675) (by decide +kernel)⟩
theorem lw_p23 : lw_okq (⟨"WhiskedDuchy$Laws", "push", "(J)V"⟩, 11) := ⟨⟨by decide +kernel, by decide +kernel⟩, List.mem_of_getElem? (i := 90) (by decide +kernel), List.mem_of_getElem? (i := 678) (by decide +kernel), List.mem_of_getElem? (i := 679) (by decide +kernel)⟩
theorem lw_p24 : lw_okq (⟨"WhiskedDuchy$Laws", "apply", "(I)V"⟩, 11) := ⟨⟨by decide +kernel, by decide +kernel⟩, List.mem_of_getElem? (i := 90) (by decide +kernel), List.mem_of_getElem? (i := 690) (by decide +kernel), List.mem_of_getElem? (i := 691) (by decide +kernel)⟩
theorem lw_p25 : lw_okq (⟨"WhiskedDuchy", "hasMinister", "(I)Z"⟩, 19) := ⟨⟨by decide +kernel, by decide +kernel⟩, List.mem_of_getElem? (i := 23) (by decide +kernel), List.mem_of_getElem? (i := 710) (by decide +kernel), List.mem_of_getElem? (i := 711) (by decide +kernel)⟩
theorem lw_p26 : lw_okq (⟨"WhiskedDuchy", "isInside", "(I)Z"⟩, 19) := ⟨⟨by decide +kernel, by decide +kernel⟩, List.mem_of_getElem? (i := 23) (by decide +kernel), List.mem_of_getElem? (i := 714) (by decide +kernel), List.mem_of_getElem? (i := 715) (by decide +kernel)⟩
theorem lw_p27 : lw_okq (⟨"WhiskedDuchy", "canFold", "(I)Z"⟩, 19) := ⟨⟨by decide +kernel, by decide +kernel⟩, List.mem_of_getElem? (i := 23) (by decide +kernel), List.mem_of_getElem? (i := 718) (by decide +kernel), List.mem_of_getElem? (i := 719) (by decide +kernel)⟩
theorem lw_p28 : lw_okq (⟨"WhiskedDuchy", "foldIn", "(I)V"⟩, 19) := ⟨⟨by decide +kernel, by decide +kernel⟩, List.mem_of_getElem? (i := 23) (by decide +kernel), List.mem_of_getElem? (i := 722) (by decide +kernel), List.mem_of_getElem? (i := 723) (by decide +kernel)⟩
theorem lw_p29 : lw_okq (⟨"WhiskedDuchy", "openDoor", "()V"⟩, 19) := ⟨⟨by decide +kernel, by decide +kernel⟩, List.mem_of_getElem? (i := 23) (by decide +kernel), List.mem_of_getElem? (i := 734) (by decide +kernel), List.mem_of_getElem? (i := 735) (by decide +kernel)⟩
theorem lw_p30 : lw_okq (⟨"WhiskedDuchy", "fallIfFlat", "()V"⟩, 19) := ⟨⟨by decide +kernel, by decide +kernel⟩, List.mem_of_getElem? (i := 23) (by decide +kernel), List.mem_of_getElem? (i := 738) (by decide +kernel), List.mem_of_getElem? (i := 739) (by decide +kernel)⟩
theorem lw_p31 : lw_okq (⟨"WhiskedDuchy", "passHour", "()V"⟩, 19) := ⟨⟨by decide +kernel, by decide +kernel⟩, List.mem_of_getElem? (i := 23) (by decide +kernel), List.mem_of_getElem? (i := 746) (by decide +kernel), List.mem_of_getElem? (i := 747) (by decide +kernel)⟩
def lw_privs_2 : List (MethodName × Nat) := [(⟨"WhiskedDuchy", "beginDuchy", "()V"⟩, 19), (⟨"WhiskedDuchy", "hasCook", "(I)Z"⟩, 19), (⟨"WhiskedDuchy", "refuse", "(I)I"⟩, 19), (⟨"WhiskedDuchy", "strokesLeft", "(I)I"⟩, 19), (⟨"WhiskedDuchy", "whisk", "(II)V"⟩, 19), (⟨"WhiskedDuchy", "whisked", "(IIII)I"⟩, 19), (⟨"WhiskedDuchy$Laws", "pop", "()I"⟩, 11), (⟨"WhiskedDuchy$Laws", "push", "(J)V"⟩, 11), (⟨"WhiskedDuchy$Laws", "apply", "(I)V"⟩, 11), (⟨"WhiskedDuchy", "hasMinister", "(I)Z"⟩, 19), (⟨"WhiskedDuchy", "isInside", "(I)Z"⟩, 19), (⟨"WhiskedDuchy", "canFold", "(I)Z"⟩, 19), (⟨"WhiskedDuchy", "foldIn", "(I)V"⟩, 19), (⟨"WhiskedDuchy", "openDoor", "()V"⟩, 19), (⟨"WhiskedDuchy", "fallIfFlat", "()V"⟩, 19), (⟨"WhiskedDuchy", "passHour", "()V"⟩, 19)]
theorem lw_r2 : ∀ q ∈ lw_privs_2, lw_okq q := List.forall_mem_cons.mpr ⟨lw_p16, List.forall_mem_cons.mpr ⟨lw_p17, List.forall_mem_cons.mpr ⟨lw_p18, List.forall_mem_cons.mpr ⟨lw_p19, List.forall_mem_cons.mpr ⟨lw_p20, List.forall_mem_cons.mpr ⟨lw_p21, List.forall_mem_cons.mpr ⟨lw_p22, List.forall_mem_cons.mpr ⟨lw_p23, List.forall_mem_cons.mpr ⟨lw_p24, List.forall_mem_cons.mpr ⟨lw_p25, List.forall_mem_cons.mpr ⟨lw_p26, List.forall_mem_cons.mpr ⟨lw_p27, List.forall_mem_cons.mpr ⟨lw_p28, List.forall_mem_cons.mpr ⟨lw_p29, List.forall_mem_cons.mpr ⟨lw_p30, List.forall_mem_cons.mpr ⟨lw_p31, fun _ h => absurd h List.not_mem_nil⟩⟩⟩⟩⟩⟩⟩⟩⟩⟩⟩⟩⟩⟩⟩⟩
theorem lw_p32 : lw_okq (⟨"WhiskedDuchy", "sinksBy", "()I"⟩, 19) := ⟨⟨by decide +kernel, by decide +kernel⟩, List.mem_of_getElem? (i := 23) (by decide +kernel), List.mem_of_getElem? (i := 750) (by decide +kernel), List.mem_of_getElem? (i := 751) (by decide +kernel)⟩
theorem lw_p33 : lw_okq (⟨"WhiskedDuchy", "sumInside", "(I)I"⟩, 19) := ⟨⟨by decide +kernel, by decide +kernel⟩, List.mem_of_getElem? (i := 23) (by decide +kernel), List.mem_of_getElem? (i := 754) (by decide +kernel), List.mem_of_getElem? (i := 755) (by decide +kernel)⟩
theorem lw_p34 : lw_okq (⟨"WhiskedDuchy", "passDay", "()V"⟩, 19) := ⟨⟨by decide +kernel, by decide +kernel⟩, List.mem_of_getElem? (i := 23) (by decide +kernel), List.mem_of_getElem? (i := 781) (by decide +kernel), List.mem_of_getElem? (i := 782) (by decide +kernel)⟩
theorem lw_p35 : lw_okq (⟨"WhiskedDuchy", "passDrawnDay", "()V"⟩, 19) := ⟨⟨by decide +kernel, by decide +kernel⟩, List.mem_of_getElem? (i := 23) (by decide +kernel), List.mem_of_getElem? (i := 808) (by decide +kernel), List.mem_of_getElem? (i := 809) (by decide +kernel)⟩
theorem lw_p36 : lw_okq (⟨"WhiskedDuchy", "logSize", "()I"⟩, 19) := ⟨⟨by decide +kernel, by decide +kernel⟩, List.mem_of_getElem? (i := 23) (by decide +kernel), List.mem_of_getElem? (i := 838) (by decide +kernel), List.mem_of_getElem? (i := 839) (by decide +kernel)⟩
theorem lw_p37 : lw_okq (⟨"WhiskedDuchy", "whiskedOften", "(IIIII)I"⟩, 19) := ⟨⟨by decide +kernel, by decide +kernel⟩, List.mem_of_getElem? (i := 23) (by decide +kernel), List.mem_of_getElem? (i := 850) (by decide +kernel), List.mem_of_getElem? (i := 851) (by decide +kernel)⟩
theorem lw_p38 : lw_okq (⟨"WhiskedDuchy", "soonestOf", "(II)I"⟩, 19) := ⟨⟨by decide +kernel, by decide +kernel⟩, List.mem_of_getElem? (i := 23) (by decide +kernel), List.mem_of_getElem? (i := 861) (by decide +kernel), List.mem_of_getElem? (i := 862) (by decide +kernel)⟩
theorem lw_p39 : lw_okq (⟨"WhiskedDuchy", "hasTwoCooks", "(II)Z"⟩, 19) := ⟨⟨by decide +kernel, by decide +kernel⟩, List.mem_of_getElem? (i := 23) (by decide +kernel), List.mem_of_getElem? (i := 877) (by decide +kernel), List.mem_of_getElem? (i := 878) (by decide +kernel)⟩
theorem lw_p40 : lw_okq (⟨"WhiskedDuchy$Rows", "leastRowTo", "(I)I"⟩, 5) := ⟨⟨by decide +kernel, by decide +kernel⟩, List.mem_of_getElem? (i := 236) (by decide +kernel), List.mem_of_getElem? (i := 896) (by decide +kernel), List.mem_of_getElem? (i := 897) (by decide +kernel)⟩
theorem lw_p41 : lw_okq (⟨"WhiskedDuchy$Rows", "canEnd", "(II)Z"⟩, 5) := ⟨⟨by decide +kernel, by decide +kernel⟩, List.mem_of_getElem? (i := 236) (by decide +kernel), List.mem_of_getElem? (i := 900) (by decide +kernel), List.mem_of_getElem? (i := 901) (by decide +kernel)⟩
theorem lw_p42 : lw_okq (⟨"WhiskedDuchy$Rows", "isBetter", "(II)Z"⟩, 5) := ⟨⟨by decide +kernel, by decide +kernel⟩, List.mem_of_getElem? (i := 236) (by decide +kernel), List.mem_of_getElem? (i := 913) (by decide +kernel), List.mem_of_getElem? (i := 914) (by decide +kernel)⟩
theorem lw_p43 : lw_okq (⟨"WhiskedDuchy", "fittingYolks", "()I"⟩, 19) := ⟨⟨by decide +kernel, by decide +kernel⟩, List.mem_of_getElem? (i := 23) (by decide +kernel), List.mem_of_getElem? (i := 958) (by decide +kernel), List.mem_of_getElem? (i := 959) (by decide +kernel)⟩
theorem lw_p44 : lw_okq (⟨"WhiskedDuchy", "isFitting", "(I)Z"⟩, 19) := ⟨⟨by decide +kernel, by decide +kernel⟩, List.mem_of_getElem? (i := 23) (by decide +kernel), List.mem_of_getElem? (i := 962) (by decide +kernel), List.mem_of_getElem? (i := 963) (by decide +kernel)⟩
theorem lw_p45 : lw_okq (⟨"WhiskedDuchy", "whiskAllYolks", "(IIII)I"⟩, 19) := ⟨⟨by decide +kernel, by decide +kernel⟩, List.mem_of_getElem? (i := 23) (by decide +kernel), List.mem_of_getElem? (i := 984) (by decide +kernel), List.mem_of_getElem? (i := 985) (by decide +kernel)⟩
theorem lw_p46 : lw_okq (⟨"WhiskedDuchy", "playAll", "(II)V"⟩, 19) := ⟨⟨by decide +kernel, by decide +kernel⟩, List.mem_of_getElem? (i := 23) (by decide +kernel), List.mem_of_getElem? (i := 1000) (by decide +kernel), List.mem_of_getElem? (i := 1001) (by decide +kernel)⟩
theorem lw_p47 : lw_okq (⟨"WhiskedDuchy", "isRest", "(II)Z"⟩, 19) := ⟨⟨by decide +kernel, by decide +kernel⟩, List.mem_of_getElem? (i := 23) (by decide +kernel), List.mem_of_getElem? (i := 1004) (by decide +kernel), List.mem_of_getElem? (i := 1005) (by decide +kernel)⟩
def lw_privs_3 : List (MethodName × Nat) := [(⟨"WhiskedDuchy", "sinksBy", "()I"⟩, 19), (⟨"WhiskedDuchy", "sumInside", "(I)I"⟩, 19), (⟨"WhiskedDuchy", "passDay", "()V"⟩, 19), (⟨"WhiskedDuchy", "passDrawnDay", "()V"⟩, 19), (⟨"WhiskedDuchy", "logSize", "()I"⟩, 19), (⟨"WhiskedDuchy", "whiskedOften", "(IIIII)I"⟩, 19), (⟨"WhiskedDuchy", "soonestOf", "(II)I"⟩, 19), (⟨"WhiskedDuchy", "hasTwoCooks", "(II)Z"⟩, 19), (⟨"WhiskedDuchy$Rows", "leastRowTo", "(I)I"⟩, 5), (⟨"WhiskedDuchy$Rows", "canEnd", "(II)Z"⟩, 5), (⟨"WhiskedDuchy$Rows", "isBetter", "(II)Z"⟩, 5), (⟨"WhiskedDuchy", "fittingYolks", "()I"⟩, 19), (⟨"WhiskedDuchy", "isFitting", "(I)Z"⟩, 19), (⟨"WhiskedDuchy", "whiskAllYolks", "(IIII)I"⟩, 19), (⟨"WhiskedDuchy", "playAll", "(II)V"⟩, 19), (⟨"WhiskedDuchy", "isRest", "(II)Z"⟩, 19)]
theorem lw_r3 : ∀ q ∈ lw_privs_3, lw_okq q := List.forall_mem_cons.mpr ⟨lw_p32, List.forall_mem_cons.mpr ⟨lw_p33, List.forall_mem_cons.mpr ⟨lw_p34, List.forall_mem_cons.mpr ⟨lw_p35, List.forall_mem_cons.mpr ⟨lw_p36, List.forall_mem_cons.mpr ⟨lw_p37, List.forall_mem_cons.mpr ⟨lw_p38, List.forall_mem_cons.mpr ⟨lw_p39, List.forall_mem_cons.mpr ⟨lw_p40, List.forall_mem_cons.mpr ⟨lw_p41, List.forall_mem_cons.mpr ⟨lw_p42, List.forall_mem_cons.mpr ⟨lw_p43, List.forall_mem_cons.mpr ⟨lw_p44, List.forall_mem_cons.mpr ⟨lw_p45, List.forall_mem_cons.mpr ⟨lw_p46, List.forall_mem_cons.mpr ⟨lw_p47, fun _ h => absurd h List.not_mem_nil⟩⟩⟩⟩⟩⟩⟩⟩⟩⟩⟩⟩⟩⟩⟩⟩
theorem lw_p48 : lw_okq (⟨"WhiskedDuchy", "quarterOf", "(II)I"⟩, 19) := ⟨⟨by decide +kernel, by decide +kernel⟩, List.mem_of_getElem? (i := 23) (by decide +kernel), List.mem_of_getElem? (i := 1008) (by decide +kernel), List.mem_of_getElem? (i := 1009) (by decide +kernel)⟩
theorem lw_p49 : lw_okq (⟨"WhiskedDuchy", "firstMinisterByMost", "(I)I"⟩, 19) := ⟨⟨by decide +kernel, by decide +kernel⟩, List.mem_of_getElem? (i := 23) (by decide +kernel), List.mem_of_getElem? (i := 1029) (by decide +kernel), List.mem_of_getElem? (i := 1030) (by decide +kernel)⟩
theorem lw_p50 : lw_okq (⟨"WhiskedDuchy", "strongestCook", "()I"⟩, 19) := ⟨⟨by decide +kernel, by decide +kernel⟩, List.mem_of_getElem? (i := 23) (by decide +kernel), List.mem_of_getElem? (i := 1033) (by decide +kernel), List.mem_of_getElem? (i := 1034) (by decide +kernel)⟩
theorem lw_p51 : lw_okq (⟨"WhiskedDuchy", "freshestCook", "()I"⟩, 19) := ⟨⟨by decide +kernel, by decide +kernel⟩, List.mem_of_getElem? (i := 23) (by decide +kernel), List.mem_of_getElem? (i := 1037) (by decide +kernel), List.mem_of_getElem? (i := 1038) (by decide +kernel)⟩
theorem lw_p52 : lw_okq (⟨"WhiskedDuchy", "couldFold", "()I"⟩, 19) := ⟨⟨by decide +kernel, by decide +kernel⟩, List.mem_of_getElem? (i := 23) (by decide +kernel), List.mem_of_getElem? (i := 1041) (by decide +kernel), List.mem_of_getElem? (i := 1042) (by decide +kernel)⟩
theorem lw_p53 : lw_okq (⟨"WhiskedDuchy", "doorsToFlat", "()I"⟩, 19) := ⟨⟨by decide +kernel, by decide +kernel⟩, List.mem_of_getElem? (i := 23) (by decide +kernel), List.mem_of_getElem? (i := 1045) (by decide +kernel), List.mem_of_getElem? (i := 1046) (by decide +kernel)⟩
theorem lw_p54 : lw_okq (⟨"java/lang/Throwable", "fillInStackTrace", "(I)Ljava/lang/Throwable;"⟩, 6) := ⟨⟨by decide +kernel, by decide +kernel⟩, List.mem_of_getElem? (i := 1119) (by decide +kernel), List.mem_of_getElem? (i := 1117) (by decide +kernel), List.mem_of_getElem? (i := 1118) (by decide +kernel)⟩
theorem lw_p55 : lw_okq (⟨"WhiskedDuchyModel", "readDuchy", "()I"⟩, 46) := ⟨⟨by decide +kernel, by decide +kernel⟩, List.mem_of_getElem? (i := 1149) (by decide +kernel), List.mem_of_getElem? (i := 1313) (by decide +kernel), List.mem_of_getElem? (i := 1314) (by decide +kernel)⟩
theorem lw_p56 : lw_okq (⟨"WhiskedDuchyModel", "look", "()I"⟩, 46) := ⟨⟨by decide +kernel, by decide +kernel⟩, List.mem_of_getElem? (i := 1149) (by decide +kernel), List.mem_of_getElem? (i := 1320) (by decide +kernel), List.mem_of_getElem? (i := 1321) (by decide +kernel)⟩
theorem lw_p57 : lw_okq (⟨"WhiskedDuchyModel", "here", "()I"⟩, 46) := ⟨⟨by decide +kernel, by decide +kernel⟩, List.mem_of_getElem? (i := 1149) (by decide +kernel), List.mem_of_getElem? (i := 1324) (by decide +kernel), List.mem_of_getElem? (i := 1325) (by decide +kernel)⟩
theorem lw_p58 : lw_okq (⟨"WhiskedDuchyModel", "items", "(I[III)V"⟩, 46) := ⟨⟨by decide +kernel, by decide +kernel⟩, List.mem_of_getElem? (i := 1149) (by decide +kernel), List.mem_of_getElem? (i := 1328) (by decide +kernel), List.mem_of_getElem? (i := 1329) (by decide +kernel)⟩
theorem lw_p59 : lw_okq (⟨"WhiskedDuchyModel", "number", "(II)I"⟩, 46) := ⟨⟨by decide +kernel, by decide +kernel⟩, List.mem_of_getElem? (i := 1149) (by decide +kernel), List.mem_of_getElem? (i := 1341) (by decide +kernel), List.mem_of_getElem? (i := 1342) (by decide +kernel)⟩
theorem lw_p60 : lw_okq (⟨"WhiskedDuchyModel", "bad", "()V"⟩, 46) := ⟨⟨by decide +kernel, by decide +kernel⟩, List.mem_of_getElem? (i := 1149) (by decide +kernel), List.mem_of_getElem? (i := 1348) (by decide +kernel), List.mem_of_getElem? (i := 1349) (by decide +kernel)⟩
theorem lw_p61 : lw_okq (⟨"WhiskedDuchyModel", "readLaw", "(I)I"⟩, 46) := ⟨⟨by decide +kernel, by decide +kernel⟩, List.mem_of_getElem? (i := 1149) (by decide +kernel), List.mem_of_getElem? (i := 1355) (by decide +kernel), List.mem_of_getElem? (i := 1356) (by decide +kernel)⟩
theorem lw_p62 : lw_okq (⟨"WhiskedDuchyModel", "open", "(I)V"⟩, 46) := ⟨⟨by decide +kernel, by decide +kernel⟩, List.mem_of_getElem? (i := 1149) (by decide +kernel), List.mem_of_getElem? (i := 1359) (by decide +kernel), List.mem_of_getElem? (i := 1360) (by decide +kernel)⟩
theorem lw_p63 : lw_okq (⟨"WhiskedDuchyModel", "clause", "()V"⟩, 46) := ⟨⟨by decide +kernel, by decide +kernel⟩, List.mem_of_getElem? (i := 1149) (by decide +kernel), List.mem_of_getElem? (i := 1363) (by decide +kernel), List.mem_of_getElem? (i := 1364) (by decide +kernel)⟩
def lw_privs_4 : List (MethodName × Nat) := [(⟨"WhiskedDuchy", "quarterOf", "(II)I"⟩, 19), (⟨"WhiskedDuchy", "firstMinisterByMost", "(I)I"⟩, 19), (⟨"WhiskedDuchy", "strongestCook", "()I"⟩, 19), (⟨"WhiskedDuchy", "freshestCook", "()I"⟩, 19), (⟨"WhiskedDuchy", "couldFold", "()I"⟩, 19), (⟨"WhiskedDuchy", "doorsToFlat", "()I"⟩, 19), (⟨"java/lang/Throwable", "fillInStackTrace", "(I)Ljava/lang/Throwable;"⟩, 6), (⟨"WhiskedDuchyModel", "readDuchy", "()I"⟩, 46), (⟨"WhiskedDuchyModel", "look", "()I"⟩, 46), (⟨"WhiskedDuchyModel", "here", "()I"⟩, 46), (⟨"WhiskedDuchyModel", "items", "(I[III)V"⟩, 46), (⟨"WhiskedDuchyModel", "number", "(II)I"⟩, 46), (⟨"WhiskedDuchyModel", "bad", "()V"⟩, 46), (⟨"WhiskedDuchyModel", "readLaw", "(I)I"⟩, 46), (⟨"WhiskedDuchyModel", "open", "(I)V"⟩, 46), (⟨"WhiskedDuchyModel", "clause", "()V"⟩, 46)]
theorem lw_r4 : ∀ q ∈ lw_privs_4, lw_okq q := List.forall_mem_cons.mpr ⟨lw_p48, List.forall_mem_cons.mpr ⟨lw_p49, List.forall_mem_cons.mpr ⟨lw_p50, List.forall_mem_cons.mpr ⟨lw_p51, List.forall_mem_cons.mpr ⟨lw_p52, List.forall_mem_cons.mpr ⟨lw_p53, List.forall_mem_cons.mpr ⟨lw_p54, List.forall_mem_cons.mpr ⟨lw_p55, List.forall_mem_cons.mpr ⟨lw_p56, List.forall_mem_cons.mpr ⟨lw_p57, List.forall_mem_cons.mpr ⟨lw_p58, List.forall_mem_cons.mpr ⟨lw_p59, List.forall_mem_cons.mpr ⟨lw_p60, List.forall_mem_cons.mpr ⟨lw_p61, List.forall_mem_cons.mpr ⟨lw_p62, List.forall_mem_cons.mpr ⟨lw_p63, fun _ h => absurd h List.not_mem_nil⟩⟩⟩⟩⟩⟩⟩⟩⟩⟩⟩⟩⟩⟩⟩⟩
theorem lw_p64 : lw_okq (⟨"WhiskedDuchyModel", "condition", "()V"⟩, 46) := ⟨⟨by decide +kernel, by decide +kernel⟩, List.mem_of_getElem? (i := 1149) (by decide +kernel), List.mem_of_getElem? (i := 1367) (by decide +kernel), List.mem_of_getElem? (i := 1368) (by decide +kernel)⟩
theorem lw_p65 : lw_okq (⟨"WhiskedDuchyModel", "unit", "()V"⟩, 46) := ⟨⟨by decide +kernel, by decide +kernel⟩, List.mem_of_getElem? (i := 1149) (by decide +kernel), List.mem_of_getElem? (i := 1371) (by decide +kernel), List.mem_of_getElem? (i := 1372) (by decide +kernel)⟩
theorem lw_p66 : lw_okq (⟨"WhiskedDuchyModel", "opens", "()V"⟩, 46) := ⟨⟨by decide +kernel, by decide +kernel⟩, List.mem_of_getElem? (i := 1149) (by decide +kernel), List.mem_of_getElem? (i := 1375) (by decide +kernel), List.mem_of_getElem? (i := 1376) (by decide +kernel)⟩
theorem lw_p67 : lw_okq (⟨"WhiskedDuchyModel", "put", "(II)V"⟩, 46) := ⟨⟨by decide +kernel, by decide +kernel⟩, List.mem_of_getElem? (i := 1149) (by decide +kernel), List.mem_of_getElem? (i := 1379) (by decide +kernel), List.mem_of_getElem? (i := 1380) (by decide +kernel)⟩
theorem lw_p68 : lw_okq (⟨"WhiskedDuchyModel", "closes", "(I)V"⟩, 46) := ⟨⟨by decide +kernel, by decide +kernel⟩, List.mem_of_getElem? (i := 1149) (by decide +kernel), List.mem_of_getElem? (i := 1383) (by decide +kernel), List.mem_of_getElem? (i := 1384) (by decide +kernel)⟩
theorem lw_p69 : lw_okq (⟨"WhiskedDuchyModel", "sum", "()V"⟩, 46) := ⟨⟨by decide +kernel, by decide +kernel⟩, List.mem_of_getElem? (i := 1149) (by decide +kernel), List.mem_of_getElem? (i := 1387) (by decide +kernel), List.mem_of_getElem? (i := 1388) (by decide +kernel)⟩
theorem lw_p70 : lw_okq (⟨"WhiskedDuchyModel", "term", "()V"⟩, 46) := ⟨⟨by decide +kernel, by decide +kernel⟩, List.mem_of_getElem? (i := 1149) (by decide +kernel), List.mem_of_getElem? (i := 1391) (by decide +kernel), List.mem_of_getElem? (i := 1392) (by decide +kernel)⟩
theorem lw_p71 : lw_okq (⟨"WhiskedDuchyModel", "atom", "()V"⟩, 46) := ⟨⟨by decide +kernel, by decide +kernel⟩, List.mem_of_getElem? (i := 1149) (by decide +kernel), List.mem_of_getElem? (i := 1395) (by decide +kernel), List.mem_of_getElem? (i := 1396) (by decide +kernel)⟩
theorem lw_p72 : lw_okq (⟨"WhiskedDuchyModel", "plainNumber", "()I"⟩, 46) := ⟨⟨by decide +kernel, by decide +kernel⟩, List.mem_of_getElem? (i := 1149) (by decide +kernel), List.mem_of_getElem? (i := 1399) (by decide +kernel), List.mem_of_getElem? (i := 1400) (by decide +kernel)⟩
theorem lw_p73 : lw_okq (⟨"WhiskedDuchyModel", "compare", "()V"⟩, 46) := ⟨⟨by decide +kernel, by decide +kernel⟩, List.mem_of_getElem? (i := 1149) (by decide +kernel), List.mem_of_getElem? (i := 1406) (by decide +kernel), List.mem_of_getElem? (i := 1407) (by decide +kernel)⟩
theorem lw_p74 : lw_okq (⟨"WhiskedDuchyModel", "goOnAnd", "()V"⟩, 46) := ⟨⟨by decide +kernel, by decide +kernel⟩, List.mem_of_getElem? (i := 1149) (by decide +kernel), List.mem_of_getElem? (i := 1413) (by decide +kernel), List.mem_of_getElem? (i := 1414) (by decide +kernel)⟩
theorem lw_p75 : lw_okq (⟨"WhiskedDuchyModel", "goOnOr", "()V"⟩, 46) := ⟨⟨by decide +kernel, by decide +kernel⟩, List.mem_of_getElem? (i := 1149) (by decide +kernel), List.mem_of_getElem? (i := 1417) (by decide +kernel), List.mem_of_getElem? (i := 1418) (by decide +kernel)⟩
theorem lw_p76 : lw_okq (⟨"WhiskedDuchyModel", "atEnd", "()I"⟩, 46) := ⟨⟨by decide +kernel, by decide +kernel⟩, List.mem_of_getElem? (i := 1149) (by decide +kernel), List.mem_of_getElem? (i := 1421) (by decide +kernel), List.mem_of_getElem? (i := 1422) (by decide +kernel)⟩
theorem lw_p77 : lw_okq (⟨"WhiskedDuchyModel", "takeDuchy", "()I"⟩, 46) := ⟨⟨by decide +kernel, by decide +kernel⟩, List.mem_of_getElem? (i := 1149) (by decide +kernel), List.mem_of_getElem? (i := 1429) (by decide +kernel), List.mem_of_getElem? (i := 1430) (by decide +kernel)⟩
theorem lw_p78 : lw_okq (⟨"WhiskedDuchyModel", "isCook", "(I)Z"⟩, 46) := ⟨⟨by decide +kernel, by decide +kernel⟩, List.mem_of_getElem? (i := 1149) (by decide +kernel), List.mem_of_getElem? (i := 1441) (by decide +kernel), List.mem_of_getElem? (i := 1442) (by decide +kernel)⟩
theorem lw_p79 : lw_okq (⟨"WhiskedDuchyModel", "isMinister", "(I)Z"⟩, 46) := ⟨⟨by decide +kernel, by decide +kernel⟩, List.mem_of_getElem? (i := 1149) (by decide +kernel), List.mem_of_getElem? (i := 1449) (by decide +kernel), List.mem_of_getElem? (i := 1450) (by decide +kernel)⟩
def lw_privs_5 : List (MethodName × Nat) := [(⟨"WhiskedDuchyModel", "condition", "()V"⟩, 46), (⟨"WhiskedDuchyModel", "unit", "()V"⟩, 46), (⟨"WhiskedDuchyModel", "opens", "()V"⟩, 46), (⟨"WhiskedDuchyModel", "put", "(II)V"⟩, 46), (⟨"WhiskedDuchyModel", "closes", "(I)V"⟩, 46), (⟨"WhiskedDuchyModel", "sum", "()V"⟩, 46), (⟨"WhiskedDuchyModel", "term", "()V"⟩, 46), (⟨"WhiskedDuchyModel", "atom", "()V"⟩, 46), (⟨"WhiskedDuchyModel", "plainNumber", "()I"⟩, 46), (⟨"WhiskedDuchyModel", "compare", "()V"⟩, 46), (⟨"WhiskedDuchyModel", "goOnAnd", "()V"⟩, 46), (⟨"WhiskedDuchyModel", "goOnOr", "()V"⟩, 46), (⟨"WhiskedDuchyModel", "atEnd", "()I"⟩, 46), (⟨"WhiskedDuchyModel", "takeDuchy", "()I"⟩, 46), (⟨"WhiskedDuchyModel", "isCook", "(I)Z"⟩, 46), (⟨"WhiskedDuchyModel", "isMinister", "(I)Z"⟩, 46)]
theorem lw_r5 : ∀ q ∈ lw_privs_5, lw_okq q := List.forall_mem_cons.mpr ⟨lw_p64, List.forall_mem_cons.mpr ⟨lw_p65, List.forall_mem_cons.mpr ⟨lw_p66, List.forall_mem_cons.mpr ⟨lw_p67, List.forall_mem_cons.mpr ⟨lw_p68, List.forall_mem_cons.mpr ⟨lw_p69, List.forall_mem_cons.mpr ⟨lw_p70, List.forall_mem_cons.mpr ⟨lw_p71, List.forall_mem_cons.mpr ⟨lw_p72, List.forall_mem_cons.mpr ⟨lw_p73, List.forall_mem_cons.mpr ⟨lw_p74, List.forall_mem_cons.mpr ⟨lw_p75, List.forall_mem_cons.mpr ⟨lw_p76, List.forall_mem_cons.mpr ⟨lw_p77, List.forall_mem_cons.mpr ⟨lw_p78, List.forall_mem_cons.mpr ⟨lw_p79, fun _ h => absurd h List.not_mem_nil⟩⟩⟩⟩⟩⟩⟩⟩⟩⟩⟩⟩⟩⟩⟩⟩
theorem lw_p80 : lw_okq (⟨"WhiskedDuchyModel", "of", "(II)I"⟩, 46) := ⟨⟨by decide +kernel, by decide +kernel⟩, List.mem_of_getElem? (i := 1149) (by decide +kernel), List.mem_of_getElem? (i := 1453) (by decide +kernel), List.mem_of_getElem? (i := 1454) (by decide +kernel)⟩
theorem lw_p81 : lw_okq (⟨"WhiskedDuchyModel", "leftOf", "(I)I"⟩, 46) := ⟨⟨by decide +kernel, by decide +kernel⟩, List.mem_of_getElem? (i := 1149) (by decide +kernel), List.mem_of_getElem? (i := 1465) (by decide +kernel), List.mem_of_getElem? (i := 1466) (by decide +kernel)⟩
theorem lw_p82 : lw_okq (⟨"WhiskedDuchyModel", "isRefused", "(I)Z"⟩, 46) := ⟨⟨by decide +kernel, by decide +kernel⟩, List.mem_of_getElem? (i := 1149) (by decide +kernel), List.mem_of_getElem? (i := 1469) (by decide +kernel), List.mem_of_getElem? (i := 1470) (by decide +kernel)⟩
theorem lw_p83 : lw_okq (⟨"WhiskedDuchyModel", "keep", "()V"⟩, 46) := ⟨⟨by decide +kernel, by decide +kernel⟩, List.mem_of_getElem? (i := 1149) (by decide +kernel), List.mem_of_getElem? (i := 1473) (by decide +kernel), List.mem_of_getElem? (i := 1474) (by decide +kernel)⟩
theorem lw_p84 : lw_okq (⟨"WhiskedDuchyModel", "strokesNow", "(II)V"⟩, 46) := ⟨⟨by decide +kernel, by decide +kernel⟩, List.mem_of_getElem? (i := 1149) (by decide +kernel), List.mem_of_getElem? (i := 1477) (by decide +kernel), List.mem_of_getElem? (i := 1478) (by decide +kernel)⟩
theorem lw_p85 : lw_okq (⟨"WhiskedDuchyModel", "strokeNow", "(I)V"⟩, 46) := ⟨⟨by decide +kernel, by decide +kernel⟩, List.mem_of_getElem? (i := 1149) (by decide +kernel), List.mem_of_getElem? (i := 1481) (by decide +kernel), List.mem_of_getElem? (i := 1482) (by decide +kernel)⟩
theorem lw_p86 : lw_okq (⟨"WhiskedDuchyModel", "strokeBy", "(IIII)I"⟩, 46) := ⟨⟨by decide +kernel, by decide +kernel⟩, List.mem_of_getElem? (i := 1149) (by decide +kernel), List.mem_of_getElem? (i := 1485) (by decide +kernel), List.mem_of_getElem? (i := 1486) (by decide +kernel)⟩
theorem lw_p87 : lw_okq (⟨"WhiskedDuchyModel", "worthOf", "(I)I"⟩, 46) := ⟨⟨by decide +kernel, by decide +kernel⟩, List.mem_of_getElem? (i := 1149) (by decide +kernel), List.mem_of_getElem? (i := 1489) (by decide +kernel), List.mem_of_getElem? (i := 1490) (by decide +kernel)⟩
theorem lw_p88 : lw_okq (⟨"WhiskedDuchyModel", "workOut", "(III)I"⟩, 46) := ⟨⟨by decide +kernel, by decide +kernel⟩, List.mem_of_getElem? (i := 1149) (by decide +kernel), List.mem_of_getElem? (i := 1493) (by decide +kernel), List.mem_of_getElem? (i := 1494) (by decide +kernel)⟩
theorem lw_p89 : lw_okq (⟨"WhiskedDuchyModel", "canFold", "(I)Z"⟩, 46) := ⟨⟨by decide +kernel, by decide +kernel⟩, List.mem_of_getElem? (i := 1149) (by decide +kernel), List.mem_of_getElem? (i := 1516) (by decide +kernel), List.mem_of_getElem? (i := 1517) (by decide +kernel)⟩
theorem lw_p90 : lw_okq (⟨"WhiskedDuchyModel", "foldNow", "(I)V"⟩, 46) := ⟨⟨by decide +kernel, by decide +kernel⟩, List.mem_of_getElem? (i := 1149) (by decide +kernel), List.mem_of_getElem? (i := 1520) (by decide +kernel), List.mem_of_getElem? (i := 1521) (by decide +kernel)⟩
theorem lw_p91 : lw_okq (⟨"WhiskedDuchyModel", "doorNow", "()V"⟩, 46) := ⟨⟨by decide +kernel, by decide +kernel⟩, List.mem_of_getElem? (i := 1149) (by decide +kernel), List.mem_of_getElem? (i := 1532) (by decide +kernel), List.mem_of_getElem? (i := 1533) (by decide +kernel)⟩
theorem lw_p92 : lw_okq (⟨"WhiskedDuchyModel", "mayFall", "()V"⟩, 46) := ⟨⟨by decide +kernel, by decide +kernel⟩, List.mem_of_getElem? (i := 1149) (by decide +kernel), List.mem_of_getElem? (i := 1536) (by decide +kernel), List.mem_of_getElem? (i := 1537) (by decide +kernel)⟩
theorem lw_p93 : lw_okq (⟨"WhiskedDuchyModel", "hourNow", "()V"⟩, 46) := ⟨⟨by decide +kernel, by decide +kernel⟩, List.mem_of_getElem? (i := 1149) (by decide +kernel), List.mem_of_getElem? (i := 1544) (by decide +kernel), List.mem_of_getElem? (i := 1545) (by decide +kernel)⟩
theorem lw_p94 : lw_okq (⟨"WhiskedDuchyModel", "sinks", "()I"⟩, 46) := ⟨⟨by decide +kernel, by decide +kernel⟩, List.mem_of_getElem? (i := 1149) (by decide +kernel), List.mem_of_getElem? (i := 1548) (by decide +kernel), List.mem_of_getElem? (i := 1549) (by decide +kernel)⟩
theorem lw_p95 : lw_okq (⟨"WhiskedDuchyModel", "weightIn", "()I"⟩, 46) := ⟨⟨by decide +kernel, by decide +kernel⟩, List.mem_of_getElem? (i := 1149) (by decide +kernel), List.mem_of_getElem? (i := 1552) (by decide +kernel), List.mem_of_getElem? (i := 1553) (by decide +kernel)⟩
def lw_privs_6 : List (MethodName × Nat) := [(⟨"WhiskedDuchyModel", "of", "(II)I"⟩, 46), (⟨"WhiskedDuchyModel", "leftOf", "(I)I"⟩, 46), (⟨"WhiskedDuchyModel", "isRefused", "(I)Z"⟩, 46), (⟨"WhiskedDuchyModel", "keep", "()V"⟩, 46), (⟨"WhiskedDuchyModel", "strokesNow", "(II)V"⟩, 46), (⟨"WhiskedDuchyModel", "strokeNow", "(I)V"⟩, 46), (⟨"WhiskedDuchyModel", "strokeBy", "(IIII)I"⟩, 46), (⟨"WhiskedDuchyModel", "worthOf", "(I)I"⟩, 46), (⟨"WhiskedDuchyModel", "workOut", "(III)I"⟩, 46), (⟨"WhiskedDuchyModel", "canFold", "(I)Z"⟩, 46), (⟨"WhiskedDuchyModel", "foldNow", "(I)V"⟩, 46), (⟨"WhiskedDuchyModel", "doorNow", "()V"⟩, 46), (⟨"WhiskedDuchyModel", "mayFall", "()V"⟩, 46), (⟨"WhiskedDuchyModel", "hourNow", "()V"⟩, 46), (⟨"WhiskedDuchyModel", "sinks", "()I"⟩, 46), (⟨"WhiskedDuchyModel", "weightIn", "()I"⟩, 46)]
theorem lw_r6 : ∀ q ∈ lw_privs_6, lw_okq q := List.forall_mem_cons.mpr ⟨lw_p80, List.forall_mem_cons.mpr ⟨lw_p81, List.forall_mem_cons.mpr ⟨lw_p82, List.forall_mem_cons.mpr ⟨lw_p83, List.forall_mem_cons.mpr ⟨lw_p84, List.forall_mem_cons.mpr ⟨lw_p85, List.forall_mem_cons.mpr ⟨lw_p86, List.forall_mem_cons.mpr ⟨lw_p87, List.forall_mem_cons.mpr ⟨lw_p88, List.forall_mem_cons.mpr ⟨lw_p89, List.forall_mem_cons.mpr ⟨lw_p90, List.forall_mem_cons.mpr ⟨lw_p91, List.forall_mem_cons.mpr ⟨lw_p92, List.forall_mem_cons.mpr ⟨lw_p93, List.forall_mem_cons.mpr ⟨lw_p94, List.forall_mem_cons.mpr ⟨lw_p95, fun _ h => absurd h List.not_mem_nil⟩⟩⟩⟩⟩⟩⟩⟩⟩⟩⟩⟩⟩⟩⟩⟩
theorem lw_p96 : lw_okq (⟨"WhiskedDuchyModel", "areDays", "(I)Z"⟩, 46) := ⟨⟨by decide +kernel, by decide +kernel⟩, List.mem_of_getElem? (i := 1149) (by decide +kernel), List.mem_of_getElem? (i := 1572) (by decide +kernel), List.mem_of_getElem? (i := 1573) (by decide +kernel)⟩
theorem lw_p97 : lw_okq (⟨"WhiskedDuchyModel", "passDay", "()V"⟩, 46) := ⟨⟨by decide +kernel, by decide +kernel⟩, List.mem_of_getElem? (i := 1149) (by decide +kernel), List.mem_of_getElem? (i := 1576) (by decide +kernel), List.mem_of_getElem? (i := 1577) (by decide +kernel)⟩
theorem lw_p98 : lw_okq (⟨"WhiskedDuchyModel", "worthIn", "()I"⟩, 46) := ⟨⟨by decide +kernel, by decide +kernel⟩, List.mem_of_getElem? (i := 1149) (by decide +kernel), List.mem_of_getElem? (i := 1580) (by decide +kernel), List.mem_of_getElem? (i := 1581) (by decide +kernel)⟩
theorem lw_p99 : lw_okq (⟨"WhiskedDuchyModel", "drawDay", "()V"⟩, 46) := ⟨⟨by decide +kernel, by decide +kernel⟩, List.mem_of_getElem? (i := 1149) (by decide +kernel), List.mem_of_getElem? (i := 1592) (by decide +kernel), List.mem_of_getElem? (i := 1593) (by decide +kernel)⟩
theorem lw_p100 : lw_okq (⟨"WhiskedDuchyModel", "draw", "(I)I"⟩, 46) := ⟨⟨by decide +kernel, by decide +kernel⟩, List.mem_of_getElem? (i := 1149) (by decide +kernel), List.mem_of_getElem? (i := 1596) (by decide +kernel), List.mem_of_getElem? (i := 1597) (by decide +kernel)⟩
theorem lw_p101 : lw_okq (⟨"WhiskedDuchyModel", "standsBehind", "(II)I"⟩, 46) := ⟨⟨by decide +kernel, by decide +kernel⟩, List.mem_of_getElem? (i := 1149) (by decide +kernel), List.mem_of_getElem? (i := 1618) (by decide +kernel), List.mem_of_getElem? (i := 1619) (by decide +kernel)⟩
theorem lw_p102 : lw_okq (⟨"WhiskedDuchyModel", "putAside", "(I)V"⟩, 46) := ⟨⟨by decide +kernel, by decide +kernel⟩, List.mem_of_getElem? (i := 1149) (by decide +kernel), List.mem_of_getElem? (i := 1622) (by decide +kernel), List.mem_of_getElem? (i := 1623) (by decide +kernel)⟩
theorem lw_p103 : lw_okq (⟨"WhiskedDuchyModel", "takeBack", "(I)V"⟩, 46) := ⟨⟨by decide +kernel, by decide +kernel⟩, List.mem_of_getElem? (i := 1149) (by decide +kernel), List.mem_of_getElem? (i := 1626) (by decide +kernel), List.mem_of_getElem? (i := 1627) (by decide +kernel)⟩
theorem lw_p104 : lw_okq (⟨"WhiskedDuchyModel", "soonestOf", "(II)I"⟩, 46) := ⟨⟨by decide +kernel, by decide +kernel⟩, List.mem_of_getElem? (i := 1149) (by decide +kernel), List.mem_of_getElem? (i := 1634) (by decide +kernel), List.mem_of_getElem? (i := 1635) (by decide +kernel)⟩
theorem lw_p105 : lw_okq (⟨"WhiskedDuchyModel", "areTwo", "(II)Z"⟩, 46) := ⟨⟨by decide +kernel, by decide +kernel⟩, List.mem_of_getElem? (i := 1149) (by decide +kernel), List.mem_of_getElem? (i := 1650) (by decide +kernel), List.mem_of_getElem? (i := 1651) (by decide +kernel)⟩
theorem lw_p106 : lw_okq (⟨"WhiskedDuchyModel", "nextOf", "(II)I"⟩, 46) := ⟨⟨by decide +kernel, by decide +kernel⟩, List.mem_of_getElem? (i := 1149) (by decide +kernel), List.mem_of_getElem? (i := 1654) (by decide +kernel), List.mem_of_getElem? (i := 1655) (by decide +kernel)⟩
theorem lw_p107 : lw_okq (⟨"WhiskedDuchyModel", "tryRow", "(III)V"⟩, 46) := ⟨⟨by decide +kernel, by decide +kernel⟩, List.mem_of_getElem? (i := 1149) (by decide +kernel), List.mem_of_getElem? (i := 1662) (by decide +kernel), List.mem_of_getElem? (i := 1663) (by decide +kernel)⟩
theorem lw_p108 : lw_okq (⟨"WhiskedDuchyModel", "isUp", "(II)Z"⟩, 46) := ⟨⟨by decide +kernel, by decide +kernel⟩, List.mem_of_getElem? (i := 1149) (by decide +kernel), List.mem_of_getElem? (i := 1674) (by decide +kernel), List.mem_of_getElem? (i := 1675) (by decide +kernel)⟩
theorem lw_p109 : lw_okq (⟨"WhiskedDuchyModel", "isYolk", "(I)Z"⟩, 46) := ⟨⟨by decide +kernel, by decide +kernel⟩, List.mem_of_getElem? (i := 1149) (by decide +kernel), List.mem_of_getElem? (i := 1686) (by decide +kernel), List.mem_of_getElem? (i := 1687) (by decide +kernel)⟩
theorem lw_p110 : lw_okq (⟨"WhiskedDuchyModel", "morning", "(III)I"⟩, 46) := ⟨⟨by decide +kernel, by decide +kernel⟩, List.mem_of_getElem? (i := 1149) (by decide +kernel), List.mem_of_getElem? (i := 1690) (by decide +kernel), List.mem_of_getElem? (i := 1691) (by decide +kernel)⟩
theorem lw_p111 : lw_okq (⟨"WhiskedDuchyModel", "gameOf", "(IIIII)I"⟩, 46) := ⟨⟨by decide +kernel, by decide +kernel⟩, List.mem_of_getElem? (i := 1149) (by decide +kernel), List.mem_of_getElem? (i := 1705) (by decide +kernel), List.mem_of_getElem? (i := 1706) (by decide +kernel)⟩
def lw_privs_7 : List (MethodName × Nat) := [(⟨"WhiskedDuchyModel", "areDays", "(I)Z"⟩, 46), (⟨"WhiskedDuchyModel", "passDay", "()V"⟩, 46), (⟨"WhiskedDuchyModel", "worthIn", "()I"⟩, 46), (⟨"WhiskedDuchyModel", "drawDay", "()V"⟩, 46), (⟨"WhiskedDuchyModel", "draw", "(I)I"⟩, 46), (⟨"WhiskedDuchyModel", "standsBehind", "(II)I"⟩, 46), (⟨"WhiskedDuchyModel", "putAside", "(I)V"⟩, 46), (⟨"WhiskedDuchyModel", "takeBack", "(I)V"⟩, 46), (⟨"WhiskedDuchyModel", "soonestOf", "(II)I"⟩, 46), (⟨"WhiskedDuchyModel", "areTwo", "(II)Z"⟩, 46), (⟨"WhiskedDuchyModel", "nextOf", "(II)I"⟩, 46), (⟨"WhiskedDuchyModel", "tryRow", "(III)V"⟩, 46), (⟨"WhiskedDuchyModel", "isUp", "(II)Z"⟩, 46), (⟨"WhiskedDuchyModel", "isYolk", "(I)Z"⟩, 46), (⟨"WhiskedDuchyModel", "morning", "(III)I"⟩, 46), (⟨"WhiskedDuchyModel", "gameOf", "(IIIII)I"⟩, 46)]
theorem lw_r7 : ∀ q ∈ lw_privs_7, lw_okq q := List.forall_mem_cons.mpr ⟨lw_p96, List.forall_mem_cons.mpr ⟨lw_p97, List.forall_mem_cons.mpr ⟨lw_p98, List.forall_mem_cons.mpr ⟨lw_p99, List.forall_mem_cons.mpr ⟨lw_p100, List.forall_mem_cons.mpr ⟨lw_p101, List.forall_mem_cons.mpr ⟨lw_p102, List.forall_mem_cons.mpr ⟨lw_p103, List.forall_mem_cons.mpr ⟨lw_p104, List.forall_mem_cons.mpr ⟨lw_p105, List.forall_mem_cons.mpr ⟨lw_p106, List.forall_mem_cons.mpr ⟨lw_p107, List.forall_mem_cons.mpr ⟨lw_p108, List.forall_mem_cons.mpr ⟨lw_p109, List.forall_mem_cons.mpr ⟨lw_p110, List.forall_mem_cons.mpr ⟨lw_p111, fun _ h => absurd h List.not_mem_nil⟩⟩⟩⟩⟩⟩⟩⟩⟩⟩⟩⟩⟩⟩⟩⟩
theorem lw_p112 : lw_okq (⟨"WhiskedDuchyModel", "isRest", "(IIII)Z"⟩, 46) := ⟨⟨by decide +kernel, by decide +kernel⟩, List.mem_of_getElem? (i := 1149) (by decide +kernel), List.mem_of_getElem? (i := 1713) (by decide +kernel), List.mem_of_getElem? (i := 1714) (by decide +kernel)⟩
theorem lw_p113 : lw_okq (⟨"WhiskedDuchyModel", "oddsFrom", "(IIIII)I"⟩, 46) := ⟨⟨by decide +kernel, by decide +kernel⟩, List.mem_of_getElem? (i := 1149) (by decide +kernel), List.mem_of_getElem? (i := 1722) (by decide +kernel), List.mem_of_getElem? (i := 1723) (by decide +kernel)⟩
theorem lw_p114 : lw_okq (⟨"WhiskedDuchyModel", "topMinister", "(I)I"⟩, 46) := ⟨⟨by decide +kernel, by decide +kernel⟩, List.mem_of_getElem? (i := 1149) (by decide +kernel), List.mem_of_getElem? (i := 1735) (by decide +kernel), List.mem_of_getElem? (i := 1736) (by decide +kernel)⟩
theorem lw_p115 : lw_okq (⟨"WhiskedDuchyModel", "topCook", "(Z)I"⟩, 46) := ⟨⟨by decide +kernel, by decide +kernel⟩, List.mem_of_getElem? (i := 1149) (by decide +kernel), List.mem_of_getElem? (i := 1739) (by decide +kernel), List.mem_of_getElem? (i := 1740) (by decide +kernel)⟩
theorem lw_p116 : lw_okq (⟨"WhiskedDuchyModel", "could", "()I"⟩, 46) := ⟨⟨by decide +kernel, by decide +kernel⟩, List.mem_of_getElem? (i := 1149) (by decide +kernel), List.mem_of_getElem? (i := 1743) (by decide +kernel), List.mem_of_getElem? (i := 1744) (by decide +kernel)⟩
theorem lw_p117 : lw_okq (⟨"WhiskedDuchyModel", "doors", "()I"⟩, 46) := ⟨⟨by decide +kernel, by decide +kernel⟩, List.mem_of_getElem? (i := 1149) (by decide +kernel), List.mem_of_getElem? (i := 1747) (by decide +kernel), List.mem_of_getElem? (i := 1748) (by decide +kernel)⟩
def lw_privs_8 : List (MethodName × Nat) := [(⟨"WhiskedDuchyModel", "isRest", "(IIII)Z"⟩, 46), (⟨"WhiskedDuchyModel", "oddsFrom", "(IIIII)I"⟩, 46), (⟨"WhiskedDuchyModel", "topMinister", "(I)I"⟩, 46), (⟨"WhiskedDuchyModel", "topCook", "(Z)I"⟩, 46), (⟨"WhiskedDuchyModel", "could", "()I"⟩, 46), (⟨"WhiskedDuchyModel", "doors", "()I"⟩, 46)]
theorem lw_r8 : ∀ q ∈ lw_privs_8, lw_okq q := List.forall_mem_cons.mpr ⟨lw_p112, List.forall_mem_cons.mpr ⟨lw_p113, List.forall_mem_cons.mpr ⟨lw_p114, List.forall_mem_cons.mpr ⟨lw_p115, List.forall_mem_cons.mpr ⟨lw_p116, List.forall_mem_cons.mpr ⟨lw_p117, fun _ h => absurd h List.not_mem_nil⟩⟩⟩⟩⟩⟩
def lw_privs : List (MethodName × Nat) := lw_privs_1 ++ (lw_privs_2 ++ (lw_privs_3 ++ (lw_privs_4 ++ (lw_privs_5 ++ (lw_privs_6 ++ (lw_privs_7 ++ (lw_privs_8)))))))
def lw_tbl : List Cond := k2_sels lw_privs ++ tables_1
theorem lw_privs_ok : ∀ q ∈ lw_privs, lw_okq q := by
  show ∀ q ∈ lw_privs_1 ++ (lw_privs_2 ++ (lw_privs_3 ++ (lw_privs_4 ++ (lw_privs_5 ++ (lw_privs_6 ++ (lw_privs_7 ++ (lw_privs_8))))))), lw_okq q
  exact List.forall_mem_append.mpr ⟨lw_r1, List.forall_mem_append.mpr ⟨lw_r2, List.forall_mem_append.mpr ⟨lw_r3, List.forall_mem_append.mpr ⟨lw_r4, List.forall_mem_append.mpr ⟨lw_r5, List.forall_mem_append.mpr ⟨lw_r6, List.forall_mem_append.mpr ⟨lw_r7, lw_r8⟩⟩⟩⟩⟩⟩⟩
-- ===== end of PART A; then your names; then what follows =====
/-! THE CLAIM OUT OF ONE WALK OF THE LAW'S BODY. Your part is whole_start (and what it stands on); all else here is the same for every law, but numbers. -/
def R_law : String := "WhiskedDuchyLaw"
def lw_P (b : Addr) (xs : List Int32) (args : Array Value) (s : State) : Prop := args = #[.ref b] ∧ s.IntsAt b xs ∧ xs.length ≤ 3072 ∧ (Jvm.Cond.and given_1 narrow_1).before args s = true
def lw_Q (_ : Array Value) (s : State) (o : Outcome) (t : State) : Prop := o = .returned (some (.int 1)) ∧ Framed s o t [] 601024 7293033
def lw_Z (below : List Frame) (a : Array Value) (s : State) : State → Prop := fun t => ∃ o, t.status = .running ∧ Ended t below o ∧ lw_Q a s o t
/-- the law's own end, with 1 on the stack, nothing written that was there before, its room as the claim has it -/
theorem lw_ret {p : Program} {l : Launch} {e : Env} {s : State} {m : MethodId} {below : List Frame} {meth : Method} {c : Code} {b : Nat} (hx : p.tables.exec = Jvm.exec) (hb : c.code = code) (hr : meth.sig.returnType = ret) (hlocks : meth.locks = false) {pc : Nat} {H : Heap} {ls : Array Slot} (hdg : decode code pc = .ok (.ireturn, 1)) : W p l e room_1 s m #[Value.ref b] below meth c H [] 601024 7293033 (lw_Z below #[Value.ref b] s) (F0 m pc ls [.int 1]) := by
  intro T hT X
  obtain ⟨fs, hret, hrun, hended, hW, hframe⟩ := X.leave (v := some (.int 1)) (hlocks := hlocks) (fun h => by rw [hr] at h; cases h)
  have hmeth' : T.vm.method? m = some meth := X.method'
  refine ⟨T.setFrames fs, ?_, .returned (some (.int 1)), hrun, hended, rfl, ⟨_, rfl⟩, hW, hframe⟩
  jvm_step X.here [X.here.top, hx, hb, hdg, hmeth', hr, ret, narrow_b1]
  (try refine ⟨rfl, ?_⟩); (try refine ⟨rfl, ?_⟩)
  first | (intro acts; rw [hret _ acts rfl rfl rfl]) | rw [hret _ _ rfl rfl rfl]
  exact Steps.refl _
/-- what holds at the law's entry: the machine, the code, the tables' words (any of lw_tbl by 'hts w (by decide +kernel)'), the script of L ints xs at the cell b, what the Statement gives of the start (any of its parts by flat_of_before) -/
def lw_At (p : Program) (s : State) (m : MethodId) (meth : Method) (c : Code) (b L : Nat) (xs : Nat → Int32) : Prop :=
  p.tables.exec = Jvm.exec ∧ c.code = code ∧ meth.sig.returnType = ret ∧ c.maxLocals = 7 ∧ s.vm.findClass R_law = some m.cls ∧ (∀ w ∈ lw_tbl, w.before #[Value.ref b] s = true) ∧ va_X b L xs s s.heap ∧ b < s.heap.size ∧ meth.locks = false ∧ (Jvm.Cond.and given_1 narrow_1).before #[Value.ref b] s = true
end
section
def RX0 : String := "WhiskedDuchy$Bowl"
def TX0 : u_T := fun k => match k with
  | 0 => ("WhiskedDuchy$Bowl", "stands", "I", false)
  | 1 => ("WhiskedDuchy$Bowl", "strokes", "I", false)
  | 2 => ("WhiskedDuchy$Bowl", "inside", "I", false)
  | 3 => ("WhiskedDuchy$Bowl", "sugar", "I", false)
  | 4 => ("WhiskedDuchy$Bowl", "yolk", "I", false)
  | 5 => ("WhiskedDuchy$Bowl", "purse", "I", false)
  | 6 => ("WhiskedDuchy$Bowl", "glory", "I", false)
  | 7 => ("WhiskedDuchy$Bowl", "fallen", "I", false)
  | 8 => ("WhiskedDuchy$Bowl", "day", "I", false)
  | 9 => ("WhiskedDuchy$Bowl", "tired", "[I", true)
  | _ => ("WhiskedDuchy$Bowl", "wrists", "[I", true)
def tyX0 : Nat → FieldType := fun k => match k with
  | 0 => .int
  | 1 => .int
  | 2 => .int
  | 3 => .int
  | 4 => .int
  | 5 => .int
  | 6 => .int
  | 7 => .int
  | 8 => .int
  | 9 => .array .int
  | _ => .array .int
abbrev wsX00 : List Cond := u_ws RX0 TX0 11
theorem nmX0 : ∀ a, a < 11 → ∀ b, b < 11 → a ≠ b → (TX0 a).2.1 ≠ (TX0 b).2.1 := by decide +kernel
theorem tyX0_ok : ∀ k, k < 11 → parseFieldDescriptor (TX0 k).2.2.1 = some (tyX0 k) := by decide +kernel
abbrev cX0_init : ByteArray := prog_2_method_1_code
def yX0_init : MethodName := ⟨RX0, "<init>", "()V"⟩
abbrev cX0_begin : ByteArray := prog_2_method_2_code
def yX0_begin : MethodName := ⟨RX0, "begin", "(LWhiskedDuchy$Told;)V"⟩
abbrev cX0_beginMorning : ByteArray := prog_2_method_3_code
def yX0_beginMorning : MethodName := ⟨RX0, "beginMorning", "()V"⟩
abbrev cX0_copyFrom : ByteArray := prog_2_method_4_code
def yX0_copyFrom : MethodName := ⟨RX0, "copyFrom", "(LWhiskedDuchy$Bowl;)V"⟩
abbrev cX0_tiredOf : ByteArray := prog_2_method_5_code
def yX0_tiredOf : MethodName := ⟨RX0, "tiredOf", "(I)I"⟩
abbrev cX0_wristOf : ByteArray := prog_2_method_6_code
def yX0_wristOf : MethodName := ⟨RX0, "wristOf", "(I)I"⟩
abbrev cX0_tire : ByteArray := prog_2_method_7_code
def yX0_tire : MethodName := ⟨RX0, "tire", "(II)V"⟩
abbrev cX0_strengthen : ByteArray := prog_2_method_8_code
def yX0_strengthen : MethodName := ⟨RX0, "strengthen", "(I)V"⟩
def RX1 : String := "WhiskedDuchy$Draws"
def TX1 : u_T := fun k => match k with
  | _ => ("WhiskedDuchy$Draws", "x", "J", false)
def tyX1 : Nat → FieldType := fun k => match k with
  | _ => .long
abbrev wsX10 : List Cond := u_ws RX1 TX1 1
theorem nmX1 : ∀ a, a < 1 → ∀ b, b < 1 → a ≠ b → (TX1 a).2.1 ≠ (TX1 b).2.1 := by decide +kernel
theorem tyX1_ok : ∀ k, k < 1 → parseFieldDescriptor (TX1 k).2.2.1 = some (tyX1 k) := by decide +kernel
abbrev cX1_init : ByteArray := prog_3_method_1_code
def yX1_init : MethodName := ⟨RX1, "<init>", "()V"⟩
abbrev cX1_begin : ByteArray := prog_3_method_2_code
def yX1_begin : MethodName := ⟨RX1, "begin", "(J)V"⟩
abbrev cX1_below : ByteArray := prog_3_method_3_code
def yX1_below : MethodName := ⟨RX1, "below", "(I)I"⟩
def RX2 : String := "WhiskedDuchy$DuchyReader"
def TX2 : u_T := fun k => match k with
  | 0 => ("WhiskedDuchy$DuchyReader", "tape", "LWhiskedDuchy$Tape;", true)
  | _ => ("WhiskedDuchy$DuchyReader", "read", "LWhiskedDuchy$Told;", true)
def tyX2 : Nat → FieldType := fun k => match k with
  | 0 => .object "WhiskedDuchy$Tape"
  | _ => .object "WhiskedDuchy$Told"
abbrev wsX20 : List Cond := u_ws RX2 TX2 2
theorem nmX2 : ∀ a, a < 2 → ∀ b, b < 2 → a ≠ b → (TX2 a).2.1 ≠ (TX2 b).2.1 := by decide +kernel
theorem tyX2_ok : ∀ k, k < 2 → parseFieldDescriptor (TX2 k).2.2.1 = some (tyX2 k) := by decide +kernel
abbrev cX2_init : ByteArray := prog_4_method_1_code
def yX2_init : MethodName := ⟨RX2, "<init>", "(LWhiskedDuchy$Tape;)V"⟩
abbrev cX2_read : ByteArray := prog_4_method_2_code
def yX2_read : MethodName := ⟨RX2, "read", "()LWhiskedDuchy$Told;"⟩
abbrev cX2_firstFault : ByteArray := prog_4_method_3_code
def yX2_firstFault : MethodName := ⟨RX2, "firstFault", "()I"⟩
abbrev cX2_isClauseNext : ByteArray := prog_4_method_4_code
def yX2_isClauseNext : MethodName := ⟨RX2, "isClauseNext", "()Z"⟩
abbrev cX2_isValueNext : ByteArray := prog_4_method_5_code
def yX2_isValueNext : MethodName := ⟨RX2, "isValueNext", "(III)Z"⟩
def RX3 : String := "WhiskedDuchy$LawReader"
def TX3 : u_T := fun k => match k with
  | 0 => ("WhiskedDuchy$LawReader", "tape", "LWhiskedDuchy$Tape;", true)
  | 1 => ("WhiskedDuchy$LawReader", "written", "[I", true)
  | _ => ("WhiskedDuchy$LawReader", "size", "I", false)
def tyX3 : Nat → FieldType := fun k => match k with
  | 0 => .object "WhiskedDuchy$Tape"
  | 1 => .array .int
  | _ => .int
abbrev wsX30 : List Cond := u_ws RX3 TX3 3
theorem nmX3 : ∀ a, a < 3 → ∀ b, b < 3 → a ≠ b → (TX3 a).2.1 ≠ (TX3 b).2.1 := by decide +kernel
theorem tyX3_ok : ∀ k, k < 3 → parseFieldDescriptor (TX3 k).2.2.1 = some (tyX3 k) := by decide +kernel
abbrev cX3_init : ByteArray := prog_5_method_1_code
def yX3_init : MethodName := ⟨RX3, "<init>", "(LWhiskedDuchy$Tape;)V"⟩
abbrev cX3_code : ByteArray := prog_5_method_2_code
def yX3_code : MethodName := ⟨RX3, "code", "()[I"⟩
abbrev cX3_write : ByteArray := prog_5_method_3_code
def yX3_write : MethodName := ⟨RX3, "write", "(I)V"⟩
abbrev cX3_firstFault : ByteArray := prog_5_method_4_code
def yX3_firstFault : MethodName := ⟨RX3, "firstFault", "()I"⟩
abbrev cX3_isClauseNext : ByteArray := prog_5_method_5_code
def yX3_isClauseNext : MethodName := ⟨RX3, "isClauseNext", "()Z"⟩
abbrev cX3_isSumBehindCondition : ByteArray := prog_5_method_6_code
def yX3_isSumBehindCondition : MethodName := ⟨RX3, "isSumBehindCondition", "()Z"⟩
abbrev cX3_isConditionNext : ByteArray := prog_5_method_7_code
def yX3_isConditionNext : MethodName := ⟨RX3, "isConditionNext", "(I)Z"⟩
abbrev cX3_areTruthsNext : ByteArray := prog_5_method_8_code
def yX3_areTruthsNext : MethodName := ⟨RX3, "areTruthsNext", "(I)Z"⟩
abbrev cX3_isTruthNext : ByteArray := prog_5_method_9_code
def yX3_isTruthNext : MethodName := ⟨RX3, "isTruthNext", "(I)Z"⟩
abbrev cX3_areUnitsNext : ByteArray := prog_5_method_10_code
def yX3_areUnitsNext : MethodName := ⟨RX3, "areUnitsNext", "(I)Z"⟩
abbrev cX3_isUnitNext : ByteArray := prog_5_method_11_code
def yX3_isUnitNext : MethodName := ⟨RX3, "isUnitNext", "(I)Z"⟩
abbrev cX3_isComparedNext : ByteArray := prog_5_method_12_code
def yX3_isComparedNext : MethodName := ⟨RX3, "isComparedNext", "(I)Z"⟩
abbrev cX3_isComparison : ByteArray := prog_5_method_13_code
def yX3_isComparison : MethodName := ⟨RX3, "isComparison", "(I)Z"⟩
abbrev cX3_isSumNext : ByteArray := prog_5_method_14_code
def yX3_isSumNext : MethodName := ⟨RX3, "isSumNext", "(I)Z"⟩
abbrev cX3_isTermNext : ByteArray := prog_5_method_15_code
def yX3_isTermNext : MethodName := ⟨RX3, "isTermNext", "(I)Z"⟩
abbrev cX3_isAtomNext : ByteArray := prog_5_method_16_code
def yX3_isAtomNext : MethodName := ⟨RX3, "isAtomNext", "(I)Z"⟩
abbrev cX3_isLetter : ByteArray := prog_5_method_17_code
def yX3_isLetter : MethodName := ⟨RX3, "isLetter", "(I)Z"⟩
def RX4 : String := "WhiskedDuchy$Laws"
def TX4 : u_T := fun k => match k with
  | 0 => ("WhiskedDuchy$Laws", "codes", "[[I", true)
  | 1 => ("WhiskedDuchy$Laws", "size", "I", false)
  | 2 => ("WhiskedDuchy$Laws", "chosen", "I", false)
  | 3 => ("WhiskedDuchy$Laws", "pile", "[I", true)
  | 4 => ("WhiskedDuchy$Laws", "top", "I", false)
  | 5 => ("WhiskedDuchy$Laws", "wrist", "I", false)
  | 6 => ("WhiskedDuchy$Laws", "stands", "I", false)
  | 7 => ("WhiskedDuchy$Laws", "strokes", "I", false)
  | 8 => ("WhiskedDuchy$Laws", "yolk", "I", false)
  | 9 => ("WhiskedDuchy$Laws", "age", "I", false)
  | _ => ("WhiskedDuchy$Laws", "copper", "I", false)
def tyX4 : Nat → FieldType := fun k => match k with
  | 0 => .array (.array .int)
  | 1 => .int
  | 2 => .int
  | 3 => .array .int
  | 4 => .int
  | 5 => .int
  | 6 => .int
  | 7 => .int
  | 8 => .int
  | 9 => .int
  | _ => .int
abbrev wsX40 : List Cond := u_ws RX4 TX4 11
theorem nmX4 : ∀ a, a < 11 → ∀ b, b < 11 → a ≠ b → (TX4 a).2.1 ≠ (TX4 b).2.1 := by decide +kernel
theorem tyX4_ok : ∀ k, k < 11 → parseFieldDescriptor (TX4 k).2.2.1 = some (tyX4 k) := by decide +kernel
abbrev cX4_init : ByteArray := prog_6_method_1_code
def yX4_init : MethodName := ⟨RX4, "<init>", "()V"⟩
abbrev cX4_size : ByteArray := prog_6_method_2_code
def yX4_size : MethodName := ⟨RX4, "size", "()I"⟩
abbrev cX4_isFull : ByteArray := prog_6_method_3_code
def yX4_isFull : MethodName := ⟨RX4, "isFull", "()Z"⟩
abbrev cX4_chosen : ByteArray := prog_6_method_4_code
def yX4_chosen : MethodName := ⟨RX4, "chosen", "()I"⟩
abbrev cX4_add : ByteArray := prog_6_method_5_code
def yX4_add : MethodName := ⟨RX4, "add", "([I)I"⟩
abbrev cX4_choose : ByteArray := prog_6_method_6_code
def yX4_choose : MethodName := ⟨RX4, "choose", "(I)Z"⟩
abbrev cX4_worth : ByteArray := prog_6_method_7_code
def yX4_worth : MethodName := ⟨RX4, "worth", "(IIIIII)I"⟩
abbrev cX4_push : ByteArray := prog_6_method_8_code
def yX4_push : MethodName := ⟨RX4, "push", "(J)V"⟩
abbrev cX4_pop : ByteArray := prog_6_method_9_code
def yX4_pop : MethodName := ⟨RX4, "pop", "()I"⟩
abbrev cX4_apply : ByteArray := prog_6_method_10_code
def yX4_apply : MethodName := ⟨RX4, "apply", "(I)V"⟩
abbrev cX4_joined : ByteArray := prog_6_method_11_code
def yX4_joined : MethodName := ⟨RX4, "joined", "(IJJ)J"⟩
def RX5 : String := "WhiskedDuchy$Log"
def TX5 : u_T := fun k => match k with
  | _ => ("WhiskedDuchy$Log", "ends", "[I", true)
def tyX5 : Nat → FieldType := fun k => match k with
  | _ => .array .int
abbrev wsX50 : List Cond := u_ws RX5 TX5 1
theorem nmX5 : ∀ a, a < 1 → ∀ b, b < 1 → a ≠ b → (TX5 a).2.1 ≠ (TX5 b).2.1 := by decide +kernel
theorem tyX5_ok : ∀ k, k < 1 → parseFieldDescriptor (TX5 k).2.2.1 = some (tyX5 k) := by decide +kernel
abbrev cX5_init : ByteArray := prog_7_method_1_code
def yX5_init : MethodName := ⟨RX5, "<init>", "()V"⟩
abbrev cX5_write : ByteArray := prog_7_method_2_code
def yX5_write : MethodName := ⟨RX5, "write", "(IIII)V"⟩
abbrev cX5_read : ByteArray := prog_7_method_3_code
def yX5_read : MethodName := ⟨RX5, "read", "(II)I"⟩
abbrev cX5_copyFrom : ByteArray := prog_7_method_4_code
def yX5_copyFrom : MethodName := ⟨RX5, "copyFrom", "(LWhiskedDuchy$Log;)V"⟩
abbrev cX5_placeOf : ByteArray := prog_7_method_5_code
def yX5_placeOf : MethodName := ⟨RX5, "placeOf", "(I)I"⟩
def RX6 : String := "WhiskedDuchy$Past"
def TX6 : u_T := fun k => match k with
  | 0 => ("WhiskedDuchy$Past", "kept", "[LWhiskedDuchy$Bowl;", true)
  | 1 => ("WhiskedDuchy$Past", "size", "I", false)
  | _ => ("WhiskedDuchy$Past", "next", "I", false)
def tyX6 : Nat → FieldType := fun k => match k with
  | 0 => .array (.object "WhiskedDuchy$Bowl")
  | 1 => .int
  | _ => .int
abbrev wsX60 : List Cond := u_ws RX6 TX6 3
theorem nmX6 : ∀ a, a < 3 → ∀ b, b < 3 → a ≠ b → (TX6 a).2.1 ≠ (TX6 b).2.1 := by decide +kernel
theorem tyX6_ok : ∀ k, k < 3 → parseFieldDescriptor (TX6 k).2.2.1 = some (tyX6 k) := by decide +kernel
abbrev cX6_init : ByteArray := prog_8_method_1_code
def yX6_init : MethodName := ⟨RX6, "<init>", "()V"⟩
abbrev cX6_size : ByteArray := prog_8_method_2_code
def yX6_size : MethodName := ⟨RX6, "size", "()I"⟩
abbrev cX6_clear : ByteArray := prog_8_method_3_code
def yX6_clear : MethodName := ⟨RX6, "clear", "()V"⟩
abbrev cX6_keep : ByteArray := prog_8_method_4_code
def yX6_keep : MethodName := ⟨RX6, "keep", "(LWhiskedDuchy$Bowl;)V"⟩
abbrev cX6_takeBack : ByteArray := prog_8_method_5_code
def yX6_takeBack : MethodName := ⟨RX6, "takeBack", "(LWhiskedDuchy$Bowl;)Z"⟩
def RX7 : String := "WhiskedDuchy$Rows"
def TX7 : u_T := fun k => match k with
  | 0 => ("WhiskedDuchy$Rows", "told", "LWhiskedDuchy$Told;", true)
  | 1 => ("WhiskedDuchy$Rows", "bowl", "LWhiskedDuchy$Bowl;", true)
  | 2 => ("WhiskedDuchy$Rows", "least", "[I", true)
  | 3 => ("WhiskedDuchy$Rows", "losses", "[I", true)
  | _ => ("WhiskedDuchy$Rows", "values", "[I", true)
def tyX7 : Nat → FieldType := fun k => match k with
  | 0 => .object "WhiskedDuchy$Told"
  | 1 => .object "WhiskedDuchy$Bowl"
  | 2 => .array .int
  | 3 => .array .int
  | _ => .array .int
abbrev wsX70 : List Cond := u_ws RX7 TX7 5
theorem nmX7 : ∀ a, a < 5 → ∀ b, b < 5 → a ≠ b → (TX7 a).2.1 ≠ (TX7 b).2.1 := by decide +kernel
theorem tyX7_ok : ∀ k, k < 5 → parseFieldDescriptor (TX7 k).2.2.1 = some (tyX7 k) := by decide +kernel
abbrev cX7_init : ByteArray := prog_9_method_1_code
def yX7_init : MethodName := ⟨RX7, "<init>", "(LWhiskedDuchy$Told;LWhiskedDuchy$Bowl;)V"⟩
abbrev cX7_bestSet : ByteArray := prog_9_method_2_code
def yX7_bestSet : MethodName := ⟨RX7, "bestSet", "()I"⟩
abbrev cX7_leastRowOf : ByteArray := prog_9_method_3_code
def yX7_leastRowOf : MethodName := ⟨RX7, "leastRowOf", "(I)I"⟩
abbrev cX7_valueOf : ByteArray := prog_9_method_4_code
def yX7_valueOf : MethodName := ⟨RX7, "valueOf", "(I)I"⟩
abbrev cX7_standsBehind : ByteArray := prog_9_method_5_code
def yX7_standsBehind : MethodName := ⟨RX7, "standsBehind", "(I)I"⟩
abbrev cX7_leastRowTo : ByteArray := prog_9_method_6_code
def yX7_leastRowTo : MethodName := ⟨RX7, "leastRowTo", "(I)I"⟩
abbrev cX7_canEnd : ByteArray := prog_9_method_7_code
def yX7_canEnd : MethodName := ⟨RX7, "canEnd", "(II)Z"⟩
abbrev cX7_isBetter : ByteArray := prog_9_method_8_code
def yX7_isBetter : MethodName := ⟨RX7, "isBetter", "(II)Z"⟩
def RX8 : String := "WhiskedDuchy$Sightings"
def TX8 : u_T := fun k => match k with
  | 0 => ("WhiskedDuchy$Sightings", "cooks", "[I", true)
  | 1 => ("WhiskedDuchy$Sightings", "strokes", "[I", true)
  | 2 => ("WhiskedDuchy$Sightings", "marks", "[I", true)
  | 3 => ("WhiskedDuchy$Sightings", "reached", "[Z", true)
  | _ => ("WhiskedDuchy$Sightings", "size", "I", false)
def tyX8 : Nat → FieldType := fun k => match k with
  | 0 => .array .int
  | 1 => .array .int
  | 2 => .array .int
  | 3 => .array .boolean
  | _ => .int
abbrev wsX80 : List Cond := u_ws RX8 TX8 5
theorem nmX8 : ∀ a, a < 5 → ∀ b, b < 5 → a ≠ b → (TX8 a).2.1 ≠ (TX8 b).2.1 := by decide +kernel
theorem tyX8_ok : ∀ k, k < 5 → parseFieldDescriptor (TX8 k).2.2.1 = some (tyX8 k) := by decide +kernel
abbrev cX8_init : ByteArray := prog_10_method_1_code
def yX8_init : MethodName := ⟨RX8, "<init>", "()V"⟩
abbrev cX8_size : ByteArray := prog_10_method_2_code
def yX8_size : MethodName := ⟨RX8, "size", "()I"⟩
abbrev cX8_isFull : ByteArray := prog_10_method_3_code
def yX8_isFull : MethodName := ⟨RX8, "isFull", "()Z"⟩
abbrev cX8_clear : ByteArray := prog_10_method_4_code
def yX8_clear : MethodName := ⟨RX8, "clear", "()V"⟩
abbrev cX8_add : ByteArray := prog_10_method_5_code
def yX8_add : MethodName := ⟨RX8, "add", "(IIIZ)V"⟩
abbrev cX8_furthestOf : ByteArray := prog_10_method_6_code
def yX8_furthestOf : MethodName := ⟨RX8, "furthestOf", "(I)I"⟩
abbrev cX8_isAgainst : ByteArray := prog_10_method_7_code
def yX8_isAgainst : MethodName := ⟨RX8, "isAgainst", "(III)Z"⟩
def RX9 : String := "WhiskedDuchy$Tape"
def TX9 : u_T := fun k => match k with
  | 0 => ("WhiskedDuchy$Tape", "bytes", "[I", true)
  | 1 => ("WhiskedDuchy$Tape", "size", "I", false)
  | _ => ("WhiskedDuchy$Tape", "at", "I", false)
def tyX9 : Nat → FieldType := fun k => match k with
  | 0 => .array .int
  | 1 => .int
  | _ => .int
abbrev wsX90 : List Cond := u_ws RX9 TX9 3
theorem nmX9 : ∀ a, a < 3 → ∀ b, b < 3 → a ≠ b → (TX9 a).2.1 ≠ (TX9 b).2.1 := by decide +kernel
theorem tyX9_ok : ∀ k, k < 3 → parseFieldDescriptor (TX9 k).2.2.1 = some (tyX9 k) := by decide +kernel
abbrev cX9_init : ByteArray := prog_11_method_1_code
def yX9_init : MethodName := ⟨RX9, "<init>", "()V"⟩
abbrev cX9_size : ByteArray := prog_11_method_2_code
def yX9_size : MethodName := ⟨RX9, "size", "()I"⟩
abbrev cX9_signsIn : ByteArray := prog_11_method_3_code
def yX9_signsIn : MethodName := ⟨RX9, "signsIn", "(I)I"⟩
abbrev cX9_put : ByteArray := prog_11_method_4_code
def yX9_put : MethodName := ⟨RX9, "put", "(I)V"⟩
abbrev cX9_cutBehind : ByteArray := prog_11_method_5_code
def yX9_cutBehind : MethodName := ⟨RX9, "cutBehind", "(I)Z"⟩
abbrev cX9_rewind : ByteArray := prog_11_method_6_code
def yX9_rewind : MethodName := ⟨RX9, "rewind", "()V"⟩
abbrev cX9_at : ByteArray := prog_11_method_7_code
def yX9_at : MethodName := ⟨RX9, "at", "()I"⟩
abbrev cX9_look : ByteArray := prog_11_method_8_code
def yX9_look : MethodName := ⟨RX9, "look", "()I"⟩
abbrev cX9_step : ByteArray := prog_11_method_9_code
def yX9_step : MethodName := ⟨RX9, "step", "()V"⟩
abbrev cX9_stepBack : ByteArray := prog_11_method_10_code
def yX9_stepBack : MethodName := ⟨RX9, "stepBack", "()V"⟩
abbrev cX9_take : ByteArray := prog_11_method_11_code
def yX9_take : MethodName := ⟨RX9, "take", "(C)Z"⟩
abbrev cX9_number : ByteArray := prog_11_method_12_code
def yX9_number : MethodName := ⟨RX9, "number", "(I)I"⟩
abbrev cX9_isDigitHere : ByteArray := prog_11_method_13_code
def yX9_isDigitHere : MethodName := ⟨RX9, "isDigitHere", "()Z"⟩
abbrev cX9_isDigit : ByteArray := prog_11_method_14_code
def yX9_isDigit : MethodName := ⟨RX9, "isDigit", "(I)Z"⟩
def RX10 : String := "WhiskedDuchy$Told"
def TX10 : u_T := fun k => match k with
  | 0 => ("WhiskedDuchy$Told", "values", "[I", true)
  | _ => ("WhiskedDuchy$Told", "many", "[I", true)
def tyX10 : Nat → FieldType := fun k => match k with
  | 0 => .array .int
  | _ => .array .int
abbrev wsX100 : List Cond := u_ws RX10 TX10 2
theorem nmX10 : ∀ a, a < 2 → ∀ b, b < 2 → a ≠ b → (TX10 a).2.1 ≠ (TX10 b).2.1 := by decide +kernel
theorem tyX10_ok : ∀ k, k < 2 → parseFieldDescriptor (TX10 k).2.2.1 = some (tyX10 k) := by decide +kernel
abbrev cX10_init : ByteArray := prog_12_method_1_code
def yX10_init : MethodName := ⟨RX10, "<init>", "()V"⟩
abbrev cX10_clear : ByteArray := prog_12_method_2_code
def yX10_clear : MethodName := ⟨RX10, "clear", "()V"⟩
abbrev cX10_copyFrom : ByteArray := prog_12_method_3_code
def yX10_copyFrom : MethodName := ⟨RX10, "copyFrom", "(LWhiskedDuchy$Told;)V"⟩
abbrev cX10_howMany : ByteArray := prog_12_method_4_code
def yX10_howMany : MethodName := ⟨RX10, "howMany", "(I)I"⟩
abbrev cX10_isFull : ByteArray := prog_12_method_5_code
def yX10_isFull : MethodName := ⟨RX10, "isFull", "(I)Z"⟩
abbrev cX10_kindBy : ByteArray := prog_12_method_6_code
def yX10_kindBy : MethodName := ⟨RX10, "kindBy", "(I)I"⟩
abbrev cX10_itemBy : ByteArray := prog_12_method_7_code
def yX10_itemBy : MethodName := ⟨RX10, "itemBy", "(II)I"⟩
abbrev cX10_isAllowed : ByteArray := prog_12_method_8_code
def yX10_isAllowed : MethodName := ⟨RX10, "isAllowed", "(III)Z"⟩
abbrev cX10_add : ByteArray := prog_12_method_9_code
def yX10_add : MethodName := ⟨RX10, "add", "(I)I"⟩
abbrev cX10_fillWithout : ByteArray := prog_12_method_10_code
def yX10_fillWithout : MethodName := ⟨RX10, "fillWithout", "(II)V"⟩
abbrev cX10_set : ByteArray := prog_12_method_11_code
def yX10_set : MethodName := ⟨RX10, "set", "(IIII)V"⟩
abbrev cX10_item : ByteArray := prog_12_method_12_code
def yX10_item : MethodName := ⟨RX10, "item", "(III)I"⟩
abbrev cX10_isKind : ByteArray := prog_12_method_13_code
def yX10_isKind : MethodName := ⟨RX10, "isKind", "(I)Z"⟩
abbrev cX10_lineOf : ByteArray := prog_12_method_14_code
def yX10_lineOf : MethodName := ⟨RX10, "lineOf", "(II)I"⟩
abbrev cX10_placeOf : ByteArray := prog_12_method_15_code
def yX10_placeOf : MethodName := ⟨RX10, "placeOf", "(III)I"⟩
def RX11 : String := "WhiskedDuchy"
def TX11 : u_T := fun k => match k with
  | 0 => ("WhiskedDuchy", "tape", "LWhiskedDuchy$Tape;", true)
  | 1 => ("WhiskedDuchy", "duchyReader", "LWhiskedDuchy$DuchyReader;", true)
  | 2 => ("WhiskedDuchy", "lawReader", "LWhiskedDuchy$LawReader;", true)
  | 3 => ("WhiskedDuchy", "laws", "LWhiskedDuchy$Laws;", true)
  | 4 => ("WhiskedDuchy", "told", "LWhiskedDuchy$Told;", true)
  | 5 => ("WhiskedDuchy", "now", "LWhiskedDuchy$Bowl;", true)
  | 6 => ("WhiskedDuchy", "past", "LWhiskedDuchy$Past;", true)
  | 7 => ("WhiskedDuchy", "diary", "LWhiskedDuchy$Log;", true)
  | 8 => ("WhiskedDuchy", "imageBowl", "LWhiskedDuchy$Bowl;", true)
  | 9 => ("WhiskedDuchy", "imageDiary", "LWhiskedDuchy$Log;", true)
  | 10 => ("WhiskedDuchy", "sightings", "LWhiskedDuchy$Sightings;", true)
  | 11 => ("WhiskedDuchy", "rows", "LWhiskedDuchy$Rows;", true)
  | 12 => ("WhiskedDuchy", "draws", "LWhiskedDuchy$Draws;", true)
  | 13 => ("WhiskedDuchy", "refused", "[I", true)
  | 14 => ("WhiskedDuchy", "stoodBy", "[I", true)
  | 15 => ("WhiskedDuchy", "stoodInGame", "[I", true)
  | 16 => ("WhiskedDuchy", "isDuchy", "Z", false)
  | 17 => ("WhiskedDuchy", "isImage", "Z", false)
  | _ => ("WhiskedDuchy", "draughty", "I", false)
def tyX11 : Nat → FieldType := fun k => match k with
  | 0 => .object "WhiskedDuchy$Tape"
  | 1 => .object "WhiskedDuchy$DuchyReader"
  | 2 => .object "WhiskedDuchy$LawReader"
  | 3 => .object "WhiskedDuchy$Laws"
  | 4 => .object "WhiskedDuchy$Told"
  | 5 => .object "WhiskedDuchy$Bowl"
  | 6 => .object "WhiskedDuchy$Past"
  | 7 => .object "WhiskedDuchy$Log"
  | 8 => .object "WhiskedDuchy$Bowl"
  | 9 => .object "WhiskedDuchy$Log"
  | 10 => .object "WhiskedDuchy$Sightings"
  | 11 => .object "WhiskedDuchy$Rows"
  | 12 => .object "WhiskedDuchy$Draws"
  | 13 => .array .int
  | 14 => .array .int
  | 15 => .array .int
  | 16 => .boolean
  | 17 => .boolean
  | _ => .int
abbrev wsX110 : List Cond := u_ws RX11 TX11 19
theorem nmX11 : ∀ a, a < 19 → ∀ b, b < 19 → a ≠ b → (TX11 a).2.1 ≠ (TX11 b).2.1 := by decide +kernel
theorem tyX11_ok : ∀ k, k < 19 → parseFieldDescriptor (TX11 k).2.2.1 = some (tyX11 k) := by decide +kernel
abbrev cX11_init : ByteArray := prog_1_method_1_code
def yX11_init : MethodName := ⟨RX11, "<init>", "()V"⟩
abbrev cX11_feed : ByteArray := prog_1_method_2_code
def yX11_feed : MethodName := ⟨RX11, "feed", "(IIIII)I"⟩
abbrev cX11_end : ByteArray := prog_1_method_3_code
def yX11_end : MethodName := ⟨RX11, "end", "(I)Z"⟩
abbrev cX11_fault : ByteArray := prog_1_method_4_code
def yX11_fault : MethodName := ⟨RX11, "fault", "(I)I"⟩
abbrev cX11_text : ByteArray := prog_1_method_5_code
def yX11_text : MethodName := ⟨RX11, "text", "(I)I"⟩
abbrev cX11_beginDuchy : ByteArray := prog_1_method_6_code
def yX11_beginDuchy : MethodName := ⟨RX11, "beginDuchy", "()V"⟩
abbrev cX11_law : ByteArray := prog_1_method_7_code
def yX11_law : MethodName := ⟨RX11, "law", "(I)Z"⟩
abbrev cX11_rule : ByteArray := prog_1_method_8_code
def yX11_rule : MethodName := ⟨RX11, "rule", "(I)I"⟩
abbrev cX11_cook : ByteArray := prog_1_method_9_code
def yX11_cook : MethodName := ⟨RX11, "cook", "(II)I"⟩
abbrev cX11_minister : ByteArray := prog_1_method_10_code
def yX11_minister : MethodName := ⟨RX11, "minister", "(II)I"⟩
abbrev cX11_hasCook : ByteArray := prog_1_method_11_code
def yX11_hasCook : MethodName := ⟨RX11, "hasCook", "(I)Z"⟩
abbrev cX11_hasTwoCooks : ByteArray := prog_1_method_12_code
def yX11_hasTwoCooks : MethodName := ⟨RX11, "hasTwoCooks", "(II)Z"⟩
abbrev cX11_hasMinister : ByteArray := prog_1_method_13_code
def yX11_hasMinister : MethodName := ⟨RX11, "hasMinister", "(I)Z"⟩
abbrev cX11_isInside : ByteArray := prog_1_method_14_code
def yX11_isInside : MethodName := ⟨RX11, "isInside", "(I)Z"⟩
abbrev cX11_sumInside : ByteArray := prog_1_method_15_code
def yX11_sumInside : MethodName := ⟨RX11, "sumInside", "(I)I"⟩
abbrev cX11_strokesLeft : ByteArray := prog_1_method_16_code
def yX11_strokesLeft : MethodName := ⟨RX11, "strokesLeft", "(I)I"⟩
abbrev cX11_canFold : ByteArray := prog_1_method_17_code
def yX11_canFold : MethodName := ⟨RX11, "canFold", "(I)Z"⟩
abbrev cX11_couldFold : ByteArray := prog_1_method_18_code
def yX11_couldFold : MethodName := ⟨RX11, "couldFold", "()I"⟩
abbrev cX11_whisked : ByteArray := prog_1_method_19_code
def yX11_whisked : MethodName := ⟨RX11, "whisked", "(IIII)I"⟩
abbrev cX11_whisk : ByteArray := prog_1_method_20_code
def yX11_whisk : MethodName := ⟨RX11, "whisk", "(II)V"⟩
abbrev cX11_foldIn : ByteArray := prog_1_method_21_code
def yX11_foldIn : MethodName := ⟨RX11, "foldIn", "(I)V"⟩
abbrev cX11_openDoor : ByteArray := prog_1_method_22_code
def yX11_openDoor : MethodName := ⟨RX11, "openDoor", "()V"⟩
abbrev cX11_passHour : ByteArray := prog_1_method_23_code
def yX11_passHour : MethodName := ⟨RX11, "passHour", "()V"⟩
abbrev cX11_sinksBy : ByteArray := prog_1_method_24_code
def yX11_sinksBy : MethodName := ⟨RX11, "sinksBy", "()I"⟩
abbrev cX11_sunk : ByteArray := prog_1_method_25_code
def yX11_sunk : MethodName := ⟨RX11, "sunk", "(II)I"⟩
abbrev cX11_fallIfFlat : ByteArray := prog_1_method_26_code
def yX11_fallIfFlat : MethodName := ⟨RX11, "fallIfFlat", "()V"⟩
abbrev cX11_passDay : ByteArray := prog_1_method_27_code
def yX11_passDay : MethodName := ⟨RX11, "passDay", "()V"⟩
abbrev cX11_passDrawnDay : ByteArray := prog_1_method_28_code
def yX11_passDrawnDay : MethodName := ⟨RX11, "passDrawnDay", "()V"⟩
abbrev cX11_refuse : ByteArray := prog_1_method_29_code
def yX11_refuse : MethodName := ⟨RX11, "refuse", "(I)I"⟩
abbrev cX11_strokes : ByteArray := prog_1_method_30_code
def yX11_strokes : MethodName := ⟨RX11, "strokes", "(II)I"⟩
abbrev cX11_fold : ByteArray := prog_1_method_31_code
def yX11_fold : MethodName := ⟨RX11, "fold", "(I)I"⟩
abbrev cX11_sugar : ByteArray := prog_1_method_32_code
def yX11_sugar : MethodName := ⟨RX11, "sugar", "()I"⟩
abbrev cX11_door : ByteArray := prog_1_method_33_code
def yX11_door : MethodName := ⟨RX11, "door", "()I"⟩
abbrev cX11_hours : ByteArray := prog_1_method_34_code
def yX11_hours : MethodName := ⟨RX11, "hours", "(I)I"⟩
abbrev cX11_practise : ByteArray := prog_1_method_35_code
def yX11_practise : MethodName := ⟨RX11, "practise", "(I)I"⟩
abbrev cX11_yolk : ByteArray := prog_1_method_36_code
def yX11_yolk : MethodName := ⟨RX11, "yolk", "()I"⟩
abbrev cX11_give : ByteArray := prog_1_method_37_code
def yX11_give : MethodName := ⟨RX11, "give", "(I)I"⟩
abbrev cX11_days : ByteArray := prog_1_method_38_code
def yX11_days : MethodName := ⟨RX11, "days", "(I)I"⟩
abbrev cX11_draught : ByteArray := prog_1_method_39_code
def yX11_draught : MethodName := ⟨RX11, "draught", "(I)Z"⟩
abbrev cX11_years : ByteArray := prog_1_method_40_code
def yX11_years : MethodName := ⟨RX11, "years", "(IJ)I"⟩
abbrev cX11_status : ByteArray := prog_1_method_41_code
def yX11_status : MethodName := ⟨RX11, "status", "(I)I"⟩
abbrev cX11_undo : ByteArray := prog_1_method_42_code
def yX11_undo : MethodName := ⟨RX11, "undo", "()I"⟩
abbrev cX11_log : ByteArray := prog_1_method_43_code
def yX11_log : MethodName := ⟨RX11, "log", "(II)I"⟩
abbrev cX11_logSize : ByteArray := prog_1_method_44_code
def yX11_logSize : MethodName := ⟨RX11, "logSize", "()I"⟩
abbrev cX11_behind : ByteArray := prog_1_method_45_code
def yX11_behind : MethodName := ⟨RX11, "behind", "(II)I"⟩
abbrev cX11_whiskedOften : ByteArray := prog_1_method_46_code
def yX11_whiskedOften : MethodName := ⟨RX11, "whiskedOften", "(IIIII)I"⟩
abbrev cX11_soonest : ByteArray := prog_1_method_47_code
def yX11_soonest : MethodName := ⟨RX11, "soonest", "(II)I"⟩
abbrev cX11_soonestOf : ByteArray := prog_1_method_48_code
def yX11_soonestOf : MethodName := ⟨RX11, "soonestOf", "(II)I"⟩
abbrev cX11_stop : ByteArray := prog_1_method_49_code
def yX11_stop : MethodName := ⟨RX11, "stop", "(II)I"⟩
abbrev cX11_best : ByteArray := prog_1_method_50_code
def yX11_best : MethodName := ⟨RX11, "best", "(I)I"⟩
abbrev cX11_byTurns : ByteArray := prog_1_method_51_code
def yX11_byTurns : MethodName := ⟨RX11, "byTurns", "(III)I"⟩
abbrev cX11_row : ByteArray := prog_1_method_52_code
def yX11_row : MethodName := ⟨RX11, "row", "(I)I"⟩
abbrev cX11_lasts : ByteArray := prog_1_method_53_code
def yX11_lasts : MethodName := ⟨RX11, "lasts", "()I"⟩
abbrev cX11_holds : ByteArray := prog_1_method_54_code
def yX11_holds : MethodName := ⟨RX11, "holds", "(I)I"⟩
abbrev cX11_seen : ByteArray := prog_1_method_55_code
def yX11_seen : MethodName := ⟨RX11, "seen", "(IIIZ)I"⟩
abbrev cX11_fits : ByteArray := prog_1_method_56_code
def yX11_fits : MethodName := ⟨RX11, "fits", "(I)I"⟩
abbrev cX11_placeOfBit : ByteArray := prog_1_method_57_code
def yX11_placeOfBit : MethodName := ⟨RX11, "placeOfBit", "(II)I"⟩
abbrev cX11_fittingYolks : ByteArray := prog_1_method_58_code
def yX11_fittingYolks : MethodName := ⟨RX11, "fittingYolks", "()I"⟩
abbrev cX11_isFitting : ByteArray := prog_1_method_59_code
def yX11_isFitting : MethodName := ⟨RX11, "isFitting", "(I)Z"⟩
abbrev cX11_probe : ByteArray := prog_1_method_60_code
def yX11_probe : MethodName := ⟨RX11, "probe", "(II)I"⟩
abbrev cX11_whiskAllYolks : ByteArray := prog_1_method_61_code
def yX11_whiskAllYolks : MethodName := ⟨RX11, "whiskAllYolks", "(IIII)I"⟩
abbrev cX11_game : ByteArray := prog_1_method_62_code
def yX11_game : MethodName := ⟨RX11, "game", "(IIIII)I"⟩
abbrev cX11_rests : ByteArray := prog_1_method_63_code
def yX11_rests : MethodName := ⟨RX11, "rests", "(III)I"⟩
abbrev cX11_playAll : ByteArray := prog_1_method_64_code
def yX11_playAll : MethodName := ⟨RX11, "playAll", "(II)V"⟩
abbrev cX11_quarterOf : ByteArray := prog_1_method_65_code
def yX11_quarterOf : MethodName := ⟨RX11, "quarterOf", "(II)I"⟩
abbrev cX11_isRest : ByteArray := prog_1_method_66_code
def yX11_isRest : MethodName := ⟨RX11, "isRest", "(II)Z"⟩
abbrev cX11_odds : ByteArray := prog_1_method_67_code
def yX11_odds : MethodName := ⟨RX11, "odds", "(III)I"⟩
abbrev cX11_partsAt : ByteArray := prog_1_method_68_code
def yX11_partsAt : MethodName := ⟨RX11, "partsAt", "(IJIIII)J"⟩
abbrev cX11_shares : ByteArray := prog_1_method_69_code
def yX11_shares : MethodName := ⟨RX11, "shares", "(II)I"⟩
abbrev cX11_most : ByteArray := prog_1_method_70_code
def yX11_most : MethodName := ⟨RX11, "most", "(I)I"⟩
abbrev cX11_firstMinisterByMost : ByteArray := prog_1_method_71_code
def yX11_firstMinisterByMost : MethodName := ⟨RX11, "firstMinisterByMost", "(I)I"⟩
abbrev cX11_strongestCook : ByteArray := prog_1_method_72_code
def yX11_strongestCook : MethodName := ⟨RX11, "strongestCook", "()I"⟩
abbrev cX11_freshestCook : ByteArray := prog_1_method_73_code
def yX11_freshestCook : MethodName := ⟨RX11, "freshestCook", "()I"⟩
abbrev cX11_doorsToFlat : ByteArray := prog_1_method_74_code
def yX11_doorsToFlat : MethodName := ⟨RX11, "doorsToFlat", "()I"⟩
abbrev cX11_ahead : ByteArray := prog_1_method_75_code
def yX11_ahead : MethodName := ⟨RX11, "ahead", "(I)I"⟩
abbrev cX11_image : ByteArray := prog_1_method_76_code
def yX11_image : MethodName := ⟨RX11, "image", "()I"⟩
abbrev cX11_back : ByteArray := prog_1_method_77_code
def yX11_back : MethodName := ⟨RX11, "back", "()I"⟩
abbrev cX11_count : ByteArray := prog_1_method_78_code
def yX11_count : MethodName := ⟨RX11, "count", "(I)I"⟩
abbrev cX11_isWithin : ByteArray := prog_1_method_79_code
def yX11_isWithin : MethodName := ⟨RX11, "isWithin", "(III)Z"⟩
abbrev cX11_isStand : ByteArray := prog_1_method_80_code
def yX11_isStand : MethodName := ⟨RX11, "isStand", "(I)Z"⟩
abbrev cX11_within : ByteArray := prog_1_method_81_code
def yX11_within : MethodName := ⟨RX11, "within", "(III)I"⟩
def RX12 : String := "WhiskedDuchyModel"
def TX12 : u_T := fun k => match k with
  | 0 => ("WhiskedDuchyModel", "thrown", "I", false)
  | 1 => ("WhiskedDuchyModel", "tape", "[I", true)
  | 2 => ("WhiskedDuchyModel", "size", "I", false)
  | 3 => ("WhiskedDuchyModel", "at", "I", false)
  | 4 => ("WhiskedDuchyModel", "wrong", "I", false)
  | 5 => ("WhiskedDuchyModel", "deep", "I", false)
  | 6 => ("WhiskedDuchyModel", "code", "[I", true)
  | 7 => ("WhiskedDuchyModel", "value", "[I", true)
  | 8 => ("WhiskedDuchyModel", "codes", "[I", true)
  | 9 => ("WhiskedDuchyModel", "clauses", "[I", true)
  | 10 => ("WhiskedDuchyModel", "testFrom", "[I", true)
  | 11 => ("WhiskedDuchyModel", "sumFrom", "[I", true)
  | 12 => ("WhiskedDuchyModel", "sumTo", "[I", true)
  | 13 => ("WhiskedDuchyModel", "laws", "I", false)
  | 14 => ("WhiskedDuchyModel", "text", "I", false)
  | 15 => ("WhiskedDuchyModel", "letters", "[I", true)
  | 16 => ("WhiskedDuchyModel", "stack", "[I", true)
  | 17 => ("WhiskedDuchyModel", "readRule", "[I", true)
  | 18 => ("WhiskedDuchyModel", "readCook", "[I", true)
  | 19 => ("WhiskedDuchyModel", "readMinister", "[I", true)
  | 20 => ("WhiskedDuchyModel", "readCooks", "I", false)
  | 21 => ("WhiskedDuchyModel", "readMinisters", "I", false)
  | 22 => ("WhiskedDuchyModel", "rule", "[I", true)
  | 23 => ("WhiskedDuchyModel", "cook", "[I", true)
  | 24 => ("WhiskedDuchyModel", "minister", "[I", true)
  | 25 => ("WhiskedDuchyModel", "cooks", "I", false)
  | 26 => ("WhiskedDuchyModel", "ministers", "I", false)
  | 27 => ("WhiskedDuchyModel", "now", "[I", true)
  | 28 => ("WhiskedDuchyModel", "refused", "[I", true)
  | 29 => ("WhiskedDuchyModel", "holding", "I", false)
  | 30 => ("WhiskedDuchyModel", "drafty", "I", false)
  | 31 => ("WhiskedDuchyModel", "kept", "[I", true)
  | 32 => ("WhiskedDuchyModel", "acts", "I", false)
  | 33 => ("WhiskedDuchyModel", "draws", "J", false)
  | 34 => ("WhiskedDuchyModel", "aside", "[I", true)
  | 35 => ("WhiskedDuchyModel", "bestRow", "I", false)
  | 36 => ("WhiskedDuchyModel", "bestWorth", "I", false)
  | 37 => ("WhiskedDuchyModel", "bestStands", "I", false)
  | 38 => ("WhiskedDuchyModel", "bestLong", "I", false)
  | 39 => ("WhiskedDuchyModel", "noteCook", "[I", true)
  | 40 => ("WhiskedDuchyModel", "noteMany", "[I", true)
  | 41 => ("WhiskedDuchyModel", "noteStands", "[I", true)
  | 42 => ("WhiskedDuchyModel", "noteIs", "[Z", true)
  | 43 => ("WhiskedDuchyModel", "noted", "I", false)
  | 44 => ("WhiskedDuchyModel", "image", "[I", true)
  | _ => ("WhiskedDuchyModel", "hasImage", "Z", false)
def tyX12 : Nat → FieldType := fun k => match k with
  | 0 => .int
  | 1 => .array .int
  | 2 => .int
  | 3 => .int
  | 4 => .int
  | 5 => .int
  | 6 => .array .int
  | 7 => .array .int
  | 8 => .array .int
  | 9 => .array .int
  | 10 => .array .int
  | 11 => .array .int
  | 12 => .array .int
  | 13 => .int
  | 14 => .int
  | 15 => .array .int
  | 16 => .array .int
  | 17 => .array .int
  | 18 => .array .int
  | 19 => .array .int
  | 20 => .int
  | 21 => .int
  | 22 => .array .int
  | 23 => .array .int
  | 24 => .array .int
  | 25 => .int
  | 26 => .int
  | 27 => .array .int
  | 28 => .array .int
  | 29 => .int
  | 30 => .int
  | 31 => .array .int
  | 32 => .int
  | 33 => .long
  | 34 => .array .int
  | 35 => .int
  | 36 => .int
  | 37 => .int
  | 38 => .int
  | 39 => .array .int
  | 40 => .array .int
  | 41 => .array .int
  | 42 => .array .boolean
  | 43 => .int
  | 44 => .array .int
  | _ => .boolean
abbrev wsX120 : List Cond := u_ws RX12 TX12 46
theorem nmX12 : ∀ a, a < 46 → ∀ b, b < 46 → a ≠ b → (TX12 a).2.1 ≠ (TX12 b).2.1 := by decide +kernel
theorem tyX12_ok : ∀ k, k < 46 → parseFieldDescriptor (TX12 k).2.2.1 = some (tyX12 k) := by decide +kernel
abbrev cX12_in : ByteArray := prog_14_method_1_code
def yX12_in : MethodName := ⟨RX12, "in", "(III)Z"⟩
abbrev cX12_has : ByteArray := prog_14_method_2_code
def yX12_has : MethodName := ⟨RX12, "has", "(II)Z"⟩
abbrev cX12_init : ByteArray := prog_14_method_3_code
def yX12_init : MethodName := ⟨RX12, "<init>", "()V"⟩
abbrev cX12_thrown : ByteArray := prog_14_method_4_code
def yX12_thrown : MethodName := ⟨RX12, "thrown", "()I"⟩
abbrev cX12_byteOf : ByteArray := prog_14_method_5_code
def yX12_byteOf : MethodName := ⟨RX12, "byteOf", "(IIIIII)I"⟩
abbrev cX12_feed : ByteArray := prog_14_method_6_code
def yX12_feed : MethodName := ⟨RX12, "feed", "(IIIII)I"⟩
abbrev cX12_end : ByteArray := prog_14_method_7_code
def yX12_end : MethodName := ⟨RX12, "end", "(I)Z"⟩
abbrev cX12_here : ByteArray := prog_14_method_8_code
def yX12_here : MethodName := ⟨RX12, "here", "()I"⟩
abbrev cX12_look : ByteArray := prog_14_method_9_code
def yX12_look : MethodName := ⟨RX12, "look", "()I"⟩
abbrev cX12_bad : ByteArray := prog_14_method_10_code
def yX12_bad : MethodName := ⟨RX12, "bad", "()V"⟩
abbrev cX12_isDigit : ByteArray := prog_14_method_11_code
def yX12_isDigit : MethodName := ⟨RX12, "isDigit", "(I)Z"⟩
abbrev cX12_put : ByteArray := prog_14_method_12_code
def yX12_put : MethodName := ⟨RX12, "put", "(II)V"⟩
abbrev cX12_letterOf : ByteArray := prog_14_method_13_code
def yX12_letterOf : MethodName := ⟨RX12, "letterOf", "(I)I"⟩
abbrev cX12_opens : ByteArray := prog_14_method_14_code
def yX12_opens : MethodName := ⟨RX12, "opens", "()V"⟩
abbrev cX12_closes : ByteArray := prog_14_method_15_code
def yX12_closes : MethodName := ⟨RX12, "closes", "(I)V"⟩
abbrev cX12_plainNumber : ByteArray := prog_14_method_16_code
def yX12_plainNumber : MethodName := ⟨RX12, "plainNumber", "()I"⟩
abbrev cX12_atom : ByteArray := prog_14_method_17_code
def yX12_atom : MethodName := ⟨RX12, "atom", "()V"⟩
abbrev cX12_term : ByteArray := prog_14_method_18_code
def yX12_term : MethodName := ⟨RX12, "term", "()V"⟩
abbrev cX12_sum : ByteArray := prog_14_method_19_code
def yX12_sum : MethodName := ⟨RX12, "sum", "()V"⟩
abbrev cX12_isSign : ByteArray := prog_14_method_20_code
def yX12_isSign : MethodName := ⟨RX12, "isSign", "(I)Z"⟩
abbrev cX12_compare : ByteArray := prog_14_method_21_code
def yX12_compare : MethodName := ⟨RX12, "compare", "()V"⟩
abbrev cX12_unit : ByteArray := prog_14_method_22_code
def yX12_unit : MethodName := ⟨RX12, "unit", "()V"⟩
abbrev cX12_goOnAnd : ByteArray := prog_14_method_23_code
def yX12_goOnAnd : MethodName := ⟨RX12, "goOnAnd", "()V"⟩
abbrev cX12_goOnOr : ByteArray := prog_14_method_24_code
def yX12_goOnOr : MethodName := ⟨RX12, "goOnOr", "()V"⟩
abbrev cX12_condition : ByteArray := prog_14_method_25_code
def yX12_condition : MethodName := ⟨RX12, "condition", "()V"⟩
abbrev cX12_clause : ByteArray := prog_14_method_26_code
def yX12_clause : MethodName := ⟨RX12, "clause", "()V"⟩
abbrev cX12_open : ByteArray := prog_14_method_27_code
def yX12_open : MethodName := ⟨RX12, "open", "(I)V"⟩
abbrev cX12_atEnd : ByteArray := prog_14_method_28_code
def yX12_atEnd : MethodName := ⟨RX12, "atEnd", "()I"⟩
abbrev cX12_readLaw : ByteArray := prog_14_method_29_code
def yX12_readLaw : MethodName := ⟨RX12, "readLaw", "(I)I"⟩
abbrev cX12_bounded : ByteArray := prog_14_method_30_code
def yX12_bounded : MethodName := ⟨RX12, "bounded", "(J)I"⟩
abbrev cX12_worked : ByteArray := prog_14_method_31_code
def yX12_worked : MethodName := ⟨RX12, "worked", "(IJJ)I"⟩
abbrev cX12_workOut : ByteArray := prog_14_method_32_code
def yX12_workOut : MethodName := ⟨RX12, "workOut", "(III)I"⟩
abbrev cX12_worthOf : ByteArray := prog_14_method_33_code
def yX12_worthOf : MethodName := ⟨RX12, "worthOf", "(I)I"⟩
abbrev cX12_number : ByteArray := prog_14_method_34_code
def yX12_number : MethodName := ⟨RX12, "number", "(II)I"⟩
abbrev cX12_itemOf : ByteArray := prog_14_method_35_code
def yX12_itemOf : MethodName := ⟨RX12, "itemOf", "(II)I"⟩
abbrev cX12_highest : ByteArray := prog_14_method_36_code
def yX12_highest : MethodName := ⟨RX12, "highest", "(II)I"⟩
abbrev cX12_usual : ByteArray := prog_14_method_37_code
def yX12_usual : MethodName := ⟨RX12, "usual", "(II)I"⟩
abbrev cX12_items : ByteArray := prog_14_method_38_code
def yX12_items : MethodName := ⟨RX12, "items", "(I[III)V"⟩
abbrev cX12_readDuchy : ByteArray := prog_14_method_39_code
def yX12_readDuchy : MethodName := ⟨RX12, "readDuchy", "()I"⟩
abbrev cX12_fault : ByteArray := prog_14_method_40_code
def yX12_fault : MethodName := ⟨RX12, "fault", "(I)I"⟩
abbrev cX12_takeDuchy : ByteArray := prog_14_method_41_code
def yX12_takeDuchy : MethodName := ⟨RX12, "takeDuchy", "()I"⟩
abbrev cX12_text : ByteArray := prog_14_method_42_code
def yX12_text : MethodName := ⟨RX12, "text", "(I)I"⟩
abbrev cX12_of : ByteArray := prog_14_method_43_code
def yX12_of : MethodName := ⟨RX12, "of", "(II)I"⟩
abbrev cX12_isCook : ByteArray := prog_14_method_44_code
def yX12_isCook : MethodName := ⟨RX12, "isCook", "(I)Z"⟩
abbrev cX12_isMinister : ByteArray := prog_14_method_45_code
def yX12_isMinister : MethodName := ⟨RX12, "isMinister", "(I)Z"⟩
abbrev cX12_leftOf : ByteArray := prog_14_method_46_code
def yX12_leftOf : MethodName := ⟨RX12, "leftOf", "(I)I"⟩
abbrev cX12_held : ByteArray := prog_14_method_47_code
def yX12_held : MethodName := ⟨RX12, "held", "(I)I"⟩
abbrev cX12_strokeBy : ByteArray := prog_14_method_48_code
def yX12_strokeBy : MethodName := ⟨RX12, "strokeBy", "(IIII)I"⟩
abbrev cX12_strokeNow : ByteArray := prog_14_method_49_code
def yX12_strokeNow : MethodName := ⟨RX12, "strokeNow", "(I)V"⟩
abbrev cX12_strokesNow : ByteArray := prog_14_method_50_code
def yX12_strokesNow : MethodName := ⟨RX12, "strokesNow", "(II)V"⟩
abbrev cX12_weightIn : ByteArray := prog_14_method_51_code
def yX12_weightIn : MethodName := ⟨RX12, "weightIn", "()I"⟩
abbrev cX12_worthIn : ByteArray := prog_14_method_52_code
def yX12_worthIn : MethodName := ⟨RX12, "worthIn", "()I"⟩
abbrev cX12_sinks : ByteArray := prog_14_method_53_code
def yX12_sinks : MethodName := ⟨RX12, "sinks", "()I"⟩
abbrev cX12_mayFall : ByteArray := prog_14_method_54_code
def yX12_mayFall : MethodName := ⟨RX12, "mayFall", "()V"⟩
abbrev cX12_doorNow : ByteArray := prog_14_method_55_code
def yX12_doorNow : MethodName := ⟨RX12, "doorNow", "()V"⟩
abbrev cX12_hourNow : ByteArray := prog_14_method_56_code
def yX12_hourNow : MethodName := ⟨RX12, "hourNow", "()V"⟩
abbrev cX12_canFold : ByteArray := prog_14_method_57_code
def yX12_canFold : MethodName := ⟨RX12, "canFold", "(I)Z"⟩
abbrev cX12_foldNow : ByteArray := prog_14_method_58_code
def yX12_foldNow : MethodName := ⟨RX12, "foldNow", "(I)V"⟩
abbrev cX12_rule : ByteArray := prog_14_method_59_code
def yX12_rule : MethodName := ⟨RX12, "rule", "(I)I"⟩
abbrev cX12_cook : ByteArray := prog_14_method_60_code
def yX12_cook : MethodName := ⟨RX12, "cook", "(II)I"⟩
abbrev cX12_minister : ByteArray := prog_14_method_61_code
def yX12_minister : MethodName := ⟨RX12, "minister", "(II)I"⟩
abbrev cX12_law : ByteArray := prog_14_method_62_code
def yX12_law : MethodName := ⟨RX12, "law", "(I)Z"⟩
abbrev cX12_keep : ByteArray := prog_14_method_63_code
def yX12_keep : MethodName := ⟨RX12, "keep", "()V"⟩
abbrev cX12_isRefused : ByteArray := prog_14_method_64_code
def yX12_isRefused : MethodName := ⟨RX12, "isRefused", "(I)Z"⟩
abbrev cX12_strokes : ByteArray := prog_14_method_65_code
def yX12_strokes : MethodName := ⟨RX12, "strokes", "(II)I"⟩
abbrev cX12_fold : ByteArray := prog_14_method_66_code
def yX12_fold : MethodName := ⟨RX12, "fold", "(I)I"⟩
abbrev cX12_sugar : ByteArray := prog_14_method_67_code
def yX12_sugar : MethodName := ⟨RX12, "sugar", "()I"⟩
abbrev cX12_door : ByteArray := prog_14_method_68_code
def yX12_door : MethodName := ⟨RX12, "door", "()I"⟩
abbrev cX12_hours : ByteArray := prog_14_method_69_code
def yX12_hours : MethodName := ⟨RX12, "hours", "(I)I"⟩
abbrev cX12_practise : ByteArray := prog_14_method_70_code
def yX12_practise : MethodName := ⟨RX12, "practise", "(I)I"⟩
abbrev cX12_yolk : ByteArray := prog_14_method_71_code
def yX12_yolk : MethodName := ⟨RX12, "yolk", "()I"⟩
abbrev cX12_give : ByteArray := prog_14_method_72_code
def yX12_give : MethodName := ⟨RX12, "give", "(I)I"⟩
abbrev cX12_passDay : ByteArray := prog_14_method_73_code
def yX12_passDay : MethodName := ⟨RX12, "passDay", "()V"⟩
abbrev cX12_areDays : ByteArray := prog_14_method_74_code
def yX12_areDays : MethodName := ⟨RX12, "areDays", "(I)Z"⟩
abbrev cX12_days : ByteArray := prog_14_method_75_code
def yX12_days : MethodName := ⟨RX12, "days", "(I)I"⟩
abbrev cX12_draught : ByteArray := prog_14_method_76_code
def yX12_draught : MethodName := ⟨RX12, "draught", "(I)Z"⟩
abbrev cX12_draw : ByteArray := prog_14_method_77_code
def yX12_draw : MethodName := ⟨RX12, "draw", "(I)I"⟩
abbrev cX12_drawDay : ByteArray := prog_14_method_78_code
def yX12_drawDay : MethodName := ⟨RX12, "drawDay", "()V"⟩
abbrev cX12_years : ByteArray := prog_14_method_79_code
def yX12_years : MethodName := ⟨RX12, "years", "(IJ)I"⟩
abbrev cX12_status : ByteArray := prog_14_method_80_code
def yX12_status : MethodName := ⟨RX12, "status", "(I)I"⟩
abbrev cX12_undo : ByteArray := prog_14_method_81_code
def yX12_undo : MethodName := ⟨RX12, "undo", "()I"⟩
abbrev cX12_log : ByteArray := prog_14_method_82_code
def yX12_log : MethodName := ⟨RX12, "log", "(II)I"⟩
abbrev cX12_putAside : ByteArray := prog_14_method_83_code
def yX12_putAside : MethodName := ⟨RX12, "putAside", "(I)V"⟩
abbrev cX12_takeBack : ByteArray := prog_14_method_84_code
def yX12_takeBack : MethodName := ⟨RX12, "takeBack", "(I)V"⟩
abbrev cX12_standsBehind : ByteArray := prog_14_method_85_code
def yX12_standsBehind : MethodName := ⟨RX12, "standsBehind", "(II)I"⟩
abbrev cX12_behind : ByteArray := prog_14_method_86_code
def yX12_behind : MethodName := ⟨RX12, "behind", "(II)I"⟩
abbrev cX12_soonestOf : ByteArray := prog_14_method_87_code
def yX12_soonestOf : MethodName := ⟨RX12, "soonestOf", "(II)I"⟩
abbrev cX12_soonest : ByteArray := prog_14_method_88_code
def yX12_soonest : MethodName := ⟨RX12, "soonest", "(II)I"⟩
abbrev cX12_stop : ByteArray := prog_14_method_89_code
def yX12_stop : MethodName := ⟨RX12, "stop", "(II)I"⟩
abbrev cX12_best : ByteArray := prog_14_method_90_code
def yX12_best : MethodName := ⟨RX12, "best", "(I)I"⟩
abbrev cX12_nextOf : ByteArray := prog_14_method_91_code
def yX12_nextOf : MethodName := ⟨RX12, "nextOf", "(II)I"⟩
abbrev cX12_byTurns : ByteArray := prog_14_method_92_code
def yX12_byTurns : MethodName := ⟨RX12, "byTurns", "(III)I"⟩
abbrev cX12_tryRow : ByteArray := prog_14_method_93_code
def yX12_tryRow : MethodName := ⟨RX12, "tryRow", "(III)V"⟩
abbrev cX12_row : ByteArray := prog_14_method_94_code
def yX12_row : MethodName := ⟨RX12, "row", "(I)I"⟩
abbrev cX12_lasts : ByteArray := prog_14_method_95_code
def yX12_lasts : MethodName := ⟨RX12, "lasts", "()I"⟩
abbrev cX12_isUp : ByteArray := prog_14_method_96_code
def yX12_isUp : MethodName := ⟨RX12, "isUp", "(II)Z"⟩
abbrev cX12_holds : ByteArray := prog_14_method_97_code
def yX12_holds : MethodName := ⟨RX12, "holds", "(I)I"⟩
abbrev cX12_seen : ByteArray := prog_14_method_98_code
def yX12_seen : MethodName := ⟨RX12, "seen", "(IIIZ)I"⟩
abbrev cX12_morning : ByteArray := prog_14_method_99_code
def yX12_morning : MethodName := ⟨RX12, "morning", "(III)I"⟩
abbrev cX12_isYolk : ByteArray := prog_14_method_100_code
def yX12_isYolk : MethodName := ⟨RX12, "isYolk", "(I)Z"⟩
abbrev cX12_fits : ByteArray := prog_14_method_101_code
def yX12_fits : MethodName := ⟨RX12, "fits", "(I)I"⟩
abbrev cX12_probe : ByteArray := prog_14_method_102_code
def yX12_probe : MethodName := ⟨RX12, "probe", "(II)I"⟩
abbrev cX12_gameOf : ByteArray := prog_14_method_103_code
def yX12_gameOf : MethodName := ⟨RX12, "gameOf", "(IIIII)I"⟩
abbrev cX12_areTwo : ByteArray := prog_14_method_104_code
def yX12_areTwo : MethodName := ⟨RX12, "areTwo", "(II)Z"⟩
abbrev cX12_game : ByteArray := prog_14_method_105_code
def yX12_game : MethodName := ⟨RX12, "game", "(IIIII)I"⟩
abbrev cX12_isRest : ByteArray := prog_14_method_106_code
def yX12_isRest : MethodName := ⟨RX12, "isRest", "(IIII)Z"⟩
abbrev cX12_rests : ByteArray := prog_14_method_107_code
def yX12_rests : MethodName := ⟨RX12, "rests", "(III)I"⟩
abbrev cX12_oddsFrom : ByteArray := prog_14_method_108_code
def yX12_oddsFrom : MethodName := ⟨RX12, "oddsFrom", "(IIIII)I"⟩
abbrev cX12_odds : ByteArray := prog_14_method_109_code
def yX12_odds : MethodName := ⟨RX12, "odds", "(III)I"⟩
abbrev cX12_shares : ByteArray := prog_14_method_110_code
def yX12_shares : MethodName := ⟨RX12, "shares", "(II)I"⟩
abbrev cX12_topMinister : ByteArray := prog_14_method_111_code
def yX12_topMinister : MethodName := ⟨RX12, "topMinister", "(I)I"⟩
abbrev cX12_topCook : ByteArray := prog_14_method_112_code
def yX12_topCook : MethodName := ⟨RX12, "topCook", "(Z)I"⟩
abbrev cX12_could : ByteArray := prog_14_method_113_code
def yX12_could : MethodName := ⟨RX12, "could", "()I"⟩
abbrev cX12_doors : ByteArray := prog_14_method_114_code
def yX12_doors : MethodName := ⟨RX12, "doors", "()I"⟩
abbrev cX12_most : ByteArray := prog_14_method_115_code
def yX12_most : MethodName := ⟨RX12, "most", "(I)I"⟩
abbrev cX12_ahead : ByteArray := prog_14_method_116_code
def yX12_ahead : MethodName := ⟨RX12, "ahead", "(I)I"⟩
abbrev cX12_image : ByteArray := prog_14_method_117_code
def yX12_image : MethodName := ⟨RX12, "image", "()I"⟩
abbrev cX12_back : ByteArray := prog_14_method_118_code
def yX12_back : MethodName := ⟨RX12, "back", "()I"⟩
abbrev cX12_count : ByteArray := prog_14_method_119_code
def yX12_count : MethodName := ⟨RX12, "count", "(I)I"⟩
def RJ6 : String := "java/lang/Integer"
def TJ6 : u_T := fun k => match k with
  | _ => ("", "", "", false)
def tyJ6 : Nat → FieldType := fun k => match k with
  | _ => .int
abbrev wsJ60 : List Cond := u_ws RJ6 TJ6 0
theorem nmJ6 : ∀ a, a < 0 → ∀ b, b < 0 → a ≠ b → (TJ6 a).2.1 ≠ (TJ6 b).2.1 := by decide +kernel
theorem tyJ6_ok : ∀ k, k < 0 → parseFieldDescriptor (TJ6 k).2.2.1 = some (tyJ6 k) := by decide +kernel
abbrev cJ6_numberOfTrailingZeros_0f7a4 : ByteArray := prog_18_method_48_code
def yJ6_numberOfTrailingZeros_0f7a4 : MethodName := ⟨RJ6, "numberOfTrailingZeros", "(I)I"⟩
abbrev cJ6_bitCount_0f7a4 : ByteArray := prog_18_method_49_code
def yJ6_bitCount_0f7a4 : MethodName := ⟨RJ6, "bitCount", "(I)I"⟩
def RJ9 : String := "java/lang/Math"
def TJ9 : u_T := fun k => match k with
  | _ => ("", "", "", false)
def tyJ9 : Nat → FieldType := fun k => match k with
  | _ => .int
abbrev wsJ90 : List Cond := u_ws RJ9 TJ9 0
theorem nmJ9 : ∀ a, a < 0 → ∀ b, b < 0 → a ≠ b → (TJ9 a).2.1 ≠ (TJ9 b).2.1 := by decide +kernel
theorem tyJ9_ok : ∀ k, k < 0 → parseFieldDescriptor (TJ9 k).2.2.1 = some (tyJ9 k) := by decide +kernel
abbrev cJ9_floorMod_7cf53 : ByteArray := prog_19_method_50_code
def yJ9_floorMod_7cf53 : MethodName := ⟨RJ9, "floorMod", "(II)I"⟩
abbrev cJ9_abs_0f7a4 : ByteArray := prog_19_method_59_code
def yJ9_abs_0f7a4 : MethodName := ⟨RJ9, "abs", "(I)I"⟩
abbrev cJ9_max_7cf53 : ByteArray := prog_19_method_65_code
def yJ9_max_7cf53 : MethodName := ⟨RJ9, "max", "(II)I"⟩
abbrev cJ9_max_f86c9 : ByteArray := prog_19_method_66_code
def yJ9_max_f86c9 : MethodName := ⟨RJ9, "max", "(JJ)J"⟩
abbrev cJ9_min_7cf53 : ByteArray := prog_19_method_69_code
def yJ9_min_7cf53 : MethodName := ⟨RJ9, "min", "(II)I"⟩
abbrev cJ9_min_f86c9 : ByteArray := prog_19_method_70_code
def yJ9_min_f86c9 : MethodName := ⟨RJ9, "min", "(JJ)J"⟩
def RJ0 : String := "java/lang/String"
def TJ0 : u_T := fun k => match k with
  | _ => ("", "", "", false)
def tyJ0 : Nat → FieldType := fun k => match k with
  | _ => .int
abbrev wsJ00 : List Cond := u_ws RJ0 TJ0 0
theorem nmJ0 : ∀ a, a < 0 → ∀ b, b < 0 → a ≠ b → (TJ0 a).2.1 ≠ (TJ0 b).2.1 := by decide +kernel
theorem tyJ0_ok : ∀ k, k < 0 → parseFieldDescriptor (TJ0 k).2.2.1 = some (tyJ0 k) := by decide +kernel
def RJ10 : String := "java/lang/System"
def TJ10 : u_T := fun k => match k with
  | _ => ("", "", "", false)
def tyJ10 : Nat → FieldType := fun k => match k with
  | _ => .int
abbrev wsJ100 : List Cond := u_ws RJ10 TJ10 0
theorem nmJ10 : ∀ a, a < 0 → ∀ b, b < 0 → a ≠ b → (TJ10 a).2.1 ≠ (TJ10 b).2.1 := by decide +kernel
theorem tyJ10_ok : ∀ k, k < 0 → parseFieldDescriptor (TJ10 k).2.2.1 = some (tyJ10 k) := by decide +kernel
def RJ7 : String := "java/util/Arrays"
def TJ7 : u_T := fun k => match k with
  | _ => ("", "", "", false)
def tyJ7 : Nat → FieldType := fun k => match k with
  | _ => .int
abbrev wsJ70 : List Cond := u_ws RJ7 TJ7 0
theorem nmJ7 : ∀ a, a < 0 → ∀ b, b < 0 → a ≠ b → (TJ7 a).2.1 ≠ (TJ7 b).2.1 := by decide +kernel
theorem tyJ7_ok : ∀ k, k < 0 → parseFieldDescriptor (TJ7 k).2.2.1 = some (tyJ7 k) := by decide +kernel
abbrev cJ7_fill_53178 : ByteArray := prog_24_method_103_code
def yJ7_fill_53178 : MethodName := ⟨RJ7, "fill", "([II)V"⟩
abbrev cJ7_copyOf_59c91 : ByteArray := prog_24_method_123_code
def yJ7_copyOf_59c91 : MethodName := ⟨RJ7, "copyOf", "([II)[I"⟩
end
section
/-! A small machine over a memory of plain functions: what it runs, the real one runs (04). Shapes: an object of class ci, or an array (type, length). -/
abbrev mmSh : Type := Nat ⊕ (Nat × Nat)
/-- shapes, how many cells, how many slots, ints, longs, references -/
abbrev mmM : Type := (Nat → mmSh) × Nat × Nat × (Nat → Nat → Int32) × (Nat → Nat → Int64) × (Nat → Nat → Option Nat)
abbrev mmL : Type := List (Option Value)
abbrev mmR : Type := Option Value × mmM
/-- pc, instruction, length, three numbers, a constant, a switch's keys -/
abbrev mmE : Type := Nat × Instr × Nat × Nat × Nat × Nat × Value × List (Int32 × Nat)
def mm_up {α : Type} (f : Nat → Nat → α) (a k : Nat) (v : α) : Nat → Nat → α := fun b j => if b = a then (if j = k then v else f b j) else f b j
def mm_row {α : Type} (f : Nat → Nat → α) (a : Nat) (r : Nat → α) : Nat → Nat → α := fun b => if b = a then r else f b
def mm_ups (f : Nat → mmSh) (a : Nat) (v : mmSh) : Nat → mmSh := fun b => if b = a then v else f b
abbrev mm_sh (M : mmM) : Nat → mmSh := M.1
abbrev mm_n (M : mmM) : Nat := M.2.1
abbrev mm_z (M : mmM) : Nat := M.2.2.1
abbrev mm_I (M : mmM) : Nat → Nat → Int32 := M.2.2.2.1
abbrev mm_J (M : mmM) : Nat → Nat → Int64 := M.2.2.2.2.1
abbrev mm_P (M : mmM) : Nat → Nat → Option Nat := M.2.2.2.2.2
abbrev mm_wI (M : mmM) (a k : Nat) (v : Int32) : mmM := (M.1, M.2.1, M.2.2.1, mm_up M.2.2.2.1 a k v, M.2.2.2.2.1, M.2.2.2.2.2)
abbrev mm_wJ (M : mmM) (a k : Nat) (v : Int64) : mmM := (M.1, M.2.1, M.2.2.1, M.2.2.2.1, mm_up M.2.2.2.2.1 a k v, M.2.2.2.2.2)
abbrev mm_wP (M : mmM) (a k : Nat) (v : Option Nat) : mmM := (M.1, M.2.1, M.2.2.1, M.2.2.2.1, M.2.2.2.2.1, mm_up M.2.2.2.2.2 a k v)
abbrev mm_wR (M : mmM) (a : Nat) (r : Nat → Int32) : mmM := (M.1, M.2.1, M.2.2.1, mm_row M.2.2.2.1 a r, M.2.2.2.2.1, M.2.2.2.2.2)
/-- a new cell of a shape and so many slots, all 0 -/
abbrev mm_new (M : mmM) (s : mmSh) (w : Nat) : mmM := (mm_ups M.1 M.2.1 s, M.2.1 + 1, M.2.2.1 + w, mm_row M.2.2.2.1 M.2.1 (fun _ => 0), mm_row M.2.2.2.2.1 M.2.1 (fun _ => 0), mm_row M.2.2.2.2.2 M.2.1 (fun _ => none))
/-- new int[4][0] -/
def mm_mna (M : mmM) : mmM := mm_wP (mm_wP (mm_wP (mm_wP (mm_new (mm_new (mm_new (mm_new (mm_new M (.inr (5, 4)) 4) (.inr (0, 0)) 0) (.inr (0, 0)) 0) (.inr (0, 0)) 0) (.inr (0, 0)) 0) M.2.1 0 (some (M.2.1 + 1))) M.2.1 1 (some (M.2.1 + 2))) M.2.1 2 (some (M.2.1 + 3))) M.2.1 3 (some (M.2.1 + 4))
def mm_rv (r : Option Nat) : Value := match r with
  | some a => .ref a
  | none => .null
def mm_obj (s : mmSh) (ci : Nat) : Bool := match s with
  | .inl c => Nat.beq c ci
  | .inr _ => false
def mm_arr (s : mmSh) (ty : Nat) : Option Nat := match s with
  | .inl _ => none
  | .inr q => cond (Nat.beq q.1 ty) (some q.2) none
def mm_inb (i : Int32) (n : Nat) : Bool := cond (decide (i < 0)) false (Nat.blt i.toNatClampNeg n)
def mm_pI (K : List Value) (f : Int32 → List Value → Option mmR) : Option mmR := match K with
  | .int x :: r => f x r
  | _ => none
def mm_pII (K : List Value) (f : Int32 → Int32 → List Value → Option mmR) : Option mmR := match K with
  | .int y :: .int x :: r => f x y r
  | _ => none
def mm_pJ (K : List Value) (f : Int64 → List Value → Option mmR) : Option mmR := match K with
  | .long x :: r => f x r
  | _ => none
def mm_pJJ (K : List Value) (f : Int64 → Int64 → List Value → Option mmR) : Option mmR := match K with
  | .long y :: .long x :: r => f x y r
  | _ => none
def mm_pJI (K : List Value) (f : Int64 → Int32 → List Value → Option mmR) : Option mmR := match K with
  | .int y :: .long x :: r => f x y r
  | _ => none
def mm_asR (v : Value) (f : Nat → Option mmR) : Option mmR := match v with
  | .ref a => f a
  | _ => none
def mm_asN (v : Value) (f : Option Nat → Option mmR) : Option mmR := match v with
  | .ref a => f (some a)
  | .null => f none
  | _ => none
def mm_pR (K : List Value) (f : Nat → List Value → Option mmR) : Option mmR := match K with
  | v :: r => mm_asR v fun a => f a r
  | _ => none
def mm_pRI (K : List Value) (f : Nat → Int32 → List Value → Option mmR) : Option mmR := match K with
  | .int i :: v :: r => mm_asR v fun a => f a i r
  | _ => none
def mm_pRII (K : List Value) (f : Nat → Int32 → Int32 → List Value → Option mmR) : Option mmR := match K with
  | .int x :: .int i :: v :: r => mm_asR v fun a => f a i x r
  | _ => none
def mm_pRIJ (K : List Value) (f : Nat → Int32 → Int64 → List Value → Option mmR) : Option mmR := match K with
  | .long x :: .int i :: v :: r => mm_asR v fun a => f a i x r
  | _ => none
def mm_pRIR (K : List Value) (f : Nat → Int32 → Nat → List Value → Option mmR) : Option mmR := match K with
  | w :: .int i :: v :: r => mm_asR v fun a => mm_asR w fun x => f a i x r
  | _ => none
def mm_pN (K : List Value) (f : Option Nat → List Value → Option mmR) : Option mmR := match K with
  | v :: r => mm_asN v fun x => f x r
  | _ => none
def mm_c1 (v : Value) : Bool := match v with
  | .int _ => true
  | .ref _ => true
  | .null => true
  | _ => false
def mm_p1 (K : List Value) (f : Value → List Value → Option mmR) : Option mmR := match K with
  | v :: r => cond (mm_c1 v) (f v r) none
  | _ => none
def mm_p11 (K : List Value) (f : Value → Value → List Value → Option mmR) : Option mmR := match K with
  | w :: v :: r => cond (mm_c1 w && mm_c1 v) (f v w r) none
  | _ => none
def mm_ld (L : mmL) (i : Nat) (f : Value → Option mmR) : Option mmR := match L[i]? with
  | some (some v) => f v
  | _ => none
def mm_isI (v : Value) (f : Option mmR) : Option mmR := match v with
  | .int _ => f
  | _ => none
def mm_isJ (v : Value) (f : Option mmR) : Option mmR := match v with
  | .long _ => f
  | _ => none
def mm_isA (v : Value) (f : Option mmR) : Option mmR := match v with
  | .ref _ => f
  | .null => f
  | _ => none
/-- the place ahead of i forgets a long -/
def mm_clr (L : mmL) (i : Nat) : mmL := match i with
  | 0 => L
  | j + 1 => match L[j]? with
    | some (some (.long _)) => L.set j none
    | some (some (.double _)) => L.set j none
    | _ => L
def mm_st1 (L : mmL) (i : Nat) (v : Value) : mmL := (mm_clr L i).set i (some v)
def mm_st2 (L : mmL) (i : Nat) (v : Value) : mmL := ((mm_clr L i).set i (some v)).set (i + 1) none
/-- the same list, laid out anew (so that it's worked out once) -/
noncomputable def mm_nrm (L : mmL) : (mmL → Option mmR) → Option mmR := List.rec (fun k => k []) (fun x _ ih k => ih (fun ys => k (x :: ys))) L
theorem mm_nrm_eq : ∀ (L : mmL) (k : mmL → Option mmR), mm_nrm L k = k L
  | [], _ => rfl
  | x :: r, k => mm_nrm_eq r (fun ys => k (x :: ys))
/-- n values off the stack, the deepest first -/
noncomputable def mm_pop (n : Nat) : List Value → List Value → Option (List Value × List Value) :=
  Nat.rec (fun K acc => some (acc, K)) (fun _ ih K acc => match K with
    | v :: r => ih r (v :: acc)
    | [] => none) n
def mm_cat (K : List Value) : Nat := (K.map fun v => v.category).sum
def mm_aV (q : Option mmR) : Option mmM := q.bind fun p => match p.1 with
  | none => some p.2
  | _ => none
def mm_aI (q : Option mmR) : Option (Int32 × mmM) := q.bind fun p => match p.1 with
  | some (.int x) => some (x, p.2)
  | _ => none
def mm_aJ (q : Option mmR) : Option (Int64 × mmM) := q.bind fun p => match p.1 with
  | some (.long x) => some (x, p.2)
  | _ => none
def mm_aR (q : Option mmR) : Option (Nat × mmM) := q.bind fun p => match p.1 with
  | some (.ref x) => some (x, p.2)
  | _ => none
abbrev mmC : Type := Nat → List Value → mmM → Option mmR
abbrev mmK : Type := mmL → List Value → mmM → Option mmR
abbrev mmG : Type := Nat → mmK
/-- what is fixed of the memory: up to which cell, their shapes, their references that never change, and the tables' (cells 0 to 15) numbers -/
abbrev mmY : Type := Nat × (Nat → mmSh) × (Nat → Nat → Option (Option Nat)) × (Nat → Nat → Int32)
def mm_s (Y : mmY) (M : mmM) (a : Nat) : mmSh := cond (Nat.blt a Y.1) (Y.2.1 a) (M.1 a)
def mm_fx (Y : mmY) (a k : Nat) : Option (Option Nat) := cond (Nat.blt a Y.1) (Y.2.2.1 a k) none
def mm_p (Y : mmY) (M : mmM) (a k : Nat) : Option Nat := match mm_fx Y a k with
  | some r => r
  | none => M.2.2.2.2.2 a k
def mm_free (Y : mmY) (a k : Nat) : Bool := match mm_fx Y a k with
  | some _ => false
  | none => true
def mm_i (Y : mmY) (M : mmM) (a k : Nat) : Int32 := cond (Nat.blt a 16) (Y.2.2.2 a k) (M.2.2.2.1 a k)
/-- what an answer of kind c does: 0 nothing, 1 an int, 2 a long, 3 a reference -/
def mm_ans (c : Nat) (q : Option mmR) (L : mmL) (r : List Value) (k : mmK) : Option mmR := match c with
  | 0 => (mm_aV q).bind fun m => k L r m
  | 1 => (mm_aI q).bind fun p => k L (.int p.1 :: r) p.2
  | 2 => (mm_aJ q).bind fun p => k L (.long p.1 :: r) p.2
  | _ => (mm_aR q).bind fun p => k L (.ref p.1 :: r) p.2
/-- a method of its own object: n arguments and it -/
noncomputable def mm_inv (Y : mmY) (call : mmC) (j n c ci : Nat) (L : mmL) (K : List Value) (M : mmM) (k : mmK) : Option mmR :=
  (mm_pop n K []).bind fun p => mm_pR p.2 fun o r => cond (mm_obj (mm_s Y M o) ci && Nat.ble (mm_cat r) 8) (mm_ans c (call j (.ref o :: p.1) M) L r k) none
noncomputable def mm_invS (call : mmC) (j n c : Nat) (L : mmL) (K : List Value) (M : mmM) (k : mmK) : Option mmR :=
  (mm_pop n K []).bind fun p => cond (Nat.ble (mm_cat p.2) 8) (mm_ans c (call j p.1 M) L p.2 k) none
/-- System.arraycopy of ints (type ty: 0 ints) -/
def mm_copy (Y : mmY) (M : mmM) (K : List Value) (f : mmM → List Value → Option mmR) : Option mmR := match K with
  | .int n :: .int dp :: v :: .int sp :: w :: r => mm_asR v fun a => mm_asR w fun b =>
    (mm_arr (mm_s Y M b) 0).bind fun nb => (mm_arr (mm_s Y M a) 0).bind fun na =>
      cond (Nat.ble (mm_cat r) 8 && (Nat.ble 16 b && (Nat.ble 16 a && (!decide (n < 0) && (!decide (dp < 0) && (!decide (sp < 0) && (Nat.ble (sp.toNatClampNeg + n.toNatClampNeg) nb && Nat.ble (dp.toNatClampNeg + n.toNatClampNeg) na)))))))
        (f (mm_wR M a (va_cpy (M.2.2.2.1 b) (M.2.2.2.1 a) sp.toNatClampNeg dp.toNatClampNeg n.toNatClampNeg)) r) none
  | _ => none
/-- the sizes of the classes' objects -/
def mm_size : List Nat := [11, 1, 2, 3, 11, 1, 3, 5, 5, 3, 2, 19, 46]
def mm_br (c : ClassFile.Cond) (x y : Int32) (t f : Option mmR) : Option mmR := match c with
  | .eq => if x = y then t else f
  | .ne => if x = y then f else t
  | .lt => if x < y then t else f
  | .ge => if y ≤ x then t else f
  | .gt => if y < x then t else f
  | .le => if x ≤ y then t else f
/-- a switch: keys and targets one by one -/
noncomputable def mm_sw (x : Int32) (d : Nat) (g : Nat → Option mmR) (l : List (Int32 × Nat)) : Option mmR :=
  List.rec (g d) (fun q _ ih => if x = q.1 then g q.2 else ih) l
/-- what one instruction does: k goes on behind it, g goes elsewhere -/
noncomputable def mm_sem (Y : mmY) (call : mmC) (i : Instr) (a b c : Nat) (v : Value) (w : List (Int32 × Nat)) (L : mmL) (K : List Value) (M : mmM) (k : mmK) (g : mmG) : Option mmR := match i with
  | .iconst _ => k L (v :: K) M
  | .bipush _ => k L (v :: K) M
  | .sipush _ => k L (v :: K) M
  | .lconst _ => k L (v :: K) M
  | .ldc _ => k L (v :: K) M
  | .ldc_w _ => k L (v :: K) M
  | .ldc2_w _ => k L (v :: K) M
  | .iload_n _ => mm_ld L a fun x => mm_isI x (k L (x :: K) M)
  | .iload _ => mm_ld L a fun x => mm_isI x (k L (x :: K) M)
  | .lload_n _ => mm_ld L a fun x => mm_isJ x (k L (x :: K) M)
  | .lload _ => mm_ld L a fun x => mm_isJ x (k L (x :: K) M)
  | .aload_n _ => mm_ld L a fun x => mm_isA x (k L (x :: K) M)
  | .aload _ => mm_ld L a fun x => mm_isA x (k L (x :: K) M)
  | .istore_n _ => mm_pI K fun x r => mm_nrm (mm_st1 L a (.int x)) fun L' => k L' r M
  | .istore _ => mm_pI K fun x r => mm_nrm (mm_st1 L a (.int x)) fun L' => k L' r M
  | .lstore_n _ => mm_pJ K fun x r => mm_nrm (mm_st2 L a (.long x)) fun L' => k L' r M
  | .lstore _ => mm_pJ K fun x r => mm_nrm (mm_st2 L a (.long x)) fun L' => k L' r M
  | .astore_n _ => mm_pN K fun x r => mm_nrm (mm_st1 L a (mm_rv x)) fun L' => k L' r M
  | .astore _ => mm_pN K fun x r => mm_nrm (mm_st1 L a (mm_rv x)) fun L' => k L' r M
  | .iinc _ _ => mm_ld L a fun x => mm_pI [x] fun y _ => mm_pI [v] fun n _ => mm_nrm (mm_st1 L a (.int (y + n))) fun L' => k L' K M
  | .iadd => mm_pII K fun x y r => k L (.int (x + y) :: r) M
  | .isub => mm_pII K fun x y r => k L (.int (x - y) :: r) M
  | .imul => mm_pII K fun x y r => k L (.int (x * y) :: r) M
  | .iand => mm_pII K fun x y r => k L (.int (x &&& y) :: r) M
  | .ior => mm_pII K fun x y r => k L (.int (x ||| y) :: r) M
  | .ixor => mm_pII K fun x y r => k L (.int (x ^^^ y) :: r) M
  | .idiv => mm_pII K fun x y r => if y = 0 then none else k L (.int (x / y) :: r) M
  | .irem => mm_pII K fun x y r => if y = 0 then none else k L (.int (x - x / y * y) :: r) M
  | .ineg => mm_pI K fun x r => k L (.int (-x) :: r) M
  | .ishl => mm_pII K fun x y r => k L (.int (x <<< (y &&& 31)) :: r) M
  | .ishr => mm_pII K fun x y r => k L (.int (x >>> (y &&& 31)) :: r) M
  | .iushr => mm_pII K fun x y r => k L (.int (x.toUInt32 >>> (y.toUInt32 &&& Int32.toUInt32 31)).toInt32 :: r) M
  | .ladd => mm_pJJ K fun x y r => k L (.long (x + y) :: r) M
  | .lsub => mm_pJJ K fun x y r => k L (.long (x - y) :: r) M
  | .lmul => mm_pJJ K fun x y r => k L (.long (x * y) :: r) M
  | .land => mm_pJJ K fun x y r => k L (.long (x &&& y) :: r) M
  | .lor => mm_pJJ K fun x y r => k L (.long (x ||| y) :: r) M
  | .ldiv => mm_pJJ K fun x y r => if y = 0 then none else k L (.long (x / y) :: r) M
  | .lrem => mm_pJJ K fun x y r => if y = 0 then none else k L (.long (x - x / y * y) :: r) M
  | .lcmp => mm_pJJ K fun x y r => k L (.int (lg_cmp x y) :: r) M
  | .lshl => mm_pJI K fun x y r => k L (.long (x <<< (y.toInt64 &&& 63)) :: r) M
  | .lushr => mm_pJI K fun x y r => k L (.long (x.toUInt64 >>> (y.toInt64.toUInt64 &&& Int64.toUInt64 63)).toInt64 :: r) M
  | .i2l => mm_pI K fun x r => k L (.long x.toInt64 :: r) M
  | .l2i => mm_pJ K fun x r => k L (.int x.toInt32 :: r) M
  | .dup => mm_p1 K fun x r => k L (x :: x :: r) M
  | .pop => mm_p1 K fun _ r => k L r M
  | .dup2 => mm_p11 K fun x y r => k L (y :: x :: y :: x :: r) M
  | .goto _ => g a L K M
  | .ifCond q _ => mm_pI K fun x r => mm_br q x 0 (g a L r M) (k L r M)
  | .if_icmp q _ => mm_pII K fun x y r => mm_br q x y (g a L r M) (k L r M)
  | .ifnull _ => mm_pN K fun x r => match x with
    | none => g a L r M
    | some _ => k L r M
  | .ifnonnull _ => mm_pN K fun x r => match x with
    | none => k L r M
    | some _ => g a L r M
  | .tableswitch _ _ _ _ => mm_pI K fun x r => mm_sw x a (fun t => g t L r M) w
  | .lookupswitch _ _ => mm_pI K fun x r => mm_sw x a (fun t => g t L r M) w
  | .ireturn => mm_pI K fun x r => match r with
    | [] => match b with
      | 0 => some (some (.int x), M)
      | _ => if x = 0 then some (some (.int 0), M) else if x = 1 then some (some (.int 1), M) else none
    | _ => none
  | .lreturn => mm_pJ K fun x r => match r with
    | [] => some (some (.long x), M)
    | _ => none
  | .areturn => mm_pR K fun x r => match r with
    | [] => some (some (.ref x), M)
    | _ => none
  | .return_ => match K with
    | [] => some (none, M)
    | _ => none
  | .getfield _ => mm_pR K fun o r => cond (mm_obj (mm_s Y M o) a) (match c % 4 with
    | 0 => k L (.int (M.2.2.2.1 o b) :: r) M
    | 3 => k L (.int (M.2.2.2.1 o b) :: r) M
    | 1 => k L (.long (M.2.2.2.2.1 o b) :: r) M
    | _ => k L (mm_rv (mm_p Y M o b) :: r) M) none
  | .putfield _ => match c % 4 with
    | 0 => mm_pI K fun x q => mm_pR q fun o r => cond (mm_obj (mm_s Y M o) a) (k L r (mm_wI M o b x)) none
    | 3 => mm_pI K fun x q => mm_pR q fun o r => cond (mm_obj (mm_s Y M o) a) (if x = 0 then k L r (mm_wI M o b 0) else if x = 1 then k L r (mm_wI M o b 1) else none) none
    | 1 => mm_pJ K fun x q => mm_pR q fun o r => cond (mm_obj (mm_s Y M o) a) (k L r (mm_wJ M o b x)) none
    | _ => mm_pR K fun x q => mm_pR q fun o r => cond (mm_obj (mm_s Y M o) a && mm_free Y o b) (k L r (mm_wP M o b (some x))) none
  | .getstatic _ => k L (.ref a :: K) M
  | .arraylength => mm_pR K fun o r => match mm_s Y M o with
    | .inl _ => none
    | .inr q => cond (Nat.ble (q.1 + 1) 6 && (!Nat.beq q.1 2 || Nat.blt o 16)) (k L (.int (Int32.ofNat q.2) :: r) M) none
  | .iaload => mm_pRI K fun o i r => (mm_arr (mm_s Y M o) 0).bind fun n => cond (mm_inb i n) (k L (.int (mm_i Y M o i.toNatClampNeg) :: r) M) none
  | .baload => mm_pRI K fun o i r => (mm_arr (mm_s Y M o) 1).bind fun n => cond (mm_inb i n) (k L (.int (mm_i Y M o i.toNatClampNeg) :: r) M) none
  | .caload => mm_pRI K fun o i r => (mm_arr (mm_s Y M o) 2).bind fun n => cond (mm_inb i n && Nat.blt o 16) (k L (.int (mm_i Y M o i.toNatClampNeg) :: r) M) none
  | .laload => mm_pRI K fun o i r => (mm_arr (mm_s Y M o) 3).bind fun n => cond (mm_inb i n && Nat.ble 16 o) (k L (.long (M.2.2.2.2.1 o i.toNatClampNeg) :: r) M) none
  | .aaload => mm_pRI K fun o i r => (mm_arr (mm_s Y M o) (4 + a)).bind fun n => cond (mm_inb i n && Nat.ble 16 o) (k L (mm_rv (mm_p Y M o i.toNatClampNeg) :: r) M) none
  | .iastore => mm_pRII K fun o i x r => (mm_arr (mm_s Y M o) 0).bind fun n => cond (mm_inb i n && Nat.ble 16 o) (k L r (mm_wI M o i.toNatClampNeg x)) none
  | .bastore => mm_pRII K fun o i x r => (mm_arr (mm_s Y M o) 1).bind fun n => cond (mm_inb i n && Nat.ble 16 o) (k L r (mm_wI M o i.toNatClampNeg (vp_nar .boolean x))) none
  | .lastore => mm_pRIJ K fun o i x r => (mm_arr (mm_s Y M o) 3).bind fun n => cond (mm_inb i n && Nat.ble 16 o) (k L r (mm_wJ M o i.toNatClampNeg x)) none
  | .aastore => mm_pRIR K fun o i x r => (mm_arr (mm_s Y M o) (4 + a)).bind fun n => cond (mm_inb i n && (Nat.ble 16 o && (Nat.ble 16 x && mm_free Y o i.toNatClampNeg) && match a with
    | 0 => mm_obj (mm_s Y M x) 0
    | _ => match mm_arr (mm_s Y M x) 0 with
      | some _ => true
      | none => false)) (k L r (mm_wP M o i.toNatClampNeg (some x))) none
  | .newarray _ => mm_pI K fun x r => cond (Nat.ble Y.1 M.2.1 && (!decide (x < 0) && Nat.ble x.toNatClampNeg 65536)) (k L (.ref M.2.1 :: r) (mm_new M (.inr (a, x.toNatClampNeg)) x.toNatClampNeg)) none
  | .anewarray _ => mm_pI K fun x r => cond (Nat.ble Y.1 M.2.1 && (!decide (x < 0) && Nat.ble x.toNatClampNeg 65536)) (k L (.ref M.2.1 :: r) (mm_new M (.inr (4, x.toNatClampNeg)) x.toNatClampNeg)) none
  | .multianewarray _ _ => mm_pII K fun x y r => cond (Nat.ble Y.1 M.2.1 && (decide (x = 4) && decide (y = 0))) (k L (.ref M.2.1 :: r) (mm_mna M)) none
  | .new _ => match mm_size[a]? with
    | some z => cond (Nat.ble Y.1 M.2.1) (k L (.ref M.2.1 :: K) (mm_new M (.inl a) z)) none
    | none => none
  | .invokevirtual _ => mm_inv Y call a b (c % 4) (c / 16) L K M k
  | .invokestatic _ => match (c / 4) % 4 with
    | 2 => mm_copy Y M K fun m r => k L r m
    | _ => mm_invS call a b (c % 4) L K M k
  | .invokespecial _ => match (c / 4) % 4 with
    | 2 => mm_pR K fun _ r => cond (Nat.ble (mm_cat r) 8) (k L r M) none
    | _ => mm_inv Y call a b 0 (c / 16) L K M k
  | _ => none
noncomputable def mm_msk (m : List Bool) (L : mmL) : mmL := List.rec (fun _ => []) (fun b _ ih L => match L with
  | x :: r => cond b x none :: ih r
  | [] => []) m L
/-- the places where it stops and goes on by name: the loops' heads and some joins, with the locals that live there -/
noncomputable def mm_cut (cs : List (Nat × List Bool)) (t : Nat) : Option (List Bool) := List.rec none (fun q _ ih => cond (Nat.beq q.1 t) (some q.2) ih) cs
noncomputable def mm_at (t : Nat) (es : List mmE) : List mmE := List.rec [] (fun e r ih => cond (Nat.beq e.1 t) (e :: r) ih) es
/-- onwards, within the code behind; jumps to a cut, or back, by j -/
noncomputable def mm_ex (Y : mmY) (call : mmC) (cs : List (Nat × List Bool)) (j : mmG) (pf : Nat) : List mmE → mmK :=
  Nat.rec (fun _ _ _ _ => none) (fun _ ih es L K M => match es with
    | [] => none
    | e :: r => mm_sem Y call e.2.1 e.2.2.2.1 e.2.2.2.2.1 e.2.2.2.2.2.1 e.2.2.2.2.2.2.1 e.2.2.2.2.2.2.2 L K M
        (fun L K M => match mm_cut cs (e.1 + e.2.2.1) with
          | some m => j (e.1 + e.2.2.1) (mm_msk m L) K M
          | none => ih (mm_at (e.1 + e.2.2.1) r) L K M)
        (fun t L K M => match mm_cut cs t with
          | some m => j t (mm_msk m L) K M
          | none => ih (mm_at t r) L K M)) pf
/-- from a cut on, with so many cuts left -/
noncomputable def mm_lp (Y : mmY) (call : mmC) (code : List mmE) (cs : List (Nat × List Bool)) (N : Nat) : mmG :=
  Nat.rec (fun _ _ _ _ => none) (fun _ ih t L K M => mm_ex Y call cs ih 1200 (mm_at t code) L K M) N
/-- a method: its code, its cuts, its locals -/
abbrev mmP : Type := List mmE × List (Nat × List Bool) × Nat
def mm_fl (args : List Value) : mmL := match args with
  | [] => []
  | v :: r => match v with
    | .long _ => some v :: none :: mm_fl r
    | .double _ => some v :: none :: mm_fl r
    | _ => some v :: mm_fl r
def mm_ent (n : Nat) (args : List Value) : mmL := mm_fl args ++ List.replicate (n - (mm_fl args).length) none
noncomputable def mm_run (Y : mmY) (prog : List mmP) (N : Nat) (call : mmC) : mmC := fun i args M => match prog[i]? with
  | some q => cond (Nat.ble (mm_cat args) q.2.2) (mm_ex Y call q.2.1 (mm_lp Y call q.1 q.2.1 N) 1200 q.1 (mm_ent q.2.2 args) [] M) none
  | none => none
/-- calls nest at most d deep, each goes by at most N cuts -/
noncomputable def mm_ev (Y : mmY) (prog : List mmP) (N : Nat) (d : Nat) : mmC := Nat.rec (fun _ _ _ => none) (fun _ ih => mm_run Y prog N ih) d
end
section
def va_AOA (ty : FieldType) (U : State) : Prop := (Cond.arrayOver (.array ty)).before #[] U = true
theorem va_AOA.use {ty : FieldType} {A : Array Value} {U : State} (h : va_AOA ty U) : (Cond.arrayOver (.array ty)).before A U = true := h
theorem va_AOA.moved {ty : FieldType} {u U : State} (hvm : u.vm.Alike U.vm) (h : va_AOA ty u) : va_AOA ty U := by
  have h1 : (Cond.arrayOver (.array ty)).before #[] (u.setVm U.vm) = true := by
    rw [Cond.arrayOver_setVmC hvm]
    exact h
  exact h1
/-! ===== BEGIN new T[n][m]: the outer array a place, the inner ones among the pooled ===== -/
/-- f, but v at every address of l -/
def vr_up {α : Type} (f : Nat → α) (l : List Nat) (v : α) : Nat → α := fun a => if a ∈ l then v else f a
theorem vr_up_in {α : Type} {f : Nat → α} {l : List Nat} {v : α} {a : Nat} (h : a ∈ l) : vr_up f l v a = v := if_pos h
theorem vr_up_ne {α : Type} {f : Nat → α} {l : List Nat} {v : α} {a : Nat} (h : a ∉ l) : vr_up f l v a = f a := if_neg h
theorem vr_rows {L l : List Nat} {f : Nat → va_E} {e : va_E} (h : ∀ a, a ∈ l → a ∉ L) : va_pl L f ++ l.map (fun a => (a, e)) = va_pl (L ++ l) (vr_up f l e) := by
  unfold va_pl
  rw [List.map_append]
  congr 1
  · apply List.map_congr_left
    intro a ha
    rw [vr_up_ne (fun q => h a q ha)]
  · apply List.map_congr_left
    intro a ha
    rw [vr_up_in ha]
theorem vr_lay {X rows : va_W} {x : Nat × va_E} {pl : va_W} {D : va_G} {cl : List vw_C} {H : Heap} (hP : va_P D cl (((X ++ pl) ++ [x]) ++ rows) H) : va_P D cl ((X ++ [x]) ++ (pl ++ rows)) H := by
  rw [List.append_assoc (X ++ pl)] at hP
  have h := va_P.swap hP
  rw [← List.append_assoc X] at h
  have h2 := va_P.swap h
  rw [List.append_assoc (X ++ [x])] at h2
  exact h2
theorem vr_layD {X rows : va_W} {x : Nat × va_E} {pl : va_W} {A : Nat → Prop} (hD : va_D A (((X ++ pl) ++ [x]) ++ rows)) : va_D A ((X ++ [x]) ++ (pl ++ rows)) := by
  rw [List.append_assoc (X ++ pl)] at hD
  have h := va_D.swap hD
  rw [← List.append_assoc X] at h
  have h2 := va_D.swap h
  rw [List.append_assoc (X ++ [x])] at h2
  exact h2
theorem vr_outer (c : ClassId) (N h0 : Nat) : ∀ i : Nat, Jvm.Free.Multi.outerC c N h0 i = arrV c N (fun j => va_rf (if j < i then some (h0 + 1 + j) else none))
  | 0 => by
    show ({ cls := c, slots := Array.replicate N .null, vm := .none } : Cell) = _
    rw [arrV_new]
    refine congrArg (arrV c N) (funext fun j => ?_)
    simp [va_rf]
  | i + 1 => by
    show (Jvm.Free.Multi.outerC c N h0 i).setSlot i (.ref (h0 + 1 + i)) = _
    rw [vr_outer c N h0 i, arrV_store]
    refine congrArg (arrV c N) (funext fun j => ?_)
    by_cases e : j = i
    · subst e
      simp [updV, va_rf]
    · by_cases h : j < i
      · simp [updV, e, h, Nat.lt_succ_of_lt h]
      · simp [updV, e, h, show ¬ j < i + 1 by omega]
section VGM
variable {p : Program} {l : Launch} {e : Env} {R : Room} {s : State} {m : MethodId} {args : Array Value} {below : List Frame} {meth : Method} {c : Code} {H : Heap} {locs : List Loc} {cells slots : Nat} {Q : State → Prop}
variable {cc : ByteArray} {pc : Nat} {ls : Array Slot} {rest : List Value} {D : va_G} {cl : List vw_C} {A : Nat → Prop} {a : Nat} {tys : List (ClassId × FieldType)} {ws : va_W} {H0 : Heap}
theorem va_mna {X : va_W} {L : List Nat} {f : Nat → va_E} {cc : ByteArray} (hexec : p.tables.exec = Jvm.exec) (hb : c.code = cc) {own : String} {index : Nat} {ty : FieldType} {cy : ClassId} (hown : s.vm.findClass own = some m.cls) (hclink : (Cond.classLink own index ("[" ++ (FieldType.array ty).toString)).before args s = true) (hover : va_AOA ty s) (harr : (Cond.arrayClass ty).before args s = true) (hcy : s.vm.findClass (FieldType.array ty).toString = some cy)
    (hK : va_K D cl tys s) (hP : va_P D cl (X ++ va_pl L f) H) (hD : va_D A (X ++ va_pl L f)) (hS : va_S A H0 H locs) (hA : ∀ q, H0.size ≤ q → A q) {n k : Int32} {N' K' : Nat} {z : vp_A} (hn : ¬ n < 0) (hk : ¬ k < 0) (hN : n.toNatClampNeg = N') (hM : k.toNatClampNeg = K')
    (hb1 : N' * 4 ≤ 536870912) (hb2 : K' * componentBytes ty ≤ 536870912) (hb3 : K' ≤ 536870912) (hdf : fits ty (defaultValue ty) = true) (hdd : (defaultValue ty).isDefault = true) (hcells : cells + (1 + N') ≤ R.cells) (hslots : slots + (N' + N' * K') ≤ R.slots) (hz : ∀ c : ClassId, Jvm.Free.Multi.innerC c K' (defaultValue ty) = vp_cell c z) (hdg : decode cc pc = .ok (.multianewarray index 2, 4))
    (kk : ∀ (q : Nat) (r : Nat → Nat) (cA : ClassId) (H1 : Heap), (∀ i j : Nat, i < N' → j < N' → r i = r j → i = j) → (∀ i : Nat, i < N' → r i ∉ L) → va_K D cl (tys ++ [(cA, .array ty)]) s →
      va_P D cl ((X ++ [(q, .inl (cA, N', .inr (.inr (.inr (.inr (fun i => if i < N' then some (r i) else none))))))]) ++ va_pl (L ++ (List.range N').map r) (vr_up f ((List.range N').map r) (.inl (cy, z)))) H1 → va_D A ((X ++ [(q, .inl (cA, N', .inr (.inr (.inr (.inr (fun i => if i < N' then some (r i) else none))))))]) ++ va_pl (L ++ (List.range N').map r) (vr_up f ((List.range N').map r) (.inl (cy, z)))) → va_S A H0 H1 locs →
      W p l e R s m args below meth c H1 locs (cells + 1 + N') (slots + N' + N' * K') Q (F0 m (pc + 4) ls (.ref q :: rest))) : W p l e R s m args below meth c H locs cells slots Q (F0 m pc ls (.int k :: .int n :: rest)) := by
  subst hN
  subst hM
  intro T hT Xs
  obtain ⟨vm₁, cA, comp, -, fA, fC, hO, -, X', step⟩ := Xs.multianewarray2F hexec hown hclink (va_AOA.use hover) harr (g := F0 m pc ls (.int k :: .int n :: rest)) rfl (by rw [hb]; exact hdg) rfl hn hk hb1 hb2 hb3 hdf hdd hcells hslots
  have ec : some cy = some comp := hcy.symm.trans fC
  cases ec
  generalize hF : Jvm.Free.Multi.fill (T.setVm vm₁) cA cy n.toNatClampNeg k.toNatClampNeg (defaultValue ty) n.toNatClampNeg = F at X' step
  have hTh : (T.setVm vm₁).heap = H := hT
  obtain ⟨f1, f2, -, -⟩ := Jvm.Free.Multi.fill_facts (T.setVm vm₁) cA cy n.toNatClampNeg k.toNatClampNeg (defaultValue ty) n.toNatClampNeg
  rw [hF, hTh] at f1 f2
  have hold : ∀ x : Nat, x < H.size → F.heap[x]? = H[x]? := fun x hx => by
    have := Jvm.Free.Multi.fill_old (T.setVm vm₁) cA cy n.toNatClampNeg k.toNatClampNeg (defaultValue ty) (a := x) (by rw [hTh]; exact hx) n.toNatClampNeg
    rw [hF, hTh] at this
    exact this
  have hrow : ∀ j : Nat, j < n.toNatClampNeg → F.heap[H.size + 1 + j]? = some (vp_cell cy z) := fun j hj => by
    have := Jvm.Free.Multi.fill_inner (T.setVm vm₁) cA cy n.toNatClampNeg k.toNatClampNeg (defaultValue ty) n.toNatClampNeg j hj
    rw [hF, hTh, hz] at this
    exact this
  have hout : Jvm.Free.Multi.outerC cA n.toNatClampNeg H.size n.toNatClampNeg = vp_cell cA (n.toNatClampNeg, .inr (.inr (.inr (.inr (fun i => if i < n.toNatClampNeg then some (H.size + 1 + i) else none))))) := by
    rw [vp_cell_q]
    exact vr_outer cA n.toNatClampNeg H.size n.toNatClampNeg
  rw [hout] at f2
  have hlt : ∀ a, a ∈ L → a < H.size := fun a ha => by
    obtain ⟨k9, hk9⟩ := va_pl_get (X := X) (f := f) ha
    exact (hP k9 _ hk9).lt
  have hnl : ∀ i : Nat, i < n.toNatClampNeg → H.size + 1 + i ∉ L := fun i _ h => by
    have := hlt _ h
    omega
  have hnm : ∀ a, a ∈ (List.range n.toNatClampNeg).map (fun i => H.size + 1 + i) → a ∉ L := fun a ha h => by
    obtain ⟨i, -, rfl⟩ := List.mem_map.mp ha
    have := hlt _ h
    omega
  have hP0 : va_P D cl (X ++ va_pl L f) F.heap := hP.kept (fun k9 x hx => hold x.1 ((hP k9 x hx).lt))
  have hP1 : va_P D cl ((X ++ va_pl L f) ++ [(H.size, .inl (cA, n.toNatClampNeg, .inr (.inr (.inr (.inr (fun i => if i < n.toNatClampNeg then some (H.size + 1 + i) else none))))))]) F.heap := hP0.app (fun k9 x hx => by
    have h0 : k9 < 1 := (List.getElem?_eq_some_iff.mp hx).1
    rw [show k9 = 0 by omega] at hx
    cases hx
    exact f2)
  have hP2 : va_P D cl (((X ++ va_pl L f) ++ [(H.size, .inl (cA, n.toNatClampNeg, .inr (.inr (.inr (.inr (fun i => if i < n.toNatClampNeg then some (H.size + 1 + i) else none))))))]) ++ ((List.range n.toNatClampNeg).map (fun i => H.size + 1 + i)).map (fun a => (a, .inl (cy, z)))) F.heap := hP1.app (fun k9 x hx => by
    obtain ⟨a, ha, rfl⟩ := List.mem_map.mp (List.mem_of_getElem? hx)
    obtain ⟨i, hi, rfl⟩ := List.mem_map.mp ha
    exact hrow i (List.mem_range.mp hi))
  have hD2 : va_D A (((X ++ va_pl L f) ++ [(H.size, .inl (cA, n.toNatClampNeg, .inr (.inr (.inr (.inr (fun i => if i < n.toNatClampNeg then some (H.size + 1 + i) else none))))))]) ++ ((List.range n.toNatClampNeg).map (fun i => H.size + 1 + i)).map (fun a => (a, .inl (cy, z)))) := by
    have hD1 := hD.push (e := .inl (cA, n.toNatClampNeg, .inr (.inr (.inr (.inr (fun i => if i < n.toNatClampNeg then some (H.size + 1 + i) else none)))))) hP rfl (hA _ hS.1)
    generalize hW1 : (X ++ va_pl L f) ++ [(H.size, .inl (cA, n.toNatClampNeg, .inr (.inr (.inr (.inr (fun i => if i < n.toNatClampNeg then some (H.size + 1 + i) else none))))))] = W1 at hD1 hP1 ⊢
    have hle : ∀ (k9 : Nat) (x : Nat × va_E), W1[k9]? = some x → x.1 ≤ H.size := fun k9 x hx => by
      rw [← hW1] at hx
      by_cases hl : k9 < (X ++ va_pl L f).length
      · rw [List.getElem?_append_left hl] at hx
        exact Nat.le_of_lt ((hP k9 x hx).lt)
      · rw [List.getElem?_append_right (by omega)] at hx
        have h0 : k9 - (X ++ va_pl L f).length < 1 := (List.getElem?_eq_some_iff.mp hx).1
        rw [show k9 - (X ++ va_pl L f).length = 0 by omega] at hx
        cases hx
        exact Nat.le_refl _
    have hr : ∀ (k9 : Nat) (x : Nat × va_E), (((List.range n.toNatClampNeg).map (fun i => H.size + 1 + i)).map (fun a => ((a, .inl (cy, z)) : Nat × va_E)))[k9]? = some x → x.1 = H.size + 1 + k9 := fun k9 x hx => by
      rw [List.getElem?_map, List.getElem?_map] at hx
      by_cases h9 : k9 < n.toNatClampNeg
      · rw [List.getElem?_range h9] at hx
        cases hx
        rfl
      · have hn0 : (List.range n.toNatClampNeg)[k9]? = none := List.getElem?_eq_none (by rw [List.length_range]; omega)
        rw [hn0] at hx
        cases hx
    refine ⟨fun i j x y hi hj hxy => ?_, fun k9 x hx => ?_⟩
    · by_cases h1 : i < W1.length <;> by_cases h2 : j < W1.length
      · rw [List.getElem?_append_left h1] at hi
        rw [List.getElem?_append_left h2] at hj
        exact hD1.1 i j x y hi hj hxy
      · rw [List.getElem?_append_left h1] at hi
        rw [List.getElem?_append_right (by omega)] at hj
        have := hle _ _ hi
        have := hr _ _ hj
        omega
      · rw [List.getElem?_append_right (by omega)] at hi
        rw [List.getElem?_append_left h2] at hj
        have := hle _ _ hj
        have := hr _ _ hi
        omega
      · rw [List.getElem?_append_right (by omega)] at hi hj
        have := hr _ _ hi
        have := hr _ _ hj
        omega
    · by_cases h1 : k9 < W1.length
      · rw [List.getElem?_append_left h1] at hx
        exact hD1.2 k9 x hx
      · rw [List.getElem?_append_right (by omega)] at hx
        have := hr _ _ hx
        exact hA _ (by have := hS.1; omega)
  have hAr : ArrOfT s cA (.array ty) := fun N9 z9 => by
    obtain ⟨-, k9, hk9, cm9, hkk9⟩ := (hO 0 0 0).1
    exact ⟨(fun q hq => by cases hq), k9, hk9, cm9, hkk9⟩
  have hK2 : va_K D cl (tys ++ [(cA, .array ty)]) s := ⟨hK.1, fun k9 x hx => by
    by_cases hl : k9 < tys.length
    · rw [List.getElem?_append_left hl] at hx
      exact hK.2 k9 x hx
    · rw [List.getElem?_append_right (by omega)] at hx
      have h0 : k9 - tys.length < 1 := (List.getElem?_eq_some_iff.mp hx).1
      rw [show k9 - tys.length = 0 by omega] at hx
      cases hx
      exact ⟨hAr, fA⟩⟩
  obtain ⟨t, a1, b1⟩ := kk H.size (fun i => H.size + 1 + i) cA F.heap (fun i j _ _ h => by have h9 : H.size + 1 + i = H.size + 1 + j := h; omega) hnl hK2 (by rw [← vr_rows hnm]; exact vr_lay hP2) (by rw [← vr_rows hnm]; exact vr_layD hD2) ⟨by rw [f1]; have := hS.1; omega, fun x h1 h2 => (hold x (Nat.lt_of_lt_of_le h1 hS.1)).trans (hS.2.1 x h1 h2), hS.2.2⟩ F rfl X'
  refine ⟨t, step t ?_, b1⟩
  have e : T.heap.size = H.size := by rw [hT]
  rw [e]
  exact a1
end VGM
/-! ===== END ===== -/
end
section
/-! The small machine's world in the real heap. -/
abbrev mm_cl : List vw_C := [(RX0, TX0, 11), (RX1, TX1, 1), (RX2, TX2, 2), (RX3, TX3, 3), (RX4, TX4, 11), (RX5, TX5, 1), (RX6, TX6, 3), (RX7, TX7, 5), (RX8, TX8, 5), (RX9, TX9, 3), (RX10, TX10, 2), (RX11, TX11, 19), (RX12, TX12, 46)]
abbrev mm_tys0 : List (Nat → FieldType) := [tyX0, tyX1, tyX2, tyX3, tyX4, tyX5, tyX6, tyX7, tyX8, tyX9, tyX10, tyX11, tyX12]
def mm_tyOf (ci : Nat) : Nat → FieldType := mm_tys0.getD ci (fun _ => .int)
noncomputable def mm_gw : List Cond := lw_tbl.filter goodWord
def mm_tk (t : FieldType) : Nat := match t with
  | .int => 0
  | .long => 1
  | .object _ => 2
  | .array _ => 2
  | .boolean => 3
  | _ => 9
theorem mm_tyk : (List.range 13).all (fun ci => (List.range (mm_size.getD ci 0)).all fun k => decide (mm_tk (mm_tyOf ci k) < 4)) = true := by decide +kernel
theorem mm_cl_ok (ci : Nat) (q : vw_C) (h : mm_cl[ci]? = some q) : mm_size[ci]? = some q.2.2 ∧ (∀ k, k < q.2.2 → parseFieldDescriptor (q.2.1 k).2.2.1 = some (mm_tyOf ci k)) ∧ (∀ a, a < q.2.2 → ∀ b, b < q.2.2 → a ≠ b → (q.2.1 a).2.1 ≠ (q.2.1 b).2.1) := by
  have hlt : ci < 13 := (List.getElem?_eq_some_iff.mp h).1
  rcases ci with _ | _ | _ | _ | _ | _ | _ | _ | _ | _ | _ | _ | _ | ci
  · cases h; exact ⟨rfl, tyX0_ok, nmX0⟩
  · cases h; exact ⟨rfl, tyX1_ok, nmX1⟩
  · cases h; exact ⟨rfl, tyX2_ok, nmX2⟩
  · cases h; exact ⟨rfl, tyX3_ok, nmX3⟩
  · cases h; exact ⟨rfl, tyX4_ok, nmX4⟩
  · cases h; exact ⟨rfl, tyX5_ok, nmX5⟩
  · cases h; exact ⟨rfl, tyX6_ok, nmX6⟩
  · cases h; exact ⟨rfl, tyX7_ok, nmX7⟩
  · cases h; exact ⟨rfl, tyX8_ok, nmX8⟩
  · cases h; exact ⟨rfl, tyX9_ok, nmX9⟩
  · cases h; exact ⟨rfl, tyX10_ok, nmX10⟩
  · cases h; exact ⟨rfl, tyX11_ok, nmX11⟩
  · cases h; exact ⟨rfl, tyX12_ok, nmX12⟩
  · omega
def mm_fv (ρ : Nat → Nat) (Y : mmY) (M : mmM) (a : Nat) (t : FieldType) (k : Nat) : Value := match t with
  | .int => .int (M.2.2.2.1 a k)
  | .boolean => .int (M.2.2.2.1 a k)
  | .long => .long (M.2.2.2.2.1 a k)
  | _ => va_rf ((mm_p Y M a k).map ρ)
def mm_fs (ρ : Nat → Nat) (Y : mmY) (M : mmM) (a ci : Nat) : List Value := (List.range (mm_size.getD ci 0)).map fun k => mm_fv ρ Y M a (mm_tyOf ci k) k
def mm_ct (ρ : Nat → Nat) (Y : mmY) (M : mmM) (a ty : Nat) : (Nat → Int32) ⊕ (Nat → Int64) ⊕ (Nat → UInt32) ⊕ (Nat → UInt64) ⊕ (Nat → Option Nat) := match ty with
  | 0 => .inl (M.2.2.2.1 a)
  | 1 => .inl (M.2.2.2.1 a)
  | 2 => .inl (M.2.2.2.1 a)
  | 3 => .inr (.inl (M.2.2.2.2.1 a))
  | _ => .inr (.inr (.inr (.inr fun k => (mm_p Y M a k).map ρ)))
def mm_cell (cA : Nat → ClassId) (ρ : Nat → Nat) (Y : mmY) (M : mmM) (a : Nat) : va_E := match mm_s Y M a with
  | .inl ci => .inr (ci, mm_fs ρ Y M a ci)
  | .inr q => .inl (cA q.1, q.2, mm_ct ρ Y M a q.1)
/-- the cells from 16 on, at their addresses -/
def mm_enc (cA : Nat → ClassId) (ρ : Nat → Nat) (Y : mmY) (M : mmM) : va_W := (List.range (M.2.1 - 16)).map fun j => (ρ (16 + j), mm_cell cA ρ Y M (16 + j))
theorem mm_enc_at {cA : Nat → ClassId} {ρ : Nat → Nat} {Y : mmY} {M : mmM} {a : Nat} (h1 : 16 ≤ a) (h2 : a < M.2.1) : (mm_enc cA ρ Y M)[a - 16]? = some (ρ a, mm_cell cA ρ Y M a) := by
  unfold mm_enc
  rw [List.getElem?_map, List.getElem?_range (by omega)]
  simp only [Option.map_some]
  rw [show 16 + (a - 16) = a by omega]
theorem mm_enc_ext {cA : Nat → ClassId} {ρ ρ' : Nat → Nat} {Y : mmY} {M M' : mmM} (hn : M'.2.1 = M.2.1) (hr : ∀ b, b < M.2.1 → ρ' b = ρ b) (hc : ∀ b, 16 ≤ b → b < M.2.1 → mm_cell cA ρ' Y M' b = mm_cell cA ρ Y M b) : mm_enc cA ρ' Y M' = mm_enc cA ρ Y M := by
  unfold mm_enc
  rw [hn]
  apply List.map_congr_left
  intro j hj
  have := List.mem_range.mp hj
  rw [hr _ (by omega), hc _ (by omega) (by omega)]
theorem mm_enc_set {cA : Nat → ClassId} {ρ : Nat → Nat} {Y : mmY} {M M' : mmM} {a : Nat} {x : va_E} (h1 : 16 ≤ a) (h2 : a < M.2.1) (hn : M'.2.1 = M.2.1) (hx : mm_cell cA ρ Y M' a = x) (hc : ∀ b, 16 ≤ b → b < M.2.1 → b ≠ a → mm_cell cA ρ Y M' b = mm_cell cA ρ Y M b) : (mm_enc cA ρ Y M).set (a - 16) (ρ a, x) = mm_enc cA ρ Y M' := by
  unfold mm_enc
  rw [hn]
  apply List.ext_getElem?
  intro j
  rw [List.getElem?_set, List.getElem?_map, List.length_map, List.length_range]
  by_cases hj : j < M.2.1 - 16
  · rw [List.getElem?_map, List.getElem?_range hj]
    by_cases e : a - 16 = j
    · subst e
      simp only [if_true, hj]
      simp only [Option.map_some]
      rw [show 16 + (a - 16) = a by omega, hx]
    · rw [if_neg e]
      simp only [Option.map_some]
      rw [hc _ (by omega) (by omega) (by omega)]
  · rw [List.getElem?_map, List.getElem?_eq_none (by simp; omega)]
    by_cases e : a - 16 = j
    · omega
    · rw [if_neg e]
      rfl
theorem mm_enc_push {cA : Nat → ClassId} {ρ ρ' : Nat → Nat} {Y : mmY} {M M' : mmM} (h1 : 16 ≤ M.2.1) (hn : M'.2.1 = M.2.1 + 1) (hr : ∀ b, b < M.2.1 → ρ' b = ρ b) (hc : ∀ b, 16 ≤ b → b < M.2.1 → mm_cell cA ρ' Y M' b = mm_cell cA ρ Y M b) : mm_enc cA ρ' Y M' = mm_enc cA ρ Y M ++ [(ρ' M.2.1, mm_cell cA ρ' Y M' M.2.1)] := by
  unfold mm_enc
  rw [hn, show M.2.1 + 1 - 16 = (M.2.1 - 16) + 1 by omega, List.range_succ, List.map_append]
  congr 1
  · apply List.map_congr_left
    intro j hj
    have := List.mem_range.mp hj
    rw [hr _ (by omega), hc _ (by omega) (by omega)]
  · simp only [List.map_cons, List.map_nil]
    rw [show 16 + (M.2.1 - 16) = M.2.1 by omega]
def mm_tr (ρ : Nat → Nat) (v : Value) : Value := match v with
  | .ref a => .ref (ρ a)
  | v => v
def mm_okv (n : Nat) (v : Value) : Prop := match v with
  | .ref a => a < n
  | _ => True
theorem mm_tr_rv {ρ : Nat → Nat} (r : Option Nat) : mm_tr ρ (mm_rv r) = va_rf (r.map ρ) := by cases r <;> rfl
theorem mm_tr_eq {ρ ρ' : Nat → Nat} {n : Nat} {v : Value} (h : mm_okv n v) (hr : ∀ b, b < n → ρ' b = ρ b) : mm_tr ρ' v = mm_tr ρ v := by
  cases v with
  | ref a => simp only [mm_tr]; rw [hr a h]
  | _ => rfl
theorem mm_okv_le {n n' : Nat} {v : Value} (h : mm_okv n v) (hn : n ≤ n') : mm_okv n' v := by
  cases v with
  | ref a => exact Nat.lt_of_lt_of_le h hn
  | _ => trivial
theorem mm_okv_rv {n : Nat} {r : Option Nat} (h : ∀ b, r = some b → b < n) : mm_okv n (mm_rv r) := by
  cases r with
  | none => trivial
  | some a => exact h a rfl
/-- the locals -/
def mm_lc (ρ : Nat → Nat) (n : Nat) (L : mmL) (ls : Array Slot) (nL : Nat) : Prop := ls.size = nL ∧ lv_wf ls ∧ L.length ≤ nL ∧ ∀ (i : Nat) (v : Value), L[i]? = some (some v) → ls[i]? = some (.val (mm_tr ρ v)) ∧ mm_okv n v
def mm_ks (n : Nat) (K : List Value) : Prop := ∀ v ∈ K, mm_okv n v
theorem mm_lc_le {ρ ρ' : Nat → Nat} {n n' : Nat} {L : mmL} {ls : Array Slot} {nL : Nat} (h : mm_lc ρ n L ls nL) (hn : n ≤ n') (hr : ∀ b, b < n → ρ' b = ρ b) : mm_lc ρ' n' L ls nL :=
  ⟨h.1, h.2.1, h.2.2.1, fun i v hv => by
    obtain ⟨h1, h2⟩ := h.2.2.2 i v hv
    exact ⟨by rw [mm_tr_eq h2 hr]; exact h1, mm_okv_le h2 hn⟩⟩
theorem mm_ks_le {n n' : Nat} {K : List Value} (h : mm_ks n K) (hn : n ≤ n') : mm_ks n' K := fun v hv => mm_okv_le (h v hv) hn
theorem mm_ks_tr {ρ ρ' : Nat → Nat} {n : Nat} {K : List Value} (h : mm_ks n K) (hr : ∀ b, b < n → ρ' b = ρ b) : K.map (mm_tr ρ') = K.map (mm_tr ρ) := List.map_congr_left fun v hv => mm_tr_eq (h v hv) hr
/-- as a list of places, for the kit's rows -/
def mm_al (ρ : Nat → Nat) (L : mmL) : List (Nat × Value) := (List.range L.length).filterMap fun i => match L[i]? with
  | some (some v) => some (i, mm_tr ρ v)
  | _ => none
theorem mm_al_mem {ρ : Nat → Nat} {L : mmL} {i : Nat} {w : Value} : (i, w) ∈ mm_al ρ L ↔ ∃ v, L[i]? = some (some v) ∧ w = mm_tr ρ v := by
  unfold mm_al
  rw [List.mem_filterMap]
  constructor
  · rintro ⟨j, hj, h⟩
    split at h
    · next v hv =>
      cases h
      exact ⟨v, hv, rfl⟩
    · cases h
  · rintro ⟨v, hv, rfl⟩
    refine ⟨i, List.mem_range.mpr (List.getElem?_eq_some_iff.mp hv).1, ?_⟩
    rw [hv]
theorem mm_lc_has {ρ : Nat → Nat} {n : Nat} {L : mmL} {ls : Array Slot} {nL : Nat} (h : mm_lc ρ n L ls nL) : lv_has ls nL (mm_al ρ L) := by
  refine ⟨h.1, h.2.1, ?_⟩
  rintro ⟨i, w⟩ hq
  obtain ⟨v, hv, rfl⟩ := mm_al_mem.mp hq
  exact (h.2.2.2 i v hv).1
theorem mm_clr_len (L : mmL) (i : Nat) : (mm_clr L i).length = L.length := by
  unfold mm_clr
  split
  · rfl
  · split <;> simp
theorem mm_clr_at {L : mmL} {i j : Nat} {v : Value} (h : (mm_clr L i)[j]? = some (some v)) : L[j]? = some (some v) ∧ ¬ (j + 1 = i ∧ v.category = 2) := by
  unfold mm_clr at h
  split at h
  · exact ⟨h, fun q => by omega⟩
  · next k =>
    split at h
    · next x hx =>
      rw [List.getElem?_set] at h
      by_cases e : k = j
      · rw [if_pos e] at h
        split at h <;> cases h
      · rw [if_neg e] at h
        exact ⟨h, fun q => e (by omega)⟩
    · next x hx =>
      rw [List.getElem?_set] at h
      by_cases e : k = j
      · rw [if_pos e] at h
        split at h <;> cases h
      · rw [if_neg e] at h
        exact ⟨h, fun q => e (by omega)⟩
    · next h1 h2 =>
      refine ⟨h, fun q => ?_⟩
      have e : k = j := by omega
      subst e
      cases v with
      | long x => exact h1 x h
      | double x => exact h2 x h
      | _ => simp [Value.category] at q
theorem mm_st1_ok {ρ : Nat → Nat} {n : Nat} {L : mmL} {ls ls' : Array Slot} {nL i : Nat} {v : Value} (h : mm_lc ρ n L ls nL) (hv : mm_okv n v) (hl : lv_has ls' nL ((i, mm_tr ρ v) :: (mm_al ρ L).filter (fun q => !(q.1 == i) && !(q.1 + 1 == i && q.2.category == 2)))) : mm_lc ρ n (mm_st1 L i v) ls' nL := by
  refine ⟨hl.1, hl.2.1, by unfold mm_st1; rw [List.length_set, mm_clr_len]; exact h.2.2.1, ?_⟩
  intro j w hw
  unfold mm_st1 at hw
  rw [List.getElem?_set] at hw
  by_cases e : i = j
  · subst e
    rw [if_pos rfl] at hw
    split at hw
    · cases hw
      exact ⟨hl.2.2 (i, mm_tr ρ v) List.mem_cons_self, hv⟩
    · cases hw
  · rw [if_neg e] at hw
    obtain ⟨h1, h2⟩ := mm_clr_at hw
    refine ⟨hl.2.2 (j, mm_tr ρ w) (List.mem_cons_of_mem _ (List.mem_filter.mpr ⟨mm_al_mem.mpr ⟨w, h1, rfl⟩, ?_⟩)), (h.2.2.2 j w h1).2⟩
    have hc : (mm_tr ρ w).category = w.category := by cases w <;> rfl
    simp only [hc, Bool.and_eq_true, Bool.not_eq_true', beq_eq_false_iff_ne, ne_eq, Bool.and_eq_false_iff]
    refine ⟨fun q => e q.symm, ?_⟩
    by_cases q : j + 1 = i
    · exact Or.inr fun z => h2 ⟨q, z⟩
    · exact Or.inl q
theorem mm_st2_ok {ρ : Nat → Nat} {n : Nat} {L : mmL} {ls ls' : Array Slot} {nL i : Nat} {v : Value} (h : mm_lc ρ n L ls nL) (hv : mm_okv n v) (hl : lv_has ls' nL ((i, mm_tr ρ v) :: (mm_al ρ L).filter (fun q => !(q.1 == i) && (!(q.1 == i + 1) && !(q.1 + 1 == i && q.2.category == 2))))) : mm_lc ρ n (mm_st2 L i v) ls' nL := by
  refine ⟨hl.1, hl.2.1, by unfold mm_st2; rw [List.length_set, List.length_set, mm_clr_len]; exact h.2.2.1, ?_⟩
  intro j w hw
  unfold mm_st2 at hw
  rw [List.getElem?_set] at hw
  by_cases e2 : i + 1 = j
  · subst e2
    rw [if_pos rfl] at hw
    split at hw <;> cases hw
  · rw [if_neg e2, List.getElem?_set] at hw
    by_cases e : i = j
    · subst e
      rw [if_pos rfl] at hw
      split at hw
      · cases hw
        exact ⟨hl.2.2 (i, mm_tr ρ v) List.mem_cons_self, hv⟩
      · cases hw
    · rw [if_neg e] at hw
      obtain ⟨h1, h2⟩ := mm_clr_at hw
      refine ⟨hl.2.2 (j, mm_tr ρ w) (List.mem_cons_of_mem _ (List.mem_filter.mpr ⟨mm_al_mem.mpr ⟨w, h1, rfl⟩, ?_⟩)), (h.2.2.2 j w h1).2⟩
      have hc : (mm_tr ρ w).category = w.category := by cases w <;> rfl
      simp only [hc, Bool.and_eq_true, Bool.not_eq_true', beq_eq_false_iff_ne, ne_eq, Bool.and_eq_false_iff]
      refine ⟨fun q => e q.symm, fun q => e2 q.symm, ?_⟩
      by_cases q : j + 1 = i
      · exact Or.inr fun z => h2 ⟨q, z⟩
      · exact Or.inl q
theorem mm_msk_at : ∀ (m : List Bool) (L : mmL) (i : Nat) (v : Value), (mm_msk m L)[i]? = some (some v) → L[i]? = some (some v)
  | [], _, _, _, h => by cases h
  | _ :: _, [], _, _, h => by cases h
  | b :: m, x :: L, 0, v, h => by
    change (cond b x none :: mm_msk m L)[0]? = _ at h
    cases b
    · cases h
    · exact h
  | b :: m, x :: L, i + 1, v, h => by
    change (cond b x none :: mm_msk m L)[i + 1]? = _ at h
    rw [List.getElem?_cons_succ] at h ⊢
    exact mm_msk_at m L i v h
theorem mm_msk_len : ∀ (m : List Bool) (L : mmL), (mm_msk m L).length ≤ L.length
  | [], L => Nat.zero_le _
  | _ :: _, [] => Nat.zero_le _
  | b :: m, x :: L => Nat.succ_le_succ (mm_msk_len m L)
theorem mm_msk_ok {ρ : Nat → Nat} {n : Nat} {L : mmL} {ls : Array Slot} {nL : Nat} (m : List Bool) (h : mm_lc ρ n L ls nL) : mm_lc ρ n (mm_msk m L) ls nL :=
  ⟨h.1, h.2.1, Nat.le_trans (mm_msk_len m L) h.2.2.1, fun i v hv => h.2.2.2 i v (mm_msk_at m L i v hv)⟩
end
section
/-- constants: the tables, the statics that hold them, the nest's words, the arrays' words -/
def mm_fty (ty : Nat) : FieldType := match ty with
  | 0 => .int
  | 1 => .boolean
  | 2 => .char
  | 3 => .long
  | 4 => .object RX0
  | _ => .array .int
def mm_stat : List (String × String) := [("ITEMS", "[I"), ("MOST_CLAUSES", "[I"), ("FIRST_ITEM", "[I"), ("LEAST", "[I"), ("MOST", "[I"), ("WITHOUT", "[I"), ("FIRST_VALUE", "[I"), ("CLAUSE_SIGNS", "[C"), ("SIGNS", "[C")]
def mm_tysA (cA : Nat → ClassId) : List (ClassId × FieldType) := [(cA 0, .int), (cA 1, .boolean), (cA 0, .int), (cA 3, .long), (cA 4, .object RX0), (cA 5, .array .int)]
def mm_cnT (Y : mmY) (ρ : Nat → Nat) (A : Nat → Prop) (U : State) (H : Heap) : Prop := ∀ (t ty len : Nat), t < 16 → Y.2.1 t = .inr (ty, len) → va_T (mm_fty ty) (ρ t) len (fun j => .int (Y.2.2.2 t j)) A U H
def mm_cnZ (ρ : Nat → Nat) (A : Nat → Prop) (U : State) (H : Heap) : Prop := ∀ (t : Nat) (q : String × String), mm_stat[t]? = some q → va_Z RX10 q.1 q.2 (.ref (ρ t)) A U H
def mm_cnN (nest : List Cond) (U : State) : Prop := ∀ w ∈ nest, va_Nw w U
def mm_wfY (Y : mmY) : Prop := 16 ≤ Y.1 ∧ ∀ (t ci : Nat), t < 16 → Y.2.1 t = .inl ci → mm_cl[ci]? = none
def mm_wf (Y : mmY) (M : mmM) : Prop := Y.1 ≤ M.2.1 ∧ ∀ (a k b : Nat), 16 ≤ a → a < M.2.1 → mm_p Y M a k = some b → b < M.2.1
def mm_lk (n : Nat) (L : mmL) : Prop := ∀ (i : Nat) (v : Value), L[i]? = some (some v) → mm_okv n v
/-- from here on it comes to the end that Mf and Q tell -/
def mm_Gd (p : Program) (l : Launch) (e : Env) (R : Room) (s : State) (m : MethodId) (args : Array Value) (below : List Frame) (meth : Method) (c : Code) (Q : State → Prop) (D : va_G) (cA : Nat → ClassId) (Y : mmY) (A : Nat → Prop) (nL n0 z0 oc : Nat) (ρ0 : Nat → Nat) (Mf : mmM) (pc : Nat) (L : mmL) (K : List Value) (M : mmM) : Prop :=
  mm_wf Y M → n0 ≤ M.2.1 → z0 ≤ M.2.2.1 → mm_ks M.2.1 K → mm_lk M.2.1 L →
  (mm_wf Y Mf ∧ M.2.1 ≤ Mf.2.1 ∧ M.2.2.1 ≤ Mf.2.2.1) ∧ ∀ (ρ : Nat → Nat) (H : Heap) (locs : List Loc) (ls : Array Slot), (∀ b, b < n0 → ρ b = ρ0 b) → va_P D mm_cl (mm_enc cA ρ Y M) H → va_D A (mm_enc cA ρ Y M) → va_S A s.heap H locs → mm_lc ρ M.2.1 L ls nL →
    W p l e R s m args below meth c H locs (M.2.1 + oc - n0) (M.2.2.1 - z0) Q (F0 m pc ls (K.map (mm_tr ρ)))
theorem mm_ks_cons {n : Nat} {v : Value} {K : List Value} (h : mm_okv n v) (hk : mm_ks n K) : mm_ks n (v :: K) := fun w hw => by
  rcases List.mem_cons.mp hw with rfl | h2
  · exact h
  · exact hk w h2
theorem mm_ks_tail {n : Nat} {v : Value} {K : List Value} (hk : mm_ks n (v :: K)) : mm_ks n K := fun w hw => hk w (List.mem_cons_of_mem _ hw)
theorem mm_ks_head {n : Nat} {v : Value} {K : List Value} (hk : mm_ks n (v :: K)) : mm_okv n v := hk v List.mem_cons_self
theorem mm_st1_lk {n : Nat} {L : mmL} {i : Nat} {v : Value} (h : mm_lk n L) (hv : mm_okv n v) : mm_lk n (mm_st1 L i v) := by
  intro j w hw
  unfold mm_st1 at hw
  rw [List.getElem?_set] at hw
  by_cases e : i = j
  · rw [if_pos e] at hw
    split at hw
    · cases hw; exact hv
    · cases hw
  · rw [if_neg e] at hw
    exact h j w (mm_clr_at hw).1
theorem mm_st2_lk {n : Nat} {L : mmL} {i : Nat} {v : Value} (h : mm_lk n L) (hv : mm_okv n v) : mm_lk n (mm_st2 L i v) := by
  intro j w hw
  unfold mm_st2 at hw
  rw [List.getElem?_set] at hw
  by_cases e2 : i + 1 = j
  · rw [if_pos e2] at hw
    split at hw <;> cases hw
  · rw [if_neg e2, List.getElem?_set] at hw
    by_cases e : i = j
    · rw [if_pos e] at hw
      split at hw
      · cases hw; exact hv
      · cases hw
    · rw [if_neg e] at hw
      exact h j w (mm_clr_at hw).1
theorem mm_msk_lk {n : Nat} {L : mmL} (k : List Bool) (h : mm_lk n L) : mm_lk n (mm_msk k L) := fun i v hv => h i v (mm_msk_at k L i v hv)
section GS
variable {p : Program} {l : Launch} {e : Env} {R : Room} {s : State} {m : MethodId} {args : Array Value} {below : List Frame} {meth : Method} {c : Code} {Q : State → Prop} {D : va_G} {cA : Nat → ClassId} {Y : mmY} {A : Nat → Prop} {nL n0 z0 oc : Nat} {ρ0 : Nat → Nat} {Mf : mmM} {cc : ByteArray} {pc : Nat} {L : mmL} {K r : List Value} {M : mmM}

theorem gs_iconst (hx : p.tables.exec = Jvm.exec) (hb : c.code = cc) {z : Int} {x : Int32} (hv : Int32.ofInt z = x) (hd : decode cc pc = .ok (.iconst z, 1)) (hk : mm_Gd p l e R s m args below meth c Q D cA Y A nL n0 z0 oc ρ0 Mf (pc + 1) L (.int x :: K) M) : mm_Gd p l e R s m args below meth c Q D cA Y A nL n0 z0 oc ρ0 Mf pc L K M := by
  intro hw0 hn0 hz0 hk0 hl0
  obtain ⟨h1, h2⟩ := hk hw0 hn0 hz0 (mm_ks_cons trivial hk0) hl0
  refine ⟨h1, fun ρ H locs ls hr hP hD hS hl => ?_⟩
  exact lv_iconst hx hb hd hv (h2 ρ H locs ls hr hP hD hS hl)
theorem gs_bipush (hx : p.tables.exec = Jvm.exec) (hb : c.code = cc) {z : Int} {x : Int32} (hv : (Int8.ofInt z).toInt32 = x) (hd : decode cc pc = .ok (.bipush z, 2)) (hk : mm_Gd p l e R s m args below meth c Q D cA Y A nL n0 z0 oc ρ0 Mf (pc + 2) L (.int x :: K) M) : mm_Gd p l e R s m args below meth c Q D cA Y A nL n0 z0 oc ρ0 Mf pc L K M := by
  intro hw0 hn0 hz0 hk0 hl0
  obtain ⟨h1, h2⟩ := hk hw0 hn0 hz0 (mm_ks_cons trivial hk0) hl0
  refine ⟨h1, fun ρ H locs ls hr hP hD hS hl => ?_⟩
  exact lv_bipush hx hb hd hv (h2 ρ H locs ls hr hP hD hS hl)
theorem gs_sipush (hx : p.tables.exec = Jvm.exec) (hb : c.code = cc) {z : Int} {x : Int32} (hv : (Int16.ofInt z).toInt32 = x) (hd : decode cc pc = .ok (.sipush z, 3)) (hk : mm_Gd p l e R s m args below meth c Q D cA Y A nL n0 z0 oc ρ0 Mf (pc + 3) L (.int x :: K) M) : mm_Gd p l e R s m args below meth c Q D cA Y A nL n0 z0 oc ρ0 Mf pc L K M := by
  intro hw0 hn0 hz0 hk0 hl0
  obtain ⟨h1, h2⟩ := hk hw0 hn0 hz0 (mm_ks_cons trivial hk0) hl0
  refine ⟨h1, fun ρ H locs ls hr hP hD hS hl => ?_⟩
  exact lv_sipush hx hb hd hv (h2 ρ H locs ls hr hP hD hS hl)
theorem gs_lconst (hx : p.tables.exec = Jvm.exec) (hb : c.code = cc) {z : Fin 2} {x : Int64} (hv : Int64.ofNat (z : Nat) = x) (hd : decode cc pc = .ok (.lconst z, 1)) (hk : mm_Gd p l e R s m args below meth c Q D cA Y A nL n0 z0 oc ρ0 Mf (pc + 1) L (.long x :: K) M) : mm_Gd p l e R s m args below meth c Q D cA Y A nL n0 z0 oc ρ0 Mf pc L K M := by
  intro hw0 hn0 hz0 hk0 hl0
  obtain ⟨h1, h2⟩ := hk hw0 hn0 hz0 (mm_ks_cons trivial hk0) hl0
  refine ⟨h1, fun ρ H locs ls hr hP hD hS hl => ?_⟩
  exact lv_lconst hx hb hd hv (h2 ρ H locs ls hr hP hD hS hl)
theorem gs_ldc (hx : p.tables.exec = Jvm.exec) (hb : c.code = cc) {own : String} {index : Nat} (hown : s.vm.findClass own = some m.cls) {x : Int32} (hc : (Jvm.Cond.constant own index x).before args s = true) (hd : decode cc pc = .ok (.ldc index, 2)) (hk : mm_Gd p l e R s m args below meth c Q D cA Y A nL n0 z0 oc ρ0 Mf (pc + 2) L (.int x :: K) M) : mm_Gd p l e R s m args below meth c Q D cA Y A nL n0 z0 oc ρ0 Mf pc L K M := by
  intro hw0 hn0 hz0 hk0 hl0
  obtain ⟨h1, h2⟩ := hk hw0 hn0 hz0 (mm_ks_cons trivial hk0) hl0
  refine ⟨h1, fun ρ H locs ls hr hP hD hS hl => ?_⟩
  exact lv_ldc hx hb hown hc hd (h2 ρ H locs ls hr hP hD hS hl)
theorem gs_ldcw (hx : p.tables.exec = Jvm.exec) (hb : c.code = cc) {own : String} {index : Nat} (hown : s.vm.findClass own = some m.cls) {x : Int32} (hc : (Jvm.Cond.constant own index x).before args s = true) (hd : decode cc pc = .ok (.ldc_w index, 3)) (hk : mm_Gd p l e R s m args below meth c Q D cA Y A nL n0 z0 oc ρ0 Mf (pc + 3) L (.int x :: K) M) : mm_Gd p l e R s m args below meth c Q D cA Y A nL n0 z0 oc ρ0 Mf pc L K M := by
  intro hw0 hn0 hz0 hk0 hl0
  obtain ⟨h1, h2⟩ := hk hw0 hn0 hz0 (mm_ks_cons trivial hk0) hl0
  refine ⟨h1, fun ρ H locs ls hr hP hD hS hl => ?_⟩
  exact lv_ldcw hx hb hown hc hd (h2 ρ H locs ls hr hP hD hS hl)
theorem gs_ldc2 (hx : p.tables.exec = Jvm.exec) (hb : c.code = cc) {own : String} {index : Nat} (hown : s.vm.findClass own = some m.cls) {x : Int64} (hc : (Jvm.Cond.constantLong own index x).before args s = true) (hd : decode cc pc = .ok (.ldc2_w index, 3)) (hk : mm_Gd p l e R s m args below meth c Q D cA Y A nL n0 z0 oc ρ0 Mf (pc + 3) L (.long x :: K) M) : mm_Gd p l e R s m args below meth c Q D cA Y A nL n0 z0 oc ρ0 Mf pc L K M := by
  intro hw0 hn0 hz0 hk0 hl0
  obtain ⟨h1, h2⟩ := hk hw0 hn0 hz0 (mm_ks_cons trivial hk0) hl0
  refine ⟨h1, fun ρ H locs ls hr hP hD hS hl => ?_⟩
  exact lv_ldc2 hx hb hown hc hd (h2 ρ H locs ls hr hP hD hS hl)
theorem gs_iload_n (hx : p.tables.exec = Jvm.exec) (hb : c.code = cc) {k : Fin 4} {i : Nat} {x : Int32} (hi : (k : Nat) = i) (hv : L[i]? = some (some (.int x))) (hd : decode cc pc = .ok (.iload_n k, 1)) (hk : mm_Gd p l e R s m args below meth c Q D cA Y A nL n0 z0 oc ρ0 Mf (pc + 1) L (.int x :: K) M) : mm_Gd p l e R s m args below meth c Q D cA Y A nL n0 z0 oc ρ0 Mf pc L K M := by
  intro hw0 hn0 hz0 hk0 hl0
  obtain ⟨h1, h2⟩ := hk hw0 hn0 hz0 (mm_ks_cons trivial hk0) hl0
  refine ⟨h1, fun ρ H locs ls hr hP hD hS hl => ?_⟩
  exact lv_iload_n hx hb hd hi (hl.2.2.2 i _ hv).1 (h2 ρ H locs ls hr hP hD hS hl)
theorem gs_iload (hx : p.tables.exec = Jvm.exec) (hb : c.code = cc) {i : Nat} {x : Int32} (hv : L[i]? = some (some (.int x))) (hd : decode cc pc = .ok (.iload i, 2)) (hk : mm_Gd p l e R s m args below meth c Q D cA Y A nL n0 z0 oc ρ0 Mf (pc + 2) L (.int x :: K) M) : mm_Gd p l e R s m args below meth c Q D cA Y A nL n0 z0 oc ρ0 Mf pc L K M := by
  intro hw0 hn0 hz0 hk0 hl0
  obtain ⟨h1, h2⟩ := hk hw0 hn0 hz0 (mm_ks_cons trivial hk0) hl0
  refine ⟨h1, fun ρ H locs ls hr hP hD hS hl => ?_⟩
  exact lv_iload hx hb hd (hl.2.2.2 i _ hv).1 (h2 ρ H locs ls hr hP hD hS hl)
theorem gs_lload_n (hx : p.tables.exec = Jvm.exec) (hb : c.code = cc) {k : Fin 4} {i : Nat} {x : Int64} (hi : (k : Nat) = i) (hv : L[i]? = some (some (.long x))) (hd : decode cc pc = .ok (.lload_n k, 1)) (hk : mm_Gd p l e R s m args below meth c Q D cA Y A nL n0 z0 oc ρ0 Mf (pc + 1) L (.long x :: K) M) : mm_Gd p l e R s m args below meth c Q D cA Y A nL n0 z0 oc ρ0 Mf pc L K M := by
  intro hw0 hn0 hz0 hk0 hl0
  obtain ⟨h1, h2⟩ := hk hw0 hn0 hz0 (mm_ks_cons trivial hk0) hl0
  refine ⟨h1, fun ρ H locs ls hr hP hD hS hl => ?_⟩
  exact lv_lload_n hx hb hd hi (hl.2.2.2 i _ hv).1 (h2 ρ H locs ls hr hP hD hS hl)
theorem gs_lload (hx : p.tables.exec = Jvm.exec) (hb : c.code = cc) {i : Nat} {x : Int64} (hv : L[i]? = some (some (.long x))) (hd : decode cc pc = .ok (.lload i, 2)) (hk : mm_Gd p l e R s m args below meth c Q D cA Y A nL n0 z0 oc ρ0 Mf (pc + 2) L (.long x :: K) M) : mm_Gd p l e R s m args below meth c Q D cA Y A nL n0 z0 oc ρ0 Mf pc L K M := by
  intro hw0 hn0 hz0 hk0 hl0
  obtain ⟨h1, h2⟩ := hk hw0 hn0 hz0 (mm_ks_cons trivial hk0) hl0
  refine ⟨h1, fun ρ H locs ls hr hP hD hS hl => ?_⟩
  exact lv_lload hx hb hd (hl.2.2.2 i _ hv).1 (h2 ρ H locs ls hr hP hD hS hl)
theorem gs_aload_n (hx : p.tables.exec = Jvm.exec) (hb : c.code = cc) {k : Fin 4} {i : Nat} {x : Nat} (hi : (k : Nat) = i) (hv : L[i]? = some (some (.ref x))) (hd : decode cc pc = .ok (.aload_n k, 1)) (hk : mm_Gd p l e R s m args below meth c Q D cA Y A nL n0 z0 oc ρ0 Mf (pc + 1) L (.ref x :: K) M) : mm_Gd p l e R s m args below meth c Q D cA Y A nL n0 z0 oc ρ0 Mf pc L K M := by
  intro hw0 hn0 hz0 hk0 hl0
  obtain ⟨h1, h2⟩ := hk hw0 hn0 hz0 (mm_ks_cons (hl0 i _ hv) hk0) hl0
  refine ⟨h1, fun ρ H locs ls hr hP hD hS hl => ?_⟩
  exact lv_aload_n hx hb hd hi (hl.2.2.2 i _ hv).1 (h2 ρ H locs ls hr hP hD hS hl)
theorem gs_aload (hx : p.tables.exec = Jvm.exec) (hb : c.code = cc) {i : Nat} {x : Nat} (hv : L[i]? = some (some (.ref x))) (hd : decode cc pc = .ok (.aload i, 2)) (hk : mm_Gd p l e R s m args below meth c Q D cA Y A nL n0 z0 oc ρ0 Mf (pc + 2) L (.ref x :: K) M) : mm_Gd p l e R s m args below meth c Q D cA Y A nL n0 z0 oc ρ0 Mf pc L K M := by
  intro hw0 hn0 hz0 hk0 hl0
  obtain ⟨h1, h2⟩ := hk hw0 hn0 hz0 (mm_ks_cons (hl0 i _ hv) hk0) hl0
  refine ⟨h1, fun ρ H locs ls hr hP hD hS hl => ?_⟩
  exact lv_aload hx hb hd (hl.2.2.2 i _ hv).1 (h2 ρ H locs ls hr hP hD hS hl)
theorem gs_aload_nN (hx : p.tables.exec = Jvm.exec) (hb : c.code = cc) {k : Fin 4} {i : Nat} (hi : (k : Nat) = i) (hv : L[i]? = some (some .null)) (hd : decode cc pc = .ok (.aload_n k, 1)) (hk : mm_Gd p l e R s m args below meth c Q D cA Y A nL n0 z0 oc ρ0 Mf (pc + 1) L (.null :: K) M) : mm_Gd p l e R s m args below meth c Q D cA Y A nL n0 z0 oc ρ0 Mf pc L K M := by
  intro hw0 hn0 hz0 hk0 hl0
  obtain ⟨h1, h2⟩ := hk hw0 hn0 hz0 (mm_ks_cons trivial hk0) hl0
  refine ⟨h1, fun ρ H locs ls hr hP hD hS hl => ?_⟩
  exact lv_aload_nN hx hb hd hi (hl.2.2.2 i _ hv).1 (h2 ρ H locs ls hr hP hD hS hl)
theorem gs_aloadN (hx : p.tables.exec = Jvm.exec) (hb : c.code = cc) {i : Nat} (hv : L[i]? = some (some .null)) (hd : decode cc pc = .ok (.aload i, 2)) (hk : mm_Gd p l e R s m args below meth c Q D cA Y A nL n0 z0 oc ρ0 Mf (pc + 2) L (.null :: K) M) : mm_Gd p l e R s m args below meth c Q D cA Y A nL n0 z0 oc ρ0 Mf pc L K M := by
  intro hw0 hn0 hz0 hk0 hl0
  obtain ⟨h1, h2⟩ := hk hw0 hn0 hz0 (mm_ks_cons trivial hk0) hl0
  refine ⟨h1, fun ρ H locs ls hr hP hD hS hl => ?_⟩
  exact lv_aloadN hx hb hd (hl.2.2.2 i _ hv).1 (h2 ρ H locs ls hr hP hD hS hl)
theorem gs_istore_n (hx : p.tables.exec = Jvm.exec) (hb : c.code = cc) {k : Fin 4} {i : Nat} {x : Int32} (hi : (k : Nat) = i) (hn : i < nL) (hd : decode cc pc = .ok (.istore_n k, 1)) (hk : mm_Gd p l e R s m args below meth c Q D cA Y A nL n0 z0 oc ρ0 Mf (pc + 1) (mm_st1 L i (.int x)) r M) : mm_Gd p l e R s m args below meth c Q D cA Y A nL n0 z0 oc ρ0 Mf pc L (.int x :: r) M := by
  intro hw0 hn0 hz0 hk0 hl0
  obtain ⟨h1, h2⟩ := hk hw0 hn0 hz0 (mm_ks_tail hk0) (mm_st1_lk hl0 trivial)
  refine ⟨h1, fun ρ H locs ls hr hP hD hS hl => ?_⟩
  exact lv_istore_n hx hb hd hi (mm_lc_has hl) hn rfl (fun ls hl1 => h2 ρ H locs ls hr hP hD hS (mm_st1_ok hl trivial hl1))
theorem gs_istore (hx : p.tables.exec = Jvm.exec) (hb : c.code = cc) {i : Nat} {x : Int32} (hn : i < nL) (hd : decode cc pc = .ok (.istore i, 2)) (hk : mm_Gd p l e R s m args below meth c Q D cA Y A nL n0 z0 oc ρ0 Mf (pc + 2) (mm_st1 L i (.int x)) r M) : mm_Gd p l e R s m args below meth c Q D cA Y A nL n0 z0 oc ρ0 Mf pc L (.int x :: r) M := by
  intro hw0 hn0 hz0 hk0 hl0
  obtain ⟨h1, h2⟩ := hk hw0 hn0 hz0 (mm_ks_tail hk0) (mm_st1_lk hl0 trivial)
  refine ⟨h1, fun ρ H locs ls hr hP hD hS hl => ?_⟩
  exact lv_istore hx hb hd (mm_lc_has hl) hn rfl (fun ls hl1 => h2 ρ H locs ls hr hP hD hS (mm_st1_ok hl trivial hl1))
theorem gs_lstore_n (hx : p.tables.exec = Jvm.exec) (hb : c.code = cc) {k : Fin 4} {i : Nat} {x : Int64} (hi : (k : Nat) = i) (hn : i + 1 < nL) (hd : decode cc pc = .ok (.lstore_n k, 1)) (hk : mm_Gd p l e R s m args below meth c Q D cA Y A nL n0 z0 oc ρ0 Mf (pc + 1) (mm_st2 L i (.long x)) r M) : mm_Gd p l e R s m args below meth c Q D cA Y A nL n0 z0 oc ρ0 Mf pc L (.long x :: r) M := by
  intro hw0 hn0 hz0 hk0 hl0
  obtain ⟨h1, h2⟩ := hk hw0 hn0 hz0 (mm_ks_tail hk0) (mm_st2_lk hl0 trivial)
  refine ⟨h1, fun ρ H locs ls hr hP hD hS hl => ?_⟩
  exact lv_lstore_n hx hb hd hi (mm_lc_has hl) hn rfl (fun ls hl1 => h2 ρ H locs ls hr hP hD hS (mm_st2_ok hl trivial hl1))
theorem gs_lstore (hx : p.tables.exec = Jvm.exec) (hb : c.code = cc) {i : Nat} {x : Int64} (hn : i + 1 < nL) (hd : decode cc pc = .ok (.lstore i, 2)) (hk : mm_Gd p l e R s m args below meth c Q D cA Y A nL n0 z0 oc ρ0 Mf (pc + 2) (mm_st2 L i (.long x)) r M) : mm_Gd p l e R s m args below meth c Q D cA Y A nL n0 z0 oc ρ0 Mf pc L (.long x :: r) M := by
  intro hw0 hn0 hz0 hk0 hl0
  obtain ⟨h1, h2⟩ := hk hw0 hn0 hz0 (mm_ks_tail hk0) (mm_st2_lk hl0 trivial)
  refine ⟨h1, fun ρ H locs ls hr hP hD hS hl => ?_⟩
  exact lv_lstore hx hb hd (mm_lc_has hl) hn rfl (fun ls hl1 => h2 ρ H locs ls hr hP hD hS (mm_st2_ok hl trivial hl1))
theorem gs_astore_n (hx : p.tables.exec = Jvm.exec) (hb : c.code = cc) {k : Fin 4} {i : Nat} {x : Nat} (hi : (k : Nat) = i) (hn : i < nL) (hd : decode cc pc = .ok (.astore_n k, 1)) (hk : mm_Gd p l e R s m args below meth c Q D cA Y A nL n0 z0 oc ρ0 Mf (pc + 1) (mm_st1 L i (.ref x)) r M) : mm_Gd p l e R s m args below meth c Q D cA Y A nL n0 z0 oc ρ0 Mf pc L (.ref x :: r) M := by
  intro hw0 hn0 hz0 hk0 hl0
  obtain ⟨h1, h2⟩ := hk hw0 hn0 hz0 (mm_ks_tail hk0) (mm_st1_lk hl0 (mm_ks_head hk0))
  refine ⟨h1, fun ρ H locs ls hr hP hD hS hl => ?_⟩
  exact lv_astore_n hx hb hd hi (mm_lc_has hl) hn rfl (fun ls hl1 => h2 ρ H locs ls hr hP hD hS (mm_st1_ok hl (v := .ref x) (mm_ks_head hk0) hl1))
theorem gs_astore (hx : p.tables.exec = Jvm.exec) (hb : c.code = cc) {i : Nat} {x : Nat} (hn : i < nL) (hd : decode cc pc = .ok (.astore i, 2)) (hk : mm_Gd p l e R s m args below meth c Q D cA Y A nL n0 z0 oc ρ0 Mf (pc + 2) (mm_st1 L i (.ref x)) r M) : mm_Gd p l e R s m args below meth c Q D cA Y A nL n0 z0 oc ρ0 Mf pc L (.ref x :: r) M := by
  intro hw0 hn0 hz0 hk0 hl0
  obtain ⟨h1, h2⟩ := hk hw0 hn0 hz0 (mm_ks_tail hk0) (mm_st1_lk hl0 (mm_ks_head hk0))
  refine ⟨h1, fun ρ H locs ls hr hP hD hS hl => ?_⟩
  exact lv_astore hx hb hd (mm_lc_has hl) hn rfl (fun ls hl1 => h2 ρ H locs ls hr hP hD hS (mm_st1_ok hl (v := .ref x) (mm_ks_head hk0) hl1))
theorem gs_astore_nN (hx : p.tables.exec = Jvm.exec) (hb : c.code = cc) {k : Fin 4} {i : Nat} (hi : (k : Nat) = i) (hn : i < nL) (hd : decode cc pc = .ok (.astore_n k, 1)) (hk : mm_Gd p l e R s m args below meth c Q D cA Y A nL n0 z0 oc ρ0 Mf (pc + 1) (mm_st1 L i .null) r M) : mm_Gd p l e R s m args below meth c Q D cA Y A nL n0 z0 oc ρ0 Mf pc L (.null :: r) M := by
  intro hw0 hn0 hz0 hk0 hl0
  obtain ⟨h1, h2⟩ := hk hw0 hn0 hz0 (mm_ks_tail hk0) (mm_st1_lk hl0 trivial)
  refine ⟨h1, fun ρ H locs ls hr hP hD hS hl => ?_⟩
  exact lv_astore_nN hx hb hd hi (mm_lc_has hl) hn rfl (fun ls hl1 => h2 ρ H locs ls hr hP hD hS (mm_st1_ok hl (v := .null) trivial hl1))
theorem gs_astoreN (hx : p.tables.exec = Jvm.exec) (hb : c.code = cc) {i : Nat} (hn : i < nL) (hd : decode cc pc = .ok (.astore i, 2)) (hk : mm_Gd p l e R s m args below meth c Q D cA Y A nL n0 z0 oc ρ0 Mf (pc + 2) (mm_st1 L i .null) r M) : mm_Gd p l e R s m args below meth c Q D cA Y A nL n0 z0 oc ρ0 Mf pc L (.null :: r) M := by
  intro hw0 hn0 hz0 hk0 hl0
  obtain ⟨h1, h2⟩ := hk hw0 hn0 hz0 (mm_ks_tail hk0) (mm_st1_lk hl0 trivial)
  refine ⟨h1, fun ρ H locs ls hr hP hD hS hl => ?_⟩
  exact lv_astoreN hx hb hd (mm_lc_has hl) hn rfl (fun ls hl1 => h2 ρ H locs ls hr hP hD hS (mm_st1_ok hl (v := .null) trivial hl1))
theorem gs_iinc (hx : p.tables.exec = Jvm.exec) (hb : c.code = cc) {i : Nat} {z : Int} {x y : Int32} (hv : L[i]? = some (some (.int x))) (hz : Int32.ofInt z = y) (hn : i < nL) (hd : decode cc pc = .ok (.iinc i z, 3)) (hk : mm_Gd p l e R s m args below meth c Q D cA Y A nL n0 z0 oc ρ0 Mf (pc + 3) (mm_st1 L i (.int (x + y))) K M) : mm_Gd p l e R s m args below meth c Q D cA Y A nL n0 z0 oc ρ0 Mf pc L K M := by
  intro hw0 hn0 hz0 hk0 hl0
  obtain ⟨h1, h2⟩ := hk hw0 hn0 hz0 hk0 (mm_st1_lk hl0 trivial)
  refine ⟨h1, fun ρ H locs ls hr hP hD hS hl => ?_⟩
  obtain ⟨k, hk2⟩ := List.mem_iff_getElem?.mp (mm_al_mem.mpr ⟨.int x, hv, rfl⟩ : (i, Value.int x) ∈ mm_al ρ L)
  exact lv_iinc hx hb hd (mm_lc_has hl) hk2 (by rw [hz]) hn rfl (fun ls hl1 => h2 ρ H locs ls hr hP hD hS (mm_st1_ok hl (v := .int (x + y)) trivial hl1))
theorem gs_iadd (hx : p.tables.exec = Jvm.exec) (hb : c.code = cc) {x y : Int32}  (hd : decode cc pc = .ok (.iadd, 1)) (hk : mm_Gd p l e R s m args below meth c Q D cA Y A nL n0 z0 oc ρ0 Mf (pc + 1) L (.int (x + y) :: r) M) : mm_Gd p l e R s m args below meth c Q D cA Y A nL n0 z0 oc ρ0 Mf pc L (.int y :: .int x :: r) M := by
  intro hw0 hn0 hz0 hk0 hl0
  obtain ⟨h1, h2⟩ := hk hw0 hn0 hz0 (mm_ks_cons trivial (mm_ks_tail (mm_ks_tail hk0))) hl0
  refine ⟨h1, fun ρ H locs ls hr hP hD hS hl => ?_⟩
  exact lv_iadd hx hb hd  (h2 ρ H locs ls hr hP hD hS hl)
theorem gs_isub (hx : p.tables.exec = Jvm.exec) (hb : c.code = cc) {x y : Int32}  (hd : decode cc pc = .ok (.isub, 1)) (hk : mm_Gd p l e R s m args below meth c Q D cA Y A nL n0 z0 oc ρ0 Mf (pc + 1) L (.int (x - y) :: r) M) : mm_Gd p l e R s m args below meth c Q D cA Y A nL n0 z0 oc ρ0 Mf pc L (.int y :: .int x :: r) M := by
  intro hw0 hn0 hz0 hk0 hl0
  obtain ⟨h1, h2⟩ := hk hw0 hn0 hz0 (mm_ks_cons trivial (mm_ks_tail (mm_ks_tail hk0))) hl0
  refine ⟨h1, fun ρ H locs ls hr hP hD hS hl => ?_⟩
  exact lv_isub hx hb hd  (h2 ρ H locs ls hr hP hD hS hl)
theorem gs_imul (hx : p.tables.exec = Jvm.exec) (hb : c.code = cc) {x y : Int32}  (hd : decode cc pc = .ok (.imul, 1)) (hk : mm_Gd p l e R s m args below meth c Q D cA Y A nL n0 z0 oc ρ0 Mf (pc + 1) L (.int (x * y) :: r) M) : mm_Gd p l e R s m args below meth c Q D cA Y A nL n0 z0 oc ρ0 Mf pc L (.int y :: .int x :: r) M := by
  intro hw0 hn0 hz0 hk0 hl0
  obtain ⟨h1, h2⟩ := hk hw0 hn0 hz0 (mm_ks_cons trivial (mm_ks_tail (mm_ks_tail hk0))) hl0
  refine ⟨h1, fun ρ H locs ls hr hP hD hS hl => ?_⟩
  exact lv_imul hx hb hd  (h2 ρ H locs ls hr hP hD hS hl)
theorem gs_iand (hx : p.tables.exec = Jvm.exec) (hb : c.code = cc) {x y : Int32}  (hd : decode cc pc = .ok (.iand, 1)) (hk : mm_Gd p l e R s m args below meth c Q D cA Y A nL n0 z0 oc ρ0 Mf (pc + 1) L (.int (x &&& y) :: r) M) : mm_Gd p l e R s m args below meth c Q D cA Y A nL n0 z0 oc ρ0 Mf pc L (.int y :: .int x :: r) M := by
  intro hw0 hn0 hz0 hk0 hl0
  obtain ⟨h1, h2⟩ := hk hw0 hn0 hz0 (mm_ks_cons trivial (mm_ks_tail (mm_ks_tail hk0))) hl0
  refine ⟨h1, fun ρ H locs ls hr hP hD hS hl => ?_⟩
  exact lv_iand hx hb hd  (h2 ρ H locs ls hr hP hD hS hl)
theorem gs_ior (hx : p.tables.exec = Jvm.exec) (hb : c.code = cc) {x y : Int32}  (hd : decode cc pc = .ok (.ior, 1)) (hk : mm_Gd p l e R s m args below meth c Q D cA Y A nL n0 z0 oc ρ0 Mf (pc + 1) L (.int (x ||| y) :: r) M) : mm_Gd p l e R s m args below meth c Q D cA Y A nL n0 z0 oc ρ0 Mf pc L (.int y :: .int x :: r) M := by
  intro hw0 hn0 hz0 hk0 hl0
  obtain ⟨h1, h2⟩ := hk hw0 hn0 hz0 (mm_ks_cons trivial (mm_ks_tail (mm_ks_tail hk0))) hl0
  refine ⟨h1, fun ρ H locs ls hr hP hD hS hl => ?_⟩
  exact lv_ior hx hb hd  (h2 ρ H locs ls hr hP hD hS hl)
theorem gs_ixor (hx : p.tables.exec = Jvm.exec) (hb : c.code = cc) {x y : Int32}  (hd : decode cc pc = .ok (.ixor, 1)) (hk : mm_Gd p l e R s m args below meth c Q D cA Y A nL n0 z0 oc ρ0 Mf (pc + 1) L (.int (x ^^^ y) :: r) M) : mm_Gd p l e R s m args below meth c Q D cA Y A nL n0 z0 oc ρ0 Mf pc L (.int y :: .int x :: r) M := by
  intro hw0 hn0 hz0 hk0 hl0
  obtain ⟨h1, h2⟩ := hk hw0 hn0 hz0 (mm_ks_cons trivial (mm_ks_tail (mm_ks_tail hk0))) hl0
  refine ⟨h1, fun ρ H locs ls hr hP hD hS hl => ?_⟩
  exact lv_ixor hx hb hd  (h2 ρ H locs ls hr hP hD hS hl)
theorem gs_ladd (hx : p.tables.exec = Jvm.exec) (hb : c.code = cc) {x y : Int64}  (hd : decode cc pc = .ok (.ladd, 1)) (hk : mm_Gd p l e R s m args below meth c Q D cA Y A nL n0 z0 oc ρ0 Mf (pc + 1) L (.long (x + y) :: r) M) : mm_Gd p l e R s m args below meth c Q D cA Y A nL n0 z0 oc ρ0 Mf pc L (.long y :: .long x :: r) M := by
  intro hw0 hn0 hz0 hk0 hl0
  obtain ⟨h1, h2⟩ := hk hw0 hn0 hz0 (mm_ks_cons trivial (mm_ks_tail (mm_ks_tail hk0))) hl0
  refine ⟨h1, fun ρ H locs ls hr hP hD hS hl => ?_⟩
  exact lv_ladd hx hb hd  (h2 ρ H locs ls hr hP hD hS hl)
theorem gs_lsub (hx : p.tables.exec = Jvm.exec) (hb : c.code = cc) {x y : Int64}  (hd : decode cc pc = .ok (.lsub, 1)) (hk : mm_Gd p l e R s m args below meth c Q D cA Y A nL n0 z0 oc ρ0 Mf (pc + 1) L (.long (x - y) :: r) M) : mm_Gd p l e R s m args below meth c Q D cA Y A nL n0 z0 oc ρ0 Mf pc L (.long y :: .long x :: r) M := by
  intro hw0 hn0 hz0 hk0 hl0
  obtain ⟨h1, h2⟩ := hk hw0 hn0 hz0 (mm_ks_cons trivial (mm_ks_tail (mm_ks_tail hk0))) hl0
  refine ⟨h1, fun ρ H locs ls hr hP hD hS hl => ?_⟩
  exact lv_lsub hx hb hd  (h2 ρ H locs ls hr hP hD hS hl)
theorem gs_lmul (hx : p.tables.exec = Jvm.exec) (hb : c.code = cc) {x y : Int64}  (hd : decode cc pc = .ok (.lmul, 1)) (hk : mm_Gd p l e R s m args below meth c Q D cA Y A nL n0 z0 oc ρ0 Mf (pc + 1) L (.long (x * y) :: r) M) : mm_Gd p l e R s m args below meth c Q D cA Y A nL n0 z0 oc ρ0 Mf pc L (.long y :: .long x :: r) M := by
  intro hw0 hn0 hz0 hk0 hl0
  obtain ⟨h1, h2⟩ := hk hw0 hn0 hz0 (mm_ks_cons trivial (mm_ks_tail (mm_ks_tail hk0))) hl0
  refine ⟨h1, fun ρ H locs ls hr hP hD hS hl => ?_⟩
  exact lv_lmul hx hb hd  (h2 ρ H locs ls hr hP hD hS hl)
theorem gs_land (hx : p.tables.exec = Jvm.exec) (hb : c.code = cc) {x y : Int64}  (hd : decode cc pc = .ok (.land, 1)) (hk : mm_Gd p l e R s m args below meth c Q D cA Y A nL n0 z0 oc ρ0 Mf (pc + 1) L (.long (x &&& y) :: r) M) : mm_Gd p l e R s m args below meth c Q D cA Y A nL n0 z0 oc ρ0 Mf pc L (.long y :: .long x :: r) M := by
  intro hw0 hn0 hz0 hk0 hl0
  obtain ⟨h1, h2⟩ := hk hw0 hn0 hz0 (mm_ks_cons trivial (mm_ks_tail (mm_ks_tail hk0))) hl0
  refine ⟨h1, fun ρ H locs ls hr hP hD hS hl => ?_⟩
  exact lv_land hx hb hd  (h2 ρ H locs ls hr hP hD hS hl)
theorem gs_lor (hx : p.tables.exec = Jvm.exec) (hb : c.code = cc) {x y : Int64}  (hd : decode cc pc = .ok (.lor, 1)) (hk : mm_Gd p l e R s m args below meth c Q D cA Y A nL n0 z0 oc ρ0 Mf (pc + 1) L (.long (x ||| y) :: r) M) : mm_Gd p l e R s m args below meth c Q D cA Y A nL n0 z0 oc ρ0 Mf pc L (.long y :: .long x :: r) M := by
  intro hw0 hn0 hz0 hk0 hl0
  obtain ⟨h1, h2⟩ := hk hw0 hn0 hz0 (mm_ks_cons trivial (mm_ks_tail (mm_ks_tail hk0))) hl0
  refine ⟨h1, fun ρ H locs ls hr hP hD hS hl => ?_⟩
  exact lv_lor hx hb hd  (h2 ρ H locs ls hr hP hD hS hl)
theorem gs_idiv (hx : p.tables.exec = Jvm.exec) (hb : c.code = cc) {x y : Int32} (hne : ¬ y = 0) (hd : decode cc pc = .ok (.idiv, 1)) (hk : mm_Gd p l e R s m args below meth c Q D cA Y A nL n0 z0 oc ρ0 Mf (pc + 1) L (.int (x / y) :: r) M) : mm_Gd p l e R s m args below meth c Q D cA Y A nL n0 z0 oc ρ0 Mf pc L (.int y :: .int x :: r) M := by
  intro hw0 hn0 hz0 hk0 hl0
  obtain ⟨h1, h2⟩ := hk hw0 hn0 hz0 (mm_ks_cons trivial (mm_ks_tail (mm_ks_tail hk0))) hl0
  refine ⟨h1, fun ρ H locs ls hr hP hD hS hl => ?_⟩
  exact lv_idiv hx hb hd hne (h2 ρ H locs ls hr hP hD hS hl)
theorem gs_irem (hx : p.tables.exec = Jvm.exec) (hb : c.code = cc) {x y : Int32} (hne : ¬ y = 0) (hd : decode cc pc = .ok (.irem, 1)) (hk : mm_Gd p l e R s m args below meth c Q D cA Y A nL n0 z0 oc ρ0 Mf (pc + 1) L (.int (x - x / y * y) :: r) M) : mm_Gd p l e R s m args below meth c Q D cA Y A nL n0 z0 oc ρ0 Mf pc L (.int y :: .int x :: r) M := by
  intro hw0 hn0 hz0 hk0 hl0
  obtain ⟨h1, h2⟩ := hk hw0 hn0 hz0 (mm_ks_cons trivial (mm_ks_tail (mm_ks_tail hk0))) hl0
  refine ⟨h1, fun ρ H locs ls hr hP hD hS hl => ?_⟩
  exact lv_irem hx hb hd hne (h2 ρ H locs ls hr hP hD hS hl)
theorem gs_ldiv (hx : p.tables.exec = Jvm.exec) (hb : c.code = cc) {x y : Int64} (hne : ¬ y = 0) (hd : decode cc pc = .ok (.ldiv, 1)) (hk : mm_Gd p l e R s m args below meth c Q D cA Y A nL n0 z0 oc ρ0 Mf (pc + 1) L (.long (x / y) :: r) M) : mm_Gd p l e R s m args below meth c Q D cA Y A nL n0 z0 oc ρ0 Mf pc L (.long y :: .long x :: r) M := by
  intro hw0 hn0 hz0 hk0 hl0
  obtain ⟨h1, h2⟩ := hk hw0 hn0 hz0 (mm_ks_cons trivial (mm_ks_tail (mm_ks_tail hk0))) hl0
  refine ⟨h1, fun ρ H locs ls hr hP hD hS hl => ?_⟩
  exact lv_ldiv hx hb hd hne (h2 ρ H locs ls hr hP hD hS hl)
theorem gs_lrem (hx : p.tables.exec = Jvm.exec) (hb : c.code = cc) {x y : Int64} (hne : ¬ y = 0) (hd : decode cc pc = .ok (.lrem, 1)) (hk : mm_Gd p l e R s m args below meth c Q D cA Y A nL n0 z0 oc ρ0 Mf (pc + 1) L (.long (x - x / y * y) :: r) M) : mm_Gd p l e R s m args below meth c Q D cA Y A nL n0 z0 oc ρ0 Mf pc L (.long y :: .long x :: r) M := by
  intro hw0 hn0 hz0 hk0 hl0
  obtain ⟨h1, h2⟩ := hk hw0 hn0 hz0 (mm_ks_cons trivial (mm_ks_tail (mm_ks_tail hk0))) hl0
  refine ⟨h1, fun ρ H locs ls hr hP hD hS hl => ?_⟩
  exact lv_lrem hx hb hd hne (h2 ρ H locs ls hr hP hD hS hl)
theorem gs_ishl (hx : p.tables.exec = Jvm.exec) (hb : c.code = cc) {x y : Int32}  (hd : decode cc pc = .ok (.ishl, 1)) (hk : mm_Gd p l e R s m args below meth c Q D cA Y A nL n0 z0 oc ρ0 Mf (pc + 1) L (.int (x <<< (y &&& 31)) :: r) M) : mm_Gd p l e R s m args below meth c Q D cA Y A nL n0 z0 oc ρ0 Mf pc L (.int y :: .int x :: r) M := by
  intro hw0 hn0 hz0 hk0 hl0
  obtain ⟨h1, h2⟩ := hk hw0 hn0 hz0 (mm_ks_cons trivial (mm_ks_tail (mm_ks_tail hk0))) hl0
  refine ⟨h1, fun ρ H locs ls hr hP hD hS hl => ?_⟩
  exact lv_ishl hx hb hd  (h2 ρ H locs ls hr hP hD hS hl)
theorem gs_ishr (hx : p.tables.exec = Jvm.exec) (hb : c.code = cc) {x y : Int32}  (hd : decode cc pc = .ok (.ishr, 1)) (hk : mm_Gd p l e R s m args below meth c Q D cA Y A nL n0 z0 oc ρ0 Mf (pc + 1) L (.int (x >>> (y &&& 31)) :: r) M) : mm_Gd p l e R s m args below meth c Q D cA Y A nL n0 z0 oc ρ0 Mf pc L (.int y :: .int x :: r) M := by
  intro hw0 hn0 hz0 hk0 hl0
  obtain ⟨h1, h2⟩ := hk hw0 hn0 hz0 (mm_ks_cons trivial (mm_ks_tail (mm_ks_tail hk0))) hl0
  refine ⟨h1, fun ρ H locs ls hr hP hD hS hl => ?_⟩
  exact lv_ishr hx hb hd  (h2 ρ H locs ls hr hP hD hS hl)
theorem gs_iushr (hx : p.tables.exec = Jvm.exec) (hb : c.code = cc) {x y : Int32}  (hd : decode cc pc = .ok (.iushr, 1)) (hk : mm_Gd p l e R s m args below meth c Q D cA Y A nL n0 z0 oc ρ0 Mf (pc + 1) L (.int ((x.toUInt32 >>> (y.toUInt32 &&& Int32.toUInt32 31)).toInt32) :: r) M) : mm_Gd p l e R s m args below meth c Q D cA Y A nL n0 z0 oc ρ0 Mf pc L (.int y :: .int x :: r) M := by
  intro hw0 hn0 hz0 hk0 hl0
  obtain ⟨h1, h2⟩ := hk hw0 hn0 hz0 (mm_ks_cons trivial (mm_ks_tail (mm_ks_tail hk0))) hl0
  refine ⟨h1, fun ρ H locs ls hr hP hD hS hl => ?_⟩
  exact lv_iushr hx hb hd rfl (h2 ρ H locs ls hr hP hD hS hl)
theorem gs_ineg (hx : p.tables.exec = Jvm.exec) (hb : c.code = cc) {x : Int32} (hd : decode cc pc = .ok (.ineg, 1)) (hk : mm_Gd p l e R s m args below meth c Q D cA Y A nL n0 z0 oc ρ0 Mf (pc + 1) L (.int (-x) :: r) M) : mm_Gd p l e R s m args below meth c Q D cA Y A nL n0 z0 oc ρ0 Mf pc L (.int x :: r) M := by
  intro hw0 hn0 hz0 hk0 hl0
  obtain ⟨h1, h2⟩ := hk hw0 hn0 hz0 (mm_ks_cons trivial (mm_ks_tail hk0)) hl0
  refine ⟨h1, fun ρ H locs ls hr hP hD hS hl => ?_⟩
  exact lv_ineg hx hb hd (h2 ρ H locs ls hr hP hD hS hl)
theorem gs_lcmp (hx : p.tables.exec = Jvm.exec) (hb : c.code = cc) {x y : Int64} (hd : decode cc pc = .ok (.lcmp, 1)) (hk : mm_Gd p l e R s m args below meth c Q D cA Y A nL n0 z0 oc ρ0 Mf (pc + 1) L (.int (lg_cmp x y) :: r) M) : mm_Gd p l e R s m args below meth c Q D cA Y A nL n0 z0 oc ρ0 Mf pc L (.long y :: .long x :: r) M := by
  intro hw0 hn0 hz0 hk0 hl0
  obtain ⟨h1, h2⟩ := hk hw0 hn0 hz0 (mm_ks_cons trivial (mm_ks_tail (mm_ks_tail hk0))) hl0
  refine ⟨h1, fun ρ H locs ls hr hP hD hS hl => ?_⟩
  exact W.lcmp hx hb hd (h2 ρ H locs ls hr hP hD hS hl)
theorem gs_lshl (hx : p.tables.exec = Jvm.exec) (hb : c.code = cc) {x : Int64} {y : Int32} (hd : decode cc pc = .ok (.lshl, 1)) (hk : mm_Gd p l e R s m args below meth c Q D cA Y A nL n0 z0 oc ρ0 Mf (pc + 1) L (.long (x <<< (y.toInt64 &&& 63)) :: r) M) : mm_Gd p l e R s m args below meth c Q D cA Y A nL n0 z0 oc ρ0 Mf pc L (.int y :: .long x :: r) M := by
  intro hw0 hn0 hz0 hk0 hl0
  obtain ⟨h1, h2⟩ := hk hw0 hn0 hz0 (mm_ks_cons trivial (mm_ks_tail (mm_ks_tail hk0))) hl0
  refine ⟨h1, fun ρ H locs ls hr hP hD hS hl => ?_⟩
  exact lv_lshl hx hb hd rfl (h2 ρ H locs ls hr hP hD hS hl)
theorem gs_lushr (hx : p.tables.exec = Jvm.exec) (hb : c.code = cc) {x : Int64} {y : Int32} (hd : decode cc pc = .ok (.lushr, 1)) (hk : mm_Gd p l e R s m args below meth c Q D cA Y A nL n0 z0 oc ρ0 Mf (pc + 1) L (.long (x.toUInt64 >>> (y.toInt64.toUInt64 &&& Int64.toUInt64 63)).toInt64 :: r) M) : mm_Gd p l e R s m args below meth c Q D cA Y A nL n0 z0 oc ρ0 Mf pc L (.int y :: .long x :: r) M := by
  intro hw0 hn0 hz0 hk0 hl0
  obtain ⟨h1, h2⟩ := hk hw0 hn0 hz0 (mm_ks_cons trivial (mm_ks_tail (mm_ks_tail hk0))) hl0
  refine ⟨h1, fun ρ H locs ls hr hP hD hS hl => ?_⟩
  exact lv_lushr hx hb hd rfl (h2 ρ H locs ls hr hP hD hS hl)
theorem gs_i2l (hx : p.tables.exec = Jvm.exec) (hb : c.code = cc) {x : Int32} (hd : decode cc pc = .ok (.i2l, 1)) (hk : mm_Gd p l e R s m args below meth c Q D cA Y A nL n0 z0 oc ρ0 Mf (pc + 1) L (.long x.toInt64 :: r) M) : mm_Gd p l e R s m args below meth c Q D cA Y A nL n0 z0 oc ρ0 Mf pc L (.int x :: r) M := by
  intro hw0 hn0 hz0 hk0 hl0
  obtain ⟨h1, h2⟩ := hk hw0 hn0 hz0 (mm_ks_cons trivial (mm_ks_tail hk0)) hl0
  refine ⟨h1, fun ρ H locs ls hr hP hD hS hl => ?_⟩
  exact lv_i2l hx hb hd rfl (h2 ρ H locs ls hr hP hD hS hl)
theorem gs_l2i (hx : p.tables.exec = Jvm.exec) (hb : c.code = cc) {x : Int64} (hd : decode cc pc = .ok (.l2i, 1)) (hk : mm_Gd p l e R s m args below meth c Q D cA Y A nL n0 z0 oc ρ0 Mf (pc + 1) L (.int x.toInt32 :: r) M) : mm_Gd p l e R s m args below meth c Q D cA Y A nL n0 z0 oc ρ0 Mf pc L (.long x :: r) M := by
  intro hw0 hn0 hz0 hk0 hl0
  obtain ⟨h1, h2⟩ := hk hw0 hn0 hz0 (mm_ks_cons trivial (mm_ks_tail hk0)) hl0
  refine ⟨h1, fun ρ H locs ls hr hP hD hS hl => ?_⟩
  exact lv_l2i hx hb hd rfl (h2 ρ H locs ls hr hP hD hS hl)
theorem mm_c1_cat {ρ : Nat → Nat} {v : Value} (h : mm_c1 v = true) : (mm_tr ρ v).category = 1 := by
  cases v <;> first | rfl | cases h
theorem gs_dup (hx : p.tables.exec = Jvm.exec) (hb : c.code = cc) {v : Value} (hv : mm_c1 v = true) (hd : decode cc pc = .ok (.dup, 1)) (hk : mm_Gd p l e R s m args below meth c Q D cA Y A nL n0 z0 oc ρ0 Mf (pc + 1) L (v :: v :: r) M) : mm_Gd p l e R s m args below meth c Q D cA Y A nL n0 z0 oc ρ0 Mf pc L (v :: r) M := by
  intro hw0 hn0 hz0 hk0 hl0
  obtain ⟨h1, h2⟩ := hk hw0 hn0 hz0 (mm_ks_cons (mm_ks_head hk0) hk0) hl0
  refine ⟨h1, fun ρ H locs ls hr hP hD hS hl => ?_⟩
  exact lv_dup hx hb hd (mm_c1_cat hv) (h2 ρ H locs ls hr hP hD hS hl)
theorem gs_pop (hx : p.tables.exec = Jvm.exec) (hb : c.code = cc) {v : Value} (hv : mm_c1 v = true) (hd : decode cc pc = .ok (.pop, 1)) (hk : mm_Gd p l e R s m args below meth c Q D cA Y A nL n0 z0 oc ρ0 Mf (pc + 1) L r M) : mm_Gd p l e R s m args below meth c Q D cA Y A nL n0 z0 oc ρ0 Mf pc L (v :: r) M := by
  intro hw0 hn0 hz0 hk0 hl0
  obtain ⟨h1, h2⟩ := hk hw0 hn0 hz0 (mm_ks_tail hk0) hl0
  refine ⟨h1, fun ρ H locs ls hr hP hD hS hl => ?_⟩
  exact lv_pop hx hb hd (mm_c1_cat hv) (h2 ρ H locs ls hr hP hD hS hl)
theorem gs_dup2 (hx : p.tables.exec = Jvm.exec) (hb : c.code = cc) {v w : Value} (hv : mm_c1 v = true) (hw : mm_c1 w = true) (hd : decode cc pc = .ok (.dup2, 1)) (hk : mm_Gd p l e R s m args below meth c Q D cA Y A nL n0 z0 oc ρ0 Mf (pc + 1) L (w :: v :: w :: v :: r) M) : mm_Gd p l e R s m args below meth c Q D cA Y A nL n0 z0 oc ρ0 Mf pc L (w :: v :: r) M := by
  intro hw0 hn0 hz0 hk0 hl0
  obtain ⟨h1, h2⟩ := hk hw0 hn0 hz0 (mm_ks_cons (mm_ks_head hk0) (mm_ks_cons (mm_ks_head (mm_ks_tail hk0)) hk0)) hl0
  refine ⟨h1, fun ρ H locs ls hr hP hD hS hl => ?_⟩
  exact lv_dup2_11 hx hb hd (mm_c1_cat hw) (mm_c1_cat hv) (h2 ρ H locs ls hr hP hD hS hl)
theorem gs_goto (hx : p.tables.exec = Jvm.exec) (hb : c.code = cc) {off : Int} {tgt : Nat} (hd : decode cc pc = .ok (.goto off, 3)) (ht : (pc : Int) + off = (tgt : Int)) (hk : mm_Gd p l e R s m args below meth c Q D cA Y A nL n0 z0 oc ρ0 Mf tgt L K M) : mm_Gd p l e R s m args below meth c Q D cA Y A nL n0 z0 oc ρ0 Mf pc L K M := by
  intro hw0 hn0 hz0 hk0 hl0
  obtain ⟨h1, h2⟩ := hk hw0 hn0 hz0 hk0 hl0
  exact ⟨h1, fun ρ H locs ls hr hP hD hS hl => lv_goto hx hb hd ht (h2 ρ H locs ls hr hP hD hS hl)⟩
theorem gs_icmp_eq (hx : p.tables.exec = Jvm.exec) (hb : c.code = cc) {x y : Int32} {off : Int} {tgt : Nat} (hd : decode cc pc = .ok (.if_icmp .eq off, 3)) (ht : (pc : Int) + off = (tgt : Int)) (kt : x = y → mm_Gd p l e R s m args below meth c Q D cA Y A nL n0 z0 oc ρ0 Mf tgt L r M) (kf : ¬ x = y → mm_Gd p l e R s m args below meth c Q D cA Y A nL n0 z0 oc ρ0 Mf (pc + 3) L r M) : mm_Gd p l e R s m args below meth c Q D cA Y A nL n0 z0 oc ρ0 Mf pc L (.int y :: .int x :: r) M := by
  intro hw0 hn0 hz0 hk0 hl0
  refine ⟨?_, fun ρ H locs ls hr hP hD hS hl => lv_icmp_eq hx hb hd ht (fun q => (kt q hw0 hn0 hz0 (mm_ks_tail (mm_ks_tail hk0)) hl0).2 ρ H locs ls hr hP hD hS hl) (fun q => (kf q hw0 hn0 hz0 (mm_ks_tail (mm_ks_tail hk0)) hl0).2 ρ H locs ls hr hP hD hS hl)⟩
  by_cases q : x = y
  · exact (kt q hw0 hn0 hz0 (mm_ks_tail (mm_ks_tail hk0)) hl0).1
  · exact (kf q hw0 hn0 hz0 (mm_ks_tail (mm_ks_tail hk0)) hl0).1
theorem gs_if_eq (hx : p.tables.exec = Jvm.exec) (hb : c.code = cc) {x : Int32} {off : Int} {tgt : Nat} (hd : decode cc pc = .ok (.ifCond .eq off, 3)) (ht : (pc : Int) + off = (tgt : Int)) (kt : x = 0 → mm_Gd p l e R s m args below meth c Q D cA Y A nL n0 z0 oc ρ0 Mf tgt L r M) (kf : ¬ x = 0 → mm_Gd p l e R s m args below meth c Q D cA Y A nL n0 z0 oc ρ0 Mf (pc + 3) L r M) : mm_Gd p l e R s m args below meth c Q D cA Y A nL n0 z0 oc ρ0 Mf pc L (.int x :: r) M := by
  intro hw0 hn0 hz0 hk0 hl0
  refine ⟨?_, fun ρ H locs ls hr hP hD hS hl => lv_if_eq hx hb hd ht (fun q => (kt q hw0 hn0 hz0 (mm_ks_tail hk0) hl0).2 ρ H locs ls hr hP hD hS hl) (fun q => (kf q hw0 hn0 hz0 (mm_ks_tail hk0) hl0).2 ρ H locs ls hr hP hD hS hl)⟩
  by_cases q : x = 0
  · exact (kt q hw0 hn0 hz0 (mm_ks_tail hk0) hl0).1
  · exact (kf q hw0 hn0 hz0 (mm_ks_tail hk0) hl0).1
theorem gs_icmp_ne (hx : p.tables.exec = Jvm.exec) (hb : c.code = cc) {x y : Int32} {off : Int} {tgt : Nat} (hd : decode cc pc = .ok (.if_icmp .ne off, 3)) (ht : (pc : Int) + off = (tgt : Int)) (kt : ¬ x = y → mm_Gd p l e R s m args below meth c Q D cA Y A nL n0 z0 oc ρ0 Mf tgt L r M) (kf : x = y → mm_Gd p l e R s m args below meth c Q D cA Y A nL n0 z0 oc ρ0 Mf (pc + 3) L r M) : mm_Gd p l e R s m args below meth c Q D cA Y A nL n0 z0 oc ρ0 Mf pc L (.int y :: .int x :: r) M := by
  intro hw0 hn0 hz0 hk0 hl0
  refine ⟨?_, fun ρ H locs ls hr hP hD hS hl => lv_icmp_ne hx hb hd ht (fun q => (kt q hw0 hn0 hz0 (mm_ks_tail (mm_ks_tail hk0)) hl0).2 ρ H locs ls hr hP hD hS hl) (fun q => (kf q hw0 hn0 hz0 (mm_ks_tail (mm_ks_tail hk0)) hl0).2 ρ H locs ls hr hP hD hS hl)⟩
  by_cases q : ¬ x = y
  · exact (kt q hw0 hn0 hz0 (mm_ks_tail (mm_ks_tail hk0)) hl0).1
  · exact (kf (Decidable.of_not_not q) hw0 hn0 hz0 (mm_ks_tail (mm_ks_tail hk0)) hl0).1
theorem gs_if_ne (hx : p.tables.exec = Jvm.exec) (hb : c.code = cc) {x : Int32} {off : Int} {tgt : Nat} (hd : decode cc pc = .ok (.ifCond .ne off, 3)) (ht : (pc : Int) + off = (tgt : Int)) (kt : ¬ x = 0 → mm_Gd p l e R s m args below meth c Q D cA Y A nL n0 z0 oc ρ0 Mf tgt L r M) (kf : x = 0 → mm_Gd p l e R s m args below meth c Q D cA Y A nL n0 z0 oc ρ0 Mf (pc + 3) L r M) : mm_Gd p l e R s m args below meth c Q D cA Y A nL n0 z0 oc ρ0 Mf pc L (.int x :: r) M := by
  intro hw0 hn0 hz0 hk0 hl0
  refine ⟨?_, fun ρ H locs ls hr hP hD hS hl => lv_if_ne hx hb hd ht (fun q => (kt q hw0 hn0 hz0 (mm_ks_tail hk0) hl0).2 ρ H locs ls hr hP hD hS hl) (fun q => (kf q hw0 hn0 hz0 (mm_ks_tail hk0) hl0).2 ρ H locs ls hr hP hD hS hl)⟩
  by_cases q : ¬ x = 0
  · exact (kt q hw0 hn0 hz0 (mm_ks_tail hk0) hl0).1
  · exact (kf (Decidable.of_not_not q) hw0 hn0 hz0 (mm_ks_tail hk0) hl0).1
theorem gs_icmp_lt (hx : p.tables.exec = Jvm.exec) (hb : c.code = cc) {x y : Int32} {off : Int} {tgt : Nat} (hd : decode cc pc = .ok (.if_icmp .lt off, 3)) (ht : (pc : Int) + off = (tgt : Int)) (kt : x < y → mm_Gd p l e R s m args below meth c Q D cA Y A nL n0 z0 oc ρ0 Mf tgt L r M) (kf : ¬ x < y → mm_Gd p l e R s m args below meth c Q D cA Y A nL n0 z0 oc ρ0 Mf (pc + 3) L r M) : mm_Gd p l e R s m args below meth c Q D cA Y A nL n0 z0 oc ρ0 Mf pc L (.int y :: .int x :: r) M := by
  intro hw0 hn0 hz0 hk0 hl0
  refine ⟨?_, fun ρ H locs ls hr hP hD hS hl => lv_icmp_lt hx hb hd ht (fun q => (kt q hw0 hn0 hz0 (mm_ks_tail (mm_ks_tail hk0)) hl0).2 ρ H locs ls hr hP hD hS hl) (fun q => (kf q hw0 hn0 hz0 (mm_ks_tail (mm_ks_tail hk0)) hl0).2 ρ H locs ls hr hP hD hS hl)⟩
  by_cases q : x < y
  · exact (kt q hw0 hn0 hz0 (mm_ks_tail (mm_ks_tail hk0)) hl0).1
  · exact (kf q hw0 hn0 hz0 (mm_ks_tail (mm_ks_tail hk0)) hl0).1
theorem gs_if_lt (hx : p.tables.exec = Jvm.exec) (hb : c.code = cc) {x : Int32} {off : Int} {tgt : Nat} (hd : decode cc pc = .ok (.ifCond .lt off, 3)) (ht : (pc : Int) + off = (tgt : Int)) (kt : x < 0 → mm_Gd p l e R s m args below meth c Q D cA Y A nL n0 z0 oc ρ0 Mf tgt L r M) (kf : ¬ x < 0 → mm_Gd p l e R s m args below meth c Q D cA Y A nL n0 z0 oc ρ0 Mf (pc + 3) L r M) : mm_Gd p l e R s m args below meth c Q D cA Y A nL n0 z0 oc ρ0 Mf pc L (.int x :: r) M := by
  intro hw0 hn0 hz0 hk0 hl0
  refine ⟨?_, fun ρ H locs ls hr hP hD hS hl => lv_if_lt hx hb hd ht (fun q => (kt q hw0 hn0 hz0 (mm_ks_tail hk0) hl0).2 ρ H locs ls hr hP hD hS hl) (fun q => (kf q hw0 hn0 hz0 (mm_ks_tail hk0) hl0).2 ρ H locs ls hr hP hD hS hl)⟩
  by_cases q : x < 0
  · exact (kt q hw0 hn0 hz0 (mm_ks_tail hk0) hl0).1
  · exact (kf q hw0 hn0 hz0 (mm_ks_tail hk0) hl0).1
theorem gs_icmp_ge (hx : p.tables.exec = Jvm.exec) (hb : c.code = cc) {x y : Int32} {off : Int} {tgt : Nat} (hd : decode cc pc = .ok (.if_icmp .ge off, 3)) (ht : (pc : Int) + off = (tgt : Int)) (kt : y ≤ x → mm_Gd p l e R s m args below meth c Q D cA Y A nL n0 z0 oc ρ0 Mf tgt L r M) (kf : ¬ y ≤ x → mm_Gd p l e R s m args below meth c Q D cA Y A nL n0 z0 oc ρ0 Mf (pc + 3) L r M) : mm_Gd p l e R s m args below meth c Q D cA Y A nL n0 z0 oc ρ0 Mf pc L (.int y :: .int x :: r) M := by
  intro hw0 hn0 hz0 hk0 hl0
  refine ⟨?_, fun ρ H locs ls hr hP hD hS hl => lv_icmp_ge hx hb hd ht (fun q => (kt q hw0 hn0 hz0 (mm_ks_tail (mm_ks_tail hk0)) hl0).2 ρ H locs ls hr hP hD hS hl) (fun q => (kf q hw0 hn0 hz0 (mm_ks_tail (mm_ks_tail hk0)) hl0).2 ρ H locs ls hr hP hD hS hl)⟩
  by_cases q : y ≤ x
  · exact (kt q hw0 hn0 hz0 (mm_ks_tail (mm_ks_tail hk0)) hl0).1
  · exact (kf q hw0 hn0 hz0 (mm_ks_tail (mm_ks_tail hk0)) hl0).1
theorem gs_if_ge (hx : p.tables.exec = Jvm.exec) (hb : c.code = cc) {x : Int32} {off : Int} {tgt : Nat} (hd : decode cc pc = .ok (.ifCond .ge off, 3)) (ht : (pc : Int) + off = (tgt : Int)) (kt : 0 ≤ x → mm_Gd p l e R s m args below meth c Q D cA Y A nL n0 z0 oc ρ0 Mf tgt L r M) (kf : ¬ 0 ≤ x → mm_Gd p l e R s m args below meth c Q D cA Y A nL n0 z0 oc ρ0 Mf (pc + 3) L r M) : mm_Gd p l e R s m args below meth c Q D cA Y A nL n0 z0 oc ρ0 Mf pc L (.int x :: r) M := by
  intro hw0 hn0 hz0 hk0 hl0
  refine ⟨?_, fun ρ H locs ls hr hP hD hS hl => lv_if_ge hx hb hd ht (fun q => (kt q hw0 hn0 hz0 (mm_ks_tail hk0) hl0).2 ρ H locs ls hr hP hD hS hl) (fun q => (kf q hw0 hn0 hz0 (mm_ks_tail hk0) hl0).2 ρ H locs ls hr hP hD hS hl)⟩
  by_cases q : 0 ≤ x
  · exact (kt q hw0 hn0 hz0 (mm_ks_tail hk0) hl0).1
  · exact (kf q hw0 hn0 hz0 (mm_ks_tail hk0) hl0).1
theorem gs_icmp_gt (hx : p.tables.exec = Jvm.exec) (hb : c.code = cc) {x y : Int32} {off : Int} {tgt : Nat} (hd : decode cc pc = .ok (.if_icmp .gt off, 3)) (ht : (pc : Int) + off = (tgt : Int)) (kt : y < x → mm_Gd p l e R s m args below meth c Q D cA Y A nL n0 z0 oc ρ0 Mf tgt L r M) (kf : ¬ y < x → mm_Gd p l e R s m args below meth c Q D cA Y A nL n0 z0 oc ρ0 Mf (pc + 3) L r M) : mm_Gd p l e R s m args below meth c Q D cA Y A nL n0 z0 oc ρ0 Mf pc L (.int y :: .int x :: r) M := by
  intro hw0 hn0 hz0 hk0 hl0
  refine ⟨?_, fun ρ H locs ls hr hP hD hS hl => lv_icmp_gt hx hb hd ht (fun q => (kt q hw0 hn0 hz0 (mm_ks_tail (mm_ks_tail hk0)) hl0).2 ρ H locs ls hr hP hD hS hl) (fun q => (kf q hw0 hn0 hz0 (mm_ks_tail (mm_ks_tail hk0)) hl0).2 ρ H locs ls hr hP hD hS hl)⟩
  by_cases q : y < x
  · exact (kt q hw0 hn0 hz0 (mm_ks_tail (mm_ks_tail hk0)) hl0).1
  · exact (kf q hw0 hn0 hz0 (mm_ks_tail (mm_ks_tail hk0)) hl0).1
theorem gs_if_gt (hx : p.tables.exec = Jvm.exec) (hb : c.code = cc) {x : Int32} {off : Int} {tgt : Nat} (hd : decode cc pc = .ok (.ifCond .gt off, 3)) (ht : (pc : Int) + off = (tgt : Int)) (kt : 0 < x → mm_Gd p l e R s m args below meth c Q D cA Y A nL n0 z0 oc ρ0 Mf tgt L r M) (kf : ¬ 0 < x → mm_Gd p l e R s m args below meth c Q D cA Y A nL n0 z0 oc ρ0 Mf (pc + 3) L r M) : mm_Gd p l e R s m args below meth c Q D cA Y A nL n0 z0 oc ρ0 Mf pc L (.int x :: r) M := by
  intro hw0 hn0 hz0 hk0 hl0
  refine ⟨?_, fun ρ H locs ls hr hP hD hS hl => lv_if_gt hx hb hd ht (fun q => (kt q hw0 hn0 hz0 (mm_ks_tail hk0) hl0).2 ρ H locs ls hr hP hD hS hl) (fun q => (kf q hw0 hn0 hz0 (mm_ks_tail hk0) hl0).2 ρ H locs ls hr hP hD hS hl)⟩
  by_cases q : 0 < x
  · exact (kt q hw0 hn0 hz0 (mm_ks_tail hk0) hl0).1
  · exact (kf q hw0 hn0 hz0 (mm_ks_tail hk0) hl0).1
theorem gs_icmp_le (hx : p.tables.exec = Jvm.exec) (hb : c.code = cc) {x y : Int32} {off : Int} {tgt : Nat} (hd : decode cc pc = .ok (.if_icmp .le off, 3)) (ht : (pc : Int) + off = (tgt : Int)) (kt : x ≤ y → mm_Gd p l e R s m args below meth c Q D cA Y A nL n0 z0 oc ρ0 Mf tgt L r M) (kf : ¬ x ≤ y → mm_Gd p l e R s m args below meth c Q D cA Y A nL n0 z0 oc ρ0 Mf (pc + 3) L r M) : mm_Gd p l e R s m args below meth c Q D cA Y A nL n0 z0 oc ρ0 Mf pc L (.int y :: .int x :: r) M := by
  intro hw0 hn0 hz0 hk0 hl0
  refine ⟨?_, fun ρ H locs ls hr hP hD hS hl => lv_icmp_le hx hb hd ht (fun q => (kt q hw0 hn0 hz0 (mm_ks_tail (mm_ks_tail hk0)) hl0).2 ρ H locs ls hr hP hD hS hl) (fun q => (kf q hw0 hn0 hz0 (mm_ks_tail (mm_ks_tail hk0)) hl0).2 ρ H locs ls hr hP hD hS hl)⟩
  by_cases q : x ≤ y
  · exact (kt q hw0 hn0 hz0 (mm_ks_tail (mm_ks_tail hk0)) hl0).1
  · exact (kf q hw0 hn0 hz0 (mm_ks_tail (mm_ks_tail hk0)) hl0).1
theorem gs_if_le (hx : p.tables.exec = Jvm.exec) (hb : c.code = cc) {x : Int32} {off : Int} {tgt : Nat} (hd : decode cc pc = .ok (.ifCond .le off, 3)) (ht : (pc : Int) + off = (tgt : Int)) (kt : x ≤ 0 → mm_Gd p l e R s m args below meth c Q D cA Y A nL n0 z0 oc ρ0 Mf tgt L r M) (kf : ¬ x ≤ 0 → mm_Gd p l e R s m args below meth c Q D cA Y A nL n0 z0 oc ρ0 Mf (pc + 3) L r M) : mm_Gd p l e R s m args below meth c Q D cA Y A nL n0 z0 oc ρ0 Mf pc L (.int x :: r) M := by
  intro hw0 hn0 hz0 hk0 hl0
  refine ⟨?_, fun ρ H locs ls hr hP hD hS hl => lv_if_le hx hb hd ht (fun q => (kt q hw0 hn0 hz0 (mm_ks_tail hk0) hl0).2 ρ H locs ls hr hP hD hS hl) (fun q => (kf q hw0 hn0 hz0 (mm_ks_tail hk0) hl0).2 ρ H locs ls hr hP hD hS hl)⟩
  by_cases q : x ≤ 0
  · exact (kt q hw0 hn0 hz0 (mm_ks_tail hk0) hl0).1
  · exact (kf q hw0 hn0 hz0 (mm_ks_tail hk0) hl0).1
theorem gs_ifnull_r (hx : p.tables.exec = Jvm.exec) (hb : c.code = cc) {x : Nat} {off : Int} {tgt : Nat} (hd : decode cc pc = .ok (.ifnull off, 3)) (ht : (pc : Int) + off = (tgt : Int)) (hk : mm_Gd p l e R s m args below meth c Q D cA Y A nL n0 z0 oc ρ0 Mf (pc + 3) L r M) : mm_Gd p l e R s m args below meth c Q D cA Y A nL n0 z0 oc ρ0 Mf pc L (.ref x :: r) M := by
  intro hw0 hn0 hz0 hk0 hl0
  obtain ⟨h1, h2⟩ := hk hw0 hn0 hz0 (mm_ks_tail hk0) hl0
  exact ⟨h1, fun ρ H locs ls hr hP hD hS hl => lv_ifnull hx hb hd (h2 ρ H locs ls hr hP hD hS hl)⟩
theorem gs_ifnull_n (hx : p.tables.exec = Jvm.exec) (hb : c.code = cc) {x : Nat} {off : Int} {tgt : Nat} (hd : decode cc pc = .ok (.ifnull off, 3)) (ht : (pc : Int) + off = (tgt : Int)) (hk : mm_Gd p l e R s m args below meth c Q D cA Y A nL n0 z0 oc ρ0 Mf tgt L r M) : mm_Gd p l e R s m args below meth c Q D cA Y A nL n0 z0 oc ρ0 Mf pc L (.null :: r) M := by
  intro hw0 hn0 hz0 hk0 hl0
  obtain ⟨h1, h2⟩ := hk hw0 hn0 hz0 (mm_ks_tail hk0) hl0
  exact ⟨h1, fun ρ H locs ls hr hP hD hS hl => lv_ifnullN hx hb hd ht (h2 ρ H locs ls hr hP hD hS hl)⟩
theorem gs_ifnonnull_r (hx : p.tables.exec = Jvm.exec) (hb : c.code = cc) {x : Nat} {off : Int} {tgt : Nat} (hd : decode cc pc = .ok (.ifnonnull off, 3)) (ht : (pc : Int) + off = (tgt : Int)) (hk : mm_Gd p l e R s m args below meth c Q D cA Y A nL n0 z0 oc ρ0 Mf tgt L r M) : mm_Gd p l e R s m args below meth c Q D cA Y A nL n0 z0 oc ρ0 Mf pc L (.ref x :: r) M := by
  intro hw0 hn0 hz0 hk0 hl0
  obtain ⟨h1, h2⟩ := hk hw0 hn0 hz0 (mm_ks_tail hk0) hl0
  exact ⟨h1, fun ρ H locs ls hr hP hD hS hl => lv_ifnonnull hx hb hd ht (h2 ρ H locs ls hr hP hD hS hl)⟩
theorem gs_ifnonnull_n (hx : p.tables.exec = Jvm.exec) (hb : c.code = cc) {x : Nat} {off : Int} {tgt : Nat} (hd : decode cc pc = .ok (.ifnonnull off, 3)) (ht : (pc : Int) + off = (tgt : Int)) (hk : mm_Gd p l e R s m args below meth c Q D cA Y A nL n0 z0 oc ρ0 Mf (pc + 3) L r M) : mm_Gd p l e R s m args below meth c Q D cA Y A nL n0 z0 oc ρ0 Mf pc L (.null :: r) M := by
  intro hw0 hn0 hz0 hk0 hl0
  obtain ⟨h1, h2⟩ := hk hw0 hn0 hz0 (mm_ks_tail hk0) hl0
  exact ⟨h1, fun ρ H locs ls hr hP hD hS hl => lv_ifnonnullN hx hb hd (h2 ρ H locs ls hr hP hD hS hl)⟩
end GS
end
section
/-! cells: what a write does to them -/
theorem mm_up_same {α : Type} (f : Nat → Nat → α) (a k : Nat) (v : α) : mm_up f a k v a k = v := by simp [mm_up]
theorem mm_up_ne {α : Type} (f : Nat → Nat → α) {a b : Nat} (k : Nat) (v : α) (h : b ≠ a) : mm_up f a k v b = f b := by
  funext j
  simp [mm_up, h]
theorem mm_up_nk {α : Type} (f : Nat → Nat → α) (a : Nat) {k j : Nat} (v : α) (h : j ≠ k) : mm_up f a k v a j = f a j := by simp [mm_up, h]
theorem mm_up_upd (f : Nat → Nat → Int32) (a k : Nat) (v : Int32) : mm_up f a k v a = upd (f a) k v := by
  funext j
  simp [mm_up, upd]
theorem mm_up_updL (f : Nat → Nat → Int64) (a k : Nat) (v : Int64) : mm_up f a k v a = vp_updL (f a) k v := by
  funext j
  simp [mm_up, vp_updL]
theorem mm_row_same {α : Type} (f : Nat → Nat → α) (a : Nat) (r : Nat → α) : mm_row f a r a = r := by simp [mm_row]
theorem mm_row_ne {α : Type} (f : Nat → Nat → α) {a b : Nat} (r : Nat → α) (h : b ≠ a) : mm_row f a r b = f b := by simp [mm_row, h]
theorem mm_p_wP {Y : mmY} {M : mmM} {a b k : Nat} {v : Option Nat} (h : b ≠ a) (j : Nat) : mm_p Y (mm_wP M a k v) b j = mm_p Y M b j := by
  unfold mm_p
  cases mm_fx Y b j with
  | some r => rfl
  | none => simp only [mm_up_ne _ _ _ h]
theorem mm_p_wP_same {Y : mmY} {M : mmM} {a k : Nat} {v : Option Nat} (hf : mm_free Y a k = true) : mm_p Y (mm_wP M a k v) a k = v := by
  unfold mm_free at hf
  unfold mm_p
  cases h : mm_fx Y a k with
  | some r => rw [h] at hf; cases hf
  | none => simp only [mm_up_same]
theorem mm_p_wP_nk {Y : mmY} {M : mmM} {a k j : Nat} {v : Option Nat} (h : j ≠ k) : mm_p Y (mm_wP M a k v) a j = mm_p Y M a j := by
  unfold mm_p
  cases mm_fx Y a j with
  | some r => rfl
  | none => simp only [mm_up_nk _ _ _ h]
theorem mm_cell_congr {cA : Nat → ClassId} {ρ ρ' : Nat → Nat} {Y : mmY} {M M' : mmM} {b : Nat} (hs : mm_s Y M' b = mm_s Y M b) (hI : M'.2.2.2.1 b = M.2.2.2.1 b) (hJ : M'.2.2.2.2.1 b = M.2.2.2.2.1 b) (hP : ∀ k, (mm_p Y M' b k).map ρ' = (mm_p Y M b k).map ρ) : mm_cell cA ρ' Y M' b = mm_cell cA ρ Y M b := by
  have hfv : ∀ t k, mm_fv ρ' Y M' b t k = mm_fv ρ Y M b t k := by
    intro t k
    unfold mm_fv
    rw [hI, hJ, hP]
  have hct : ∀ ty, mm_ct ρ' Y M' b ty = mm_ct ρ Y M b ty := by
    intro ty
    unfold mm_ct
    rw [hI, hJ]
    simp only [hP]
  unfold mm_cell
  rw [hs]
  simp only [mm_fs, hfv, hct]
theorem mm_cell_wI {cA : Nat → ClassId} {ρ : Nat → Nat} {Y : mmY} {M : mmM} {a b k : Nat} {v : Int32} (h : b ≠ a) : mm_cell cA ρ Y (mm_wI M a k v) b = mm_cell cA ρ Y M b := mm_cell_congr rfl (mm_up_ne _ _ _ h) rfl (fun _ => rfl)
theorem mm_cell_wJ {cA : Nat → ClassId} {ρ : Nat → Nat} {Y : mmY} {M : mmM} {a b k : Nat} {v : Int64} (h : b ≠ a) : mm_cell cA ρ Y (mm_wJ M a k v) b = mm_cell cA ρ Y M b := mm_cell_congr rfl rfl (mm_up_ne _ _ _ h) (fun _ => rfl)
theorem mm_cell_wP {cA : Nat → ClassId} {ρ : Nat → Nat} {Y : mmY} {M : mmM} {a b k : Nat} {v : Option Nat} (h : b ≠ a) : mm_cell cA ρ Y (mm_wP M a k v) b = mm_cell cA ρ Y M b := mm_cell_congr rfl rfl rfl (fun _ => by rw [mm_p_wP h])
theorem mm_cell_wR {cA : Nat → ClassId} {ρ : Nat → Nat} {Y : mmY} {M : mmM} {a b : Nat} {g : Nat → Int32} (h : b ≠ a) : mm_cell cA ρ Y (mm_wR M a g) b = mm_cell cA ρ Y M b := mm_cell_congr rfl (mm_row_ne _ _ h) rfl (fun _ => rfl)
theorem mm_fs_at {ρ : Nat → Nat} {Y : mmY} {M : mmM} {a ci k : Nat} (hk : k < mm_size.getD ci 0) : (mm_fs ρ Y M a ci)[k]? = some (mm_fv ρ Y M a (mm_tyOf ci k) k) := by
  unfold mm_fs
  rw [List.getElem?_map, List.getElem?_range hk]
  rfl
theorem mm_fs_len {ρ : Nat → Nat} {Y : mmY} {M : mmM} {a ci : Nat} : (mm_fs ρ Y M a ci).length = mm_size.getD ci 0 := by simp [mm_fs]
theorem mm_fs_set {ρ : Nat → Nat} {Y : mmY} {M M' : mmM} {a ci k : Nat} {v : Value} (hv : mm_fv ρ Y M' a (mm_tyOf ci k) k = v) (ho : ∀ j, j ≠ k → ∀ t, mm_fv ρ Y M' a t j = mm_fv ρ Y M a t j) : mm_fs ρ Y M' a ci = (mm_fs ρ Y M a ci).set k v := by
  unfold mm_fs
  apply List.ext_getElem?
  intro j
  rw [List.getElem?_set, List.getElem?_map, List.length_map, List.length_range]
  by_cases hj : j < mm_size.getD ci 0
  · rw [List.getElem?_map, List.getElem?_range hj]
    by_cases e : k = j
    · subst e
      simp only [if_true, hj, Option.map_some, hv]
    · rw [if_neg e]
      simp only [Option.map_some]
      rw [ho j (fun q => e q.symm)]
  · rw [List.getElem?_map, List.getElem?_eq_none (by rw [List.length_range]; omega)]
    by_cases e : k = j
    · rw [if_pos e, if_neg (by omega)]; rfl
    · rw [if_neg e]; rfl
theorem mm_cell_obj {cA : Nat → ClassId} {ρ : Nat → Nat} {Y : mmY} {M : mmM} {a ci : Nat} (h : mm_s Y M a = .inl ci) : mm_cell cA ρ Y M a = .inr (ci, mm_fs ρ Y M a ci) := by
  unfold mm_cell
  rw [h]
theorem mm_cell_arr {cA : Nat → ClassId} {ρ : Nat → Nat} {Y : mmY} {M : mmM} {a ty n : Nat} (h : mm_s Y M a = .inr (ty, n)) : mm_cell cA ρ Y M a = .inl (cA ty, n, mm_ct ρ Y M a ty) := by
  unfold mm_cell
  rw [h]
theorem mm_obj_eq {s : mmSh} {ci : Nat} (h : mm_obj s ci = true) : s = .inl ci := by
  cases s with
  | inl c => simp only [mm_obj] at h; rw [Nat.eq_of_beq_eq_true h]
  | inr q => cases h
theorem mm_arr_eq {s : mmSh} {ty n : Nat} (h : mm_arr s ty = some n) : s = .inr (ty, n) := by
  cases s with
  | inl c => cases h
  | inr q =>
    obtain ⟨t, k⟩ := q
    simp only [mm_arr] at h
    cases hb : Nat.beq t ty with
    | false => rw [hb] at h; cases h
    | true =>
      rw [hb] at h
      cases h
      rw [Nat.eq_of_beq_eq_true hb]
theorem mm_inb_in {i : Int32} {n : Nat} (h : mm_inb i n = true) : vp_in i n := by
  unfold mm_inb at h
  by_cases h0 : i < 0
  · simp [h0] at h
  · simp [h0] at h
    rintro (q | q)
    · exact h0 q
    · have := (Nat.blt_eq).mp (by simpa using h : Nat.blt i.toNatClampNeg n = true)
      omega
theorem mm_s_lt {Y : mmY} {M : mmM} {o : Nat} (hY : mm_wfY Y) {ci : Nat} (h : mm_s Y M o = .inl ci) {q : vw_C} (hc : mm_cl[ci]? = some q) : 16 ≤ o := by
  by_cases h16 : 16 ≤ o
  · exact h16
  · exfalso
    have hlt : o < 16 := by omega
    unfold mm_s at h
    have hb : Nat.blt o Y.1 = true := Nat.blt_eq.mpr (Nat.lt_of_lt_of_le hlt hY.1)
    rw [hb] at h
    have := hY.2 o ci hlt h
    rw [this] at hc
    cases hc
theorem mm_s_tab {Y : mmY} {M : mmM} {o : Nat} (hY : mm_wfY Y) (h : ¬ 16 ≤ o) : mm_s Y M o = Y.2.1 o := by
  unfold mm_s
  rw [show Nat.blt o Y.1 = true from Nat.blt_eq.mpr (Nat.lt_of_lt_of_le (by omega) hY.1)]
  rfl
theorem mm_i_tab {Y : mmY} {M : mmM} {o k : Nat} (h : ¬ 16 ≤ o) : mm_i Y M o k = Y.2.2.2 o k := by
  unfold mm_i
  rw [show Nat.blt o 16 = true from Nat.blt_eq.mpr (by omega)]
  rfl
theorem mm_i_heap {Y : mmY} {M : mmM} {o k : Nat} (h : 16 ≤ o) : mm_i Y M o k = M.2.2.2.1 o k := by
  unfold mm_i
  rw [show Nat.blt o 16 = false from Bool.eq_false_iff.mpr fun q => by have := Nat.blt_eq.mp q; omega]
  rfl
theorem mm_size_of {ci : Nat} {q : vw_C} (hc : mm_cl[ci]? = some q) : mm_size.getD ci 0 = q.2.2 := by
  rw [List.getD_eq_getElem?_getD, (mm_cl_ok ci q hc).1]
  rfl
end
section
section GH
variable {p : Program} {l : Launch} {e : Env} {R : Room} {s : State} {m : MethodId} {args : Array Value} {below : List Frame} {meth : Method} {c : Code} {Q : State → Prop} {D : va_G} {cA : Nat → ClassId} {Y : mmY} {A : Nat → Prop} {nL n0 z0 oc : Nat} {ρ0 : Nat → Nat} {Mf : mmM} {cc : ByteArray} {pc : Nat} {L : mmL} {K r : List Value} {M : mmM}
variable {Ts : List Cond} {own C : String} {index o k ci : Nat} {q : vw_C}
theorem gh_getI (hx : p.tables.exec = Jvm.exec) (hb : c.code = cc) (hY : mm_wfY Y) (hts : ∀ w ∈ Ts, w.before args s = true) (hown : s.vm.findClass own = some m.cls) (hK : va_K D mm_cl (mm_tysA cA) s) (hc : mm_cl[ci]? = some q) (hin : ∀ w ∈ u_ws q.1 q.2.1 q.2.2, w ∈ Ts) (hk : k < q.2.2) (hlink : (Cond.fieldLink own index (q.2.1 k).1 (q.2.1 k).2.1 (q.2.1 k).2.2.1).before args s = true ∨ ∃ host, (Cond.fieldLinkNest own index (q.2.1 k).1 (q.2.1 k).2.1 (q.2.1 k).2.2.1 host).before args s = true) (ho : mm_s Y M o = .inl ci) (ht : mm_tyOf ci k = .int ∨ mm_tyOf ci k = .boolean) (hd : decode cc pc = .ok (.getfield index, 3)) (kk : mm_Gd p l e R s m args below meth c Q D cA Y A nL n0 z0 oc ρ0 Mf (pc + 3) L (.int (M.2.2.2.1 o k) :: r) M) : mm_Gd p l e R s m args below meth c Q D cA Y A nL n0 z0 oc ρ0 Mf pc L (.ref o :: r) M := by
  intro hw0 hn0 hz0 hk0 hl0
  have h16 : 16 ≤ o := mm_s_lt hY ho hc
  obtain ⟨h1, h2⟩ := kk hw0 hn0 hz0 (mm_ks_cons trivial (mm_ks_tail hk0)) hl0
  refine ⟨h1, fun ρ H locs ls hr hP hD hS hl => ?_⟩
  have he := mm_enc_at (cA := cA) (ρ := ρ) (Y := Y) h16 (mm_ks_head hk0)
  rw [mm_cell_obj ho] at he
  have hv : (mm_fs ρ Y M o ci)[k]? = some (mm_tr ρ (.int (M.2.2.2.1 o k))) := by
    rw [mm_fs_at (by rw [mm_size_of hc]; exact hk)]
    congr 1
    unfold mm_fv
    rcases ht with ht | ht <;> rw [ht] <;> rfl
  rcases hlink with hlink | ⟨host, hlink⟩
  · exact va_get hx hb hts hin hown hK hP (o - 16) he hc k hk hlink (fun _ h9 => h9) hv hd (h2 ρ H locs ls hr hP hD hS hl)
  · exact va_getN hx hb hts hin hown hK hP (o - 16) he hc k hk hlink (fun _ h9 => h9) hv hd (h2 ρ H locs ls hr hP hD hS hl)
theorem gh_getJ (hx : p.tables.exec = Jvm.exec) (hb : c.code = cc) (hY : mm_wfY Y) (hts : ∀ w ∈ Ts, w.before args s = true) (hown : s.vm.findClass own = some m.cls) (hK : va_K D mm_cl (mm_tysA cA) s) (hc : mm_cl[ci]? = some q) (hin : ∀ w ∈ u_ws q.1 q.2.1 q.2.2, w ∈ Ts) (hk : k < q.2.2) (hlink : (Cond.fieldLink own index (q.2.1 k).1 (q.2.1 k).2.1 (q.2.1 k).2.2.1).before args s = true ∨ ∃ host, (Cond.fieldLinkNest own index (q.2.1 k).1 (q.2.1 k).2.1 (q.2.1 k).2.2.1 host).before args s = true) (ho : mm_s Y M o = .inl ci) (ht : mm_tyOf ci k = .long) (hd : decode cc pc = .ok (.getfield index, 3)) (kk : mm_Gd p l e R s m args below meth c Q D cA Y A nL n0 z0 oc ρ0 Mf (pc + 3) L (.long (M.2.2.2.2.1 o k) :: r) M) : mm_Gd p l e R s m args below meth c Q D cA Y A nL n0 z0 oc ρ0 Mf pc L (.ref o :: r) M := by
  intro hw0 hn0 hz0 hk0 hl0
  have h16 : 16 ≤ o := mm_s_lt hY ho hc
  obtain ⟨h1, h2⟩ := kk hw0 hn0 hz0 (mm_ks_cons trivial (mm_ks_tail hk0)) hl0
  refine ⟨h1, fun ρ H locs ls hr hP hD hS hl => ?_⟩
  have he := mm_enc_at (cA := cA) (ρ := ρ) (Y := Y) h16 (mm_ks_head hk0)
  rw [mm_cell_obj ho] at he
  have hv : (mm_fs ρ Y M o ci)[k]? = some (mm_tr ρ (.long (M.2.2.2.2.1 o k))) := by
    rw [mm_fs_at (by rw [mm_size_of hc]; exact hk)]
    congr 1
    unfold mm_fv
    rw [ht]; rfl
  rcases hlink with hlink | ⟨host, hlink⟩
  · exact va_get hx hb hts hin hown hK hP (o - 16) he hc k hk hlink (fun _ h9 => h9) hv hd (h2 ρ H locs ls hr hP hD hS hl)
  · exact va_getN hx hb hts hin hown hK hP (o - 16) he hc k hk hlink (fun _ h9 => h9) hv hd (h2 ρ H locs ls hr hP hD hS hl)
theorem gh_getP (hx : p.tables.exec = Jvm.exec) (hb : c.code = cc) (hY : mm_wfY Y) (hts : ∀ w ∈ Ts, w.before args s = true) (hown : s.vm.findClass own = some m.cls) (hK : va_K D mm_cl (mm_tysA cA) s) (hc : mm_cl[ci]? = some q) (hin : ∀ w ∈ u_ws q.1 q.2.1 q.2.2, w ∈ Ts) (hk : k < q.2.2) (hlink : (Cond.fieldLink own index (q.2.1 k).1 (q.2.1 k).2.1 (q.2.1 k).2.2.1).before args s = true ∨ ∃ host, (Cond.fieldLinkNest own index (q.2.1 k).1 (q.2.1 k).2.1 (q.2.1 k).2.2.1 host).before args s = true) (ho : mm_s Y M o = .inl ci) (ht : mm_tk (mm_tyOf ci k) = 2) (hd : decode cc pc = .ok (.getfield index, 3)) (kk : mm_Gd p l e R s m args below meth c Q D cA Y A nL n0 z0 oc ρ0 Mf (pc + 3) L (mm_rv (mm_p Y M o k) :: r) M) : mm_Gd p l e R s m args below meth c Q D cA Y A nL n0 z0 oc ρ0 Mf pc L (.ref o :: r) M := by
  intro hw0 hn0 hz0 hk0 hl0
  have h16 : 16 ≤ o := mm_s_lt hY ho hc
  obtain ⟨h1, h2⟩ := kk hw0 hn0 hz0 (mm_ks_cons (mm_okv_rv fun b hb2 => hw0.2 o k b h16 (mm_ks_head hk0) hb2) (mm_ks_tail hk0)) hl0
  refine ⟨h1, fun ρ H locs ls hr hP hD hS hl => ?_⟩
  have he := mm_enc_at (cA := cA) (ρ := ρ) (Y := Y) h16 (mm_ks_head hk0)
  rw [mm_cell_obj ho] at he
  have hv : (mm_fs ρ Y M o ci)[k]? = some (mm_tr ρ (mm_rv (mm_p Y M o k))) := by
    rw [mm_fs_at (by rw [mm_size_of hc]; exact hk)]
    congr 1
    unfold mm_fv
    rw [mm_tr_rv]; cases h : mm_tyOf ci k <;> first | rfl | (rw [h] at ht; cases ht)
  rcases hlink with hlink | ⟨host, hlink⟩
  · exact va_get hx hb hts hin hown hK hP (o - 16) he hc k hk hlink (fun _ h9 => h9) hv hd (h2 ρ H locs ls hr hP hD hS hl)
  · exact va_getN hx hb hts hin hown hK hP (o - 16) he hc k hk hlink (fun _ h9 => h9) hv hd (h2 ρ H locs ls hr hP hD hS hl)
theorem gh_putI (hx : p.tables.exec = Jvm.exec) (hb : c.code = cc) (hY : mm_wfY Y) (hts : ∀ w ∈ Ts, w.before args s = true) (hown : s.vm.findClass own = some m.cls) (hK : va_K D mm_cl (mm_tysA cA) s) (hc : mm_cl[ci]? = some q) (hin : ∀ w ∈ u_ws q.1 q.2.1 q.2.2, w ∈ Ts) (hk : k < q.2.2) (hlink : (Cond.fieldLink own index (q.2.1 k).1 (q.2.1 k).2.1 (q.2.1 k).2.2.1).before args s = true ∨ ∃ host, (Cond.fieldLinkNest own index (q.2.1 k).1 (q.2.1 k).2.1 (q.2.1 k).2.2.1 host).before args s = true) (ho : mm_s Y M o = .inl ci) (hfin : (q.2.1 k).2.2.2 = false ∨ ((q.2.1 k).2.2.2 = true ∧ meth.name = "<init>" ∧ (q.2.1 k).1 = own ∧ (Cond.fieldLink own index (q.2.1 k).1 (q.2.1 k).2.1 (q.2.1 k).2.2.1).before args s = true)) {x : Int32} (ht : mm_tyOf ci k = .int) (hd : decode cc pc = .ok (.putfield index, 3)) (kk : mm_Gd p l e R s m args below meth c Q D cA Y A nL n0 z0 oc ρ0 Mf (pc + 3) L r (mm_wI M o k x)) : mm_Gd p l e R s m args below meth c Q D cA Y A nL n0 z0 oc ρ0 Mf pc L (.int x :: .ref o :: r) M := by
  intro hw0 hn0 hz0 hk0 hl0
  have h16 : 16 ≤ o := mm_s_lt hY ho hc
  have hon : o < M.2.1 := mm_ks_head (mm_ks_tail hk0)
  have hw1 : mm_wf Y (mm_wI M o k x) := hw0
  obtain ⟨h1, h2⟩ := kk hw1 hn0 hz0 (mm_ks_tail (mm_ks_tail hk0)) hl0
  refine ⟨h1, fun ρ H locs ls hr hP hD hS hl => ?_⟩
  have he := mm_enc_at (cA := cA) (ρ := ρ) (Y := Y) h16 hon
  rw [mm_cell_obj ho] at he
  have hcell : mm_cell cA ρ Y (mm_wI M o k x) o = .inr (ci, (mm_fs ρ Y M o ci).set k (.int x)) := by
    rw [mm_cell_obj (M := (mm_wI M o k x)) (ci := ci) ho]
    congr 2
    exact mm_fs_set (by rw [ht]; exact congrArg Value.int (mm_up_same _ _ _ _)) (by intro j hj t; unfold mm_fv; cases t <;> first | rfl | exact congrArg Value.int (mm_up_nk _ _ _ hj))
  have hset := mm_enc_set (cA := cA) (ρ := ρ) (Y := Y) (M := M) (M' := (mm_wI M o k x)) h16 hon rfl hcell (fun b _ _ hb3 => mm_cell_wI hb3)
  obtain ⟨hsz, hty, hnm⟩ := mm_cl_ok ci q hc
  have hd0 := hty k hk
  rw [ht] at hd0
  rcases hfin with hfin | ⟨hfin, hnam, hdec, hlk⟩
  · rcases hlink with hlink | ⟨host, hlink⟩
    · exact va_put hx hb hts hin (mm_tyOf ci) hty hnm hown hK hP hD hS (o - 16) he hc k hk hlink (fun _ h9 => h9) hfin hd0 rfl rfl (by rw [mm_fs_len, mm_size_of hc]; exact hk) hd (fun H1 locs1 hP1 hD1 hS1 => h2 ρ H1 locs1 ls hr (by rw [← hset]; exact hP1) (by rw [← hset]; exact hD1) hS1 hl)
    · exact va_putN hx hb hts hin (mm_tyOf ci) hty hnm hown hK hP hD hS (o - 16) he hc k hk hlink (fun _ h9 => h9) hfin hd0 rfl rfl (by rw [mm_fs_len, mm_size_of hc]; exact hk) hd (fun H1 locs1 hP1 hD1 hS1 => h2 ρ H1 locs1 ls hr (by rw [← hset]; exact hP1) (by rw [← hset]; exact hD1) hS1 hl)
  · exact va_putF hx hb hts hin (mm_tyOf ci) hty hnm hown hK hP hD hS (o - 16) he hc k hk hlk (fun _ h9 => h9) hfin hnam hdec hd0 rfl rfl (by rw [mm_fs_len, mm_size_of hc]; exact hk) hd (fun H1 locs1 hP1 hD1 hS1 => h2 ρ H1 locs1 ls hr (by rw [← hset]; exact hP1) (by rw [← hset]; exact hD1) hS1 hl)
theorem gh_putZ (hx : p.tables.exec = Jvm.exec) (hb : c.code = cc) (hY : mm_wfY Y) (hts : ∀ w ∈ Ts, w.before args s = true) (hown : s.vm.findClass own = some m.cls) (hK : va_K D mm_cl (mm_tysA cA) s) (hc : mm_cl[ci]? = some q) (hin : ∀ w ∈ u_ws q.1 q.2.1 q.2.2, w ∈ Ts) (hk : k < q.2.2) (hlink : (Cond.fieldLink own index (q.2.1 k).1 (q.2.1 k).2.1 (q.2.1 k).2.2.1).before args s = true ∨ ∃ host, (Cond.fieldLinkNest own index (q.2.1 k).1 (q.2.1 k).2.1 (q.2.1 k).2.2.1 host).before args s = true) (ho : mm_s Y M o = .inl ci) (hfin : (q.2.1 k).2.2.2 = false ∨ ((q.2.1 k).2.2.2 = true ∧ meth.name = "<init>" ∧ (q.2.1 k).1 = own ∧ (Cond.fieldLink own index (q.2.1 k).1 (q.2.1 k).2.1 (q.2.1 k).2.2.1).before args s = true)) {x : Int32} (ht : mm_tyOf ci k = .boolean) (hx01 : x = 0 ∨ x = 1) (hd : decode cc pc = .ok (.putfield index, 3)) (kk : mm_Gd p l e R s m args below meth c Q D cA Y A nL n0 z0 oc ρ0 Mf (pc + 3) L r (mm_wI M o k x)) : mm_Gd p l e R s m args below meth c Q D cA Y A nL n0 z0 oc ρ0 Mf pc L (.int x :: .ref o :: r) M := by
  intro hw0 hn0 hz0 hk0 hl0
  have h16 : 16 ≤ o := mm_s_lt hY ho hc
  have hon : o < M.2.1 := mm_ks_head (mm_ks_tail hk0)
  have hw1 : mm_wf Y (mm_wI M o k x) := hw0
  obtain ⟨h1, h2⟩ := kk hw1 hn0 hz0 (mm_ks_tail (mm_ks_tail hk0)) hl0
  refine ⟨h1, fun ρ H locs ls hr hP hD hS hl => ?_⟩
  have he := mm_enc_at (cA := cA) (ρ := ρ) (Y := Y) h16 hon
  rw [mm_cell_obj ho] at he
  have hcell : mm_cell cA ρ Y (mm_wI M o k x) o = .inr (ci, (mm_fs ρ Y M o ci).set k (.int x)) := by
    rw [mm_cell_obj (M := (mm_wI M o k x)) (ci := ci) ho]
    congr 2
    exact mm_fs_set (by rw [ht]; exact congrArg Value.int (mm_up_same _ _ _ _)) (by intro j hj t; unfold mm_fv; cases t <;> first | rfl | exact congrArg Value.int (mm_up_nk _ _ _ hj))
  have hset := mm_enc_set (cA := cA) (ρ := ρ) (Y := Y) (M := M) (M' := (mm_wI M o k x)) h16 hon rfl hcell (fun b _ _ hb3 => mm_cell_wI hb3)
  obtain ⟨hsz, hty, hnm⟩ := mm_cl_ok ci q hc
  have hd0 := hty k hk
  rw [ht] at hd0
  rcases hfin with hfin | ⟨hfin, hnam, hdec, hlk⟩
  · rcases hlink with hlink | ⟨host, hlink⟩
    · exact va_put hx hb hts hin (mm_tyOf ci) hty hnm hown hK hP hD hS (o - 16) he hc k hk hlink (fun _ h9 => h9) hfin hd0 (by rcases hx01 with rfl | rfl <;> rfl) (by rcases hx01 with rfl | rfl <;> rfl) (by rw [mm_fs_len, mm_size_of hc]; exact hk) hd (fun H1 locs1 hP1 hD1 hS1 => h2 ρ H1 locs1 ls hr (by rw [← hset]; exact hP1) (by rw [← hset]; exact hD1) hS1 hl)
    · exact va_putN hx hb hts hin (mm_tyOf ci) hty hnm hown hK hP hD hS (o - 16) he hc k hk hlink (fun _ h9 => h9) hfin hd0 (by rcases hx01 with rfl | rfl <;> rfl) (by rcases hx01 with rfl | rfl <;> rfl) (by rw [mm_fs_len, mm_size_of hc]; exact hk) hd (fun H1 locs1 hP1 hD1 hS1 => h2 ρ H1 locs1 ls hr (by rw [← hset]; exact hP1) (by rw [← hset]; exact hD1) hS1 hl)
  · exact va_putF hx hb hts hin (mm_tyOf ci) hty hnm hown hK hP hD hS (o - 16) he hc k hk hlk (fun _ h9 => h9) hfin hnam hdec hd0 (by rcases hx01 with rfl | rfl <;> rfl) (by rcases hx01 with rfl | rfl <;> rfl) (by rw [mm_fs_len, mm_size_of hc]; exact hk) hd (fun H1 locs1 hP1 hD1 hS1 => h2 ρ H1 locs1 ls hr (by rw [← hset]; exact hP1) (by rw [← hset]; exact hD1) hS1 hl)
theorem gh_putJ (hx : p.tables.exec = Jvm.exec) (hb : c.code = cc) (hY : mm_wfY Y) (hts : ∀ w ∈ Ts, w.before args s = true) (hown : s.vm.findClass own = some m.cls) (hK : va_K D mm_cl (mm_tysA cA) s) (hc : mm_cl[ci]? = some q) (hin : ∀ w ∈ u_ws q.1 q.2.1 q.2.2, w ∈ Ts) (hk : k < q.2.2) (hlink : (Cond.fieldLink own index (q.2.1 k).1 (q.2.1 k).2.1 (q.2.1 k).2.2.1).before args s = true ∨ ∃ host, (Cond.fieldLinkNest own index (q.2.1 k).1 (q.2.1 k).2.1 (q.2.1 k).2.2.1 host).before args s = true) (ho : mm_s Y M o = .inl ci) (hfin : (q.2.1 k).2.2.2 = false ∨ ((q.2.1 k).2.2.2 = true ∧ meth.name = "<init>" ∧ (q.2.1 k).1 = own ∧ (Cond.fieldLink own index (q.2.1 k).1 (q.2.1 k).2.1 (q.2.1 k).2.2.1).before args s = true)) {x : Int64} (ht : mm_tyOf ci k = .long) (hd : decode cc pc = .ok (.putfield index, 3)) (kk : mm_Gd p l e R s m args below meth c Q D cA Y A nL n0 z0 oc ρ0 Mf (pc + 3) L r (mm_wJ M o k x)) : mm_Gd p l e R s m args below meth c Q D cA Y A nL n0 z0 oc ρ0 Mf pc L (.long x :: .ref o :: r) M := by
  intro hw0 hn0 hz0 hk0 hl0
  have h16 : 16 ≤ o := mm_s_lt hY ho hc
  have hon : o < M.2.1 := mm_ks_head (mm_ks_tail hk0)
  have hw1 : mm_wf Y (mm_wJ M o k x) := hw0
  obtain ⟨h1, h2⟩ := kk hw1 hn0 hz0 (mm_ks_tail (mm_ks_tail hk0)) hl0
  refine ⟨h1, fun ρ H locs ls hr hP hD hS hl => ?_⟩
  have he := mm_enc_at (cA := cA) (ρ := ρ) (Y := Y) h16 hon
  rw [mm_cell_obj ho] at he
  have hcell : mm_cell cA ρ Y (mm_wJ M o k x) o = .inr (ci, (mm_fs ρ Y M o ci).set k (.long x)) := by
    rw [mm_cell_obj (M := (mm_wJ M o k x)) (ci := ci) ho]
    congr 2
    exact mm_fs_set (by rw [ht]; exact congrArg Value.long (mm_up_same _ _ _ _)) (by intro j hj t; unfold mm_fv; cases t <;> first | rfl | exact congrArg Value.long (mm_up_nk _ _ _ hj))
  have hset := mm_enc_set (cA := cA) (ρ := ρ) (Y := Y) (M := M) (M' := (mm_wJ M o k x)) h16 hon rfl hcell (fun b _ _ hb3 => mm_cell_wJ hb3)
  obtain ⟨hsz, hty, hnm⟩ := mm_cl_ok ci q hc
  have hd0 := hty k hk
  rw [ht] at hd0
  rcases hfin with hfin | ⟨hfin, hnam, hdec, hlk⟩
  · rcases hlink with hlink | ⟨host, hlink⟩
    · exact va_put hx hb hts hin (mm_tyOf ci) hty hnm hown hK hP hD hS (o - 16) he hc k hk hlink (fun _ h9 => h9) hfin hd0 rfl rfl (by rw [mm_fs_len, mm_size_of hc]; exact hk) hd (fun H1 locs1 hP1 hD1 hS1 => h2 ρ H1 locs1 ls hr (by rw [← hset]; exact hP1) (by rw [← hset]; exact hD1) hS1 hl)
    · exact va_putN hx hb hts hin (mm_tyOf ci) hty hnm hown hK hP hD hS (o - 16) he hc k hk hlink (fun _ h9 => h9) hfin hd0 rfl rfl (by rw [mm_fs_len, mm_size_of hc]; exact hk) hd (fun H1 locs1 hP1 hD1 hS1 => h2 ρ H1 locs1 ls hr (by rw [← hset]; exact hP1) (by rw [← hset]; exact hD1) hS1 hl)
  · exact va_putF hx hb hts hin (mm_tyOf ci) hty hnm hown hK hP hD hS (o - 16) he hc k hk hlk (fun _ h9 => h9) hfin hnam hdec hd0 rfl rfl (by rw [mm_fs_len, mm_size_of hc]; exact hk) hd (fun H1 locs1 hP1 hD1 hS1 => h2 ρ H1 locs1 ls hr (by rw [← hset]; exact hP1) (by rw [← hset]; exact hD1) hS1 hl)
theorem gh_putP (hx : p.tables.exec = Jvm.exec) (hb : c.code = cc) (hY : mm_wfY Y) (hts : ∀ w ∈ Ts, w.before args s = true) (hown : s.vm.findClass own = some m.cls) (hK : va_K D mm_cl (mm_tysA cA) s) (hc : mm_cl[ci]? = some q) (hin : ∀ w ∈ u_ws q.1 q.2.1 q.2.2, w ∈ Ts) (hk : k < q.2.2) (hlink : (Cond.fieldLink own index (q.2.1 k).1 (q.2.1 k).2.1 (q.2.1 k).2.2.1).before args s = true ∨ ∃ host, (Cond.fieldLinkNest own index (q.2.1 k).1 (q.2.1 k).2.1 (q.2.1 k).2.2.1 host).before args s = true) (ho : mm_s Y M o = .inl ci) (hfin : (q.2.1 k).2.2.2 = false ∨ ((q.2.1 k).2.2.2 = true ∧ meth.name = "<init>" ∧ (q.2.1 k).1 = own ∧ (Cond.fieldLink own index (q.2.1 k).1 (q.2.1 k).2.1 (q.2.1 k).2.2.1).before args s = true)) {x : Nat} (ht : mm_tk (mm_tyOf ci k) = 2) (hfr : mm_free Y o k = true) (hd : decode cc pc = .ok (.putfield index, 3)) (kk : mm_Gd p l e R s m args below meth c Q D cA Y A nL n0 z0 oc ρ0 Mf (pc + 3) L r (mm_wP M o k (some x))) : mm_Gd p l e R s m args below meth c Q D cA Y A nL n0 z0 oc ρ0 Mf pc L (.ref x :: .ref o :: r) M := by
  intro hw0 hn0 hz0 hk0 hl0
  have h16 : 16 ≤ o := mm_s_lt hY ho hc
  have hon : o < M.2.1 := mm_ks_head (mm_ks_tail hk0)
  have hw1 : mm_wf Y (mm_wP M o k (some x)) := by
    refine ⟨hw0.1, fun a j b ha1 ha2 hb2 => ?_⟩
    by_cases e : a = o
    · subst e
      by_cases e2 : j = k
      · subst e2
        rw [mm_p_wP_same hfr] at hb2
        cases hb2
        exact mm_ks_head hk0
      · rw [mm_p_wP_nk e2] at hb2
        exact hw0.2 a j b ha1 ha2 hb2
    · rw [mm_p_wP e] at hb2
      exact hw0.2 a j b ha1 ha2 hb2
  obtain ⟨h1, h2⟩ := kk hw1 hn0 hz0 (mm_ks_tail (mm_ks_tail hk0)) hl0
  refine ⟨h1, fun ρ H locs ls hr hP hD hS hl => ?_⟩
  have he := mm_enc_at (cA := cA) (ρ := ρ) (Y := Y) h16 hon
  rw [mm_cell_obj ho] at he
  have hcell : mm_cell cA ρ Y (mm_wP M o k (some x)) o = .inr (ci, (mm_fs ρ Y M o ci).set k (.ref (ρ x))) := by
    rw [mm_cell_obj (M := (mm_wP M o k (some x))) (ci := ci) ho]
    congr 2
    exact mm_fs_set (by
    unfold mm_fv
    rw [mm_p_wP_same hfr]
    cases h : mm_tyOf ci k <;> first | rfl | (rw [h] at ht; cases ht)) (by intro j hj t; unfold mm_fv; rw [mm_p_wP_nk hj])
  have hset := mm_enc_set (cA := cA) (ρ := ρ) (Y := Y) (M := M) (M' := (mm_wP M o k (some x))) h16 hon rfl hcell (fun b _ _ hb3 => mm_cell_wP hb3)
  obtain ⟨hsz, hty, hnm⟩ := mm_cl_ok ci q hc
  have hd0 := hty k hk
  obtain ⟨ty, hty0⟩ : ∃ ty, mm_tyOf ci k = ty := ⟨_, rfl⟩
  rw [hty0] at hd0 ht
  have hnar : narrow ty (.ref (ρ x)) = .ref (ρ x) := by cases ty <;> first | rfl | cases ht
  have hfit : fits ty (.ref (ρ x)) = true := by cases ty <;> first | rfl | cases ht
  rcases hfin with hfin | ⟨hfin, hnam, hdec, hlk⟩
  · rcases hlink with hlink | ⟨host, hlink⟩
    · exact va_put hx hb hts hin (mm_tyOf ci) hty hnm hown hK hP hD hS (o - 16) he hc k hk hlink (fun _ h9 => h9) hfin hd0 hnar hfit (by rw [mm_fs_len, mm_size_of hc]; exact hk) hd (fun H1 locs1 hP1 hD1 hS1 => h2 ρ H1 locs1 ls hr (by rw [← hset]; exact hP1) (by rw [← hset]; exact hD1) hS1 hl)
    · exact va_putN hx hb hts hin (mm_tyOf ci) hty hnm hown hK hP hD hS (o - 16) he hc k hk hlink (fun _ h9 => h9) hfin hd0 hnar hfit (by rw [mm_fs_len, mm_size_of hc]; exact hk) hd (fun H1 locs1 hP1 hD1 hS1 => h2 ρ H1 locs1 ls hr (by rw [← hset]; exact hP1) (by rw [← hset]; exact hD1) hS1 hl)
  · exact va_putF hx hb hts hin (mm_tyOf ci) hty hnm hown hK hP hD hS (o - 16) he hc k hk hlk (fun _ h9 => h9) hfin hnam hdec hd0 hnar hfit (by rw [mm_fs_len, mm_size_of hc]; exact hk) hd (fun H1 locs1 hP1 hD1 hS1 => h2 ρ H1 locs1 ls hr (by rw [← hset]; exact hP1) (by rw [← hset]; exact hD1) hS1 hl)
end GH
end
section
/-- of the array of int arrays: its class's component is the int arrays' class -/
def mm_c5 (cA : Nat → ClassId) (U : State) : Prop := va_AOA .int U ∧ ∃ (kA kI : Class), U.vm.classes[cA 5]? = some kA ∧ kA.kind = .array (cA 0) (.array .int) ∧ U.vm.classes[cA 0]? = some kI ∧ U.vm.assignable (cA 0) (cA 0) = true
theorem mm_ct0 {ρ : Nat → Nat} {Y : mmY} {M : mmM} {a : Nat} : mm_ct ρ Y M a 0 = .inl (M.2.2.2.1 a) := rfl
theorem mm_ct1 {ρ : Nat → Nat} {Y : mmY} {M : mmM} {a : Nat} : mm_ct ρ Y M a 1 = .inl (M.2.2.2.1 a) := rfl
theorem mm_ct3 {ρ : Nat → Nat} {Y : mmY} {M : mmM} {a : Nat} : mm_ct ρ Y M a 3 = .inr (.inl (M.2.2.2.2.1 a)) := rfl
theorem mm_ct4 {ρ : Nat → Nat} {Y : mmY} {M : mmM} {a : Nat} : mm_ct ρ Y M a 4 = .inr (.inr (.inr (.inr fun k => (mm_p Y M a k).map ρ))) := rfl
theorem mm_ct5 {ρ : Nat → Nat} {Y : mmY} {M : mmM} {a : Nat} : mm_ct ρ Y M a 5 = .inr (.inr (.inr (.inr fun k => (mm_p Y M a k).map ρ))) := rfl
section GA
variable {p : Program} {l : Launch} {e : Env} {R : Room} {s : State} {m : MethodId} {args : Array Value} {below : List Frame} {meth : Method} {c : Code} {Q : State → Prop} {D : va_G} {cA : Nat → ClassId} {Y : mmY} {A : Nat → Prop} {nL n0 z0 oc : Nat} {ρ0 : Nat → Nat} {Mf : mmM} {cc : ByteArray} {pc : Nat} {L : mmL} {K r : List Value} {M : mmM}
variable {o n : Nat} {i : Int32}

theorem ga_stat (hx : p.tables.exec = Jvm.exec) (hb : c.code = cc) {own : String} {index t : Nat} {q : String × String} (h16n : 16 ≤ n0) (hZ : mm_cnZ ρ0 A s s.heap) (hown : s.vm.findClass own = some m.cls) (hq : mm_stat[t]? = some q) (hlink : (Cond.fieldLink own index RX10 q.1 q.2).before args s = true) (hd : decode cc pc = .ok (.getstatic index, 3)) (kk : mm_Gd p l e R s m args below meth c Q D cA Y A nL n0 z0 oc ρ0 Mf (pc + 3) L (.ref t :: K) M) : mm_Gd p l e R s m args below meth c Q D cA Y A nL n0 z0 oc ρ0 Mf pc L K M := by
  intro hw0 hn0 hz0 hk0 hl0
  have ht : t < 9 := (List.getElem?_eq_some_iff.mp hq).1
  have ho : mm_okv M.2.1 (.ref t) := by show t < M.2.1; omega
  obtain ⟨h1, h2⟩ := kk hw0 hn0 hz0 (mm_ks_cons ho hk0) hl0
  refine ⟨h1, fun ρ H locs ls hr hP hD hS hl => ?_⟩
  have hz := hZ t q hq
  rw [← hr t (by omega)] at hz
  exact va_gets hx hb hz hS hown hlink (fun _ h9 => h9) hd (h2 ρ H locs ls hr hP hD hS hl)
theorem ga_len (hx : p.tables.exec = Jvm.exec) (hb : c.code = cc) (hY : mm_wfY Y) (hK : va_K D mm_cl (mm_tysA cA) s) (h16n : 16 ≤ n0) (hT : mm_cnT Y ρ0 A s s.heap) {ty : Nat} (hty : ty < 6) (ho : mm_s Y M o = .inr (ty, n)) (hne : ty ≠ 2 ∨ ¬ 16 ≤ o) (hd : decode cc pc = .ok (.arraylength, 1)) (kk : mm_Gd p l e R s m args below meth c Q D cA Y A nL n0 z0 oc ρ0 Mf (pc + 1) L (.int (Int32.ofNat n) :: r) M) : mm_Gd p l e R s m args below meth c Q D cA Y A nL n0 z0 oc ρ0 Mf pc L (.ref o :: r) M := by
  intro hw0 hn0 hz0 hk0 hl0
  obtain ⟨h1, h2⟩ := kk hw0 hn0 hz0 (mm_ks_cons trivial (mm_ks_tail hk0)) hl0
  refine ⟨h1, fun ρ H locs ls hr hP hD hS hl => ?_⟩
  by_cases h16 : 16 ≤ o
  · have he := mm_enc_at (cA := cA) (ρ := ρ) (Y := Y) h16 (mm_ks_head hk0)
    rw [mm_cell_arr ho] at he
    obtain ⟨ft, hft⟩ : ∃ ft, (mm_tysA cA)[ty]? = some (cA ty, ft) := by
      rcases (show ty = 0 ∨ ty = 1 ∨ ty = 2 ∨ ty = 3 ∨ ty = 4 ∨ ty = 5 by omega) with rfl | rfl | rfl | rfl | rfl | rfl
      · exact ⟨_, rfl⟩
      · exact ⟨_, rfl⟩
      · exact absurd rfl (hne.resolve_right (fun z => z h16))
      · exact ⟨_, rfl⟩
      · exact ⟨_, rfl⟩
      · exact ⟨_, rfl⟩
    exact va_alen hx hb hK hP (o - 16) ty he hft rfl hd (h2 ρ H locs ls hr hP hD hS hl)
  · have hz := hT o ty n (by omega) (by rw [← mm_s_tab (M := M) hY h16]; exact ho)
    rw [← hr o (by omega)] at hz
    exact va_tlen hx hb hz hS rfl hd (h2 ρ H locs ls hr hP hD hS hl)
theorem ga_iald (hx : p.tables.exec = Jvm.exec) (hb : c.code = cc) (hY : mm_wfY Y) (hK : va_K D mm_cl (mm_tysA cA) s) (h16n : 16 ≤ n0) (hT : mm_cnT Y ρ0 A s s.heap) (ho : mm_s Y M o = .inr (0, n)) (hin : vp_in i n) (hd : decode cc pc = .ok (.iaload, 1)) (kk : mm_Gd p l e R s m args below meth c Q D cA Y A nL n0 z0 oc ρ0 Mf (pc + 1) L (.int (mm_i Y M o i.toNatClampNeg) :: r) M) : mm_Gd p l e R s m args below meth c Q D cA Y A nL n0 z0 oc ρ0 Mf pc L (.int i :: .ref o :: r) M := by
  intro hw0 hn0 hz0 hk0 hl0
  obtain ⟨h1, h2⟩ := kk hw0 hn0 hz0 (mm_ks_cons trivial (mm_ks_tail (mm_ks_tail hk0))) hl0
  refine ⟨h1, fun ρ H locs ls hr hP hD hS hl => ?_⟩
  have h3 := h2 ρ H locs ls hr hP hD hS hl
  by_cases h16 : 16 ≤ o
  · have he := mm_enc_at (cA := cA) (ρ := ρ) (Y := Y) h16 (mm_ks_head (mm_ks_tail hk0))
    rw [mm_cell_arr ho, mm_ct0] at he
    rw [mm_i_heap h16] at h3
    exact va_iald hx hb hK hP (o - 16) 0 he rfl hin hd h3
  · have hz := hT o 0 n (by omega) (by rw [← mm_s_tab (M := M) hY h16]; exact ho)
    rw [← hr o (by omega)] at hz
    rw [mm_i_tab h16] at h3
    exact va_ti hx hb hz hS hin rfl hd h3
theorem ga_bald (hx : p.tables.exec = Jvm.exec) (hb : c.code = cc) (hY : mm_wfY Y) (hK : va_K D mm_cl (mm_tysA cA) s) (h16n : 16 ≤ n0) (hT : mm_cnT Y ρ0 A s s.heap) (ho : mm_s Y M o = .inr (1, n)) (hin : vp_in i n) (hd : decode cc pc = .ok (.baload, 1)) (kk : mm_Gd p l e R s m args below meth c Q D cA Y A nL n0 z0 oc ρ0 Mf (pc + 1) L (.int (mm_i Y M o i.toNatClampNeg) :: r) M) : mm_Gd p l e R s m args below meth c Q D cA Y A nL n0 z0 oc ρ0 Mf pc L (.int i :: .ref o :: r) M := by
  intro hw0 hn0 hz0 hk0 hl0
  obtain ⟨h1, h2⟩ := kk hw0 hn0 hz0 (mm_ks_cons trivial (mm_ks_tail (mm_ks_tail hk0))) hl0
  refine ⟨h1, fun ρ H locs ls hr hP hD hS hl => ?_⟩
  have h3 := h2 ρ H locs ls hr hP hD hS hl
  by_cases h16 : 16 ≤ o
  · have he := mm_enc_at (cA := cA) (ρ := ρ) (Y := Y) h16 (mm_ks_head (mm_ks_tail hk0))
    rw [mm_cell_arr ho, mm_ct1] at he
    rw [mm_i_heap h16] at h3
    exact va_zald hx hb hK hP (o - 16) 1 he rfl hin hd h3
  · have hz := hT o 1 n (by omega) (by rw [← mm_s_tab (M := M) hY h16]; exact ho)
    rw [← hr o (by omega)] at hz
    rw [mm_i_tab h16] at h3
    exact va_tz hx hb hz hS hin rfl hd h3
theorem ga_cald (hx : p.tables.exec = Jvm.exec) (hb : c.code = cc) (hY : mm_wfY Y) (hK : va_K D mm_cl (mm_tysA cA) s) (h16n : 16 ≤ n0) (hT : mm_cnT Y ρ0 A s s.heap) (ho : mm_s Y M o = .inr (2, n)) (h16 : ¬ 16 ≤ o) (hin : vp_in i n) (hd : decode cc pc = .ok (.caload, 1)) (kk : mm_Gd p l e R s m args below meth c Q D cA Y A nL n0 z0 oc ρ0 Mf (pc + 1) L (.int (mm_i Y M o i.toNatClampNeg) :: r) M) : mm_Gd p l e R s m args below meth c Q D cA Y A nL n0 z0 oc ρ0 Mf pc L (.int i :: .ref o :: r) M := by
  intro hw0 hn0 hz0 hk0 hl0
  obtain ⟨h1, h2⟩ := kk hw0 hn0 hz0 (mm_ks_cons trivial (mm_ks_tail (mm_ks_tail hk0))) hl0
  refine ⟨h1, fun ρ H locs ls hr hP hD hS hl => ?_⟩
  have h3 := h2 ρ H locs ls hr hP hD hS hl
  have hz := hT o 2 n (by omega) (by rw [← mm_s_tab (M := M) hY h16]; exact ho)
  rw [← hr o (by omega)] at hz
  rw [mm_i_tab h16] at h3
  exact va_tc hx hb hz hS hin rfl hd h3
theorem ga_lald (hx : p.tables.exec = Jvm.exec) (hb : c.code = cc) (hY : mm_wfY Y) (hK : va_K D mm_cl (mm_tysA cA) s) (h16n : 16 ≤ n0) (hT : mm_cnT Y ρ0 A s s.heap) (ho : mm_s Y M o = .inr (3, n)) (h16 : 16 ≤ o) (hin : vp_in i n) (hd : decode cc pc = .ok (.laload, 1)) (kk : mm_Gd p l e R s m args below meth c Q D cA Y A nL n0 z0 oc ρ0 Mf (pc + 1) L (.long (M.2.2.2.2.1 o i.toNatClampNeg) :: r) M) : mm_Gd p l e R s m args below meth c Q D cA Y A nL n0 z0 oc ρ0 Mf pc L (.int i :: .ref o :: r) M := by
  intro hw0 hn0 hz0 hk0 hl0
  obtain ⟨h1, h2⟩ := kk hw0 hn0 hz0 (mm_ks_cons trivial (mm_ks_tail (mm_ks_tail hk0))) hl0
  refine ⟨h1, fun ρ H locs ls hr hP hD hS hl => ?_⟩
  have he := mm_enc_at (cA := cA) (ρ := ρ) (Y := Y) h16 (mm_ks_head (mm_ks_tail hk0))
  rw [mm_cell_arr ho, mm_ct3] at he
  exact va_lald hx hb hK hP (o - 16) 3 he rfl hin hd (h2 ρ H locs ls hr hP hD hS hl)
theorem ga_aald4 (hx : p.tables.exec = Jvm.exec) (hb : c.code = cc) (hY : mm_wfY Y) (hK : va_K D mm_cl (mm_tysA cA) s) (h16n : 16 ≤ n0) (hT : mm_cnT Y ρ0 A s s.heap) (ho : mm_s Y M o = .inr (4, n)) (h16 : 16 ≤ o) (hin : vp_in i n) (hd : decode cc pc = .ok (.aaload, 1)) (kk : mm_Gd p l e R s m args below meth c Q D cA Y A nL n0 z0 oc ρ0 Mf (pc + 1) L (mm_rv (mm_p Y M o i.toNatClampNeg) :: r) M) : mm_Gd p l e R s m args below meth c Q D cA Y A nL n0 z0 oc ρ0 Mf pc L (.int i :: .ref o :: r) M := by
  intro hw0 hn0 hz0 hk0 hl0
  have hon : o < M.2.1 := mm_ks_head (mm_ks_tail hk0)
  obtain ⟨h1, h2⟩ := kk hw0 hn0 hz0 (mm_ks_cons (mm_okv_rv fun b hb2 => hw0.2 o _ b h16 hon hb2) (mm_ks_tail (mm_ks_tail hk0))) hl0
  refine ⟨h1, fun ρ H locs ls hr hP hD hS hl => ?_⟩
  have he := mm_enc_at (cA := cA) (ρ := ρ) (Y := Y) h16 hon
  rw [mm_cell_arr ho, mm_ct4] at he
  have hlt : i.toNatClampNeg < n := Nat.not_le.mp fun q => hin (Or.inr q)
  have h3 := h2 ρ H locs ls hr hP hD hS hl
  rw [List.map_cons, mm_tr_rv] at h3
  exact va_aldq hx hb hK hP (o - 16) 4 he rfl hin hd h3
theorem ga_aald5 (hx : p.tables.exec = Jvm.exec) (hb : c.code = cc) (hY : mm_wfY Y) (hK : va_K D mm_cl (mm_tysA cA) s) (h16n : 16 ≤ n0) (hT : mm_cnT Y ρ0 A s s.heap) (ho : mm_s Y M o = .inr (5, n)) (h16 : 16 ≤ o) (hin : vp_in i n) (hd : decode cc pc = .ok (.aaload, 1)) (kk : mm_Gd p l e R s m args below meth c Q D cA Y A nL n0 z0 oc ρ0 Mf (pc + 1) L (mm_rv (mm_p Y M o i.toNatClampNeg) :: r) M) : mm_Gd p l e R s m args below meth c Q D cA Y A nL n0 z0 oc ρ0 Mf pc L (.int i :: .ref o :: r) M := by
  intro hw0 hn0 hz0 hk0 hl0
  have hon : o < M.2.1 := mm_ks_head (mm_ks_tail hk0)
  obtain ⟨h1, h2⟩ := kk hw0 hn0 hz0 (mm_ks_cons (mm_okv_rv fun b hb2 => hw0.2 o _ b h16 hon hb2) (mm_ks_tail (mm_ks_tail hk0))) hl0
  refine ⟨h1, fun ρ H locs ls hr hP hD hS hl => ?_⟩
  have he := mm_enc_at (cA := cA) (ρ := ρ) (Y := Y) h16 hon
  rw [mm_cell_arr ho, mm_ct5] at he
  have hlt : i.toNatClampNeg < n := Nat.not_le.mp fun q => hin (Or.inr q)
  have h3 := h2 ρ H locs ls hr hP hD hS hl
  rw [List.map_cons, mm_tr_rv] at h3
  exact W.aald (v := va_rf ((mm_p Y M o i.toNatClampNeg).map ρ)) (ty := .array .int) hx hb (hP (o - 16) _ he) ((hK.2 5 _ rfl).1 n (fun j => va_rf ((mm_p Y M o j).map ρ))) rfl (fun q => by cases q) (by show ¬ (i < 0 ∨ (arrV _ _ _).slots.size ≤ _); rw [arrV_size]; exact hin) (by show (arrV _ _ _).slots[_]? = _; rw [arrV_read _ _ hlt]) rfl rfl hd h3
theorem ga_iast (hx : p.tables.exec = Jvm.exec) (hb : c.code = cc) (hY : mm_wfY Y) (hK : va_K D mm_cl (mm_tysA cA) s) (h16n : 16 ≤ n0) (hT : mm_cnT Y ρ0 A s s.heap) {x : Int32}  (ho : mm_s Y M o = .inr (0, n)) (h16 : 16 ≤ o) (hin : vp_in i n) (hd : decode cc pc = .ok (.iastore, 1)) (kk : mm_Gd p l e R s m args below meth c Q D cA Y A nL n0 z0 oc ρ0 Mf (pc + 1) L r (mm_wI M o i.toNatClampNeg x)) : mm_Gd p l e R s m args below meth c Q D cA Y A nL n0 z0 oc ρ0 Mf pc L (.int x :: .int i :: .ref o :: r) M := by
  intro hw0 hn0 hz0 hk0 hl0
  have hon : o < M.2.1 := mm_ks_head (mm_ks_tail (mm_ks_tail hk0))
  have hw1 : mm_wf Y (mm_wI M o i.toNatClampNeg x) := hw0
  obtain ⟨h1, h2⟩ := kk hw1 hn0 hz0 (mm_ks_tail (mm_ks_tail (mm_ks_tail hk0))) hl0
  refine ⟨h1, fun ρ H locs ls hr hP hD hS hl => ?_⟩
  have he := mm_enc_at (cA := cA) (ρ := ρ) (Y := Y) h16 hon
  rw [mm_cell_arr ho, mm_ct0] at he
  have hcell : mm_cell cA ρ Y (mm_wI M o i.toNatClampNeg x) o = .inl (cA 0, n, .inl (upd (M.2.2.2.1 o) i.toNatClampNeg x)) := by
    rw [mm_cell_arr (M := (mm_wI M o i.toNatClampNeg x)) ho, mm_ct0]
    congr 3
    exact congrArg _ (mm_up_upd _ _ _ _)
  have hset := mm_enc_set (cA := cA) (ρ := ρ) (Y := Y) (M := M) (M' := (mm_wI M o i.toNatClampNeg x)) h16 hon rfl hcell (fun b _ _ hb3 => mm_cell_wI hb3)
  exact va_iast hx hb hK hP hD hS (o - 16) 0 he rfl hin hd (fun H1 locs1 hP1 hD1 hS1 => h2 ρ H1 locs1 ls hr (by rw [← hset]; exact hP1) (by rw [← hset]; exact hD1) hS1 hl)
theorem ga_bast (hx : p.tables.exec = Jvm.exec) (hb : c.code = cc) (hY : mm_wfY Y) (hK : va_K D mm_cl (mm_tysA cA) s) (h16n : 16 ≤ n0) (hT : mm_cnT Y ρ0 A s s.heap) {x : Int32}  (ho : mm_s Y M o = .inr (1, n)) (h16 : 16 ≤ o) (hin : vp_in i n) (hd : decode cc pc = .ok (.bastore, 1)) (kk : mm_Gd p l e R s m args below meth c Q D cA Y A nL n0 z0 oc ρ0 Mf (pc + 1) L r (mm_wI M o i.toNatClampNeg (vp_nar .boolean x))) : mm_Gd p l e R s m args below meth c Q D cA Y A nL n0 z0 oc ρ0 Mf pc L (.int x :: .int i :: .ref o :: r) M := by
  intro hw0 hn0 hz0 hk0 hl0
  have hon : o < M.2.1 := mm_ks_head (mm_ks_tail (mm_ks_tail hk0))
  have hw1 : mm_wf Y (mm_wI M o i.toNatClampNeg (vp_nar .boolean x)) := hw0
  obtain ⟨h1, h2⟩ := kk hw1 hn0 hz0 (mm_ks_tail (mm_ks_tail (mm_ks_tail hk0))) hl0
  refine ⟨h1, fun ρ H locs ls hr hP hD hS hl => ?_⟩
  have he := mm_enc_at (cA := cA) (ρ := ρ) (Y := Y) h16 hon
  rw [mm_cell_arr ho, mm_ct1] at he
  have hcell : mm_cell cA ρ Y (mm_wI M o i.toNatClampNeg (vp_nar .boolean x)) o = .inl (cA 1, n, .inl (upd (M.2.2.2.1 o) i.toNatClampNeg (vp_nar .boolean x))) := by
    rw [mm_cell_arr (M := (mm_wI M o i.toNatClampNeg (vp_nar .boolean x))) ho, mm_ct1]
    congr 3
    exact congrArg _ (mm_up_upd _ _ _ _)
  have hset := mm_enc_set (cA := cA) (ρ := ρ) (Y := Y) (M := M) (M' := (mm_wI M o i.toNatClampNeg (vp_nar .boolean x))) h16 hon rfl hcell (fun b _ _ hb3 => mm_cell_wI hb3)
  exact va_zast hx hb hK hP hD hS (o - 16) 1 he rfl hin hd (fun H1 locs1 hP1 hD1 hS1 => h2 ρ H1 locs1 ls hr (by rw [← hset]; exact hP1) (by rw [← hset]; exact hD1) hS1 hl)
theorem ga_last (hx : p.tables.exec = Jvm.exec) (hb : c.code = cc) (hY : mm_wfY Y) (hK : va_K D mm_cl (mm_tysA cA) s) (h16n : 16 ≤ n0) (hT : mm_cnT Y ρ0 A s s.heap) {x : Int64}  (ho : mm_s Y M o = .inr (3, n)) (h16 : 16 ≤ o) (hin : vp_in i n) (hd : decode cc pc = .ok (.lastore, 1)) (kk : mm_Gd p l e R s m args below meth c Q D cA Y A nL n0 z0 oc ρ0 Mf (pc + 1) L r (mm_wJ M o i.toNatClampNeg x)) : mm_Gd p l e R s m args below meth c Q D cA Y A nL n0 z0 oc ρ0 Mf pc L (.long x :: .int i :: .ref o :: r) M := by
  intro hw0 hn0 hz0 hk0 hl0
  have hon : o < M.2.1 := mm_ks_head (mm_ks_tail (mm_ks_tail hk0))
  have hw1 : mm_wf Y (mm_wJ M o i.toNatClampNeg x) := hw0
  obtain ⟨h1, h2⟩ := kk hw1 hn0 hz0 (mm_ks_tail (mm_ks_tail (mm_ks_tail hk0))) hl0
  refine ⟨h1, fun ρ H locs ls hr hP hD hS hl => ?_⟩
  have he := mm_enc_at (cA := cA) (ρ := ρ) (Y := Y) h16 hon
  rw [mm_cell_arr ho, mm_ct3] at he
  have hcell : mm_cell cA ρ Y (mm_wJ M o i.toNatClampNeg x) o = .inl (cA 3, n, .inr (.inl (vp_updL (M.2.2.2.2.1 o) i.toNatClampNeg x))) := by
    rw [mm_cell_arr (M := (mm_wJ M o i.toNatClampNeg x)) ho, mm_ct3]
    congr 3
    exact congrArg _ (congrArg _ (mm_up_updL _ _ _ _))
  have hset := mm_enc_set (cA := cA) (ρ := ρ) (Y := Y) (M := M) (M' := (mm_wJ M o i.toNatClampNeg x)) h16 hon rfl hcell (fun b _ _ hb3 => mm_cell_wJ hb3)
  exact va_last hx hb hK hP hD hS (o - 16) 3 he rfl hin hd (fun H1 locs1 hP1 hD1 hS1 => h2 ρ H1 locs1 ls hr (by rw [← hset]; exact hP1) (by rw [← hset]; exact hD1) hS1 hl)
theorem ga_aast4 (hx : p.tables.exec = Jvm.exec) (hb : c.code = cc) (hY : mm_wfY Y) (hK : va_K D mm_cl (mm_tysA cA) s) (h16n : 16 ≤ n0) (hT : mm_cnT Y ρ0 A s s.heap) {x : Nat} (hfr : mm_free Y o i.toNatClampNeg = true) (hx16 : 16 ≤ x) (hxo : mm_s Y M x = .inl 0) (ho : mm_s Y M o = .inr (4, n)) (h16 : 16 ≤ o) (hin : vp_in i n) (hd : decode cc pc = .ok (.aastore, 1)) (kk : mm_Gd p l e R s m args below meth c Q D cA Y A nL n0 z0 oc ρ0 Mf (pc + 1) L r (mm_wP M o i.toNatClampNeg (some x))) : mm_Gd p l e R s m args below meth c Q D cA Y A nL n0 z0 oc ρ0 Mf pc L (.ref x :: .int i :: .ref o :: r) M := by
  intro hw0 hn0 hz0 hk0 hl0
  have hon : o < M.2.1 := mm_ks_head (mm_ks_tail (mm_ks_tail hk0))
  have hxn : x < M.2.1 := mm_ks_head hk0
  have hw1 : mm_wf Y (mm_wP M o i.toNatClampNeg (some x)) := by
    refine ⟨hw0.1, fun a j b ha1 ha2 hb2 => ?_⟩
    by_cases e : a = o
    · subst e
      by_cases e2 : j = i.toNatClampNeg
      · subst e2
        rw [mm_p_wP_same hfr] at hb2
        cases hb2
        exact hxn
      · rw [mm_p_wP_nk e2] at hb2
        exact hw0.2 a j b ha1 ha2 hb2
    · rw [mm_p_wP e] at hb2
      exact hw0.2 a j b ha1 ha2 hb2
  obtain ⟨h1, h2⟩ := kk hw1 hn0 hz0 (mm_ks_tail (mm_ks_tail (mm_ks_tail hk0))) hl0
  refine ⟨h1, fun ρ H locs ls hr hP hD hS hl => ?_⟩
  have he := mm_enc_at (cA := cA) (ρ := ρ) (Y := Y) h16 hon
  rw [mm_cell_arr ho, mm_ct4] at he
  have hcell : mm_cell cA ρ Y (mm_wP M o i.toNatClampNeg (some x)) o = .inl (cA 4, n, .inr (.inr (.inr (.inr (va_up (fun k => (mm_p Y M o k).map ρ) i.toNatClampNeg (some (ρ x))))))) := by
    rw [mm_cell_arr (M := (mm_wP M o i.toNatClampNeg (some x))) ho, mm_ct4]
    congr 3
    refine congrArg _ (congrArg _ (congrArg _ (congrArg _ (funext fun j => ?_))))
    by_cases e2 : j = i.toNatClampNeg
    · subst e2
      rw [mm_p_wP_same hfr]
      simp [va_up]
    · rw [mm_p_wP_nk e2]
      simp [va_up, e2]
  have hset := mm_enc_set (cA := cA) (ρ := ρ) (Y := Y) (M := M) (M' := (mm_wP M o i.toNatClampNeg (some x))) h16 hon rfl hcell (fun b _ _ hb3 => mm_cell_wP hb3)
  have hex := mm_enc_at (cA := cA) (ρ := ρ) (Y := Y) (M := M) hx16 hxn
  rw [mm_cell_obj hxo] at hex
  exact va_astq hx hb hK hP hD hS (o - 16) 4 (x - 16) 0 (r := (RX0, TX0, 11)) he rfl hex rfl hin hd (fun H1 locs1 hP1 hD1 hS1 => h2 ρ H1 locs1 ls hr (by rw [← hset]; exact hP1) (by rw [← hset]; exact hD1) hS1 hl)
theorem ga_aast5 (hx : p.tables.exec = Jvm.exec) (hb : c.code = cc) (hY : mm_wfY Y) (hK : va_K D mm_cl (mm_tysA cA) s) (h16n : 16 ≤ n0) (hT : mm_cnT Y ρ0 A s s.heap) {x : Nat} {nx : Nat} (h5 : mm_c5 cA s) (hfr : mm_free Y o i.toNatClampNeg = true) (hx16 : 16 ≤ x) (hxo : mm_s Y M x = .inr (0, nx)) (ho : mm_s Y M o = .inr (5, n)) (h16 : 16 ≤ o) (hin : vp_in i n) (hd : decode cc pc = .ok (.aastore, 1)) (kk : mm_Gd p l e R s m args below meth c Q D cA Y A nL n0 z0 oc ρ0 Mf (pc + 1) L r (mm_wP M o i.toNatClampNeg (some x))) : mm_Gd p l e R s m args below meth c Q D cA Y A nL n0 z0 oc ρ0 Mf pc L (.ref x :: .int i :: .ref o :: r) M := by
  intro hw0 hn0 hz0 hk0 hl0
  have hon : o < M.2.1 := mm_ks_head (mm_ks_tail (mm_ks_tail hk0))
  have hxn : x < M.2.1 := mm_ks_head hk0
  have hw1 : mm_wf Y (mm_wP M o i.toNatClampNeg (some x)) := by
    refine ⟨hw0.1, fun a j b ha1 ha2 hb2 => ?_⟩
    by_cases e : a = o
    · subst e
      by_cases e2 : j = i.toNatClampNeg
      · subst e2
        rw [mm_p_wP_same hfr] at hb2
        cases hb2
        exact hxn
      · rw [mm_p_wP_nk e2] at hb2
        exact hw0.2 a j b ha1 ha2 hb2
    · rw [mm_p_wP e] at hb2
      exact hw0.2 a j b ha1 ha2 hb2
  obtain ⟨h1, h2⟩ := kk hw1 hn0 hz0 (mm_ks_tail (mm_ks_tail (mm_ks_tail hk0))) hl0
  refine ⟨h1, fun ρ H locs ls hr hP hD hS hl => ?_⟩
  have he := mm_enc_at (cA := cA) (ρ := ρ) (Y := Y) h16 hon
  rw [mm_cell_arr ho, mm_ct5] at he
  have hcell : mm_cell cA ρ Y (mm_wP M o i.toNatClampNeg (some x)) o = .inl (cA 5, n, .inr (.inr (.inr (.inr (va_up (fun k => (mm_p Y M o k).map ρ) i.toNatClampNeg (some (ρ x))))))) := by
    rw [mm_cell_arr (M := (mm_wP M o i.toNatClampNeg (some x))) ho, mm_ct5]
    congr 3
    refine congrArg _ (congrArg _ (congrArg _ (congrArg _ (funext fun j => ?_))))
    by_cases e2 : j = i.toNatClampNeg
    · subst e2
      rw [mm_p_wP_same hfr]
      simp [va_up]
    · rw [mm_p_wP_nk e2]
      simp [va_up, e2]
  have hset := mm_enc_set (cA := cA) (ρ := ρ) (Y := Y) (M := M) (M' := (mm_wP M o i.toNatClampNeg (some x))) h16 hon rfl hcell (fun b _ _ hb3 => mm_cell_wP hb3)
  have hex := mm_enc_at (cA := cA) (ρ := ρ) (Y := Y) (M := M) hx16 hxn
  rw [mm_cell_arr hxo, mm_ct0] at hex
  have hlt : i.toNatClampNeg < n := Nat.not_le.mp fun q => hin (Or.inr q)
  have hi0 : ¬ i < 0 := fun q => hin (Or.inl q)
  obtain ⟨-, kA, kI, k1, k2, k3, k4⟩ := h5
  refine W.aast hx hb (hP (o - 16) _ he) (fun q h => by cases h) (fun h => by cases h) k1 k2 rfl k3 ⟨hi0, by show _ < (arrV _ _ _).slots.size; rw [arrV_size]; exact hlt⟩ (hP (x - 16) _ hex) (fun q h => by cases h) k3 k4 rfl rfl hd fun H1 e z oq => ?_
  have hat : va_at D mm_cl (ρ o, .inl (cA 5, n, .inr (.inr (.inr (.inr (va_up (fun k => (mm_p Y M o k).map ρ) i.toNatClampNeg (some (ρ x)))))))) H1 := by
    show H1[ρ o]? = some (vp_cell _ _)
    rw [e]
    rw [vp_cell_q, vp_cell_q, arrV_store]
    congr 2
    funext q
    by_cases hq : q = i.toNatClampNeg
    · subst hq
      simp [updV, va_up, va_rf]
    · simp [updV, va_up, hq]
  exact h2 ρ H1 _ ls hr (by rw [← hset]; exact hP.set hD he hat oq) (by rw [← hset]; exact hD.set he) (hS.put z oq (hD.2 (o - 16) _ he)) hl
theorem mm_new_s {Y : mmY} {M : mmM} {q : mmSh} {w b : Nat} (h : b ≠ M.2.1) : mm_s Y (mm_new M q w) b = mm_s Y M b := by
  unfold mm_s
  simp only [mm_ups, if_neg h]
theorem mm_new_sn {Y : mmY} {M : mmM} {q : mmSh} {w : Nat} (hY : Y.1 ≤ M.2.1) : mm_s Y (mm_new M q w) M.2.1 = q := by
  unfold mm_s
  rw [show Nat.blt M.2.1 Y.1 = false from Bool.eq_false_iff.mpr fun z => by have := Nat.blt_eq.mp z; omega]
  simp [mm_ups]
theorem mm_new_p {Y : mmY} {M : mmM} {q : mmSh} {w b : Nat} (h : b ≠ M.2.1) (k : Nat) : mm_p Y (mm_new M q w) b k = mm_p Y M b k := by
  unfold mm_p
  cases mm_fx Y b k with
  | some r => rfl
  | none => simp only [mm_row_ne _ _ h]
theorem mm_new_pn {Y : mmY} {M : mmM} {q : mmSh} {w : Nat} (hY : Y.1 ≤ M.2.1) (k : Nat) : mm_p Y (mm_new M q w) M.2.1 k = none := by
  unfold mm_p mm_fx
  rw [show Nat.blt M.2.1 Y.1 = false from Bool.eq_false_iff.mpr fun z => by have := Nat.blt_eq.mp z; omega]
  simp only [cond_false, mm_row_same]
theorem mm_new_wf {Y : mmY} {M : mmM} {q : mmSh} {w : Nat} (h : mm_wf Y M) : mm_wf Y (mm_new M q w) := by
  refine ⟨Nat.le_succ_of_le h.1, fun a k b h1 h2 h3 => ?_⟩
  by_cases e : a = M.2.1
  · subst e
    rw [mm_new_pn h.1] at h3
    cases h3
  · rw [mm_new_p e] at h3
    have h2 : a < M.2.1 + 1 := h2
    exact Nat.lt_succ_of_lt (h.2 a k b h1 (by omega) h3)
theorem mm_new_cell {cA : Nat → ClassId} {ρ ρ' : Nat → Nat} {Y : mmY} {M : mmM} {q : mmSh} {w b : Nat} (hw : mm_wf Y M) (h16 : 16 ≤ b) (hb : b < M.2.1) (hr : ∀ a, a < M.2.1 → ρ' a = ρ a) : mm_cell cA ρ' Y (mm_new M q w) b = mm_cell cA ρ Y M b :=
  mm_cell_congr (mm_new_s (by omega)) (mm_row_ne _ _ (by omega)) (mm_row_ne _ _ (by omega)) fun k => by
    rw [mm_new_p (by omega)]
    cases h : mm_p Y M b k with
    | none => rfl
    | some x => simp only [Option.map_some]; rw [hr x (hw.2 b k x h16 hb h)]
def mm_ext (ρ : Nat → Nat) (n q : Nat) : Nat → Nat := fun b => if b = n then q else ρ b
theorem mm_ext_lt {ρ : Nat → Nat} {n q b : Nat} (h : b < n) : mm_ext ρ n q b = ρ b := by simp [mm_ext, Nat.ne_of_lt h]
theorem mm_ext_n {ρ : Nat → Nat} {n q : Nat} : mm_ext ρ n q n = q := by simp [mm_ext]
/-- a new cell in the real heap: how it goes on -/
theorem ga_born {q : mmSh} {w a : Nat} {x : va_E} {H1 : Heap} {locs : List Loc} {ls : Array Slot} {ρ : Nat → Nat} (hw0 : mm_wf Y M) (h16 : 16 ≤ M.2.1) (hn0 : n0 ≤ M.2.1) (hk0 : mm_ks M.2.1 r) (hr : ∀ b, b < n0 → ρ b = ρ0 b) (hl : mm_lc ρ M.2.1 L ls nL)
    (hcell : mm_cell cA (mm_ext ρ M.2.1 a) Y (mm_new M q w) M.2.1 = x) (hP : va_P D mm_cl (mm_enc cA ρ Y M ++ [(a, x)]) H1) (hD : va_D A (mm_enc cA ρ Y M ++ [(a, x)])) (hS : va_S A s.heap H1 locs)
    (h2 : ∀ (ρ : Nat → Nat) (H : Heap) (locs : List Loc) (ls : Array Slot), (∀ b, b < n0 → ρ b = ρ0 b) → va_P D mm_cl (mm_enc cA ρ Y (mm_new M q w)) H → va_D A (mm_enc cA ρ Y (mm_new M q w)) → va_S A s.heap H locs → mm_lc ρ (mm_new M q w).2.1 L ls nL →
      W p l e R s m args below meth c H locs ((mm_new M q w).2.1 + oc - n0) ((mm_new M q w).2.2.1 - z0) Q (F0 m pc ls ((.ref M.2.1 :: r).map (mm_tr ρ)))) :
    W p l e R s m args below meth c H1 locs (M.2.1 + 1 + oc - n0) (M.2.2.1 + w - z0) Q (F0 m pc ls (.ref a :: r.map (mm_tr ρ))) := by
  have hx : mm_enc cA (mm_ext ρ M.2.1 a) Y (mm_new M q w) = mm_enc cA ρ Y M ++ [(a, x)] := by
    rw [mm_enc_push (M := M) (ρ := ρ) h16 rfl (fun b hb => mm_ext_lt hb) (fun b h1 hb => mm_new_cell hw0 h1 hb (fun c hc => mm_ext_lt hc)), mm_ext_n, hcell]
  have h3 := h2 (mm_ext ρ M.2.1 a) H1 locs ls (fun b hb => by rw [mm_ext_lt (by omega)]; exact hr b hb) (by rw [hx]; exact hP) (by rw [hx]; exact hD) hS (mm_lc_le hl (Nat.le_succ _) (fun b hb => mm_ext_lt hb))
  rw [List.map_cons, mm_ks_tr hk0 (fun b hb => mm_ext_lt hb)] at h3
  have e : mm_tr (mm_ext ρ M.2.1 a) (.ref M.2.1) = .ref a := by show Value.ref _ = _; rw [mm_ext_n]
  rw [e] at h3
  exact h3
theorem ga_newa (hx : p.tables.exec = Jvm.exec) (hb : c.code = cc) (hY : mm_wfY Y) (hK : va_K D mm_cl (mm_tysA cA) s) (h16n : 16 ≤ n0) (hA : ∀ q, s.heap.size ≤ q → A q) (hRc : Mf.2.1 + oc - n0 ≤ R.cells) (hRs : Mf.2.2.1 - z0 ≤ R.slots) {at0 : ArrayType} {ty : Nat} (hty : (at0 = .int ∧ ty = 0) ∨ (at0 = .boolean ∧ ty = 1) ∨ (at0 = .long ∧ ty = 3)) {x : Int32} (hx0 : ¬ x < 0) (hxl : x.toNatClampNeg ≤ 65536) (harr : (Cond.arrayClass (newarray.typeOf at0)).before args s = true) (hd : decode cc pc = .ok (.newarray at0, 2)) (kk : mm_Gd p l e R s m args below meth c Q D cA Y A nL n0 z0 oc ρ0 Mf (pc + 2) L (.ref M.2.1 :: r) (mm_new M (.inr (ty, x.toNatClampNeg)) x.toNatClampNeg)) : mm_Gd p l e R s m args below meth c Q D cA Y A nL n0 z0 oc ρ0 Mf pc L (.int x :: r) M := by
  intro hw0 hn0 hz0 hk0 hl0
  obtain ⟨h1, h2⟩ := kk (mm_new_wf hw0) (Nat.le_succ_of_le hn0) (Nat.le_add_right_of_le hz0) (mm_ks_cons (Nat.lt_succ_self _) (mm_ks_le (mm_ks_tail hk0) (Nat.le_succ _))) (fun i v hv => mm_okv_le (hl0 i v hv) (Nat.le_succ _))
  have t2 : M.2.1 + 1 ≤ Mf.2.1 := h1.2.1
  have t3 : M.2.2.1 + x.toNatClampNeg ≤ Mf.2.2.1 := h1.2.2
  refine ⟨⟨h1.1, by omega, by omega⟩, fun ρ H locs ls hr hP hD hS hl => ?_⟩
  rcases hty with ⟨rfl, rfl⟩ | ⟨rfl, rfl⟩ | ⟨rfl, rfl⟩
  · refine va_newa (a0 := (x.toNatClampNeg, .inl (fun _ => 0))) hx hb harr rfl hK hP hD hS hA (fun c9 => rfl) hx0 rfl (by show x.toNatClampNeg * 4 ≤ _; omega) (by omega) (by omega) hd (fun q cN H1 hK1 hP1 hD1 hS1 => ?_)
    have hcn : cN = cA 0 := by
      have a1 := (hK1.2 6 (cN, .int) rfl).2
      have a2 := (hK.2 0 (cA 0, .int) rfl).2
      exact Option.some.inj (Eq.trans (Eq.symm a1) a2)
    subst hcn
    refine W.cs (cells' := M.2.1 + 1 + oc - n0) (slots' := M.2.2.1 + x.toNatClampNeg - z0) (by omega) (by omega) ?_
    exact ga_born hw0 (by omega) hn0 (mm_ks_tail hk0) hr hl (by rw [mm_cell_arr (mm_new_sn hw0.1), mm_ct0]; simp only [mm_row_same]) hP1 hD1 hS1 h2
  · refine va_newa (a0 := (x.toNatClampNeg, .inl (fun _ => 0))) hx hb harr rfl hK hP hD hS hA (fun c9 => rfl) hx0 rfl (by show x.toNatClampNeg * 1 ≤ _; omega) (by omega) (by omega) hd (fun q cN H1 hK1 hP1 hD1 hS1 => ?_)
    have hcn : cN = cA 1 := by
      have a1 := (hK1.2 6 (cN, .boolean) rfl).2
      have a2 := (hK.2 1 (cA 1, .boolean) rfl).2
      exact Option.some.inj (Eq.trans (Eq.symm a1) a2)
    subst hcn
    refine W.cs (cells' := M.2.1 + 1 + oc - n0) (slots' := M.2.2.1 + x.toNatClampNeg - z0) (by omega) (by omega) ?_
    exact ga_born hw0 (by omega) hn0 (mm_ks_tail hk0) hr hl (by rw [mm_cell_arr (mm_new_sn hw0.1), mm_ct1]; simp only [mm_row_same]) hP1 hD1 hS1 h2
  · refine va_newa (a0 := (x.toNatClampNeg, .inr (.inl (fun _ => 0)))) hx hb harr rfl hK hP hD hS hA (fun c9 => rfl) hx0 rfl (by show x.toNatClampNeg * 8 ≤ _; omega) (by omega) (by omega) hd (fun q cN H1 hK1 hP1 hD1 hS1 => ?_)
    have hcn : cN = cA 3 := by
      have a1 := (hK1.2 6 (cN, .long) rfl).2
      have a2 := (hK.2 3 (cA 3, .long) rfl).2
      exact Option.some.inj (Eq.trans (Eq.symm a1) a2)
    subst hcn
    refine W.cs (cells' := M.2.1 + 1 + oc - n0) (slots' := M.2.2.1 + x.toNatClampNeg - z0) (by omega) (by omega) ?_
    exact ga_born hw0 (by omega) hn0 (mm_ks_tail hk0) hr hl (by rw [mm_cell_arr (mm_new_sn hw0.1), mm_ct3]; simp only [mm_row_same]) hP1 hD1 hS1 h2
theorem ga_anew (hx : p.tables.exec = Jvm.exec) (hb : c.code = cc) (hY : mm_wfY Y) (hK : va_K D mm_cl (mm_tysA cA) s) (h16n : 16 ≤ n0) (hA : ∀ q, s.heap.size ≤ q → A q) (hRc : Mf.2.1 + oc - n0 ≤ R.cells) (hRs : Mf.2.2.1 - z0 ≤ R.slots) {own : String} {index : Nat} (hown : s.vm.findClass own = some m.cls) (hcl : (Cond.classLink own index RX0).before args s = true) (hov : va_AO RX0 s) {x : Int32} (hx0 : ¬ x < 0) (hxl : x.toNatClampNeg ≤ 65536) (hd : decode cc pc = .ok (.anewarray index, 3)) (kk : mm_Gd p l e R s m args below meth c Q D cA Y A nL n0 z0 oc ρ0 Mf (pc + 3) L (.ref M.2.1 :: r) (mm_new M (.inr (4, x.toNatClampNeg)) x.toNatClampNeg)) : mm_Gd p l e R s m args below meth c Q D cA Y A nL n0 z0 oc ρ0 Mf pc L (.int x :: r) M := by
  intro hw0 hn0 hz0 hk0 hl0
  obtain ⟨h1, h2⟩ := kk (mm_new_wf hw0) (Nat.le_succ_of_le hn0) (Nat.le_add_right_of_le hz0) (mm_ks_cons (Nat.lt_succ_self _) (mm_ks_le (mm_ks_tail hk0) (Nat.le_succ _))) (fun i v hv => mm_okv_le (hl0 i v hv) (Nat.le_succ _))
  have t2 : M.2.1 + 1 ≤ Mf.2.1 := h1.2.1
  have t3 : M.2.2.1 + x.toNatClampNeg ≤ Mf.2.2.1 := h1.2.2
  refine ⟨⟨h1.1, by omega, by omega⟩, fun ρ H locs ls hr hP hD hS hl => ?_⟩
  refine va_newq hx hb hown hcl hov hK hP hD hS hA hx0 rfl (by omega) (by omega) (by omega) hd (fun q cN H1 hK1 hP1 hD1 hS1 => ?_)
  have hcn : cN = cA 4 := by
    obtain ⟨_, _, _, _, _, a1⟩ := (hK1.2 6 (cN, .object RX0) rfl).2
    obtain ⟨_, _, _, _, _, a2⟩ := (hK.2 4 (cA 4, .object RX0) rfl).2
    exact Option.some.inj (a1.symm.trans a2)
  subst hcn
  refine W.cs (cells' := M.2.1 + 1 + oc - n0) (slots' := M.2.2.1 + x.toNatClampNeg - z0) (by omega) (by omega) ?_
  exact ga_born hw0 (by omega) hn0 (mm_ks_tail hk0) hr hl (by rw [mm_cell_arr (mm_new_sn hw0.1), mm_ct4]; simp only [mm_new_pn hw0.1]; rfl) hP1 hD1 hS1 h2
theorem ga_new (hx : p.tables.exec = Jvm.exec) (hb : c.code = cc) (hY : mm_wfY Y) (hK : va_K D mm_cl (mm_tysA cA) s) (h16n : 16 ≤ n0) (hA : ∀ q, s.heap.size ≤ q → A q) (hRc : Mf.2.1 + oc - n0 ≤ R.cells) (hRs : Mf.2.2.1 - z0 ≤ R.slots) {Ts : List Cond} {own : String} {index ci : Nat} {q : vw_C} (hts : ∀ w ∈ Ts, w.before args s = true) (hown : s.vm.findClass own = some m.cls) (hc : mm_cl[ci]? = some q) (hin : ∀ w ∈ u_ws q.1 q.2.1 q.2.2, w ∈ Ts) (hcl : (Cond.classLink own index q.1).before args s = true) (hinst : (Cond.instantiable q.1 q.2.2).before args s = true) (hini : (Cond.initialized q.1).before args s = true) (hd : decode cc pc = .ok (.new index, 3)) (kk : mm_Gd p l e R s m args below meth c Q D cA Y A nL n0 z0 oc ρ0 Mf (pc + 3) L (.ref M.2.1 :: K) (mm_new M (.inl ci) q.2.2)) : mm_Gd p l e R s m args below meth c Q D cA Y A nL n0 z0 oc ρ0 Mf pc L K M := by
  intro hw0 hn0 hz0 hk0 hl0
  obtain ⟨h1, h2⟩ := kk (mm_new_wf hw0) (Nat.le_succ_of_le hn0) (Nat.le_add_right_of_le hz0) (mm_ks_cons (Nat.lt_succ_self _) (mm_ks_le hk0 (Nat.le_succ _))) (fun i v hv => mm_okv_le (hl0 i v hv) (Nat.le_succ _))
  have t2 : M.2.1 + 1 ≤ Mf.2.1 := h1.2.1
  have t3 : M.2.2.1 + q.2.2 ≤ Mf.2.2.1 := h1.2.2
  refine ⟨⟨h1.1, by omega, by omega⟩, fun ρ H locs ls hr hP hD hS hl => ?_⟩
  obtain ⟨hsz, hty, hnm⟩ := mm_cl_ok ci q hc
  have hci : ci < 13 := (List.getElem?_eq_some_iff.mp hc).1
  refine va_new (fs := mm_fs (fun _ => 0) Y (mm_new M (.inl ci) q.2.2) M.2.1 ci) hx hb hts hin (mm_tyOf ci) hty hown hcl hinst hini hK hP hD hS hA hc (fun j hj => ?_) (by omega) (by omega) hd (fun a H1 hP1 hD1 hS1 => ?_)
  · have hk : mm_tk (mm_tyOf ci j) < 4 := by
      have a1 := List.all_eq_true.mp mm_tyk ci (List.mem_range.mpr hci)
      have a2 := List.all_eq_true.mp a1 j (List.mem_range.mpr (by rw [mm_size_of hc]; exact hj))
      exact of_decide_eq_true a2
    unfold vp_V
    rw [List.getD_eq_getElem?_getD, mm_fs_at (by rw [mm_size_of hc]; exact hj)]
    unfold mm_fv
    simp only [mm_row_same, mm_new_pn hw0.1, Option.getD_some]
    cases h9 : mm_tyOf ci j <;> first | rfl | (rw [h9] at hk; exact absurd hk (by decide))
  · refine W.cs (cells' := M.2.1 + 1 + oc - n0) (slots' := M.2.2.1 + q.2.2 - z0) (by omega) (by omega) ?_
    refine ga_born hw0 (by omega) hn0 hk0 hr hl ?_ hP1 hD1 hS1 h2
    rw [mm_cell_obj (mm_new_sn hw0.1)]
    congr 2
    unfold mm_fs
    apply List.map_congr_left
    intro j _
    unfold mm_fv
    simp only [mm_new_pn hw0.1]
    rfl
end GA
end
section
section GM5
variable {p : Program} {l : Launch} {e : Env} {R : Room} {s : State} {m : MethodId} {args : Array Value} {below : List Frame} {meth : Method} {c : Code} {Q : State → Prop} {D : va_G} {cA : Nat → ClassId} {Y : mmY} {A : Nat → Prop} {nL n0 z0 oc : Nat} {ρ0 : Nat → Nat} {Mf : mmM} {cc : ByteArray} {pc : Nat} {L : mmL} {K r : List Value} {M : mmM}
variable {o n : Nat} {i : Int32}
theorem mm_mna_s {M : mmM} {b : Nat} : (mm_mna M).1 b = if b = M.2.1 + 4 then .inr (0, 0) else if b = M.2.1 + 3 then .inr (0, 0) else if b = M.2.1 + 2 then .inr (0, 0) else if b = M.2.1 + 1 then .inr (0, 0) else if b = M.2.1 then .inr (5, 4) else M.1 b := rfl
theorem mm_mna_lo {M : mmM} {b : Nat} (h : b < M.2.1) : (mm_mna M).1 b = M.1 b ∧ (mm_mna M).2.2.2.1 b = M.2.2.2.1 b ∧ (mm_mna M).2.2.2.2.1 b = M.2.2.2.2.1 b ∧ ∀ k, (mm_mna M).2.2.2.2.2 b k = M.2.2.2.2.2 b k := by
  refine ⟨?_, ?_, ?_, fun k => ?_⟩
  · rw [mm_mna_s, if_neg (by omega), if_neg (by omega), if_neg (by omega), if_neg (by omega), if_neg (by omega)]
  · show mm_row (mm_row (mm_row (mm_row (mm_row M.2.2.2.1 M.2.1 _) (M.2.1 + 1) _) (M.2.1 + 2) _) (M.2.1 + 3) _) (M.2.1 + 4) _ b = _
    rw [mm_row_ne _ _ (by omega), mm_row_ne _ _ (by omega), mm_row_ne _ _ (by omega), mm_row_ne _ _ (by omega), mm_row_ne _ _ (by omega)]
  · show mm_row (mm_row (mm_row (mm_row (mm_row M.2.2.2.2.1 M.2.1 _) (M.2.1 + 1) _) (M.2.1 + 2) _) (M.2.1 + 3) _) (M.2.1 + 4) _ b = _
    rw [mm_row_ne _ _ (by omega), mm_row_ne _ _ (by omega), mm_row_ne _ _ (by omega), mm_row_ne _ _ (by omega), mm_row_ne _ _ (by omega)]
  · have hne : b ≠ M.2.1 := by omega
    show mm_up (mm_up (mm_up (mm_up (mm_row (mm_row (mm_row (mm_row (mm_row M.2.2.2.2.2 M.2.1 _) (M.2.1 + 1) _) (M.2.1 + 2) _) (M.2.1 + 3) _) (M.2.1 + 4) _) M.2.1 0 _) M.2.1 1 _) M.2.1 2 _) M.2.1 3 _ b k = _
    unfold mm_up
    rw [if_neg hne, if_neg hne, if_neg hne, if_neg hne, mm_row_ne _ _ (by omega), mm_row_ne _ _ (by omega), mm_row_ne _ _ (by omega), mm_row_ne _ _ (by omega), mm_row_ne _ _ (by omega)]
theorem mm_mna_p {M : mmM} (k : Nat) : (mm_mna M).2.2.2.2.2 M.2.1 k = if k < 4 then some (M.2.1 + 1 + k) else none := by
  show mm_up (mm_up (mm_up (mm_up (mm_row (mm_row (mm_row (mm_row (mm_row M.2.2.2.2.2 M.2.1 (fun _ => none)) (M.2.1 + 1) _) (M.2.1 + 2) _) (M.2.1 + 3) _) (M.2.1 + 4) _) M.2.1 0 (some (M.2.1 + 1))) M.2.1 1 (some (M.2.1 + 2))) M.2.1 2 (some (M.2.1 + 3))) M.2.1 3 (some (M.2.1 + 4)) M.2.1 k = _
  unfold mm_up
  rw [if_pos rfl, if_pos rfl, if_pos rfl, if_pos rfl, mm_row_ne _ _ (by omega), mm_row_ne _ _ (by omega), mm_row_ne _ _ (by omega), mm_row_ne _ _ (by omega), mm_row_same]
  by_cases h3 : k = 3
  · subst h3; rfl
  rw [if_neg h3]
  by_cases h2 : k = 2
  · subst h2; rfl
  rw [if_neg h2]
  by_cases h1 : k = 1
  · subst h1; rfl
  rw [if_neg h1]
  by_cases h0 : k = 0
  · subst h0; rfl
  rw [if_neg h0, if_neg (by omega)]
theorem mm_mna_in {M : mmM} {i : Nat} (h : i < 4) : (mm_mna M).2.2.2.1 (M.2.1 + 1 + i) = (fun _ => 0) ∧ ∀ k, (mm_mna M).2.2.2.2.2 (M.2.1 + 1 + i) k = none := by
  have e1 : (mm_mna M).2.2.2.1 (M.2.1 + 1 + i) = mm_row (mm_row (mm_row (mm_row (mm_row M.2.2.2.1 M.2.1 (fun _ => 0)) (M.2.1 + 1) (fun _ => 0)) (M.2.1 + 2) (fun _ => 0)) (M.2.1 + 3) (fun _ => 0)) (M.2.1 + 4) (fun _ => 0) (M.2.1 + 1 + i) := rfl
  have e2 : ∀ k, (mm_mna M).2.2.2.2.2 (M.2.1 + 1 + i) k = mm_row (mm_row (mm_row (mm_row (mm_row M.2.2.2.2.2 M.2.1 (fun _ => none)) (M.2.1 + 1) (fun _ => none)) (M.2.1 + 2) (fun _ => none)) (M.2.1 + 3) (fun _ => none)) (M.2.1 + 4) (fun _ => none) (M.2.1 + 1 + i) k := fun k => by
    show mm_up (mm_up (mm_up (mm_up _ M.2.1 0 _) M.2.1 1 _) M.2.1 2 _) M.2.1 3 _ (M.2.1 + 1 + i) k = _
    unfold mm_up
    rw [if_neg (by omega), if_neg (by omega), if_neg (by omega), if_neg (by omega)]
  refine ⟨?_, fun k => ?_⟩
  · rw [e1]
    unfold mm_row
    (repeat' split) <;> first | rfl | (exfalso; omega)
  · rw [e2]
    unfold mm_row
    (repeat' split) <;> first | rfl | (exfalso; omega)
theorem mm_sp_hi {Y : mmY} {M : mmM} {b : Nat} (h : Y.1 ≤ b) : mm_s Y M b = M.1 b ∧ ∀ k, mm_p Y M b k = M.2.2.2.2.2 b k := by
  have e : Nat.blt b Y.1 = false := Bool.eq_false_iff.mpr fun z => by have := Nat.blt_eq.mp z; omega
  refine ⟨?_, fun k => ?_⟩
  · unfold mm_s; rw [e]; rfl
  · unfold mm_p mm_fx; rw [e]; rfl
theorem mm_mna_lp {Y : mmY} {M : mmM} {b : Nat} (h : b < M.2.1) (k : Nat) : mm_p Y (mm_mna M) b k = mm_p Y M b k := by
  unfold mm_p
  rw [(mm_mna_lo h).2.2.2]
theorem mm_mna_wf {Y : mmY} {M : mmM} (h : mm_wf Y M) : mm_wf Y (mm_mna M) := by
  refine ⟨Nat.le_trans h.1 (Nat.le_add_right _ 5), fun a k b h1 h2 h3 => ?_⟩
  have h2' : a < M.2.1 + 5 := h2
  show b < M.2.1 + 5
  have h0 := h.1
  by_cases e : a < M.2.1
  · rw [mm_mna_lp e] at h3
    have := h.2 a k b h1 e h3
    omega
  · rw [(mm_sp_hi (by omega)).2] at h3
    by_cases e2 : a = M.2.1
    · subst e2
      rw [mm_mna_p] at h3
      split at h3
      · cases h3; omega
      · cases h3
    · obtain ⟨i, rfl⟩ : ∃ i, a = M.2.1 + 1 + i := ⟨a - M.2.1 - 1, by omega⟩
      rw [(mm_mna_in (by omega)).2] at h3
      cases h3
theorem ga_mna (hx : p.tables.exec = Jvm.exec) (hb : c.code = cc) (hY : mm_wfY Y) (hK : va_K D mm_cl (mm_tysA cA) s) (h16n : 16 ≤ n0) (hA : ∀ q, s.heap.size ≤ q → A q) (hRc : Mf.2.1 + oc - n0 ≤ R.cells) (hRs : Mf.2.2.1 - z0 ≤ R.slots) {own : String} {index : Nat} (hown : s.vm.findClass own = some m.cls) (hcl : (Cond.classLink own index "[[I").before args s = true) (h5 : mm_c5 cA s) (harr : (Cond.arrayClass .int).before args s = true) (hd : decode cc pc = .ok (.multianewarray index 2, 4)) (kk : mm_Gd p l e R s m args below meth c Q D cA Y A nL n0 z0 oc ρ0 Mf (pc + 4) L (.ref M.2.1 :: r) (mm_mna M)) : mm_Gd p l e R s m args below meth c Q D cA Y A nL n0 z0 oc ρ0 Mf pc L (.int 0 :: .int 4 :: r) M := by
  intro hw0 hn0 hz0 hk0 hl0
  obtain ⟨h1, h2⟩ := kk (mm_mna_wf hw0) (by show n0 ≤ _ + 5; omega) (by show z0 ≤ _ + 4; omega) (mm_ks_cons (by show _ < _ + 5; omega) (mm_ks_le (mm_ks_tail (mm_ks_tail hk0)) (by show _ ≤ _ + 5; omega))) (fun i v hv => mm_okv_le (hl0 i v hv) (by show _ ≤ _ + 5; omega))
  have t2 : M.2.1 + 5 ≤ Mf.2.1 := h1.2.1
  have t3 : M.2.2.1 + 4 ≤ Mf.2.2.1 := h1.2.2
  refine ⟨⟨h1.1, by omega, by omega⟩, fun ρ H locs ls hr hP hD hS hl => ?_⟩
  have hcy : s.vm.findClass (FieldType.array .int).toString = some (cA 0) := (hK.2 0 (cA 0, .int) rfl).2
  have hP0 : va_P D mm_cl (mm_enc cA ρ Y M ++ va_pl [] (fun _ => .inl (cA 0, 0, .inl (fun _ => 0)))) H := by
    show va_P D mm_cl (mm_enc cA ρ Y M ++ []) H
    rw [List.append_nil]; exact hP
  have hD0 : va_D A (mm_enc cA ρ Y M ++ va_pl [] (fun _ => .inl (cA 0, 0, .inl (fun _ => 0)))) := by
    show va_D A (mm_enc cA ρ Y M ++ [])
    rw [List.append_nil]; exact hD
  refine va_mna (z := (0, .inl (fun _ => 0))) (ty := .int) (cy := cA 0) (N' := 4) (K' := 0) hx hb hown hcl h5.1 harr hcy hK hP0 hD0 hS hA (n := 4) (k := 0) (by decide) (by decide) (by decide) (by decide) (by decide) (by decide) (by decide) rfl rfl (by omega) (by omega) (fun c9 => rfl) hd (fun q rr cN H1 hinj hnl hK1 hP1 hD1 hS1 => ?_)
  have hcn : cN = cA 5 := by
    have a1 := (hK1.2 6 (cN, .array .int) rfl).2
    have a2 := (hK.2 5 (cA 5, .array .int) rfl).2
    exact Option.some.inj (Eq.trans (Eq.symm a1) a2)
  subst hcn
  refine W.cs (cells' := M.2.1 + 5 + oc - n0) (slots' := M.2.2.1 + 4 - z0) (by omega) (by omega) ?_
  have h0 := hw0.1
  have h16 : 16 ≤ M.2.1 := by omega
  obtain ⟨ρ', hρ⟩ : ∃ ρ' : Nat → Nat, ρ' = fun b => if b < M.2.1 then ρ b else if b = M.2.1 then q else rr (b - M.2.1 - 1) := ⟨_, rfl⟩
  have r1 : ∀ b, b < M.2.1 → ρ' b = ρ b := fun b hb => by rw [hρ]; exact if_pos hb
  have r2 : ρ' M.2.1 = q := by rw [hρ]; show (if _ then _ else _) = q; rw [if_neg (by omega), if_pos rfl]
  have r3 : ∀ i, ρ' (M.2.1 + 1 + i) = rr i := fun i => by
    rw [hρ]
    show (if _ then _ else _) = _
    rw [if_neg (by omega), if_neg (by omega)]
    congr 1
    omega
  have c1 : ∀ b, 16 ≤ b → b < M.2.1 → mm_cell cA ρ' Y (mm_mna M) b = mm_cell cA ρ Y M b := fun b b1 b2 => by
    obtain ⟨e1, e2, e3, e4⟩ := mm_mna_lo b2
    refine mm_cell_congr (by unfold mm_s; rw [e1]) e2 e3 (fun k => ?_)
    rw [mm_mna_lp b2]
    cases h : mm_p Y M b k with
    | none => rfl
    | some x => simp only [Option.map_some]; rw [r1 x (hw0.2 b k x b1 b2 h)]
  have c2 : mm_cell cA ρ' Y (mm_mna M) M.2.1 = .inl (cA 5, 4, .inr (.inr (.inr (.inr (fun i => if i < 4 then some (rr i) else none))))) := by
    rw [mm_cell_arr (a := M.2.1) (ty := 5) (n := 4) (by rw [(mm_sp_hi h0).1, mm_mna_s, if_neg (by omega), if_neg (by omega), if_neg (by omega), if_neg (by omega), if_pos rfl]), mm_ct5]
    congr 7
    funext k
    rw [(mm_sp_hi h0).2, mm_mna_p]
    by_cases hk : k < 4
    · rw [if_pos hk, if_pos hk, Option.map_some, r3]
    · rw [if_neg hk, if_neg hk]
      rfl
  have c3 : ∀ i, i < 4 → mm_cell cA ρ' Y (mm_mna M) (M.2.1 + 1 + i) = .inl (cA 0, 0, .inl (fun _ => 0)) := fun i hi => by
    rw [mm_cell_arr (a := M.2.1 + 1 + i) (ty := 0) (n := 0) (by
      rw [(mm_sp_hi (by omega)).1, mm_mna_s]
      (repeat' split) <;> first | rfl | (exfalso; omega)), mm_ct0, (mm_mna_in hi).1]
  have hx1 : mm_enc cA ρ' Y (mm_mna M) = mm_enc cA ρ Y M ++ [(q, .inl (cA 5, 4, .inr (.inr (.inr (.inr (fun i => if i < 4 then some (rr i) else none)))))), (rr 0, .inl (cA 0, 0, .inl (fun _ => 0))), (rr 1, .inl (cA 0, 0, .inl (fun _ => 0))), (rr 2, .inl (cA 0, 0, .inl (fun _ => 0))), (rr 3, .inl (cA 0, 0, .inl (fun _ => 0)))] := by
    have hold : (List.range (M.2.1 - 16)).map (fun j => (ρ' (16 + j), mm_cell cA ρ' Y (mm_mna M) (16 + j))) = mm_enc cA ρ Y M := by
      unfold mm_enc
      apply List.map_congr_left
      intro j hj
      have hj2 := List.mem_range.mp hj
      rw [r1 _ (by omega), c1 _ (by omega) (by omega)]
    rw [← hold]
    show (List.range (M.2.1 + 5 - 16)).map (fun j => (ρ' (16 + j), mm_cell cA ρ' Y (mm_mna M) (16 + j))) = _
    rw [show M.2.1 + 5 - 16 = (M.2.1 - 16) + 1 + 1 + 1 + 1 + 1 by omega, List.range_succ, List.range_succ, List.range_succ, List.range_succ, List.range_succ]
    simp only [List.map_append, List.map_cons, List.map_nil, List.append_assoc, List.cons_append, List.nil_append]
    rw [show 16 + (M.2.1 - 16) = M.2.1 by omega, show 16 + (M.2.1 - 16 + 1) = M.2.1 + 1 + 0 by omega, show 16 + (M.2.1 - 16 + 1 + 1) = M.2.1 + 1 + 1 by omega, show 16 + (M.2.1 - 16 + 1 + 1 + 1) = M.2.1 + 1 + 2 by omega, show 16 + (M.2.1 - 16 + 1 + 1 + 1 + 1) = M.2.1 + 1 + 3 by omega, r2, c2, r3, r3, r3, r3, c3 0 (by omega), c3 1 (by omega), c3 2 (by omega), c3 3 (by omega)]
  have hx2 : (mm_enc cA ρ Y M ++ [(q, .inl (cA 5, 4, .inr (.inr (.inr (.inr (fun i => if i < 4 then some (rr i) else none))))))]) ++ va_pl ([] ++ (List.range 4).map rr) (vr_up (fun _ => .inl (cA 0, 0, .inl (fun _ => 0))) ((List.range 4).map rr) (.inl (cA 0, 0, .inl (fun _ => 0)))) = mm_enc cA ρ' Y (mm_mna M) := by
    rw [hx1, List.append_assoc]
    congr 1
    unfold va_pl vr_up
    simp [List.range_succ]
  rw [hx2] at hP1 hD1
  have h3 := h2 ρ' H1 locs ls (fun b hb => by rw [r1 b (by omega)]; exact hr b hb) hP1 hD1 hS1 (mm_lc_le hl (by show _ ≤ _ + 5; omega) r1)
  rw [List.map_cons, mm_ks_tr (mm_ks_tail (mm_ks_tail hk0)) r1] at h3
  have e9 : mm_tr ρ' (.ref M.2.1) = .ref q := by show Value.ref _ = _; rw [r2]
  rw [e9] at h3
  exact h3
end GM5
end
section
/-- what a method leaves: its answer, the new world, the rest as it was -/
def mm_Qc (D : va_G) (cA : Nat → ClassId) (Y : mmY) (ρ : Nat → Nat) (M : mmM) (v : Option Value) (M' : mmM) (sz : Nat) : Array Value → State → Outcome → State → Prop := fun _ st oc t =>
  (∃ ρ' : Nat → Nat, (∀ b, b < M.2.1 → ρ' b = ρ b) ∧ oc = .returned (v.map (mm_tr ρ')) ∧ va_P D mm_cl (mm_enc cA ρ' Y M') t.heap ∧ va_K D mm_cl (mm_tysA cA) t ∧ va_D (va_A (mm_enc cA ρ Y M) sz) (mm_enc cA ρ' Y M')) ∧ va_F (va_A (mm_enc cA ρ Y M) sz) st t
/-- the world that a method finds -/
def mm_Wd (D : va_G) (cA : Nat → ClassId) (Y : mmY) (nest : List Cond) (ρ : Nat → Nat) (M : mmM) (sz : Nat) (U : State) : Prop :=
  U.heap.size = sz ∧ va_P D mm_cl (mm_enc cA ρ Y M) U.heap ∧ va_K D mm_cl (mm_tysA cA) U ∧ va_D (fun _ => True) (mm_enc cA ρ Y M) ∧ mm_cnT Y ρ (va_A (mm_enc cA ρ Y M) sz) U U.heap ∧ mm_cnZ ρ (va_A (mm_enc cA ρ Y M) sz) U U.heap ∧ mm_cnN nest U ∧ va_AO RX0 U ∧ mm_c5 cA U
def mm_isN (w : Cond) : Bool := match w with
  | .fieldLinkNest _ _ _ _ _ _ => true
  | .methodLinkNest _ _ _ _ => true
  | _ => false
theorem mm_nw {w : Cond} {s U : State} (h : mm_isN w = true) (hW : s.WarmedH U.vm) (hZ : va_Nw w s) : va_Nw w U := by
  unfold mm_isN at h
  split at h
  · exact va_Nw.warmF hW hZ
  · exact va_Nw.warmM hW hZ
  · cases h
theorem mm_nw_same {w : Cond} {s U : State} (h : mm_isN w = true) (e : s.vm = U.vm) (hZ : va_Nw w s) : va_Nw w U := by
  unfold mm_isN at h
  split at h
  · exact va_Nw.same rfl e hZ
  · exact va_Nw.same rfl e hZ
  · cases h
theorem mm_c5_moved {cA : Nat → ClassId} {u U : State} (hvm : u.vm.Alike U.vm) (h : mm_c5 cA u) : mm_c5 cA U := by
  obtain ⟨h0, kA, kI, h1, h2, h3, h4⟩ := h
  obtain ⟨kA', e1, e2⟩ := hvm.2.2 _ _ h1
  obtain ⟨kI', e3, -⟩ := hvm.2.2 _ _ h3
  exact ⟨va_AOA.moved hvm h0, kA', kI', e1, by rw [e2]; exact h2, e3, by rw [hvm.assignable]; exact h4⟩

section GC
variable {p : Program} {l : Launch} {e : Env} {R : Room} {s : State} {m : MethodId} {args : Array Value} {below : List Frame} {meth : Method} {c : Code} {Q : State → Prop} {D : va_G} {cA : Nat → ClassId} {Y : mmY} {A : Nat → Prop} {nL n0 z0 oc : Nat} {ρ0 : Nat → Nat} {Mf : mmM} {cc : ByteArray} {pc : Nat} {L : mmL} {K r : List Value} {M : mmM}
theorem gc_iret (hx : p.tables.exec = Jvm.exec) (hb : c.code = cc) {M0 : mmM} {x : Int32} {y : Int64} {a : Nat} (hA : A = va_A (mm_enc cA ρ0 Y M0) s.heap.size) (hM0 : M0.2.1 = n0) (hK : va_K D mm_cl (mm_tysA cA) s) (hlocks : meth.locks = false) (hr : meth.sig.returnType = some .int) (hd : decode cc pc = .ok (.ireturn, 1)) : mm_Gd p l e R s m args below meth c (MQ below (mm_Qc D cA Y ρ0 M0 (some (.int x)) M s.heap.size) args s (M.2.1 + oc - n0) (M.2.2.1 - z0) A) D cA Y A nL n0 z0 oc ρ0 M pc L [.int x] M := by
  intro hw0 hn0 hz0 hk0 hl0
  refine ⟨⟨hw0, Nat.le_refl _, Nat.le_refl _⟩, fun ρ H locs ls hr0 hP hD hS hl => ?_⟩
  exact W.iret (v := x) hx hb hr (fun t ht hW => ⟨⟨ρ, fun b hb1 => hr0 b (by omega), rfl, by rw [ht]; exact hP, va_K.moved hW.alike hK, by rw [← hA]; exact hD⟩, by rw [← hA]; exact hS.F ht⟩) hS.2.2 hd
theorem gc_zret (hx : p.tables.exec = Jvm.exec) (hb : c.code = cc) {M0 : mmM} {x : Int32} {y : Int64} {a : Nat} (hA : A = va_A (mm_enc cA ρ0 Y M0) s.heap.size) (hM0 : M0.2.1 = n0) (hK : va_K D mm_cl (mm_tysA cA) s) (hlocks : meth.locks = false) (hr : meth.sig.returnType = some .boolean) (h01 : x = 0 ∨ x = 1) (hd : decode cc pc = .ok (.ireturn, 1)) : mm_Gd p l e R s m args below meth c (MQ below (mm_Qc D cA Y ρ0 M0 (some (.int x)) M s.heap.size) args s (M.2.1 + oc - n0) (M.2.2.1 - z0) A) D cA Y A nL n0 z0 oc ρ0 M pc L [.int x] M := by
  intro hw0 hn0 hz0 hk0 hl0
  refine ⟨⟨hw0, Nat.le_refl _, Nat.le_refl _⟩, fun ρ H locs ls hr0 hP hD hS hl => ?_⟩
  exact W.zret (v := x) hx hb hr (by rcases h01 with rfl | rfl <;> rfl) (fun t ht hW => ⟨⟨ρ, fun b hb1 => hr0 b (by omega), rfl, by rw [ht]; exact hP, va_K.moved hW.alike hK, by rw [← hA]; exact hD⟩, by rw [← hA]; exact hS.F ht⟩) hS.2.2 hd
theorem gc_lret (hx : p.tables.exec = Jvm.exec) (hb : c.code = cc) {M0 : mmM} {x : Int32} {y : Int64} {a : Nat} (hA : A = va_A (mm_enc cA ρ0 Y M0) s.heap.size) (hM0 : M0.2.1 = n0) (hK : va_K D mm_cl (mm_tysA cA) s) (hlocks : meth.locks = false) (hr : meth.sig.returnType = some .long) (hd : decode cc pc = .ok (.lreturn, 1)) : mm_Gd p l e R s m args below meth c (MQ below (mm_Qc D cA Y ρ0 M0 (some (.long y)) M s.heap.size) args s (M.2.1 + oc - n0) (M.2.2.1 - z0) A) D cA Y A nL n0 z0 oc ρ0 M pc L [.long y] M := by
  intro hw0 hn0 hz0 hk0 hl0
  refine ⟨⟨hw0, Nat.le_refl _, Nat.le_refl _⟩, fun ρ H locs ls hr0 hP hD hS hl => ?_⟩
  exact W.lret (v := y) hx hb hr (fun t ht hW => ⟨⟨ρ, fun b hb1 => hr0 b (by omega), rfl, by rw [ht]; exact hP, va_K.moved hW.alike hK, by rw [← hA]; exact hD⟩, by rw [← hA]; exact hS.F ht⟩) hS.2.2 hd
theorem gc_vret (hx : p.tables.exec = Jvm.exec) (hb : c.code = cc) {M0 : mmM} {x : Int32} {y : Int64} {a : Nat} (hA : A = va_A (mm_enc cA ρ0 Y M0) s.heap.size) (hM0 : M0.2.1 = n0) (hK : va_K D mm_cl (mm_tysA cA) s) (hlocks : meth.locks = false) (hr : meth.sig.returnType = none) (hd : decode cc pc = .ok (.return_, 1)) : mm_Gd p l e R s m args below meth c (MQ below (mm_Qc D cA Y ρ0 M0 none M s.heap.size) args s (M.2.1 + oc - n0) (M.2.2.1 - z0) A) D cA Y A nL n0 z0 oc ρ0 M pc L [] M := by
  intro hw0 hn0 hz0 hk0 hl0
  refine ⟨⟨hw0, Nat.le_refl _, Nat.le_refl _⟩, fun ρ H locs ls hr0 hP hD hS hl => ?_⟩
  exact W.vret hx hb hr (fun t ht hW => ⟨⟨ρ, fun b hb1 => hr0 b (by omega), rfl, by rw [ht]; exact hP, va_K.moved hW.alike hK, by rw [← hA]; exact hD⟩, by rw [← hA]; exact hS.F ht⟩) hS.2.2 hd
theorem gc_aret (hx : p.tables.exec = Jvm.exec) (hb : c.code = cc) {M0 : mmM} {x : Int32} {y : Int64} {a : Nat} (hA : A = va_A (mm_enc cA ρ0 Y M0) s.heap.size) (hM0 : M0.2.1 = n0) (hK : va_K D mm_cl (mm_tysA cA) s) (hlocks : meth.locks = false) {rt : FieldType} (hr : meth.sig.returnType = some rt) (hrt : (∃ n, rt = .object n) ∨ ∃ t, rt = .array t) (hd : decode cc pc = .ok (.areturn, 1)) : mm_Gd p l e R s m args below meth c (MQ below (mm_Qc D cA Y ρ0 M0 (some (.ref a)) M s.heap.size) args s (M.2.1 + oc - n0) (M.2.2.1 - z0) A) D cA Y A nL n0 z0 oc ρ0 M pc L [.ref a] M := by
  intro hw0 hn0 hz0 hk0 hl0
  refine ⟨⟨hw0, Nat.le_refl _, Nat.le_refl _⟩, fun ρ H locs ls hr0 hP hD hS hl => ?_⟩
  exact W.aret (v := .ref (ρ a)) hx hb hr hrt (Or.inr ⟨_, rfl⟩) (fun t ht hW => ⟨⟨ρ, fun b hb1 => hr0 b (by omega), rfl, by rw [ht]; exact hP, va_K.moved hW.alike hK, by rw [← hA]; exact hD⟩, by rw [← hA]; exact hS.F ht⟩) hS.2.2 hd
theorem mm_sw_in {x : Int32} {d : Nat} {g : Nat → Option mmR} {res : mmR} : ∀ (w : List (Int32 × Nat)), mm_sw x d g w = some res → (∃ (j : Nat) (q : Int32 × Nat), w[j]? = some q ∧ x = q.1 ∧ (∀ (i : Nat) (p : Int32 × Nat), i < j → w[i]? = some p → x ≠ p.1) ∧ g q.2 = some res) ∨ ((∀ q ∈ w, x ≠ q.1) ∧ g d = some res)
  | [], h => Or.inr ⟨fun q hq => (List.not_mem_nil hq).elim, h⟩
  | q :: w, h => by
    change (if x = q.1 then g q.2 else mm_sw x d g w) = some res at h
    by_cases e : x = q.1
    · rw [if_pos e] at h
      exact Or.inl ⟨0, q, rfl, e, fun i p hi => by omega, h⟩
    · rw [if_neg e] at h
      rcases mm_sw_in w h with ⟨j, p, h1, h2, h3, h4⟩ | ⟨h1, h2⟩
      · refine Or.inl ⟨j + 1, p, h1, h2, fun i z hi hz => ?_, h4⟩
        cases i with
        | zero => cases hz; exact e
        | succ i => exact h3 i z (by omega) hz
      · refine Or.inr ⟨fun z hz => ?_, h2⟩
        rcases List.mem_cons.mp hz with rfl | hz
        · exact e
        · exact h1 z hz
/-- a table's keys and targets, one by one -/
def mm_tsw (pc : Nat) : Int → List Int → List (Int32 × Nat) → Bool
  | _, [], [] => true
  | lo, o :: os, q :: w => decide (q.1.toInt = lo) && (decide ((pc : Int) + o = (q.2 : Int)) && mm_tsw pc (lo + 1) os w)
  | _, _, _ => false
theorem mm_tsw_at {pc : Nat} : ∀ (lo : Int) (os : List Int) (w : List (Int32 × Nat)), mm_tsw pc lo os w = true → w.length = os.length ∧ ∀ (j : Nat) (q : Int32 × Nat), w[j]? = some q → q.1.toInt = lo + (j : Int) ∧ ∃ o : Int, os[j]? = some o ∧ (pc : Int) + o = (q.2 : Int)
  | lo, [], [], _ => ⟨rfl, fun j q h => by simp at h⟩
  | lo, o :: os, q :: w, h => by
    simp only [mm_tsw, Bool.and_eq_true, decide_eq_true_eq] at h
    obtain ⟨h1, h2, h3⟩ := h
    obtain ⟨e, ih⟩ := mm_tsw_at (lo + 1) os w h3
    refine ⟨by simp [e], fun j z hz => ?_⟩
    cases j with
    | zero => cases hz; exact ⟨by simpa using h1, o, rfl, h2⟩
    | succ j =>
      obtain ⟨a, b, c1, c2⟩ := ih j z hz
      exact ⟨by rw [a]; omega, b, c1, c2⟩
  | _, [], _ :: _, h => by cases h
  | _, _ :: _, [], h => by cases h
theorem gc_jump1 {x : Int32} {tgt : Nat} (hrow : ∀ (H : Heap) (locs : List Loc) (ls : Array Slot) (rest : List Value) (cells slots : Nat), W p l e R s m args below meth c H locs cells slots Q (F0 m tgt ls rest) → W p l e R s m args below meth c H locs cells slots Q (F0 m pc ls (.int x :: rest))) (kk : mm_Gd p l e R s m args below meth c Q D cA Y A nL n0 z0 oc ρ0 Mf tgt L r M) : mm_Gd p l e R s m args below meth c Q D cA Y A nL n0 z0 oc ρ0 Mf pc L (.int x :: r) M := by
  intro hw0 hn0 hz0 hk0 hl0
  obtain ⟨h1, h2⟩ := kk hw0 hn0 hz0 (mm_ks_tail hk0) hl0
  exact ⟨h1, fun ρ H locs ls hr hP hD hS hl => hrow _ _ _ _ _ _ (h2 ρ H locs ls hr hP hD hS hl)⟩
theorem gc_table (hx : p.tables.exec = Jvm.exec) (hb : c.code = cc) {x : Int32} {dflt lo hi : Int} {offs : Array Int} {len d : Nat} {w : List (Int32 × Nat)} {g : Nat → Option mmR} {res : mmR} (hd : decode cc pc = .ok (.tableswitch dflt lo hi offs, len)) (hdf : (pc : Int) + dflt = (d : Int)) (hw : mm_tsw pc lo offs.toList w = true) (hhi : hi + 1 = lo + offs.size) (h : mm_sw x d g w = some res) (kk : ∀ t, g t = some res → mm_Gd p l e R s m args below meth c Q D cA Y A nL n0 z0 oc ρ0 Mf t L r M) : mm_Gd p l e R s m args below meth c Q D cA Y A nL n0 z0 oc ρ0 Mf pc L (.int x :: r) M := by
  obtain ⟨hlen, hat⟩ := mm_tsw_at lo offs.toList w hw
  rcases mm_sw_in w h with ⟨j, q, h1, h2, -, h4⟩ | ⟨h1, h2⟩
  · obtain ⟨a, o, b1, b2⟩ := hat j q h1
    have hj : j < w.length := (List.getElem?_eq_some_iff.mp h1).1
    have hxi : x.toInt = lo + j := by rw [h2]; exact a
    have hsz : offs.toList.length = offs.size := Array.length_toList
    exact gc_jump1 (tgt := q.2) (fun H locs ls rest cells slots k => lv_tableIn hx hb hd (by omega) (by omega) (by rw [show (x.toInt - lo).toNat = j by omega]; rw [← Array.getElem?_toList]; exact b1) b2 k) (kk q.2 h4)
  · refine gc_jump1 (tgt := d) (fun H locs ls rest cells slots k => lv_tableOut hx hb hd ?_ hdf k) (kk d h2)
    by_cases h3 : x.toInt < lo
    · exact Or.inl h3
    · refine Or.inr ?_
      apply Int.lt_of_not_ge
      intro h5
      have hsz : offs.toList.length = offs.size := Array.length_toList
      have hj : (x.toInt - lo).toNat < w.length := by omega
      obtain ⟨q, hq⟩ : ∃ q, w[(x.toInt - lo).toNat]? = some q := ⟨_, List.getElem?_eq_getElem hj⟩
      have a := (hat _ q hq).1
      exact h1 q (List.mem_of_getElem? hq) (Int32.toInt_inj.mp (by rw [a]; omega))
theorem mm_lsw {pc : Nat} {d : Int} {x : Int32} : ∀ (w : List (Int32 × Nat)) (ps : List (Int × Int)), w.map (fun q => (q.1.toInt, (q.2 : Int) - pc)) = ps → (∀ (j : Nat) (q : Int32 × Nat), w[j]? = some q → x = q.1 → (∀ (i : Nat) (z : Int32 × Nat), i < j → w[i]? = some z → x ≠ z.1) → Op.lookupswitch.offset ps d x.toInt = (q.2 : Int) - pc) ∧ ((∀ q ∈ w, x ≠ q.1) → Op.lookupswitch.offset ps d x.toInt = d)
  | [], _, rfl => ⟨fun j q h => by simp at h, fun _ => rfl⟩
  | q :: w, _, rfl => by
    obtain ⟨i1, i2⟩ := mm_lsw (d := d) (x := x) w _ rfl
    refine ⟨fun j z hz hx hall => ?_, fun hall => ?_⟩
    · cases j with
      | zero =>
        cases hz
        rw [List.map_cons, Op.lookupswitch.offset_cons, if_pos (by rw [hx])]
      | succ j =>
        rw [List.map_cons, lv_osw (k := q.1) (hall 0 q (by omega) rfl) rfl]
        exact i1 j z hz hx (fun i y hi hy => hall (i + 1) y (by omega) hy)
    · rw [List.map_cons, lv_osw (k := q.1) (hall q List.mem_cons_self) rfl]
      exact i2 (fun z hz => hall z (List.mem_cons_of_mem _ hz))
theorem gc_lookup (hx : p.tables.exec = Jvm.exec) (hb : c.code = cc) {x : Int32} {dflt : Int} {ps : Array (Int × Int)} {len d : Nat} {w : List (Int32 × Nat)} {g : Nat → Option mmR} {res : mmR} (hd : decode cc pc = .ok (.lookupswitch dflt ps, len)) (hdf : (pc : Int) + dflt = (d : Int)) (hp : (ps.toList.zip (ps.toList.drop 1)).all (fun (a, next) => a.1 < next.1) = true) (hw : w.map (fun q => (q.1.toInt, (q.2 : Int) - pc)) = ps.toList) (h : mm_sw x d g w = some res) (kk : ∀ t, g t = some res → mm_Gd p l e R s m args below meth c Q D cA Y A nL n0 z0 oc ρ0 Mf t L r M) : mm_Gd p l e R s m args below meth c Q D cA Y A nL n0 z0 oc ρ0 Mf pc L (.int x :: r) M := by
  obtain ⟨a1, a2⟩ := mm_lsw (d := dflt) (x := x) w _ hw
  rcases mm_sw_in w h with ⟨j, q, h1, h2, h3, h4⟩ | ⟨h1, h2⟩
  · exact gc_jump1 (tgt := q.2) (fun H locs ls rest cells slots k => lv_lookup hx hb hd hp (a1 j q h1 h2 h3) (by omega) k) (kk q.2 h4)
  · exact gc_jump1 (tgt := d) (fun H locs ls rest cells slots k => lv_lookup hx hb hd hp (a2 h1) hdf k) (kk d h2)

end GC
end
section
theorem mm_pop_eq : ∀ (n : Nat) (K acc as rest : List Value), mm_pop n K acc = some (as, rest) → ∃ bs : List Value, as = bs ++ acc ∧ K = bs.reverse ++ rest ∧ bs.length = n
  | 0, K, acc, as, rest, h => by
    cases h
    exact ⟨[], rfl, rfl, rfl⟩
  | n + 1, [], acc, as, rest, h => by cases h
  | n + 1, v :: K, acc, as, rest, h => by
    change mm_pop n K (v :: acc) = _ at h
    obtain ⟨bs, h1, h2, h3⟩ := mm_pop_eq n K (v :: acc) as rest h
    refine ⟨bs ++ [v], by rw [h1]; simp, ?_, by simp [h3]⟩
    rw [h2]
    simp
theorem mm_cat_tr (ρ : Nat → Nat) (K : List Value) : (((K.map (mm_tr ρ)).map fun v => v.category).sum) = mm_cat K := by
  unfold mm_cat
  rw [List.map_map]
  congr 1
  apply List.map_congr_left
  intro v _
  cases v <;> rfl
section GQ
variable {p : Program} {l : Launch} {e : Env} {R : Room} {s : State} {m : MethodId} {args : Array Value} {below : List Frame} {meth : Method} {c : Code} {Q : State → Prop} {D : va_G} {cA : Nat → ClassId} {Y : mmY} {A : Nat → Prop} {nL n0 z0 oc : Nat} {ρ0 : Nat → Nat} {Mf : mmM} {cc : ByteArray} {pc : Nat} {L : mmL} {K r : List Value} {M : mmM}
variable {nest : List Cond} {M' : mmM} {v : Option Value} {rest K0 : List Value} {aa : Array Value}
/-- the world for a callee -/
theorem gq_wd {ρ : Nat → Nat} {H : Heap} {locs : List Loc} (hnest : ∀ w ∈ nest, mm_isN w = true) (h16n : 16 ≤ n0) (hA : ∀ q, s.heap.size ≤ q → A q) (hK : va_K D mm_cl (mm_tysA cA) s) (hT : mm_cnT Y ρ0 A s s.heap) (hZ : mm_cnZ ρ0 A s s.heap) (hN : mm_cnN nest s) (hO : va_AO RX0 s) (h5 : mm_c5 cA s)
    (hr : ∀ b, b < n0 → ρ b = ρ0 b) (hP : va_P D mm_cl (mm_enc cA ρ Y M) H) (hD : va_D A (mm_enc cA ρ Y M)) (hS : va_S A s.heap H locs) (U : State) (hU : U.heap = H) (hW : s.WarmedH U.vm) : mm_Wd D cA Y nest ρ M H.size U := by
  have hsub : ∀ q, va_A (mm_enc cA ρ Y M) H.size q → A q := by
    rintro q (⟨k, e9, hk⟩ | h)
    · exact hD.2 k _ hk
    · exact hA q (Nat.le_trans hS.1 h)
  refine ⟨by rw [hU], by rw [hU]; exact hP, va_K.moved hW.alike hK, hD.weaken (fun _ _ _ _ => trivial), ?_, ?_, fun w hw => mm_nw (hnest w hw) hW (hN w hw), va_AO.moved hW.alike hO, mm_c5_moved hW.alike h5⟩
  · intro t ty len ht hy
    rw [hU, hr t (by omega)]
    exact (((hT t ty len ht hy).kept (fun a h1 h2 => hS.2.1 a h1 h2)).narrow hsub).moved hW.alike
  · intro t q hq
    have ht : t < 9 := (List.getElem?_eq_some_iff.mp hq).1
    rw [hU, hr t (by omega)]
    exact (((hZ t q hq).kept (fun a h1 h2 => hS.2.1 a h1 h2)).narrow hsub).moved hW.alike
theorem gq_blind {ρ : Nat → Nat} {sz : Nat} {av : List Value} (hnest : ∀ w ∈ nest, mm_isN w = true) : FrameBlind (va_Pc av (mm_Wd D cA Y nest ρ M sz)) := by
  intro a U g mk h
  obtain ⟨q0, q1, qP, qK, qD, qT, qZ, qN, qO, q5⟩ := h
  refine ⟨q0, q1, qP, va_K.moved (u := U) (U := U.calling g mk a) (Vm.Alike.refl U.vm) qK, qD, ?_, ?_, ?_, va_AO.moved (u := U) (U := U.calling g mk a) (Vm.Alike.refl U.vm) qO, mm_c5_moved (u := U) (U := U.calling g mk a) (Vm.Alike.refl U.vm) q5⟩
  · intro t ty len ht hy
    exact (qT t ty len ht hy).moved (u := U) (U := U.calling g mk a) (Vm.Alike.refl U.vm)
  · intro t q hq
    exact (qZ t q hq).moved (u := U) (U := U.calling g mk a) (Vm.Alike.refl U.vm)
  · intro w hw
    exact mm_nw_same (s := U) (U := U.calling g mk a) (hnest w hw) rfl (qN w hw)
/-- a call that comes back, by whichever instruction -/
theorem gq_core (h16n : 16 ≤ n0) (hA : ∀ q, s.heap.size ≤ q → A q) (hRc : Mf.2.1 + oc - n0 ≤ R.cells) (hRs : Mf.2.2.1 - z0 ≤ R.slots) (hm1 : M.2.1 ≤ M'.2.1) (hm2 : M.2.2.1 ≤ M'.2.2.1) (hw1 : mm_wf Y M') (hv : ∀ x, v = some x → mm_okv M'.2.1 x) (hrest : ∀ x ∈ rest, x ∈ K0)
    (hrun : mm_ks M.2.1 K0 → ∀ (ρ : Nat → Nat) (H : Heap) (locs : List Loc) (ls : Array Slot), (∀ b, b < n0 → ρ b = ρ0 b) → va_P D mm_cl (mm_enc cA ρ Y M) H → va_D A (mm_enc cA ρ Y M) → va_S A s.heap H locs → mm_lc ρ M.2.1 L ls nL → M.2.1 + oc - n0 + (M'.2.1 - M.2.1) ≤ R.cells ∧ M.2.2.1 - z0 + (M'.2.2.1 - M.2.2.1) ≤ R.slots →
      va_Run p l e R s m args below meth c H locs (M.2.1 + oc - n0) (M.2.2.1 - z0) (M'.2.1 - M.2.1) (M'.2.2.1 - M.2.2.1) (F0 m pc ls (K0.map (mm_tr ρ))) (rest.map (mm_tr ρ)) (mm_Qc D cA Y ρ M v M' H.size aa) (va_A (mm_enc cA ρ Y M) H.size))
    (kk : mm_Gd p l e R s m args below meth c Q D cA Y A nL n0 z0 oc ρ0 Mf (pc + 3) L (v.toList ++ rest) M') : mm_Gd p l e R s m args below meth c Q D cA Y A nL n0 z0 oc ρ0 Mf pc L K0 M := by
  intro hw0 hn0 hz0 hk0 hl0
  have hkr : mm_ks M.2.1 rest := fun x hx1 => hk0 x (hrest x hx1)
  have hkv : mm_ks M'.2.1 (v.toList ++ rest) := by
    intro x hx1
    rcases List.mem_append.mp hx1 with h | h
    · exact hv x (by cases v with | none => cases h | some y => simp at h; rw [h])
    · exact mm_okv_le (hkr x h) hm1
  obtain ⟨h1, h2⟩ := kk hw1 (Nat.le_trans hn0 hm1) (Nat.le_trans hz0 hm2) hkv (fun i x hx1 => mm_okv_le (hl0 i x hx1) hm1)
  refine ⟨⟨h1.1, Nat.le_trans hm1 h1.2.1, Nat.le_trans hm2 h1.2.2⟩, fun ρ H locs ls hr hP hD hS hl => ?_⟩
  have t1 := h1.2.1
  have t2 := h1.2.2
  intro T hT X
  obtain ⟨v9, st₀, t, T', L9, h0, X', hL, e1, e2, ⟨⟨ρ', hρ, hv9, hP', hK', hD'⟩, hz, hk⟩, st⟩ := hrun hk0 ρ H locs ls hr hP hD hS hl ⟨by omega, by omega⟩ T hT X
  cases hv9
  rw [h0] at hz hk
  have hsub : ∀ q, va_A (mm_enc cA ρ Y M) H.size q → A q := by
    rintro q (⟨k, e9, hk9⟩ | h)
    · exact hD.2 k _ hk9
    · exact hA q (Nat.le_trans hS.1 h)
  have h3 := h2 ρ' T'.heap (locs ++ L9) ls (fun b hb9 => by rw [hρ b (by omega)]; exact hr b hb9) (by rw [e1]; exact hP') (hD'.weaken (fun _ q _ h => hsub q.1 h))
    ⟨Nat.le_trans hS.1 (by rw [e1]; exact hz), fun q a1 a2 => by rw [e1, hk q (Nat.lt_of_lt_of_le a1 hS.1) (fun z => a2 (hsub q z))]; exact hS.2.1 q a1 a2, fun q hq => by
      rcases List.mem_append.mp hq with h | h
      · exact hS.2.2 q h
      · exact hsub _ (hL q h)⟩ (mm_lc_le hl hm1 hρ)
  have hst : (v.toList ++ rest).map (mm_tr ρ') = (v.map (mm_tr ρ')).toList ++ rest.map (mm_tr ρ) := by
    rw [List.map_append, mm_ks_tr hkr hρ]
    cases v <;> rfl
  rw [hst] at h3
  have h4 := W.cs (cells := M.2.1 + oc - n0 + (M'.2.1 - M.2.1)) (slots := M.2.2.1 - z0 + (M'.2.2.1 - M.2.2.1)) (by omega) (by omega) h3
  obtain ⟨t9, a1, b1⟩ := h4 T' rfl X'
  exact ⟨t9, st t9 a1, b1⟩

theorem gq_V (hx : p.tables.exec = Jvm.exec) (hb : c.code = cc) (hnest : ∀ w ∈ nest, mm_isN w = true) (h16n : 16 ≤ n0) (hA : ∀ q, s.heap.size ≤ q → A q) (hK : va_K D mm_cl (mm_tysA cA) s) (hT : mm_cnT Y ρ0 A s s.heap) (hZ : mm_cnZ ρ0 A s s.heap) (hN : mm_cnN nest s) (hO : va_AO RX0 s) (h5 : mm_c5 cA s) (hRc : Mf.2.1 + oc - n0 ≤ R.cells) (hRs : Mf.2.2.1 - z0 ≤ R.slots) (hm1 : M.2.1 ≤ M'.2.1) (hm2 : M.2.2.1 ≤ M'.2.2.1) (hw1 : mm_wf Y M') (hv : ∀ x, v = some x → mm_okv M'.2.1 x) {Ts ws ws' : List Cond} {own C : String} {index n maxL : Nat} {y : MethodName} {bytes : ByteArray} {ret : Option FieldType} {rm : Room} (hml : c.maxLocals = nL) (hown : s.vm.findClass own = some m.cls) (hts : ∀ w ∈ Ts, w.before args s = true) {as : List Value} {o ci : Nat} {q : vw_C} (hM : ∀ (ρ : Nat → Nat) (sz : Nat), Met l y ws rm (va_Pc ((.ref o :: as).map (mm_tr ρ)) (mm_Wd D cA Y nest ρ M sz)) (mm_Qc D cA Y ρ M v M' sz) (M'.2.1 - M.2.1) (M'.2.2.1 - M.2.2.1) (va_A (mm_enc cA ρ Y M) sz)) (hw : ws = Cond.code y bytes maxL ret :: ws') (hrc : rm.cells = M'.2.1 - M.2.1) (hrs : rm.slots = M'.2.2.1 - M.2.2.1) (hR : rm.frames + 1 ≤ R.frames ∧ 8 + (maxL + 11) + rm.locals ≤ R.locals) (hcat : mm_cat rest ≤ 8) (hG : GoodIn Ts (wsV own index C y ws)) (hdd : y.cls = C ∧ y.cls ≠ "java/lang/invoke/MethodHandle" ∧ y.cls ≠ "java/lang/invoke/VarHandle" ∧ (parseMethodDescriptor y.desc).map (fun d => d.parameters.length) = some n) (hc : mm_cl[ci]? = some q) (hqC : q.1 = C) (ho : mm_s Y M o = .inl ci) (hY : mm_wfY Y) (hlen : as.length = n) (hd : decode cc pc = .ok (.invokevirtual index, 3)) (kk : mm_Gd p l e R s m args below meth c Q D cA Y A nL n0 z0 oc ρ0 Mf (pc + 3) L (v.toList ++ rest) M') : mm_Gd p l e R s m args below meth c Q D cA Y A nL n0 z0 oc ρ0 Mf pc L (as.reverse ++ .ref o :: rest) M := by
  refine gq_core (K0 := (as.reverse ++ .ref o :: rest)) (aa := #[]) h16n hA hRc hRs hm1 hm2 hw1 hv (fun x hx1 => List.mem_append_right _ (List.mem_cons_of_mem _ hx1)) (fun hk0 ρ H locs ls hr hP hD hS hl hf => ?_) kk
  have hon : o < M.2.1 := hk0 (.ref o) (List.mem_append_right _ List.mem_cons_self)
  have h16 : 16 ≤ o := mm_s_lt hY ho hc
  have he := mm_enc_at (cA := cA) (ρ := ρ) (Y := Y) h16 hon
  rw [mm_cell_obj ho] at he
  have hrec := va_recv hK hP hc he
  rw [hqC] at hrec
  have hst : (as.reverse ++ .ref o :: rest).map (mm_tr ρ) = (as.map (mm_tr ρ)).reverse ++ .ref (ρ o) :: rest.map (mm_tr ρ) := by
    rw [List.map_append, List.map_reverse]; rfl
  have hWd := gq_wd (M := M) (nest := nest) hnest h16n hA hK hT hZ hN hO h5 hr hP hD hS
  have hroom : 2 * (F0 m pc ls ((as.map (mm_tr ρ)).reverse ++ .ref (ρ o) :: rest.map (mm_tr ρ))).monitorRoom + ((rest.map (mm_tr ρ)).map fun v => v.category).sum ≤ 8 := lv_room (rest := ((as.map (mm_tr ρ)).reverse ++ .ref (ρ o) :: rest.map (mm_tr ρ))) (m := m) (pc := pc) (ls := ls) (by rw [mm_cat_tr]; exact hcat)
  rw [hst]
  exact va_runV (As := as.map (mm_tr ρ)) (rest := rest.map (mm_tr ρ)) ⟨hx, hb, hml, hown, hts⟩ (hM ρ H.size) (cwV n hts hG hw hrc hrs hdd hR) ⟨gq_blind hnest, hrec, fun U hU hW => ⟨rfl, hWd U hU hW⟩⟩ (g := F0 m pc ls ((as.map (mm_tr ρ)).reverse ++ .ref (ρ o) :: rest.map (mm_tr ρ))) rfl (by rw [List.length_map]; exact hlen) hl.1 rfl hroom hd hf
theorem gq_VN (hx : p.tables.exec = Jvm.exec) (hb : c.code = cc) (hnest : ∀ w ∈ nest, mm_isN w = true) (h16n : 16 ≤ n0) (hA : ∀ q, s.heap.size ≤ q → A q) (hK : va_K D mm_cl (mm_tysA cA) s) (hT : mm_cnT Y ρ0 A s s.heap) (hZ : mm_cnZ ρ0 A s s.heap) (hN : mm_cnN nest s) (hO : va_AO RX0 s) (h5 : mm_c5 cA s) (hRc : Mf.2.1 + oc - n0 ≤ R.cells) (hRs : Mf.2.2.1 - z0 ≤ R.slots) (hm1 : M.2.1 ≤ M'.2.1) (hm2 : M.2.2.1 ≤ M'.2.2.1) (hw1 : mm_wf Y M') (hv : ∀ x, v = some x → mm_okv M'.2.1 x) {Ts ws ws' : List Cond} {own C : String} {index n maxL : Nat} {y : MethodName} {bytes : ByteArray} {ret : Option FieldType} {rm : Room} (hml : c.maxLocals = nL) (hown : s.vm.findClass own = some m.cls) (hts : ∀ w ∈ Ts, w.before args s = true) {as : List Value} {o ci : Nat} {q : vw_C} (hM : ∀ (ρ : Nat → Nat) (sz : Nat), Met l y ws rm (va_Pc ((.ref o :: as).map (mm_tr ρ)) (mm_Wd D cA Y nest ρ M sz)) (mm_Qc D cA Y ρ M v M' sz) (M'.2.1 - M.2.1) (M'.2.2.1 - M.2.2.1) (va_A (mm_enc cA ρ Y M) sz)) (hw : ws = Cond.code y bytes maxL ret :: ws') (hrc : rm.cells = M'.2.1 - M.2.1) (hrs : rm.slots = M'.2.2.1 - M.2.2.1) (hR : rm.frames + 1 ≤ R.frames ∧ 8 + (maxL + 11) + rm.locals ≤ R.locals) (hcat : mm_cat rest ≤ 8) {host : String} (hG : GoodIn Ts ws) (hNl : va_Nw (.methodLinkNest own index y host) s) (hini : (Cond.initialized y.cls).before args s = true) (hi1 : (Cond.instanceMethod y).before args s = true) (hi2 : (Cond.selects C y y).before args s = true) (hdd : y.cls ≠ "java/lang/invoke/MethodHandle" ∧ y.cls ≠ "java/lang/invoke/VarHandle" ∧ (parseMethodDescriptor y.desc).map (fun d => d.parameters.length) = some n) (hc : mm_cl[ci]? = some q) (hqC : q.1 = C) (ho : mm_s Y M o = .inl ci) (hY : mm_wfY Y) (hlen : as.length = n) (hd : decode cc pc = .ok (.invokevirtual index, 3)) (kk : mm_Gd p l e R s m args below meth c Q D cA Y A nL n0 z0 oc ρ0 Mf (pc + 3) L (v.toList ++ rest) M') : mm_Gd p l e R s m args below meth c Q D cA Y A nL n0 z0 oc ρ0 Mf pc L (as.reverse ++ .ref o :: rest) M := by
  refine gq_core (K0 := (as.reverse ++ .ref o :: rest)) (aa := #[]) h16n hA hRc hRs hm1 hm2 hw1 hv (fun x hx1 => List.mem_append_right _ (List.mem_cons_of_mem _ hx1)) (fun hk0 ρ H locs ls hr hP hD hS hl hf => ?_) kk
  have hon : o < M.2.1 := hk0 (.ref o) (List.mem_append_right _ List.mem_cons_self)
  have h16 : 16 ≤ o := mm_s_lt hY ho hc
  have he := mm_enc_at (cA := cA) (ρ := ρ) (Y := Y) h16 hon
  rw [mm_cell_obj ho] at he
  have hrec := va_recv hK hP hc he
  rw [hqC] at hrec
  have hst : (as.reverse ++ .ref o :: rest).map (mm_tr ρ) = (as.map (mm_tr ρ)).reverse ++ .ref (ρ o) :: rest.map (mm_tr ρ) := by
    rw [List.map_append, List.map_reverse]; rfl
  have hWd := gq_wd (M := M) (nest := nest) hnest h16n hA hK hT hZ hN hO h5 hr hP hD hS
  have hroom : 2 * (F0 m pc ls ((as.map (mm_tr ρ)).reverse ++ .ref (ρ o) :: rest.map (mm_tr ρ))).monitorRoom + ((rest.map (mm_tr ρ)).map fun v => v.category).sum ≤ 8 := lv_room (rest := ((as.map (mm_tr ρ)).reverse ++ .ref (ρ o) :: rest.map (mm_tr ρ))) (m := m) (pc := pc) (ls := ls) (by rw [mm_cat_tr]; exact hcat)
  rw [hst]
  exact va_runVN (As := as.map (mm_tr ρ)) (rest := rest.map (mm_tr ρ)) ⟨hx, hb, hml, hown, hts⟩ (hM ρ H.size) ⟨va_cnB n hts hG hw hrc hrs hNl hini hdd hR, hi1, hi2⟩ ⟨gq_blind hnest, hrec, fun U hU hW => ⟨rfl, hWd U hU hW⟩⟩ (g := F0 m pc ls ((as.map (mm_tr ρ)).reverse ++ .ref (ρ o) :: rest.map (mm_tr ρ))) rfl (by rw [List.length_map]; exact hlen) hl.1 rfl hroom hd hf
theorem gq_S (hx : p.tables.exec = Jvm.exec) (hb : c.code = cc) (hnest : ∀ w ∈ nest, mm_isN w = true) (h16n : 16 ≤ n0) (hA : ∀ q, s.heap.size ≤ q → A q) (hK : va_K D mm_cl (mm_tysA cA) s) (hT : mm_cnT Y ρ0 A s s.heap) (hZ : mm_cnZ ρ0 A s s.heap) (hN : mm_cnN nest s) (hO : va_AO RX0 s) (h5 : mm_c5 cA s) (hRc : Mf.2.1 + oc - n0 ≤ R.cells) (hRs : Mf.2.2.1 - z0 ≤ R.slots) (hm1 : M.2.1 ≤ M'.2.1) (hm2 : M.2.2.1 ≤ M'.2.2.1) (hw1 : mm_wf Y M') (hv : ∀ x, v = some x → mm_okv M'.2.1 x) {Ts ws ws' : List Cond} {own C : String} {index n maxL : Nat} {y : MethodName} {bytes : ByteArray} {ret : Option FieldType} {rm : Room} (hml : c.maxLocals = nL) (hown : s.vm.findClass own = some m.cls) (hts : ∀ w ∈ Ts, w.before args s = true) {as : List Value}  (hM : ∀ (ρ : Nat → Nat) (sz : Nat), Met l y ws rm (va_Pc (as.map (mm_tr ρ)) (mm_Wd D cA Y nest ρ M sz)) (mm_Qc D cA Y ρ M v M' sz) (M'.2.1 - M.2.1) (M'.2.2.1 - M.2.2.1) (va_A (mm_enc cA ρ Y M) sz)) (hw : ws = Cond.code y bytes maxL ret :: ws') (hrc : rm.cells = M'.2.1 - M.2.1) (hrs : rm.slots = M'.2.2.1 - M.2.2.1) (hR : rm.frames + 1 ≤ R.frames ∧ 8 + (maxL + 11) + rm.locals ≤ R.locals) (hcat : mm_cat rest ≤ 8) (hG : GoodIn Ts (va_wsS own index y ws)) (hdd : y.cls ≠ "java/lang/invoke/MethodHandle" ∧ y.cls ≠ "java/lang/invoke/VarHandle" ∧ (parseMethodDescriptor y.desc).map (fun d => d.parameters.length) = some n)  (hlen : as.length = n) (hd : decode cc pc = .ok (.invokestatic index, 3)) (kk : mm_Gd p l e R s m args below meth c Q D cA Y A nL n0 z0 oc ρ0 Mf (pc + 3) L (v.toList ++ rest) M') : mm_Gd p l e R s m args below meth c Q D cA Y A nL n0 z0 oc ρ0 Mf pc L (as.reverse ++ rest) M := by
  refine gq_core (K0 := (as.reverse ++ rest)) (aa := #[]) h16n hA hRc hRs hm1 hm2 hw1 hv (fun x hx1 => List.mem_append_right _ hx1) (fun hk0 ρ H locs ls hr hP hD hS hl hf => ?_) kk
  have hst : (as.reverse ++ rest).map (mm_tr ρ) = (as.map (mm_tr ρ)).reverse ++ rest.map (mm_tr ρ) := by
    rw [List.map_append, List.map_reverse]
  have hWd := gq_wd (M := M) (nest := nest) hnest h16n hA hK hT hZ hN hO h5 hr hP hD hS
  have hroom : 2 * (F0 m pc ls ((as.map (mm_tr ρ)).reverse ++ rest.map (mm_tr ρ))).monitorRoom + ((rest.map (mm_tr ρ)).map fun v => v.category).sum ≤ 8 := lv_room (rest := ((as.map (mm_tr ρ)).reverse ++ rest.map (mm_tr ρ))) (m := m) (pc := pc) (ls := ls) (by rw [mm_cat_tr]; exact hcat)
  rw [hst]
  exact va_runS (As := as.map (mm_tr ρ)) (rest := rest.map (mm_tr ρ)) ⟨hx, hb, hml, hown, hts⟩ (hM ρ H.size) (va_cwS n hts hG hw hrc hrs hdd hR) ⟨gq_blind hnest, fun U hU hW => ⟨rfl, hWd U hU hW⟩⟩ (g := F0 m pc ls ((as.map (mm_tr ρ)).reverse ++ rest.map (mm_tr ρ))) rfl (by rw [List.length_map]; exact hlen) hl.1 rfl hroom hd hf
theorem gq_SN (hx : p.tables.exec = Jvm.exec) (hb : c.code = cc) (hnest : ∀ w ∈ nest, mm_isN w = true) (h16n : 16 ≤ n0) (hA : ∀ q, s.heap.size ≤ q → A q) (hK : va_K D mm_cl (mm_tysA cA) s) (hT : mm_cnT Y ρ0 A s s.heap) (hZ : mm_cnZ ρ0 A s s.heap) (hN : mm_cnN nest s) (hO : va_AO RX0 s) (h5 : mm_c5 cA s) (hRc : Mf.2.1 + oc - n0 ≤ R.cells) (hRs : Mf.2.2.1 - z0 ≤ R.slots) (hm1 : M.2.1 ≤ M'.2.1) (hm2 : M.2.2.1 ≤ M'.2.2.1) (hw1 : mm_wf Y M') (hv : ∀ x, v = some x → mm_okv M'.2.1 x) {Ts ws ws' : List Cond} {own C : String} {index n maxL : Nat} {y : MethodName} {bytes : ByteArray} {ret : Option FieldType} {rm : Room} (hml : c.maxLocals = nL) (hown : s.vm.findClass own = some m.cls) (hts : ∀ w ∈ Ts, w.before args s = true) {as : List Value}  (hM : ∀ (ρ : Nat → Nat) (sz : Nat), Met l y ws rm (va_Pc (as.map (mm_tr ρ)) (mm_Wd D cA Y nest ρ M sz)) (mm_Qc D cA Y ρ M v M' sz) (M'.2.1 - M.2.1) (M'.2.2.1 - M.2.2.1) (va_A (mm_enc cA ρ Y M) sz)) (hw : ws = Cond.code y bytes maxL ret :: ws') (hrc : rm.cells = M'.2.1 - M.2.1) (hrs : rm.slots = M'.2.2.1 - M.2.2.1) (hR : rm.frames + 1 ≤ R.frames ∧ 8 + (maxL + 11) + rm.locals ≤ R.locals) (hcat : mm_cat rest ≤ 8) {host : String} (hG : GoodIn Ts ws) (hNl : va_Nw (.methodLinkNest own index y host) s) (hini : (Cond.initialized y.cls).before args s = true) (hi1 : (Cond.static y).before args s = true) (hdd : y.cls ≠ "java/lang/invoke/MethodHandle" ∧ y.cls ≠ "java/lang/invoke/VarHandle" ∧ (parseMethodDescriptor y.desc).map (fun d => d.parameters.length) = some n)  (hlen : as.length = n) (hd : decode cc pc = .ok (.invokestatic index, 3)) (kk : mm_Gd p l e R s m args below meth c Q D cA Y A nL n0 z0 oc ρ0 Mf (pc + 3) L (v.toList ++ rest) M') : mm_Gd p l e R s m args below meth c Q D cA Y A nL n0 z0 oc ρ0 Mf pc L (as.reverse ++ rest) M := by
  refine gq_core (K0 := (as.reverse ++ rest)) (aa := #[]) h16n hA hRc hRs hm1 hm2 hw1 hv (fun x hx1 => List.mem_append_right _ hx1) (fun hk0 ρ H locs ls hr hP hD hS hl hf => ?_) kk
  have hst : (as.reverse ++ rest).map (mm_tr ρ) = (as.map (mm_tr ρ)).reverse ++ rest.map (mm_tr ρ) := by
    rw [List.map_append, List.map_reverse]
  have hWd := gq_wd (M := M) (nest := nest) hnest h16n hA hK hT hZ hN hO h5 hr hP hD hS
  have hroom : 2 * (F0 m pc ls ((as.map (mm_tr ρ)).reverse ++ rest.map (mm_tr ρ))).monitorRoom + ((rest.map (mm_tr ρ)).map fun v => v.category).sum ≤ 8 := lv_room (rest := ((as.map (mm_tr ρ)).reverse ++ rest.map (mm_tr ρ))) (m := m) (pc := pc) (ls := ls) (by rw [mm_cat_tr]; exact hcat)
  rw [hst]
  exact va_runSN (As := as.map (mm_tr ρ)) (rest := rest.map (mm_tr ρ)) ⟨hx, hb, hml, hown, hts⟩ (hM ρ H.size) ⟨va_cnB n hts hG hw hrc hrs hNl hini hdd hR, hi1, trivial⟩ ⟨gq_blind hnest, fun U hU hW => ⟨rfl, hWd U hU hW⟩⟩ (g := F0 m pc ls ((as.map (mm_tr ρ)).reverse ++ rest.map (mm_tr ρ))) rfl (by rw [List.length_map]; exact hlen) hl.1 rfl hroom hd hf
theorem gq_I (hx : p.tables.exec = Jvm.exec) (hb : c.code = cc) (hnest : ∀ w ∈ nest, mm_isN w = true) (h16n : 16 ≤ n0) (hA : ∀ q, s.heap.size ≤ q → A q) (hK : va_K D mm_cl (mm_tysA cA) s) (hT : mm_cnT Y ρ0 A s s.heap) (hZ : mm_cnZ ρ0 A s s.heap) (hN : mm_cnN nest s) (hO : va_AO RX0 s) (h5 : mm_c5 cA s) (hRc : Mf.2.1 + oc - n0 ≤ R.cells) (hRs : Mf.2.2.1 - z0 ≤ R.slots) (hm1 : M.2.1 ≤ M'.2.1) (hm2 : M.2.2.1 ≤ M'.2.2.1) (hw1 : mm_wf Y M') (hv : ∀ x, v = some x → mm_okv M'.2.1 x) {Ts ws ws' : List Cond} {own C : String} {index n maxL : Nat} {y : MethodName} {bytes : ByteArray} {ret : Option FieldType} {rm : Room} (hml : c.maxLocals = nL) (hown : s.vm.findClass own = some m.cls) (hts : ∀ w ∈ Ts, w.before args s = true) {as : List Value} {o ci : Nat} {q : vw_C} (hM : ∀ (ρ : Nat → Nat) (sz : Nat), Met l y ws rm (va_Pc ((.ref o :: as).map (mm_tr ρ)) (mm_Wd D cA Y nest ρ M sz)) (mm_Qc D cA Y ρ M v M' sz) (M'.2.1 - M.2.1) (M'.2.2.1 - M.2.2.1) (va_A (mm_enc cA ρ Y M) sz)) (hw : ws = Cond.code y bytes maxL ret :: ws') (hrc : rm.cells = M'.2.1 - M.2.1) (hrs : rm.slots = M'.2.2.1 - M.2.2.1) (hR : rm.frames + 1 ≤ R.frames ∧ 8 + (maxL + 11) + rm.locals ≤ R.locals) (hcat : mm_cat rest ≤ 8) (hG : GoodIn Ts ws) (hret : ret = none) (hin1 : y.name = "<init>") (hini : (Cond.initialized y.cls).before args s = true) (hl1 : (Cond.methodLink own index y).before args s = true) (hi1 : (Cond.instanceMethod y).before args s = true) (hdd : y.cls ≠ "java/lang/invoke/MethodHandle" ∧ y.cls ≠ "java/lang/invoke/VarHandle" ∧ (parseMethodDescriptor y.desc).map (fun d => d.parameters.length) = some n)  (hlen : as.length = n) (hd : decode cc pc = .ok (.invokespecial index, 3)) (kk : mm_Gd p l e R s m args below meth c Q D cA Y A nL n0 z0 oc ρ0 Mf (pc + 3) L (v.toList ++ rest) M') : mm_Gd p l e R s m args below meth c Q D cA Y A nL n0 z0 oc ρ0 Mf pc L (as.reverse ++ .ref o :: rest) M := by
  refine gq_core (K0 := (as.reverse ++ .ref o :: rest)) (aa := #[]) h16n hA hRc hRs hm1 hm2 hw1 hv (fun x hx1 => List.mem_append_right _ (List.mem_cons_of_mem _ hx1)) (fun hk0 ρ H locs ls hr hP hD hS hl hf => ?_) kk
  have hst : (as.reverse ++ .ref o :: rest).map (mm_tr ρ) = (as.map (mm_tr ρ)).reverse ++ .ref (ρ o) :: rest.map (mm_tr ρ) := by
    rw [List.map_append, List.map_reverse]; rfl
  have hWd := gq_wd (M := M) (nest := nest) hnest h16n hA hK hT hZ hN hO h5 hr hP hD hS
  have hroom : 2 * (F0 m pc ls ((as.map (mm_tr ρ)).reverse ++ .ref (ρ o) :: rest.map (mm_tr ρ))).monitorRoom + ((rest.map (mm_tr ρ)).map fun v => v.category).sum ≤ 8 := lv_room (rest := ((as.map (mm_tr ρ)).reverse ++ .ref (ρ o) :: rest.map (mm_tr ρ))) (m := m) (pc := pc) (ls := ls) (by rw [mm_cat_tr]; exact hcat)
  rw [hst]
  exact va_runI (As := as.map (mm_tr ρ)) (rest := rest.map (mm_tr ρ)) ⟨hx, hb, hml, hown, hts⟩ (hM ρ H.size) ⟨callB_of n hts hG (by rw [hw, hret]) hrc hrs hini hl1 hdd hR, hin1, hi1⟩ ⟨gq_blind hnest, fun U hU hW => ⟨rfl, hWd U hU hW⟩⟩ (g := F0 m pc ls ((as.map (mm_tr ρ)).reverse ++ .ref (ρ o) :: rest.map (mm_tr ρ))) rfl (by rw [List.length_map]; exact hlen) hl.1 rfl hroom hd hf
theorem gq_IN (hx : p.tables.exec = Jvm.exec) (hb : c.code = cc) (hnest : ∀ w ∈ nest, mm_isN w = true) (h16n : 16 ≤ n0) (hA : ∀ q, s.heap.size ≤ q → A q) (hK : va_K D mm_cl (mm_tysA cA) s) (hT : mm_cnT Y ρ0 A s s.heap) (hZ : mm_cnZ ρ0 A s s.heap) (hN : mm_cnN nest s) (hO : va_AO RX0 s) (h5 : mm_c5 cA s) (hRc : Mf.2.1 + oc - n0 ≤ R.cells) (hRs : Mf.2.2.1 - z0 ≤ R.slots) (hm1 : M.2.1 ≤ M'.2.1) (hm2 : M.2.2.1 ≤ M'.2.2.1) (hw1 : mm_wf Y M') (hv : ∀ x, v = some x → mm_okv M'.2.1 x) {Ts ws ws' : List Cond} {own C : String} {index n maxL : Nat} {y : MethodName} {bytes : ByteArray} {ret : Option FieldType} {rm : Room} (hml : c.maxLocals = nL) (hown : s.vm.findClass own = some m.cls) (hts : ∀ w ∈ Ts, w.before args s = true) {as : List Value} {o ci : Nat} {q : vw_C} (hM : ∀ (ρ : Nat → Nat) (sz : Nat), Met l y ws rm (va_Pc ((.ref o :: as).map (mm_tr ρ)) (mm_Wd D cA Y nest ρ M sz)) (mm_Qc D cA Y ρ M v M' sz) (M'.2.1 - M.2.1) (M'.2.2.1 - M.2.2.1) (va_A (mm_enc cA ρ Y M) sz)) (hw : ws = Cond.code y bytes maxL ret :: ws') (hrc : rm.cells = M'.2.1 - M.2.1) (hrs : rm.slots = M'.2.2.1 - M.2.2.1) (hR : rm.frames + 1 ≤ R.frames ∧ 8 + (maxL + 11) + rm.locals ≤ R.locals) (hcat : mm_cat rest ≤ 8) {host : String} (hG : GoodIn Ts ws) (hret : ret = none) (hin1 : y.name = "<init>") (hNl : va_Nw (.methodLinkNest own index y host) s) (hini : (Cond.initialized y.cls).before args s = true) (hi1 : (Cond.instanceMethod y).before args s = true) (hdd : y.cls ≠ "java/lang/invoke/MethodHandle" ∧ y.cls ≠ "java/lang/invoke/VarHandle" ∧ (parseMethodDescriptor y.desc).map (fun d => d.parameters.length) = some n)  (hlen : as.length = n) (hd : decode cc pc = .ok (.invokespecial index, 3)) (kk : mm_Gd p l e R s m args below meth c Q D cA Y A nL n0 z0 oc ρ0 Mf (pc + 3) L (v.toList ++ rest) M') : mm_Gd p l e R s m args below meth c Q D cA Y A nL n0 z0 oc ρ0 Mf pc L (as.reverse ++ .ref o :: rest) M := by
  refine gq_core (K0 := (as.reverse ++ .ref o :: rest)) (aa := #[]) h16n hA hRc hRs hm1 hm2 hw1 hv (fun x hx1 => List.mem_append_right _ (List.mem_cons_of_mem _ hx1)) (fun hk0 ρ H locs ls hr hP hD hS hl hf => ?_) kk
  have hst : (as.reverse ++ .ref o :: rest).map (mm_tr ρ) = (as.map (mm_tr ρ)).reverse ++ .ref (ρ o) :: rest.map (mm_tr ρ) := by
    rw [List.map_append, List.map_reverse]; rfl
  have hWd := gq_wd (M := M) (nest := nest) hnest h16n hA hK hT hZ hN hO h5 hr hP hD hS
  have hroom : 2 * (F0 m pc ls ((as.map (mm_tr ρ)).reverse ++ .ref (ρ o) :: rest.map (mm_tr ρ))).monitorRoom + ((rest.map (mm_tr ρ)).map fun v => v.category).sum ≤ 8 := lv_room (rest := ((as.map (mm_tr ρ)).reverse ++ .ref (ρ o) :: rest.map (mm_tr ρ))) (m := m) (pc := pc) (ls := ls) (by rw [mm_cat_tr]; exact hcat)
  rw [hst]
  exact va_runIN (As := as.map (mm_tr ρ)) (rest := rest.map (mm_tr ρ)) ⟨hx, hb, hml, hown, hts⟩ (hM ρ H.size) ⟨va_cnB n hts hG (by rw [hw, hret]) hrc hrs hNl hini hdd hR, hin1, hi1⟩ ⟨gq_blind hnest, fun U hU hW => ⟨rfl, hWd U hU hW⟩⟩ (g := F0 m pc ls ((as.map (mm_tr ρ)).reverse ++ .ref (ρ o) :: rest.map (mm_tr ρ))) rfl (by rw [List.length_map]; exact hlen) hl.1 rfl hroom hd hf
theorem gq_obj (hx : p.tables.exec = Jvm.exec) (hb : c.code = cc) (hml : c.maxLocals = nL) {own : String} {index o : Nat} (hown : s.vm.findClass own = some m.cls) (hl1 : (Cond.methodLink own index Lib.objectInit).before args s = true) (hi1 : (Cond.instanceMethod Lib.objectInit).before args s = true) (hco : (Cond.code Lib.objectInit ⟨#[0xb1]⟩ 1 none).before args s = true) (hf1 : 1 ≤ R.frames) (hf2 : 20 ≤ R.locals) (hcat : mm_cat rest ≤ 8) (hd : decode cc pc = .ok (.invokespecial index, 3)) (kk : mm_Gd p l e R s m args below meth c Q D cA Y A nL n0 z0 oc ρ0 Mf (pc + 3) L rest M) : mm_Gd p l e R s m args below meth c Q D cA Y A nL n0 z0 oc ρ0 Mf pc L (.ref o :: rest) M := by
  intro hw0 hn0 hz0 hk0 hl0
  obtain ⟨h1, h2⟩ := kk hw0 hn0 hz0 (mm_ks_tail hk0) hl0
  refine ⟨h1, fun ρ H locs ls hr hP hD hS hl => ?_⟩
  have hroom : 2 * (F0 m pc ls (.ref (ρ o) :: rest.map (mm_tr ρ))).monitorRoom + ((rest.map (mm_tr ρ)).map fun v => v.category).sum ≤ 8 := lv_room (rest := (.ref (ρ o) :: rest.map (mm_tr ρ))) (m := m) (pc := pc) (ls := ls) (by rw [mm_cat_tr]; exact hcat)
  exact W.objInit hx hb hown hl1 hi1 hco rfl (by rw [hml]; exact hl.1) rfl hd hf1 (Nat.le_trans (Nat.add_le_add_right hroom 12) hf2) (h2 ρ H locs ls hr hP hD hS hl)
theorem gq_copy (hx : p.tables.exec = Jvm.exec) (hb : c.code = cc) (hml : c.maxLocals = nL) (hY : mm_wfY Y) (hK : va_K D mm_cl (mm_tysA cA) s) {own : String} {index a b na nb : Nat} {n dp sp : Int32} (hown : s.vm.findClass own = some m.cls) (hl1 : (Cond.methodLink own index arraycopyName).before args s = true) (hnat : (Cond.native arraycopyName).before args s = true) (hstat : (Cond.static arraycopyName).before args s = true) (hini : (Cond.initialized "java/lang/System").before args s = true)
    (hb1 : mm_s Y M b = .inr (0, nb)) (ha1 : mm_s Y M a = .inr (0, na)) (hb16 : 16 ≤ b) (ha16 : 16 ≤ a) (h1 : ¬ sp < 0) (h2 : ¬ dp < 0) (h3 : ¬ n < 0) (h4 : sp.toNatClampNeg + n.toNatClampNeg ≤ nb) (h5 : dp.toNatClampNeg + n.toNatClampNeg ≤ na) (hf1 : 1 ≤ R.frames) (hf2 : 8 + (nativeFrameWords "java/lang/System" "arraycopy" 5 + 11) ≤ R.locals) (hcat : mm_cat rest ≤ 8) (hd : decode cc pc = .ok (.invokestatic index, 3)) (kk : mm_Gd p l e R s m args below meth c Q D cA Y A nL n0 z0 oc ρ0 Mf (pc + 3) L rest (mm_wR M a (va_cpy (M.2.2.2.1 b) (M.2.2.2.1 a) sp.toNatClampNeg dp.toNatClampNeg n.toNatClampNeg))) : mm_Gd p l e R s m args below meth c Q D cA Y A nL n0 z0 oc ρ0 Mf pc L (.int n :: .int dp :: .ref a :: .int sp :: .ref b :: rest) M := by
  intro hw0 hn0 hz0 hk0 hl0
  have hbn : b < M.2.1 := mm_ks_head (mm_ks_tail (mm_ks_tail (mm_ks_tail (mm_ks_tail hk0))))
  have han : a < M.2.1 := mm_ks_head (mm_ks_tail (mm_ks_tail hk0))
  have hw1 : mm_wf Y (mm_wR M a (va_cpy (M.2.2.2.1 b) (M.2.2.2.1 a) sp.toNatClampNeg dp.toNatClampNeg n.toNatClampNeg)) := hw0
  obtain ⟨g1, g2⟩ := kk hw1 hn0 hz0 (mm_ks_tail (mm_ks_tail (mm_ks_tail (mm_ks_tail (mm_ks_tail hk0))))) hl0
  refine ⟨g1, fun ρ H locs ls hr hP hD hS hl => ?_⟩
  have heb := mm_enc_at (cA := cA) (ρ := ρ) (Y := Y) (M := M) hb16 hbn
  rw [mm_cell_arr hb1, mm_ct0] at heb
  have hea := mm_enc_at (cA := cA) (ρ := ρ) (Y := Y) (M := M) ha16 han
  rw [mm_cell_arr ha1, mm_ct0] at hea
  have hcell : mm_cell cA ρ Y (mm_wR M a (va_cpy (M.2.2.2.1 b) (M.2.2.2.1 a) sp.toNatClampNeg dp.toNatClampNeg n.toNatClampNeg)) a = .inl (cA 0, na, .inl (va_cpy (M.2.2.2.1 b) (M.2.2.2.1 a) sp.toNatClampNeg dp.toNatClampNeg n.toNatClampNeg)) := by
    rw [mm_cell_arr (M := mm_wR M a _) ha1, mm_ct0]
    simp only [mm_row_same]
  have hset := mm_enc_set (cA := cA) (ρ := ρ) (Y := Y) (M := M) (M' := mm_wR M a (va_cpy (M.2.2.2.1 b) (M.2.2.2.1 a) sp.toNatClampNeg dp.toNatClampNeg n.toNatClampNeg)) ha16 han rfl hcell (fun b9 _ _ hb3 => mm_cell_wR hb3)
  exact va_copyi hx hb (by rw [hml]; exact hl.1.symm) hown hl1 hnat hstat hini hK hP hD hS (b - 16) (a - 16) 0 0 heb hea rfl rfl rfl h1 h2 h3 h4 h5 (fun _ _ => rfl) hf1 (by rw [mm_cat_tr]; omega) hd (fun H1 locs1 hP1 hD1 hS1 => g2 ρ H1 locs1 ls hr (by rw [← hset]; exact hP1) (by rw [← hset]; exact hD1) hS1 hl)
end GQ
end
section
theorem mi_pI {K : List Value} {f : Int32 → List Value → Option mmR} {res : mmR} (h : mm_pI K f = some res) : ∃ x r, K = .int x :: r ∧ f x r = some res := by
  unfold mm_pI at h; split at h
  · exact ⟨_, _, rfl, h⟩
  · cases h
theorem mi_pII {K : List Value} {f : Int32 → Int32 → List Value → Option mmR} {res : mmR} (h : mm_pII K f = some res) : ∃ x y r, K = .int y :: .int x :: r ∧ f x y r = some res := by
  unfold mm_pII at h; split at h
  · exact ⟨_, _, _, rfl, h⟩
  · cases h
theorem mi_pJ {K : List Value} {f : Int64 → List Value → Option mmR} {res : mmR} (h : mm_pJ K f = some res) : ∃ x r, K = .long x :: r ∧ f x r = some res := by
  unfold mm_pJ at h; split at h
  · exact ⟨_, _, rfl, h⟩
  · cases h
theorem mi_pJJ {K : List Value} {f : Int64 → Int64 → List Value → Option mmR} {res : mmR} (h : mm_pJJ K f = some res) : ∃ x y r, K = .long y :: .long x :: r ∧ f x y r = some res := by
  unfold mm_pJJ at h; split at h
  · exact ⟨_, _, _, rfl, h⟩
  · cases h
theorem mi_pJI {K : List Value} {f : Int64 → Int32 → List Value → Option mmR} {res : mmR} (h : mm_pJI K f = some res) : ∃ x y r, K = .int y :: .long x :: r ∧ f x y r = some res := by
  unfold mm_pJI at h; split at h
  · exact ⟨_, _, _, rfl, h⟩
  · cases h
theorem mi_asR {v : Value} {f : Nat → Option mmR} {res : mmR} (h : mm_asR v f = some res) : ∃ a, v = .ref a ∧ f a = some res := by
  unfold mm_asR at h; split at h
  · exact ⟨_, rfl, h⟩
  · cases h
theorem mi_pR {K : List Value} {f : Nat → List Value → Option mmR} {res : mmR} (h : mm_pR K f = some res) : ∃ a r, K = .ref a :: r ∧ f a r = some res := by
  unfold mm_pR at h; split at h
  · obtain ⟨a, rfl, h⟩ := mi_asR h
    exact ⟨_, _, rfl, h⟩
  · cases h
theorem mi_pRI {K : List Value} {f : Nat → Int32 → List Value → Option mmR} {res : mmR} (h : mm_pRI K f = some res) : ∃ a i r, K = .int i :: .ref a :: r ∧ f a i r = some res := by
  unfold mm_pRI at h; split at h
  · obtain ⟨a, rfl, h⟩ := mi_asR h
    exact ⟨_, _, _, rfl, h⟩
  · cases h
theorem mi_pRII {K : List Value} {f : Nat → Int32 → Int32 → List Value → Option mmR} {res : mmR} (h : mm_pRII K f = some res) : ∃ a i x r, K = .int x :: .int i :: .ref a :: r ∧ f a i x r = some res := by
  unfold mm_pRII at h; split at h
  · obtain ⟨a, rfl, h⟩ := mi_asR h
    exact ⟨_, _, _, _, rfl, h⟩
  · cases h
theorem mi_pRIJ {K : List Value} {f : Nat → Int32 → Int64 → List Value → Option mmR} {res : mmR} (h : mm_pRIJ K f = some res) : ∃ a i x r, K = .long x :: .int i :: .ref a :: r ∧ f a i x r = some res := by
  unfold mm_pRIJ at h; split at h
  · obtain ⟨a, rfl, h⟩ := mi_asR h
    exact ⟨_, _, _, _, rfl, h⟩
  · cases h
theorem mi_pRIR {K : List Value} {f : Nat → Int32 → Nat → List Value → Option mmR} {res : mmR} (h : mm_pRIR K f = some res) : ∃ a i x r, K = .ref x :: .int i :: .ref a :: r ∧ f a i x r = some res := by
  unfold mm_pRIR at h; split at h
  · obtain ⟨a, rfl, h2⟩ := mi_asR h
    obtain ⟨x, rfl, h3⟩ := mi_asR h2
    exact ⟨_, _, _, _, rfl, h3⟩
  · cases h
theorem mi_pN {K : List Value} {f : Option Nat → List Value → Option mmR} {res : mmR} (h : mm_pN K f = some res) : (∃ a r, K = .ref a :: r ∧ f (some a) r = some res) ∨ ∃ r, K = .null :: r ∧ f none r = some res := by
  unfold mm_pN at h; split at h
  · unfold mm_asN at h; split at h
    · exact Or.inl ⟨_, _, rfl, h⟩
    · exact Or.inr ⟨_, rfl, h⟩
    · cases h
  · cases h
theorem mi_cond {b : Bool} {t : Option mmR} {res : mmR} (h : cond b t none = some res) : b = true ∧ t = some res := by
  cases b with
  | true => exact ⟨rfl, h⟩
  | false => cases h
theorem mi_p1 {K : List Value} {f : Value → List Value → Option mmR} {res : mmR} (h : mm_p1 K f = some res) : ∃ v r, K = v :: r ∧ mm_c1 v = true ∧ f v r = some res := by
  unfold mm_p1 at h; split at h
  · obtain ⟨h1, h2⟩ := mi_cond h
    exact ⟨_, _, rfl, h1, h2⟩
  · cases h
theorem mi_p11 {K : List Value} {f : Value → Value → List Value → Option mmR} {res : mmR} (h : mm_p11 K f = some res) : ∃ v w r, K = w :: v :: r ∧ mm_c1 v = true ∧ mm_c1 w = true ∧ f v w r = some res := by
  unfold mm_p11 at h; split at h
  · obtain ⟨h1, h2⟩ := mi_cond h
    rw [Bool.and_eq_true] at h1
    exact ⟨_, _, _, rfl, h1.2, h1.1, h2⟩
  · cases h
theorem mi_ld {L : mmL} {i : Nat} {f : Value → Option mmR} {res : mmR} (h : mm_ld L i f = some res) : ∃ v, L[i]? = some (some v) ∧ f v = some res := by
  unfold mm_ld at h; split at h
  · next v hv => exact ⟨v, hv, h⟩
  · cases h
theorem mi_isI {v : Value} {f : Option mmR} {res : mmR} (h : mm_isI v f = some res) : ∃ x, v = .int x ∧ f = some res := by
  unfold mm_isI at h; split at h
  · exact ⟨_, rfl, h⟩
  · cases h
theorem mi_isJ {v : Value} {f : Option mmR} {res : mmR} (h : mm_isJ v f = some res) : ∃ x, v = .long x ∧ f = some res := by
  unfold mm_isJ at h; split at h
  · exact ⟨_, rfl, h⟩
  · cases h
theorem mi_isA {v : Value} {f : Option mmR} {res : mmR} (h : mm_isA v f = some res) : ((∃ x, v = .ref x) ∨ v = .null) ∧ f = some res := by
  unfold mm_isA at h; split at h
  · exact ⟨Or.inl ⟨_, rfl⟩, h⟩
  · exact ⟨Or.inr rfl, h⟩
  · cases h
theorem mi_bind {α : Type} {x : Option α} {f : α → Option mmR} {res : mmR} (h : x.bind f = some res) : ∃ a, x = some a ∧ f a = some res := by
  cases x with
  | none => cases h
  | some a => exact ⟨a, rfl, h⟩
theorem mi_aV {q : Option mmR} {m : mmM} (h : mm_aV q = some m) : q = some (none, m) := by
  unfold mm_aV at h
  cases q with
  | none => cases h
  | some p =>
    obtain ⟨v, m2⟩ := p
    simp only [Option.bind_some] at h
    cases v with
    | none => cases h; rfl
    | some v => cases h
theorem mi_aI {q : Option mmR} {p : Int32 × mmM} (h : mm_aI q = some p) : q = some (some (.int p.1), p.2) := by
  unfold mm_aI at h
  cases q with
  | none => cases h
  | some r =>
    obtain ⟨v, m2⟩ := r
    simp only [Option.bind_some] at h
    split at h
    · cases h; rfl
    · cases h
theorem mi_aJ {q : Option mmR} {p : Int64 × mmM} (h : mm_aJ q = some p) : q = some (some (.long p.1), p.2) := by
  unfold mm_aJ at h
  cases q with
  | none => cases h
  | some r =>
    obtain ⟨v, m2⟩ := r
    simp only [Option.bind_some] at h
    split at h
    · cases h; rfl
    · cases h
theorem mi_aR {q : Option mmR} {p : Nat × mmM} (h : mm_aR q = some p) : q = some (some (.ref p.1), p.2) := by
  unfold mm_aR at h
  cases q with
  | none => cases h
  | some r =>
    obtain ⟨v, m2⟩ := r
    simp only [Option.bind_some] at h
    split at h
    · cases h; rfl
    · cases h
theorem mi_ans {c : Nat} {q : Option mmR} {L : mmL} {r : List Value} {k : mmK} {res : mmR} (h : mm_ans c q L r k = some res) : ∃ v m, q = some (v, m) ∧ k L (v.toList ++ r) m = some res := by
  unfold mm_ans at h
  split at h
  · obtain ⟨m, h1, h2⟩ := mi_bind h
    exact ⟨_, _, mi_aV h1, h2⟩
  · obtain ⟨p, h1, h2⟩ := mi_bind h
    exact ⟨_, _, mi_aI h1, h2⟩
  · obtain ⟨p, h1, h2⟩ := mi_bind h
    exact ⟨_, _, mi_aJ h1, h2⟩
  · obtain ⟨p, h1, h2⟩ := mi_bind h
    exact ⟨_, _, mi_aR h1, h2⟩
abbrev mmT : Type := MethodName × ByteArray × Nat × Option FieldType
noncomputable def mm_ww (y : mmT) : List Cond := Cond.code y.1 y.2.1 y.2.2.1 y.2.2.2 :: mm_gw
def mm_rm (d k z : Nat) : Room := { frames := d, cells := k, slots := z, locals := 60 * d + 200 }
def mm_host : String := "WhiskedDuchy"
/-- the words that an instruction needs of the tables -/
def mm_wds (mth : List mmT) (own : String) (i : Instr) (a b c : Nat) (v : Value) : List Cond := match i with
  | .ldc idx => match v with
    | .int x => [.constant own idx x]
    | _ => []
  | .ldc_w idx => match v with
    | .int x => [.constant own idx x]
    | _ => []
  | .ldc2_w idx => match v with
    | .long x => [.constantLong own idx x]
    | _ => []
  | .getfield idx => match mm_cl[a]?, (c / 4) % 4 with
    | some q, 0 => [.fieldLink own idx (q.2.1 b).1 (q.2.1 b).2.1 (q.2.1 b).2.2.1]
    | _, _ => []
  | .putfield idx => match mm_cl[a]?, (c / 4) % 4 with
    | some q, 0 => [.fieldLink own idx (q.2.1 b).1 (q.2.1 b).2.1 (q.2.1 b).2.2.1]
    | _, _ => []
  | .getstatic idx => match mm_stat[a]? with
    | some q => [.fieldLink own idx RX10 q.1 q.2]
    | none => []
  | .newarray at0 => [.arrayClass (newarray.typeOf at0)]
  | .anewarray idx => [.classLink own idx RX0]
  | .multianewarray idx _ => [.classLink own idx "[[I", .arrayClass .int]
  | .new idx => match mm_cl[a]? with
    | some q => [.classLink own idx q.1, .instantiable q.1 q.2.2, .initialized q.1]
    | none => []
  | .invokevirtual idx => match mth[a]?, (c / 4) % 4 with
    | some y, 0 => [.methodLink own idx y.1, .instanceMethod y.1, .selects y.1.cls y.1 y.1, .initialized y.1.cls]
    | some y, _ => [.initialized y.1.cls, .instanceMethod y.1, .selects y.1.cls y.1 y.1]
    | none, _ => []
  | .invokestatic idx => match mth[a]?, (c / 4) % 4 with
    | _, 2 => [.methodLink own idx arraycopyName, .native arraycopyName, .static arraycopyName, .initialized "java/lang/System"]
    | some y, 0 => [.methodLink own idx y.1, .static y.1, .initialized y.1.cls]
    | some y, _ => [.static y.1, .initialized y.1.cls]
    | none, _ => []
  | .invokespecial idx => match mth[a]?, (c / 4) % 4 with
    | _, 2 => [.methodLink own idx Lib.objectInit, .instanceMethod Lib.objectInit, .code Lib.objectInit ⟨#[0xb1]⟩ 1 none]
    | some y, 0 => [.methodLink own idx y.1, .instanceMethod y.1, .initialized y.1.cls]
    | some y, _ => [.instanceMethod y.1, .initialized y.1.cls]
    | none, _ => []
  | _ => []
/-- the words of the nest -/
def mm_nwd (mth : List mmT) (own : String) (i : Instr) (a b c : Nat) : List Cond := match i with
  | .getfield idx => match mm_cl[a]?, (c / 4) % 4 with
    | some q, 1 => [.fieldLinkNest own idx (q.2.1 b).1 (q.2.1 b).2.1 (q.2.1 b).2.2.1 mm_host]
    | _, _ => []
  | .putfield idx => match mm_cl[a]?, (c / 4) % 4 with
    | some q, 1 => [.fieldLinkNest own idx (q.2.1 b).1 (q.2.1 b).2.1 (q.2.1 b).2.2.1 mm_host]
    | _, _ => []
  | .invokevirtual idx => match mth[a]?, (c / 4) % 4 with
    | some y, 1 => [.methodLinkNest own idx y.1 mm_host]
    | _, _ => []
  | .invokestatic idx => match mth[a]?, (c / 4) % 4 with
    | some y, 1 => [.methodLinkNest own idx y.1 mm_host]
    | _, _ => []
  | .invokespecial idx => match mth[a]?, (c / 4) % 4 with
    | some y, 1 => [.methodLinkNest own idx y.1 mm_host]
    | _, _ => []
  | _ => []
def mm_plain (y : MethodName) (n : Nat) : Bool := decide (y.cls ≠ "java/lang/invoke/MethodHandle" ∧ y.cls ≠ "java/lang/invoke/VarHandle" ∧ (parseMethodDescriptor y.desc).map (fun d => d.parameters.length) = some n)
/-- an instruction's own numbers are right -/
def mm_okI (mth : List mmT) (own nm : String) (rt : Option FieldType) (nL pc : Nat) (i : Instr) (len a b c : Nat) (v : Value) (w : List (Int32 × Nat)) : Bool := match i with
  | .iconst z => decide (len = 1 ∧ v = .int (Int32.ofInt z))
  | .bipush z => decide (len = 2 ∧ v = .int (Int8.ofInt z).toInt32)
  | .sipush z => decide (len = 3 ∧ v = .int (Int16.ofInt z).toInt32)
  | .lconst z => decide (len = 1 ∧ v = .long (Int64.ofNat (z : Nat)))
  | .ldc _ => decide (len = 2) && match v with
    | .int _ => true
    | _ => false
  | .ldc_w _ => decide (len = 3) && match v with
    | .int _ => true
    | _ => false
  | .ldc2_w _ => decide (len = 3) && match v with
    | .long _ => true
    | _ => false
  | .iload_n k => decide (len = 1 ∧ (k : Nat) = a)
  | .iload k => decide (len = 2 ∧ k = a)
  | .lload_n k => decide (len = 1 ∧ (k : Nat) = a)
  | .lload k => decide (len = 2 ∧ k = a)
  | .aload_n k => decide (len = 1 ∧ (k : Nat) = a)
  | .aload k => decide (len = 2 ∧ k = a)
  | .istore_n k => decide (len = 1 ∧ (k : Nat) = a ∧ a < nL)
  | .istore k => decide (len = 2 ∧ k = a ∧ a < nL)
  | .lstore_n k => decide (len = 1 ∧ (k : Nat) = a ∧ a + 1 < nL)
  | .lstore k => decide (len = 2 ∧ k = a ∧ a + 1 < nL)
  | .astore_n k => decide (len = 1 ∧ (k : Nat) = a ∧ a < nL)
  | .astore k => decide (len = 2 ∧ k = a ∧ a < nL)
  | .iinc k z => decide (len = 3 ∧ k = a ∧ v = .int (Int32.ofInt z) ∧ a < nL)
  | .goto o => decide (len = 3 ∧ (pc : Int) + o = (a : Int))
  | .ifCond _ o => decide (len = 3 ∧ (pc : Int) + o = (a : Int))
  | .if_icmp _ o => decide (len = 3 ∧ (pc : Int) + o = (a : Int))
  | .ifnull o => decide (len = 3 ∧ (pc : Int) + o = (a : Int))
  | .ifnonnull o => decide (len = 3 ∧ (pc : Int) + o = (a : Int))
  | .tableswitch d lo hi offs => decide ((pc : Int) + d = (a : Int) ∧ hi + 1 = lo + offs.size) && mm_tsw pc lo offs.toList w
  | .lookupswitch d ps => decide ((pc : Int) + d = (a : Int) ∧ w.map (fun q => (q.1.toInt, (q.2 : Int) - pc)) = ps.toList) && (ps.toList.zip (ps.toList.drop 1)).all (fun (a, next) => a.1 < next.1)
  | .ireturn => decide (len = 1) && match b with
    | 0 => decide (rt = some .int)
    | _ => decide (rt = some .boolean)
  | .lreturn => decide (len = 1 ∧ rt = some .long)
  | .areturn => decide (len = 1) && match rt with
    | some (.object _) => true
    | some (.array _) => true
    | _ => false
  | .return_ => decide (len = 1 ∧ rt = none)
  | .getfield _ => match mm_cl[a]? with
    | some q => decide (len = 3 ∧ b < q.2.2 ∧ mm_tk (mm_tyOf a b) = c % 4 ∧ (c / 4) % 4 < 2)
    | none => false
  | .putfield _ => match mm_cl[a]? with
    | some q => decide (len = 3 ∧ b < q.2.2 ∧ mm_tk (mm_tyOf a b) = c % 4 ∧ (c / 4) % 4 < 2) && (decide ((q.2.1 b).2.2.2 = false) || decide (nm = "<init>" ∧ (q.2.1 b).1 = own ∧ (c / 4) % 4 = 0))
    | none => false
  | .getstatic _ => decide (len = 3 ∧ a < 9)
  | .newarray at0 => decide (len = 2 ∧ ((at0 = .int ∧ a = 0) ∨ (at0 = .boolean ∧ a = 1) ∨ (at0 = .long ∧ a = 3)))
  | .anewarray _ => decide (len = 3)
  | .multianewarray _ k9 => decide (len = 4 ∧ k9 = 2)
  | .new _ => decide (len = 3 ∧ a < 13)
  | .aaload => decide (len = 1 ∧ a < 2)
  | .aastore => decide (len = 1 ∧ a < 2)
  | .invokevirtual _ => match mth[a]?, mm_cl[c / 16]? with
    | some y, some q => decide (len = 3 ∧ y.1.cls = q.1 ∧ (c / 4) % 4 < 2) && mm_plain y.1 b
    | _, _ => false
  | .invokestatic _ => match mth[a]?, (c / 4) % 4 with
    | _, 2 => decide (len = 3)
    | some y, 0 => decide (len = 3) && mm_plain y.1 b
    | some y, 1 => decide (len = 3) && mm_plain y.1 b
    | _, _ => false
  | .invokespecial _ => match mth[a]?, (c / 4) % 4 with
    | _, 2 => decide (len = 3)
    | some y, 0 => decide (len = 3 ∧ y.1.name = "<init>" ∧ y.2.2.2 = none) && mm_plain y.1 b
    | some y, 1 => decide (len = 3 ∧ y.1.name = "<init>" ∧ y.2.2.2 = none) && mm_plain y.1 b
    | _, _ => false
  | _ => decide (len = 1)
/-- what is known of a call that came back -/
def mm_Call (l : Launch) (D : va_G) (cA : Nat → ClassId) (Y : mmY) (nest : List Cond) (mth : List mmT) (d j : Nat) (as : List Value) (M : mmM) (v : Option Value) (M' : mmM) : Prop :=
  (mm_wf Y M' ∧ M.2.1 ≤ M'.2.1 ∧ M.2.2.1 ≤ M'.2.2.1 ∧ ∀ x, v = some x → mm_okv M'.2.1 x) ∧ ∀ y, mth[j]? = some y → ∀ (ρ : Nat → Nat) (sz : Nat), Met l y.1 (mm_ww y) (mm_rm d (M'.2.1 - M.2.1) (M'.2.2.1 - M.2.2.1)) (va_Pc (as.map (mm_tr ρ)) (mm_Wd D cA Y nest ρ M sz)) (mm_Qc D cA Y ρ M v M' sz) (M'.2.1 - M.2.1) (M'.2.2.1 - M.2.2.1) (va_A (mm_enc cA ρ Y M) sz)
theorem mm_gw_good {w : Cond} (h : w ∈ mm_gw) : goodWord w = true := (List.mem_filter.mp h).2
theorem mm_gw_in {Ts ws : List Cond} (hTs : ∀ w ∈ mm_gw, w ∈ Ts) (h : ∀ w ∈ ws, w ∈ mm_gw) : GoodIn Ts ws := fun w hw => ⟨hTs w (h w hw), good_of_word (mm_gw_good (h w hw))⟩
theorem mm_ww_in {y : mmT} (h : Cond.code y.1 y.2.1 y.2.2.1 y.2.2.2 ∈ mm_gw) : ∀ w ∈ mm_ww y, w ∈ mm_gw := fun w hw => by
  rcases List.mem_cons.mp hw with rfl | hw
  · exact h
  · exact hw
end
section
theorem mm_tk0 {t : FieldType} (h : mm_tk t = 0) : t = .int := by cases t <;> first | rfl | cases h
theorem mm_tk1 {t : FieldType} (h : mm_tk t = 1) : t = .long := by cases t <;> first | rfl | cases h
theorem mm_tk3 {t : FieldType} (h : mm_tk t = 3) : t = .boolean := by cases t <;> first | rfl | cases h

section SM
variable {p : Program} {l : Launch} {e : Env} {R : Room} {s : State} {m : MethodId} {args : Array Value} {below : List Frame} {meth : Method} {c : Code} {D : va_G} {cA : Nat → ClassId} {Y : mmY} {A : Nat → Prop} {nL n0 z0 oc : Nat} {ρ0 : Nat → Nat} {cc : ByteArray} {pc : Nat} {L : mmL} {M : mmM}
variable {own nm : String} {rt : Option FieldType} {Ts nest : List Cond} {mth : List mmT} {d : Nat} {M0 : mmM} {Q : State → Prop} {res : mmR} {call : mmC}
set_option maxHeartbeats 4000000 in
theorem sm_callV (hx : p.tables.exec = Jvm.exec) (hb : c.code = cc) (hml : c.maxLocals = nL) (hown : s.vm.findClass own = some m.cls) (hlocks : meth.locks = false) (hrt : meth.sig.returnType = rt) (hnm : nm = "<init>" → meth.name = "<init>") (hTs : ∀ w ∈ mm_gw, w ∈ Ts) (hts : ∀ w ∈ Ts, w.before args s = true) (hY : mm_wfY Y) (hK : va_K D mm_cl (mm_tysA cA) s) (hnest : ∀ w ∈ nest, mm_isN w = true) (h16n : 16 ≤ n0) (hA0 : A = va_A (mm_enc cA ρ0 Y M0) s.heap.size) (hM0 : M0.2.1 = n0) (hA : ∀ q, s.heap.size ≤ q → A q) (hT : mm_cnT Y ρ0 A s s.heap) (hZ : mm_cnZ ρ0 A s s.heap) (hN : mm_cnN nest s) (hO : va_AO RX0 s) (h5 : mm_c5 cA s) (hlay : ∀ (ci : Nat) (q : vw_C), mm_cl[ci]? = some q → ∀ w ∈ u_ws q.1 q.2.1 q.2.2, w ∈ mm_gw) (hcode : ∀ (j : Nat) (y : mmT), mth[j]? = some y → Cond.code y.1 y.2.1 y.2.2.1 y.2.2.2 ∈ mm_gw ∧ y.2.2.1 ≤ 41) (hRc : res.2.2.1 + oc - n0 ≤ R.cells) (hRs : res.2.2.2.1 - z0 ≤ R.slots) (hRf : d + 1 ≤ R.frames) (hRl : 60 * (d + 1) + 200 ≤ R.locals) (hcall : ∀ (j : Nat) (as : List Value) (M : mmM) (v : Option Value) (M' : mmM), call j as M = some (v, M') → mm_wf Y M → 16 ≤ M.2.1 → mm_ks M.2.1 as → mm_Call l D cA Y nest mth d j as M v M') {idx a b : Nat} {as rest : List Value} {o ci : Nat} {q : vw_C} {y : mmT} {v : Option Value} {M' : mmM} (hy : mth[a]? = some y) (hc : mm_cl[ci]? = some q) (ho : mm_s Y M o = .inl ci) (hcls : y.1.cls = q.1) (hpl : mm_plain y.1 b = true) (hcat : mm_cat rest ≤ 8) (hlen : as.length = b) (hev : call a (.ref o :: as) M = some (v, M'))
    (hlk : (∀ w ∈ [Cond.methodLink own idx y.1, Cond.instanceMethod y.1, Cond.selects y.1.cls y.1 y.1, Cond.initialized y.1.cls], w ∈ mm_gw) ∨ ((∀ w ∈ [Cond.initialized y.1.cls, Cond.instanceMethod y.1, Cond.selects y.1.cls y.1 y.1], w ∈ mm_gw) ∧ Cond.methodLinkNest own idx y.1 mm_host ∈ nest)) (hd : decode cc pc = .ok (.invokevirtual idx, 3)) (kk : mm_Gd p l e R s m args below meth c Q D cA Y A nL n0 z0 oc ρ0 res.2 (pc + 3) L (v.toList ++ rest) M') : mm_Gd p l e R s m args below meth c Q D cA Y A nL n0 z0 oc ρ0 res.2 pc L (as.reverse ++ .ref o :: rest) M := by
  intro hw0 hn0 hz0 hk0 hl0
  have hk9 : mm_ks M.2.1 (.ref o :: as) := fun x hx1 => by
    rcases List.mem_cons.mp hx1 with rfl | hx1
    · exact hk0 _ (List.mem_append_right _ List.mem_cons_self)
    · exact hk0 _ (List.mem_append_left _ (List.mem_reverse.mpr hx1))
  obtain ⟨⟨c1, c2, c3, c4⟩, c5⟩ := hcall a _ M v M' hev hw0 (by omega) hk9
  have hpl := of_decide_eq_true hpl
  have hww := mm_ww_in (hcode a y hy).1
  have hmx := (hcode a y hy).2
  rcases hlk with hlk | ⟨hlk, hnl⟩
  · exact gq_V hx hb hnest h16n hA hK hT hZ hN hO h5 hRc hRs c2 c3 c1 c4 hml hown hts (c5 y hy) rfl rfl rfl ⟨hRf, by show 8 + (y.2.2.1 + 11) + (60 * d + 200) ≤ R.locals; omega⟩ hcat (mm_gw_in hTs (fun w hw => by
      rcases List.mem_append.mp hw with hw | hw
      · exact hlk w hw
      · exact hww w hw)) ⟨rfl, hpl⟩ hc hcls.symm ho hY hlen hd kk hw0 hn0 hz0 hk0 hl0
  · exact gq_VN hx hb hnest h16n hA hK hT hZ hN hO h5 hRc hRs c2 c3 c1 c4 hml hown hts (c5 y hy) rfl rfl rfl ⟨hRf, by show 8 + (y.2.2.1 + 11) + (60 * d + 200) ≤ R.locals; omega⟩ hcat (mm_gw_in hTs hww) (hN _ hnl) (hts _ (hTs _ (hlk _ (by simp)))) (hts _ (hTs _ (hlk _ (by simp)))) (hts _ (hTs _ (hlk _ (by simp)))) hpl hc hcls.symm ho hY hlen hd kk hw0 hn0 hz0 hk0 hl0
set_option maxHeartbeats 4000000 in
theorem sm_callS (hx : p.tables.exec = Jvm.exec) (hb : c.code = cc) (hml : c.maxLocals = nL) (hown : s.vm.findClass own = some m.cls) (hlocks : meth.locks = false) (hrt : meth.sig.returnType = rt) (hnm : nm = "<init>" → meth.name = "<init>") (hTs : ∀ w ∈ mm_gw, w ∈ Ts) (hts : ∀ w ∈ Ts, w.before args s = true) (hY : mm_wfY Y) (hK : va_K D mm_cl (mm_tysA cA) s) (hnest : ∀ w ∈ nest, mm_isN w = true) (h16n : 16 ≤ n0) (hA0 : A = va_A (mm_enc cA ρ0 Y M0) s.heap.size) (hM0 : M0.2.1 = n0) (hA : ∀ q, s.heap.size ≤ q → A q) (hT : mm_cnT Y ρ0 A s s.heap) (hZ : mm_cnZ ρ0 A s s.heap) (hN : mm_cnN nest s) (hO : va_AO RX0 s) (h5 : mm_c5 cA s) (hlay : ∀ (ci : Nat) (q : vw_C), mm_cl[ci]? = some q → ∀ w ∈ u_ws q.1 q.2.1 q.2.2, w ∈ mm_gw) (hcode : ∀ (j : Nat) (y : mmT), mth[j]? = some y → Cond.code y.1 y.2.1 y.2.2.1 y.2.2.2 ∈ mm_gw ∧ y.2.2.1 ≤ 41) (hRc : res.2.2.1 + oc - n0 ≤ R.cells) (hRs : res.2.2.2.1 - z0 ≤ R.slots) (hRf : d + 1 ≤ R.frames) (hRl : 60 * (d + 1) + 200 ≤ R.locals) (hcall : ∀ (j : Nat) (as : List Value) (M : mmM) (v : Option Value) (M' : mmM), call j as M = some (v, M') → mm_wf Y M → 16 ≤ M.2.1 → mm_ks M.2.1 as → mm_Call l D cA Y nest mth d j as M v M') {idx a b : Nat} {as rest : List Value} {y : mmT} {v : Option Value} {M' : mmM} (hy : mth[a]? = some y) (hpl : mm_plain y.1 b = true) (hcat : mm_cat rest ≤ 8) (hlen : as.length = b) (hev : call a as M = some (v, M'))
    (hlk : (∀ w ∈ [Cond.methodLink own idx y.1, Cond.static y.1, Cond.initialized y.1.cls], w ∈ mm_gw) ∨ ((∀ w ∈ [Cond.static y.1, Cond.initialized y.1.cls], w ∈ mm_gw) ∧ Cond.methodLinkNest own idx y.1 mm_host ∈ nest)) (hd : decode cc pc = .ok (.invokestatic idx, 3)) (kk : mm_Gd p l e R s m args below meth c Q D cA Y A nL n0 z0 oc ρ0 res.2 (pc + 3) L (v.toList ++ rest) M') : mm_Gd p l e R s m args below meth c Q D cA Y A nL n0 z0 oc ρ0 res.2 pc L (as.reverse ++ rest) M := by
  intro hw0 hn0 hz0 hk0 hl0
  have hk9 : mm_ks M.2.1 as := fun x hx1 => hk0 _ (List.mem_append_left _ (List.mem_reverse.mpr hx1))
  obtain ⟨⟨c1, c2, c3, c4⟩, c5⟩ := hcall a _ M v M' hev hw0 (by omega) hk9
  have hpl := of_decide_eq_true hpl
  have hww := mm_ww_in (hcode a y hy).1
  have hmx := (hcode a y hy).2
  rcases hlk with hlk | ⟨hlk, hnl⟩
  · exact gq_S (C := "") hx hb hnest h16n hA hK hT hZ hN hO h5 hRc hRs c2 c3 c1 c4 hml hown hts (c5 y hy) rfl rfl rfl ⟨hRf, by show 8 + (y.2.2.1 + 11) + (60 * d + 200) ≤ R.locals; omega⟩ hcat (mm_gw_in hTs (fun w hw => by
      rcases List.mem_append.mp hw with hw | hw
      · exact hlk w hw
      · exact hww w hw)) hpl hlen hd kk hw0 hn0 hz0 hk0 hl0
  · exact gq_SN (C := "") hx hb hnest h16n hA hK hT hZ hN hO h5 hRc hRs c2 c3 c1 c4 hml hown hts (c5 y hy) rfl rfl rfl ⟨hRf, by show 8 + (y.2.2.1 + 11) + (60 * d + 200) ≤ R.locals; omega⟩ hcat (mm_gw_in hTs hww) (hN _ hnl) (hts _ (hTs _ (hlk _ (by simp)))) (hts _ (hTs _ (hlk _ (by simp)))) hpl hlen hd kk hw0 hn0 hz0 hk0 hl0
set_option maxHeartbeats 4000000 in
theorem sm_callI (hx : p.tables.exec = Jvm.exec) (hb : c.code = cc) (hml : c.maxLocals = nL) (hown : s.vm.findClass own = some m.cls) (hlocks : meth.locks = false) (hrt : meth.sig.returnType = rt) (hnm : nm = "<init>" → meth.name = "<init>") (hTs : ∀ w ∈ mm_gw, w ∈ Ts) (hts : ∀ w ∈ Ts, w.before args s = true) (hY : mm_wfY Y) (hK : va_K D mm_cl (mm_tysA cA) s) (hnest : ∀ w ∈ nest, mm_isN w = true) (h16n : 16 ≤ n0) (hA0 : A = va_A (mm_enc cA ρ0 Y M0) s.heap.size) (hM0 : M0.2.1 = n0) (hA : ∀ q, s.heap.size ≤ q → A q) (hT : mm_cnT Y ρ0 A s s.heap) (hZ : mm_cnZ ρ0 A s s.heap) (hN : mm_cnN nest s) (hO : va_AO RX0 s) (h5 : mm_c5 cA s) (hlay : ∀ (ci : Nat) (q : vw_C), mm_cl[ci]? = some q → ∀ w ∈ u_ws q.1 q.2.1 q.2.2, w ∈ mm_gw) (hcode : ∀ (j : Nat) (y : mmT), mth[j]? = some y → Cond.code y.1 y.2.1 y.2.2.1 y.2.2.2 ∈ mm_gw ∧ y.2.2.1 ≤ 41) (hRc : res.2.2.1 + oc - n0 ≤ R.cells) (hRs : res.2.2.2.1 - z0 ≤ R.slots) (hRf : d + 1 ≤ R.frames) (hRl : 60 * (d + 1) + 200 ≤ R.locals) (hcall : ∀ (j : Nat) (as : List Value) (M : mmM) (v : Option Value) (M' : mmM), call j as M = some (v, M') → mm_wf Y M → 16 ≤ M.2.1 → mm_ks M.2.1 as → mm_Call l D cA Y nest mth d j as M v M') {idx a b : Nat} {as rest : List Value} {o : Nat} {y : mmT} {v : Option Value} {M' : mmM} (hy : mth[a]? = some y) (hpl : mm_plain y.1 b = true) (hin1 : y.1.name = "<init>") (hre : y.2.2.2 = none) (hcat : mm_cat rest ≤ 8) (hlen : as.length = b) (hev : call a (.ref o :: as) M = some (v, M'))
    (hlk : (∀ w ∈ [Cond.methodLink own idx y.1, Cond.instanceMethod y.1, Cond.initialized y.1.cls], w ∈ mm_gw) ∨ ((∀ w ∈ [Cond.instanceMethod y.1, Cond.initialized y.1.cls], w ∈ mm_gw) ∧ Cond.methodLinkNest own idx y.1 mm_host ∈ nest)) (hd : decode cc pc = .ok (.invokespecial idx, 3)) (kk : mm_Gd p l e R s m args below meth c Q D cA Y A nL n0 z0 oc ρ0 res.2 (pc + 3) L (v.toList ++ rest) M') : mm_Gd p l e R s m args below meth c Q D cA Y A nL n0 z0 oc ρ0 res.2 pc L (as.reverse ++ .ref o :: rest) M := by
  intro hw0 hn0 hz0 hk0 hl0
  have hk9 : mm_ks M.2.1 (.ref o :: as) := fun x hx1 => by
    rcases List.mem_cons.mp hx1 with rfl | hx1
    · exact hk0 _ (List.mem_append_right _ List.mem_cons_self)
    · exact hk0 _ (List.mem_append_left _ (List.mem_reverse.mpr hx1))
  obtain ⟨⟨c1, c2, c3, c4⟩, c5⟩ := hcall a _ M v M' hev hw0 (by omega) hk9
  have hpl := of_decide_eq_true hpl
  have hww := mm_ww_in (hcode a y hy).1
  have hmx := (hcode a y hy).2
  rcases hlk with hlk | ⟨hlk, hnl⟩
  · exact gq_I (C := "") (ci := 0) (q := (RX0, TX0, 11)) hx hb hnest h16n hA hK hT hZ hN hO h5 hRc hRs c2 c3 c1 c4 hml hown hts (c5 y hy) rfl rfl rfl ⟨hRf, by show 8 + (y.2.2.1 + 11) + (60 * d + 200) ≤ R.locals; omega⟩ hcat (mm_gw_in hTs hww) hre hin1 (hts _ (hTs _ (hlk _ (by simp)))) (hts _ (hTs _ (hlk _ (by simp)))) (hts _ (hTs _ (hlk _ (by simp)))) hpl hlen hd kk hw0 hn0 hz0 hk0 hl0
  · exact gq_IN (C := "") (ci := 0) (q := (RX0, TX0, 11)) hx hb hnest h16n hA hK hT hZ hN hO h5 hRc hRs c2 c3 c1 c4 hml hown hts (c5 y hy) rfl rfl rfl ⟨hRf, by show 8 + (y.2.2.1 + 11) + (60 * d + 200) ≤ R.locals; omega⟩ hcat (mm_gw_in hTs hww) hre hin1 (hN _ hnl) (hts _ (hTs _ (hlk _ (by simp)))) (hts _ (hTs _ (hlk _ (by simp)))) hpl hlen hd kk hw0 hn0 hz0 hk0 hl0

def mm_isRet (i : Instr) : Bool := match i with
  | .ireturn => true
  | .lreturn => true
  | .areturn => true
  | .return_ => true
  | _ => false
set_option maxHeartbeats 8000000 in
/-- one instruction: what the small machine does, the real one does -/
theorem mm_sem_ok (hx : p.tables.exec = Jvm.exec) (hb : c.code = cc) (hml : c.maxLocals = nL) (hown : s.vm.findClass own = some m.cls) (hlocks : meth.locks = false) (hrt : meth.sig.returnType = rt) (hnm : nm = "<init>" → meth.name = "<init>") (hTs : ∀ w ∈ mm_gw, w ∈ Ts) (hts : ∀ w ∈ Ts, w.before args s = true) (hY : mm_wfY Y) (hK : va_K D mm_cl (mm_tysA cA) s) (hnest : ∀ w ∈ nest, mm_isN w = true) (h16n : 16 ≤ n0) (hA0 : A = va_A (mm_enc cA ρ0 Y M0) s.heap.size) (hM0 : M0.2.1 = n0) (hA : ∀ q, s.heap.size ≤ q → A q) (hT : mm_cnT Y ρ0 A s s.heap) (hZ : mm_cnZ ρ0 A s s.heap) (hN : mm_cnN nest s) (hO : va_AO RX0 s) (h5 : mm_c5 cA s) (hlay : ∀ (ci : Nat) (q : vw_C), mm_cl[ci]? = some q → ∀ w ∈ u_ws q.1 q.2.1 q.2.2, w ∈ mm_gw) (hcode : ∀ (j : Nat) (y : mmT), mth[j]? = some y → Cond.code y.1 y.2.1 y.2.2.1 y.2.2.2 ∈ mm_gw ∧ y.2.2.1 ≤ 41) (hRc : res.2.2.1 + oc - n0 ≤ R.cells) (hRs : res.2.2.2.1 - z0 ≤ R.slots) (hRf : d + 1 ≤ R.frames) (hRl : 60 * (d + 1) + 200 ≤ R.locals) (hcall : ∀ (j : Nat) (as : List Value) (M : mmM) (v : Option Value) (M' : mmM), call j as M = some (v, M') → mm_wf Y M → 16 ≤ M.2.1 → mm_ks M.2.1 as → mm_Call l D cA Y nest mth d j as M v M') {i : Instr} {len a b c9 : Nat} {v : Value} {w : List (Int32 × Nat)} {K : List Value} {k : mmK} {g : mmG} (hQr : mm_isRet i = true → Q = (MQ below (mm_Qc D cA Y ρ0 M0 res.1 res.2 s.heap.size) args s (res.2.2.1 + oc - n0) (res.2.2.2.1 - z0) A)) (hd : decode cc pc = .ok (i, len)) (hok : mm_okI mth own nm rt nL pc i len a b c9 v w = true) (hws : ∀ z ∈ mm_wds mth own i a b c9 v, z ∈ mm_gw) (hns : ∀ z ∈ mm_nwd mth own i a b c9, z ∈ nest)
    (h : mm_sem Y call i a b c9 v w L K M k g = some res) (hk : ∀ (L' : mmL) (K' : List Value) (M' : mmM), k L' K' M' = some res → mm_Gd p l e R s m args below meth c Q D cA Y A nL n0 z0 oc ρ0 res.2 (pc + len) L' K' M') (hg : ∀ (t : Nat) (L' : mmL) (K' : List Value) (M' : mmM), g t L' K' M' = some res → mm_Gd p l e R s m args below meth c Q D cA Y A nL n0 z0 oc ρ0 res.2 t L' K' M') : mm_Gd p l e R s m args below meth c Q D cA Y A nL n0 z0 oc ρ0 res.2 pc L K M := by
  cases i with
  | iconst z =>
    obtain ⟨rfl, rfl⟩ := of_decide_eq_true hok
    exact gs_iconst hx hb rfl hd (hk _ _ _ h)
  | bipush z =>
    obtain ⟨rfl, rfl⟩ := of_decide_eq_true hok
    exact gs_bipush hx hb rfl hd (hk _ _ _ h)
  | sipush z =>
    obtain ⟨rfl, rfl⟩ := of_decide_eq_true hok
    exact gs_sipush hx hb rfl hd (hk _ _ _ h)
  | lconst z =>
    obtain ⟨rfl, rfl⟩ := of_decide_eq_true hok
    exact gs_lconst hx hb rfl hd (hk _ _ _ h)
  | ldc idx =>
    simp only [mm_okI, Bool.and_eq_true, decide_eq_true_eq] at hok
    obtain ⟨rfl, hv⟩ := hok
    cases v with
    | int x => exact gs_ldc hx hb hown (hts _ (hTs _ (hws _ List.mem_cons_self))) hd (hk _ _ _ h)
    | _ => cases hv
  | ldc_w idx =>
    simp only [mm_okI, Bool.and_eq_true, decide_eq_true_eq] at hok
    obtain ⟨rfl, hv⟩ := hok
    cases v with
    | int x => exact gs_ldcw hx hb hown (hts _ (hTs _ (hws _ List.mem_cons_self))) hd (hk _ _ _ h)
    | _ => cases hv
  | ldc2_w idx =>
    simp only [mm_okI, Bool.and_eq_true, decide_eq_true_eq] at hok
    obtain ⟨rfl, hv⟩ := hok
    cases v with
    | long x => exact gs_ldc2 hx hb hown (hts _ (hTs _ (hws _ List.mem_cons_self))) hd (hk _ _ _ h)
    | _ => cases hv
  | iload_n k9 =>
    obtain ⟨rfl, e9⟩ := of_decide_eq_true hok
    obtain ⟨v9, hv9, ha_⟩ := mi_ld h
    obtain ⟨x, rfl, hb_⟩ := mi_isI ha_
    exact gs_iload_n hx hb e9 hv9 hd (hk _ _ _ hb_)
  | iload k9 =>
    obtain ⟨rfl, e9⟩ := of_decide_eq_true hok
    obtain ⟨v9, hv9, ha_⟩ := mi_ld h
    obtain ⟨x, rfl, hb_⟩ := mi_isI ha_
    subst e9
    exact gs_iload hx hb hv9 hd (hk _ _ _ hb_)
  | lload_n k9 =>
    obtain ⟨rfl, e9⟩ := of_decide_eq_true hok
    obtain ⟨v9, hv9, ha_⟩ := mi_ld h
    obtain ⟨x, rfl, hb_⟩ := mi_isJ ha_
    exact gs_lload_n hx hb e9 hv9 hd (hk _ _ _ hb_)
  | lload k9 =>
    obtain ⟨rfl, e9⟩ := of_decide_eq_true hok
    obtain ⟨v9, hv9, ha_⟩ := mi_ld h
    obtain ⟨x, rfl, hb_⟩ := mi_isJ ha_
    subst e9
    exact gs_lload hx hb hv9 hd (hk _ _ _ hb_)
  | aload_n k9 =>
    obtain ⟨rfl, e9⟩ := of_decide_eq_true hok
    obtain ⟨v9, hv9, ha_⟩ := mi_ld h
    obtain ⟨hv8, hb_⟩ := mi_isA ha_
    rcases hv8 with ⟨x, rfl⟩ | rfl
    · exact gs_aload_n hx hb e9 hv9 hd (hk _ _ _ hb_)
    · exact gs_aload_nN hx hb e9 hv9 hd (hk _ _ _ hb_)
  | aload k9 =>
    obtain ⟨rfl, e9⟩ := of_decide_eq_true hok
    obtain ⟨v9, hv9, ha_⟩ := mi_ld h
    obtain ⟨hv8, hb_⟩ := mi_isA ha_
    rcases hv8 with ⟨x, rfl⟩ | rfl
    · subst e9; exact gs_aload hx hb hv9 hd (hk _ _ _ hb_)
    · subst e9; exact gs_aloadN hx hb hv9 hd (hk _ _ _ hb_)
  | istore_n k9 =>
    obtain ⟨rfl, e9, hn9⟩ := of_decide_eq_true hok
    obtain ⟨x, r, rfl, ha_⟩ := mi_pI h
    have hb_ : _ = some res := (mm_nrm_eq _ _).symm.trans ha_
    exact gs_istore_n hx hb e9 hn9 hd (hk _ _ _ hb_)
  | istore k9 =>
    obtain ⟨rfl, e9, hn9⟩ := of_decide_eq_true hok
    obtain ⟨x, r, rfl, ha_⟩ := mi_pI h
    have hb_ : _ = some res := (mm_nrm_eq _ _).symm.trans ha_
    subst e9
    exact gs_istore hx hb hn9 hd (hk _ _ _ hb_)
  | lstore_n k9 =>
    obtain ⟨rfl, e9, hn9⟩ := of_decide_eq_true hok
    obtain ⟨x, r, rfl, ha_⟩ := mi_pJ h
    have hb_ : _ = some res := (mm_nrm_eq _ _).symm.trans ha_
    exact gs_lstore_n hx hb e9 hn9 hd (hk _ _ _ hb_)
  | lstore k9 =>
    obtain ⟨rfl, e9, hn9⟩ := of_decide_eq_true hok
    obtain ⟨x, r, rfl, ha_⟩ := mi_pJ h
    have hb_ : _ = some res := (mm_nrm_eq _ _).symm.trans ha_
    subst e9
    exact gs_lstore hx hb hn9 hd (hk _ _ _ hb_)
  | astore_n k9 =>
    obtain ⟨rfl, e9, hn9⟩ := of_decide_eq_true hok
    rcases mi_pN h with ⟨x, r, rfl, ha_⟩ | ⟨r, rfl, ha_⟩
    · exact gs_astore_n hx hb e9 hn9 hd (hk _ _ _ ((mm_nrm_eq _ _).symm.trans ha_))
    · exact gs_astore_nN hx hb e9 hn9 hd (hk _ _ _ ((mm_nrm_eq _ _).symm.trans ha_))
  | astore k9 =>
    obtain ⟨rfl, e9, hn9⟩ := of_decide_eq_true hok
    rcases mi_pN h with ⟨x, r, rfl, ha_⟩ | ⟨r, rfl, ha_⟩
    · subst e9; exact gs_astore hx hb hn9 hd (hk _ _ _ ((mm_nrm_eq _ _).symm.trans ha_))
    · subst e9; exact gs_astoreN hx hb hn9 hd (hk _ _ _ ((mm_nrm_eq _ _).symm.trans ha_))
  | iinc k9 z =>
    obtain ⟨rfl, rfl, rfl, hn9⟩ := of_decide_eq_true hok
    obtain ⟨v9, hv9, ha_⟩ := mi_ld h
    obtain ⟨y9, r9, e1, hb_⟩ := mi_pI ha_
    cases e1
    obtain ⟨n9, r8, e2, hc_⟩ := mi_pI hb_
    cases e2
    have hd_ : _ = some res := (mm_nrm_eq _ _).symm.trans hc_
    exact gs_iinc hx hb hv9 rfl hn9 hd (hk _ _ _ hd_)
  | iadd =>
    obtain rfl : len = 1 := of_decide_eq_true hok
    obtain ⟨x, y, r, rfl, ha_⟩ := mi_pII h
    exact gs_iadd hx hb hd (hk _ _ _ ha_)
  | isub =>
    obtain rfl : len = 1 := of_decide_eq_true hok
    obtain ⟨x, y, r, rfl, ha_⟩ := mi_pII h
    exact gs_isub hx hb hd (hk _ _ _ ha_)
  | imul =>
    obtain rfl : len = 1 := of_decide_eq_true hok
    obtain ⟨x, y, r, rfl, ha_⟩ := mi_pII h
    exact gs_imul hx hb hd (hk _ _ _ ha_)
  | iand =>
    obtain rfl : len = 1 := of_decide_eq_true hok
    obtain ⟨x, y, r, rfl, ha_⟩ := mi_pII h
    exact gs_iand hx hb hd (hk _ _ _ ha_)
  | ior =>
    obtain rfl : len = 1 := of_decide_eq_true hok
    obtain ⟨x, y, r, rfl, ha_⟩ := mi_pII h
    exact gs_ior hx hb hd (hk _ _ _ ha_)
  | ixor =>
    obtain rfl : len = 1 := of_decide_eq_true hok
    obtain ⟨x, y, r, rfl, ha_⟩ := mi_pII h
    exact gs_ixor hx hb hd (hk _ _ _ ha_)
  | ishl =>
    obtain rfl : len = 1 := of_decide_eq_true hok
    obtain ⟨x, y, r, rfl, ha_⟩ := mi_pII h
    exact gs_ishl hx hb hd (hk _ _ _ ha_)
  | ishr =>
    obtain rfl : len = 1 := of_decide_eq_true hok
    obtain ⟨x, y, r, rfl, ha_⟩ := mi_pII h
    exact gs_ishr hx hb hd (hk _ _ _ ha_)
  | iushr =>
    obtain rfl : len = 1 := of_decide_eq_true hok
    obtain ⟨x, y, r, rfl, ha_⟩ := mi_pII h
    exact gs_iushr hx hb hd (hk _ _ _ ha_)
  | idiv =>
    obtain rfl : len = 1 := of_decide_eq_true hok
    obtain ⟨x, y, r, rfl, ha_⟩ := mi_pII h
    by_cases hy0 : y = 0
    · rw [if_pos hy0] at ha_; cases ha_
    · rw [if_neg hy0] at ha_; exact gs_idiv hx hb hy0 hd (hk _ _ _ ha_)
  | irem =>
    obtain rfl : len = 1 := of_decide_eq_true hok
    obtain ⟨x, y, r, rfl, ha_⟩ := mi_pII h
    by_cases hy0 : y = 0
    · rw [if_pos hy0] at ha_; cases ha_
    · rw [if_neg hy0] at ha_; exact gs_irem hx hb hy0 hd (hk _ _ _ ha_)
  | ladd =>
    obtain rfl : len = 1 := of_decide_eq_true hok
    obtain ⟨x, y, r, rfl, ha_⟩ := mi_pJJ h
    exact gs_ladd hx hb hd (hk _ _ _ ha_)
  | lsub =>
    obtain rfl : len = 1 := of_decide_eq_true hok
    obtain ⟨x, y, r, rfl, ha_⟩ := mi_pJJ h
    exact gs_lsub hx hb hd (hk _ _ _ ha_)
  | lmul =>
    obtain rfl : len = 1 := of_decide_eq_true hok
    obtain ⟨x, y, r, rfl, ha_⟩ := mi_pJJ h
    exact gs_lmul hx hb hd (hk _ _ _ ha_)
  | land =>
    obtain rfl : len = 1 := of_decide_eq_true hok
    obtain ⟨x, y, r, rfl, ha_⟩ := mi_pJJ h
    exact gs_land hx hb hd (hk _ _ _ ha_)
  | lor =>
    obtain rfl : len = 1 := of_decide_eq_true hok
    obtain ⟨x, y, r, rfl, ha_⟩ := mi_pJJ h
    exact gs_lor hx hb hd (hk _ _ _ ha_)
  | lcmp =>
    obtain rfl : len = 1 := of_decide_eq_true hok
    obtain ⟨x, y, r, rfl, ha_⟩ := mi_pJJ h
    exact gs_lcmp hx hb hd (hk _ _ _ ha_)
  | ldiv =>
    obtain rfl : len = 1 := of_decide_eq_true hok
    obtain ⟨x, y, r, rfl, ha_⟩ := mi_pJJ h
    by_cases hy0 : y = 0
    · rw [if_pos hy0] at ha_; cases ha_
    · rw [if_neg hy0] at ha_; exact gs_ldiv hx hb hy0 hd (hk _ _ _ ha_)
  | lrem =>
    obtain rfl : len = 1 := of_decide_eq_true hok
    obtain ⟨x, y, r, rfl, ha_⟩ := mi_pJJ h
    by_cases hy0 : y = 0
    · rw [if_pos hy0] at ha_; cases ha_
    · rw [if_neg hy0] at ha_; exact gs_lrem hx hb hy0 hd (hk _ _ _ ha_)
  | lshl =>
    obtain rfl : len = 1 := of_decide_eq_true hok
    obtain ⟨x, y, r, rfl, ha_⟩ := mi_pJI h
    exact gs_lshl hx hb hd (hk _ _ _ ha_)
  | lushr =>
    obtain rfl : len = 1 := of_decide_eq_true hok
    obtain ⟨x, y, r, rfl, ha_⟩ := mi_pJI h
    exact gs_lushr hx hb hd (hk _ _ _ ha_)
  | ineg =>
    obtain rfl : len = 1 := of_decide_eq_true hok
    obtain ⟨x, r, rfl, ha_⟩ := mi_pI h
    exact gs_ineg hx hb hd (hk _ _ _ ha_)
  | i2l =>
    obtain rfl : len = 1 := of_decide_eq_true hok
    obtain ⟨x, r, rfl, ha_⟩ := mi_pI h
    exact gs_i2l hx hb hd (hk _ _ _ ha_)
  | l2i =>
    obtain rfl : len = 1 := of_decide_eq_true hok
    obtain ⟨x, r, rfl, ha_⟩ := mi_pJ h
    exact gs_l2i hx hb hd (hk _ _ _ ha_)
  | dup =>
    obtain rfl : len = 1 := of_decide_eq_true hok
    obtain ⟨x, r, rfl, hc9, ha_⟩ := mi_p1 h
    exact gs_dup hx hb hc9 hd (hk _ _ _ ha_)
  | pop =>
    obtain rfl : len = 1 := of_decide_eq_true hok
    obtain ⟨x, r, rfl, hc9, ha_⟩ := mi_p1 h
    exact gs_pop hx hb hc9 hd (hk _ _ _ ha_)
  | dup2 =>
    obtain rfl : len = 1 := of_decide_eq_true hok
    obtain ⟨x, y, r, rfl, hc8, hc9, ha_⟩ := mi_p11 h
    exact gs_dup2 hx hb hc8 hc9 hd (hk _ _ _ ha_)
  | goto o9 =>
    obtain ⟨rfl, ht⟩ := of_decide_eq_true hok
    exact gs_goto hx hb hd ht (hg _ _ _ _ h)
  | ifCond q9 o9 =>
    obtain ⟨rfl, ht⟩ := of_decide_eq_true hok
    obtain ⟨x, r, rfl, ha_⟩ := mi_pI h
    cases q9 with
    | eq => exact gs_if_eq hx hb hd ht (fun q => hg _ _ _ _ (by simp only [mm_br, if_pos q] at ha_; exact ha_)) (fun q => hk _ _ _ (by simp only [mm_br, if_neg q] at ha_; exact ha_))
    | ne => exact gs_if_ne hx hb hd ht (fun q => hg _ _ _ _ (by simp only [mm_br, if_neg q] at ha_; exact ha_)) (fun q => hk _ _ _ (by simp only [mm_br, if_pos q] at ha_; exact ha_))
    | lt => exact gs_if_lt hx hb hd ht (fun q => hg _ _ _ _ (by simp only [mm_br, if_pos q] at ha_; exact ha_)) (fun q => hk _ _ _ (by simp only [mm_br, if_neg q] at ha_; exact ha_))
    | ge => exact gs_if_ge hx hb hd ht (fun q => hg _ _ _ _ (by simp only [mm_br, if_pos q] at ha_; exact ha_)) (fun q => hk _ _ _ (by simp only [mm_br, if_neg q] at ha_; exact ha_))
    | gt => exact gs_if_gt hx hb hd ht (fun q => hg _ _ _ _ (by simp only [mm_br, if_pos q] at ha_; exact ha_)) (fun q => hk _ _ _ (by simp only [mm_br, if_neg q] at ha_; exact ha_))
    | le => exact gs_if_le hx hb hd ht (fun q => hg _ _ _ _ (by simp only [mm_br, if_pos q] at ha_; exact ha_)) (fun q => hk _ _ _ (by simp only [mm_br, if_neg q] at ha_; exact ha_))
  | if_icmp q9 o9 =>
    obtain ⟨rfl, ht⟩ := of_decide_eq_true hok
    obtain ⟨x, y, r, rfl, ha_⟩ := mi_pII h
    cases q9 with
    | eq => exact gs_icmp_eq hx hb hd ht (fun q => hg _ _ _ _ (by simp only [mm_br, if_pos q] at ha_; exact ha_)) (fun q => hk _ _ _ (by simp only [mm_br, if_neg q] at ha_; exact ha_))
    | ne => exact gs_icmp_ne hx hb hd ht (fun q => hg _ _ _ _ (by simp only [mm_br, if_neg q] at ha_; exact ha_)) (fun q => hk _ _ _ (by simp only [mm_br, if_pos q] at ha_; exact ha_))
    | lt => exact gs_icmp_lt hx hb hd ht (fun q => hg _ _ _ _ (by simp only [mm_br, if_pos q] at ha_; exact ha_)) (fun q => hk _ _ _ (by simp only [mm_br, if_neg q] at ha_; exact ha_))
    | ge => exact gs_icmp_ge hx hb hd ht (fun q => hg _ _ _ _ (by simp only [mm_br, if_pos q] at ha_; exact ha_)) (fun q => hk _ _ _ (by simp only [mm_br, if_neg q] at ha_; exact ha_))
    | gt => exact gs_icmp_gt hx hb hd ht (fun q => hg _ _ _ _ (by simp only [mm_br, if_pos q] at ha_; exact ha_)) (fun q => hk _ _ _ (by simp only [mm_br, if_neg q] at ha_; exact ha_))
    | le => exact gs_icmp_le hx hb hd ht (fun q => hg _ _ _ _ (by simp only [mm_br, if_pos q] at ha_; exact ha_)) (fun q => hk _ _ _ (by simp only [mm_br, if_neg q] at ha_; exact ha_))
  | ifnull o9 =>
    obtain ⟨rfl, ht⟩ := of_decide_eq_true hok
    rcases mi_pN h with ⟨x, r, rfl, ha_⟩ | ⟨r, rfl, ha_⟩
    · exact gs_ifnull_r hx hb hd ht (hk _ _ _ ha_)
    · exact gs_ifnull_n (x := 0) hx hb hd ht (hg _ _ _ _ ha_)
  | ifnonnull o9 =>
    obtain ⟨rfl, ht⟩ := of_decide_eq_true hok
    rcases mi_pN h with ⟨x, r, rfl, ha_⟩ | ⟨r, rfl, ha_⟩
    · exact gs_ifnonnull_r hx hb hd ht (hg _ _ _ _ ha_)
    · exact gs_ifnonnull_n (x := 0) hx hb hd ht (hk _ _ _ ha_)
  | tableswitch d9 lo hi offs =>
    simp only [mm_okI, Bool.and_eq_true, decide_eq_true_eq] at hok
    obtain ⟨x, r, rfl, ha_⟩ := mi_pI h
    exact gc_table hx hb hd hok.1.1 hok.2 hok.1.2 ha_ (fun t ht => hg _ _ _ _ ht)
  | lookupswitch d9 ps9 =>
    simp only [mm_okI, Bool.and_eq_true, decide_eq_true_eq] at hok
    obtain ⟨x, r, rfl, ha_⟩ := mi_pI h
    exact gc_lookup hx hb hd hok.1.1 (by simpa using hok.2) hok.1.2 ha_ (fun t ht => hg _ _ _ _ ht)
  | ireturn =>
    simp only [mm_okI, Bool.and_eq_true, decide_eq_true_eq] at hok
    obtain ⟨rfl, hok⟩ := hok
    obtain ⟨x, r, rfl, ha_⟩ := mi_pI h
    cases r with
    | cons z zs => cases ha_
    | nil =>
      cases b with
      | zero =>
        have hrt2 : rt = some .int := of_decide_eq_true hok
        cases ha_
        rw [hQr rfl]
        exact gc_iret (y := 0) (a := 0) hx hb hA0 hM0 hK hlocks (by rw [hrt]; exact hrt2) hd
      | succ b =>
        have hrt2 : rt = some .boolean := of_decide_eq_true hok
        by_cases h0 : x = 0
        · simp only [mm_sem, h0] at ha_
          cases ha_
          rw [h0]
          rw [hQr rfl]
          exact gc_zret (y := 0) (a := 0) hx hb hA0 hM0 hK hlocks (by rw [hrt]; exact hrt2) (Or.inl rfl) hd
        · by_cases h1 : x = 1
          · subst h1
            cases ha_
            rw [hQr rfl]
            exact gc_zret (y := 0) (a := 0) hx hb hA0 hM0 hK hlocks (by rw [hrt]; exact hrt2) (Or.inr rfl) hd
          · simp only [if_neg h0, if_neg h1] at ha_
            cases ha_
  | lreturn =>
    obtain ⟨rfl, hrt2⟩ := of_decide_eq_true hok
    obtain ⟨x, r, rfl, ha_⟩ := mi_pJ h
    cases r with
    | cons z zs => cases ha_
    | nil =>
      cases ha_
      rw [hQr rfl]
      exact gc_lret (x := 0) (a := 0) hx hb hA0 hM0 hK hlocks (by rw [hrt]; exact hrt2) hd
  | areturn =>
    simp only [mm_okI, Bool.and_eq_true, decide_eq_true_eq] at hok
    obtain ⟨rfl, hok⟩ := hok
    obtain ⟨x, r, rfl, ha_⟩ := mi_pR h
    cases r with
    | cons z zs => cases ha_
    | nil =>
      cases ha_
      cases rt with
      | none => cases hok
      | some t9 =>
        rw [hQr rfl]
        refine gc_aret (x := 0) (y := 0) hx hb hA0 hM0 hK hlocks hrt ?_ hd
        cases t9 with
        | object n9 => exact Or.inl ⟨_, rfl⟩
        | array n9 => exact Or.inr ⟨_, rfl⟩
        | _ => cases hok
  | return_ =>
    obtain ⟨rfl, hrt2⟩ := of_decide_eq_true hok
    cases K with
    | cons z zs => cases h
    | nil =>
      cases h
      rw [hQr rfl]
      exact gc_vret (x := 0) (y := 0) (a := 0) hx hb hA0 hM0 hK hlocks (by rw [hrt]; exact hrt2) hd
  | getfield idx =>
    cases hq : mm_cl[a]? with
    | none => simp only [mm_okI, hq] at hok; cases hok
    | some q =>
      simp only [mm_okI, hq, decide_eq_true_eq] at hok
      obtain ⟨rfl, hb9, htk, hc4⟩ := hok
      have hlink : (Cond.fieldLink own idx (q.2.1 b).1 (q.2.1 b).2.1 (q.2.1 b).2.2.1).before args s = true ∨ ∃ host, (Cond.fieldLinkNest own idx (q.2.1 b).1 (q.2.1 b).2.1 (q.2.1 b).2.2.1 host).before args s = true := by
            rcases (show (c9 / 4) % 4 = 0 ∨ (c9 / 4) % 4 = 1 by omega) with h4 | h4
            · refine Or.inl (hts _ (hTs _ (hws _ ?_)))
              simp only [mm_wds, hq, h4]
              exact List.mem_cons_self
            · refine Or.inr ⟨mm_host, va_Nw.use rfl (hN _ (hns _ ?_))⟩
              simp only [mm_nwd, hq, h4]
              exact List.mem_cons_self
      obtain ⟨o, r, rfl, ha_⟩ := mi_pR h
      obtain ⟨ho, hb_⟩ := mi_cond ha_
      have ho := mm_obj_eq ho
      rcases (show c9 % 4 = 0 ∨ c9 % 4 = 1 ∨ c9 % 4 = 2 ∨ c9 % 4 = 3 by omega) with h4 | h4 | h4 | h4
      · simp only [h4] at hb_
        exact gh_getI hx hb hY hts hown hK hq (fun w hw => hTs w (hlay a q hq w hw)) hb9 hlink ho (Or.inl (mm_tk0 (htk.trans h4))) hd (hk _ _ _ hb_)
      · simp only [h4] at hb_
        exact gh_getJ hx hb hY hts hown hK hq (fun w hw => hTs w (hlay a q hq w hw)) hb9 hlink ho (mm_tk1 (htk.trans h4)) hd (hk _ _ _ hb_)
      · simp only [h4] at hb_
        exact gh_getP hx hb hY hts hown hK hq (fun w hw => hTs w (hlay a q hq w hw)) hb9 hlink ho (htk.trans h4) hd (hk _ _ _ hb_)
      · simp only [h4] at hb_
        exact gh_getI hx hb hY hts hown hK hq (fun w hw => hTs w (hlay a q hq w hw)) hb9 hlink ho (Or.inr (mm_tk3 (htk.trans h4))) hd (hk _ _ _ hb_)
  | putfield idx =>
    cases hq : mm_cl[a]? with
    | none => simp only [mm_okI, hq] at hok; cases hok
    | some q =>
      simp only [mm_okI, hq, decide_eq_true_eq, Bool.and_eq_true, Bool.or_eq_true] at hok
      obtain ⟨⟨rfl, hb9, htk, hc4⟩, hfi⟩ := hok
      have hlink : (Cond.fieldLink own idx (q.2.1 b).1 (q.2.1 b).2.1 (q.2.1 b).2.2.1).before args s = true ∨ ∃ host, (Cond.fieldLinkNest own idx (q.2.1 b).1 (q.2.1 b).2.1 (q.2.1 b).2.2.1 host).before args s = true := by
            rcases (show (c9 / 4) % 4 = 0 ∨ (c9 / 4) % 4 = 1 by omega) with h4 | h4
            · refine Or.inl (hts _ (hTs _ (hws _ ?_)))
              simp only [mm_wds, hq, h4]
              exact List.mem_cons_self
            · refine Or.inr ⟨mm_host, va_Nw.use rfl (hN _ (hns _ ?_))⟩
              simp only [mm_nwd, hq, h4]
              exact List.mem_cons_self
      have hfin : (q.2.1 b).2.2.2 = false ∨ ((q.2.1 b).2.2.2 = true ∧ meth.name = "<init>" ∧ (q.2.1 b).1 = own ∧ (Cond.fieldLink own idx (q.2.1 b).1 (q.2.1 b).2.1 (q.2.1 b).2.2.1).before args s = true) := by
            cases hf9 : (q.2.1 b).2.2.2 with
            | false => exact Or.inl rfl
            | true =>
              rcases hfi with hfi | ⟨e1, e2, e3⟩
              · rw [hf9] at hfi; cases hfi
              · refine Or.inr ⟨rfl, hnm e1, e2, hts _ (hTs _ (hws _ ?_))⟩
                simp only [mm_wds, hq, e3]
                exact List.mem_cons_self
      rcases (show c9 % 4 = 0 ∨ c9 % 4 = 1 ∨ c9 % 4 = 2 ∨ c9 % 4 = 3 by omega) with h4 | h4 | h4 | h4
      · simp only [mm_sem, h4] at h
        obtain ⟨x, r1, rfl, ha_⟩ := mi_pI h
        obtain ⟨o, r, rfl, hb_⟩ := mi_pR ha_
        obtain ⟨ho, hc_⟩ := mi_cond hb_
        have ho := mm_obj_eq ho
        exact gh_putI hx hb hY hts hown hK hq (fun w hw => hTs w (hlay a q hq w hw)) hb9 hlink ho hfin (mm_tk0 (htk.trans h4)) hd (hk _ _ _ hc_)
      · simp only [mm_sem, h4] at h
        obtain ⟨x, r1, rfl, ha_⟩ := mi_pJ h
        obtain ⟨o, r, rfl, hb_⟩ := mi_pR ha_
        obtain ⟨ho, hc_⟩ := mi_cond hb_
        have ho := mm_obj_eq ho
        exact gh_putJ hx hb hY hts hown hK hq (fun w hw => hTs w (hlay a q hq w hw)) hb9 hlink ho hfin (mm_tk1 (htk.trans h4)) hd (hk _ _ _ hc_)
      · simp only [mm_sem, h4] at h
        obtain ⟨x, r1, rfl, ha_⟩ := mi_pR h
        obtain ⟨o, r, rfl, hb_⟩ := mi_pR ha_
        obtain ⟨ho, hc_⟩ := mi_cond hb_
        rw [Bool.and_eq_true] at ho
        obtain ⟨ho, hfr⟩ := ho
        have ho := mm_obj_eq ho
        exact gh_putP hx hb hY hts hown hK hq (fun w hw => hTs w (hlay a q hq w hw)) hb9 hlink ho hfin (htk.trans h4) hfr hd (hk _ _ _ hc_)
      · simp only [mm_sem, h4] at h
        obtain ⟨x, r1, rfl, ha_⟩ := mi_pI h
        obtain ⟨o, r, rfl, hb_⟩ := mi_pR ha_
        obtain ⟨ho, hc_⟩ := mi_cond hb_
        have ho := mm_obj_eq ho
        by_cases h0 : x = 0
        · subst h0
          exact gh_putZ hx hb hY hts hown hK hq (fun w hw => hTs w (hlay a q hq w hw)) hb9 hlink ho hfin (mm_tk3 (htk.trans h4)) (Or.inl rfl) hd (hk _ _ _ hc_)
        · by_cases h1 : x = 1
          · subst h1
            exact gh_putZ hx hb hY hts hown hK hq (fun w hw => hTs w (hlay a q hq w hw)) hb9 hlink ho hfin (mm_tk3 (htk.trans h4)) (Or.inr rfl) hd (hk _ _ _ hc_)
          · rw [if_neg h0, if_neg h1] at hc_; cases hc_
  | getstatic idx =>
    obtain ⟨rfl, ha9⟩ := of_decide_eq_true hok
    obtain ⟨q, hq⟩ : ∃ q, mm_stat[a]? = some q := ⟨_, List.getElem?_eq_getElem (show a < mm_stat.length from ha9)⟩
    refine ga_stat hx hb h16n hZ hown hq (hts _ (hTs _ (hws _ ?_))) hd (hk _ _ _ h)
    simp only [mm_wds, hq]
    exact List.mem_cons_self
  | arraylength =>
    obtain rfl : len = 1 := of_decide_eq_true hok
    obtain ⟨o, r, rfl, ha_⟩ := mi_pR h
    cases ho : mm_s Y M o with
    | inl ci => simp only [ho] at ha_; cases ha_
    | inr q =>
      obtain ⟨ty, n⟩ := q
      simp only [ho] at ha_
      obtain ⟨hty, hb_⟩ := mi_cond ha_
      simp only [Bool.and_eq_true, Bool.or_eq_true, Bool.not_eq_true'] at hty
      exact ga_len hx hb hY hK h16n hT (Nat.le_of_ble_eq_true hty.1) ho (hty.2.elim (fun z => Or.inl fun e => by subst e; cases z) (fun z => Or.inr fun e => absurd (Nat.blt_eq.mp z) (by omega))) hd (hk _ _ _ hb_)
  | iaload =>
    obtain rfl : len = 1 := of_decide_eq_true hok
    obtain ⟨o, i9, r, rfl, ha_⟩ := mi_pRI h
    obtain ⟨n9, ho, hb_⟩ := mi_bind ha_
    obtain ⟨hi, hc_⟩ := mi_cond hb_
    exact ga_iald hx hb hY hK h16n hT (mm_arr_eq ho) (mm_inb_in hi) hd (hk _ _ _ hc_)
  | baload =>
    obtain rfl : len = 1 := of_decide_eq_true hok
    obtain ⟨o, i9, r, rfl, ha_⟩ := mi_pRI h
    obtain ⟨n9, ho, hb_⟩ := mi_bind ha_
    obtain ⟨hi, hc_⟩ := mi_cond hb_
    exact ga_bald hx hb hY hK h16n hT (mm_arr_eq ho) (mm_inb_in hi) hd (hk _ _ _ hc_)
  | caload =>
    obtain rfl : len = 1 := of_decide_eq_true hok
    obtain ⟨o, i9, r, rfl, ha_⟩ := mi_pRI h
    obtain ⟨n9, ho, hb_⟩ := mi_bind ha_
    obtain ⟨hi, hc_⟩ := mi_cond hb_
    rw [Bool.and_eq_true] at hi
    exact ga_cald hx hb hY hK h16n hT (mm_arr_eq ho) (by have := Nat.blt_eq.mp hi.2; omega) (mm_inb_in hi.1) hd (hk _ _ _ hc_)
  | laload =>
    obtain rfl : len = 1 := of_decide_eq_true hok
    obtain ⟨o, i9, r, rfl, ha_⟩ := mi_pRI h
    obtain ⟨n9, ho, hb_⟩ := mi_bind ha_
    obtain ⟨hi, hc_⟩ := mi_cond hb_
    rw [Bool.and_eq_true] at hi
    exact ga_lald hx hb hY hK h16n hT (mm_arr_eq ho) (Nat.le_of_ble_eq_true hi.2) (mm_inb_in hi.1) hd (hk _ _ _ hc_)
  | aaload =>
    obtain ⟨rfl, ha9⟩ := of_decide_eq_true hok
    obtain ⟨o, i9, r, rfl, ha_⟩ := mi_pRI h
    obtain ⟨n9, ho, hb_⟩ := mi_bind ha_
    obtain ⟨hi, hc_⟩ := mi_cond hb_
    rw [Bool.and_eq_true] at hi
    rcases (show a = 0 ∨ a = 1 by omega) with rfl | rfl
    · exact ga_aald4 hx hb hY hK h16n hT (mm_arr_eq ho) (Nat.le_of_ble_eq_true hi.2) (mm_inb_in hi.1) hd (hk _ _ _ hc_)
    · exact ga_aald5 hx hb hY hK h16n hT (mm_arr_eq ho) (Nat.le_of_ble_eq_true hi.2) (mm_inb_in hi.1) hd (hk _ _ _ hc_)
  | iastore =>
    obtain rfl : len = 1 := of_decide_eq_true hok
    obtain ⟨o, i9, x, r, rfl, ha_⟩ := mi_pRII h
    obtain ⟨n9, ho, hb_⟩ := mi_bind ha_
    obtain ⟨hi, hc_⟩ := mi_cond hb_
    rw [Bool.and_eq_true] at hi
    exact ga_iast hx hb hY hK h16n hT (mm_arr_eq ho) (Nat.le_of_ble_eq_true hi.2) (mm_inb_in hi.1) hd (hk _ _ _ hc_)
  | bastore =>
    obtain rfl : len = 1 := of_decide_eq_true hok
    obtain ⟨o, i9, x, r, rfl, ha_⟩ := mi_pRII h
    obtain ⟨n9, ho, hb_⟩ := mi_bind ha_
    obtain ⟨hi, hc_⟩ := mi_cond hb_
    rw [Bool.and_eq_true] at hi
    exact ga_bast hx hb hY hK h16n hT (mm_arr_eq ho) (Nat.le_of_ble_eq_true hi.2) (mm_inb_in hi.1) hd (hk _ _ _ hc_)
  | lastore =>
    obtain rfl : len = 1 := of_decide_eq_true hok
    obtain ⟨o, i9, x, r, rfl, ha_⟩ := mi_pRIJ h
    obtain ⟨n9, ho, hb_⟩ := mi_bind ha_
    obtain ⟨hi, hc_⟩ := mi_cond hb_
    rw [Bool.and_eq_true] at hi
    exact ga_last hx hb hY hK h16n hT (mm_arr_eq ho) (Nat.le_of_ble_eq_true hi.2) (mm_inb_in hi.1) hd (hk _ _ _ hc_)
  | aastore =>
    obtain ⟨rfl, ha9⟩ := of_decide_eq_true hok
    obtain ⟨o, i9, x, r, rfl, ha_⟩ := mi_pRIR h
    obtain ⟨n9, ho, hb_⟩ := mi_bind ha_
    obtain ⟨hi, hc_⟩ := mi_cond hb_
    simp only [Bool.and_eq_true] at hi
    obtain ⟨hi1, ⟨hi2, hi3, hi4⟩, hi5⟩ := hi
    rcases (show a = 0 ∨ a = 1 by omega) with rfl | rfl
    · exact ga_aast4 hx hb hY hK h16n hT hi4 (Nat.le_of_ble_eq_true hi3) (mm_obj_eq hi5) (mm_arr_eq ho) (Nat.le_of_ble_eq_true hi2) (mm_inb_in hi1) hd (hk _ _ _ hc_)
    · cases hx9 : mm_arr (mm_s Y M x) 0 with
      | none => simp only [hx9] at hi5; cases hi5
      | some nx => exact ga_aast5 hx hb hY hK h16n hT h5 hi4 (Nat.le_of_ble_eq_true hi3) (mm_arr_eq hx9) (mm_arr_eq ho) (Nat.le_of_ble_eq_true hi2) (mm_inb_in hi1) hd (hk _ _ _ hc_)
  | newarray at9 =>
    obtain ⟨rfl, hat⟩ := of_decide_eq_true hok
    obtain ⟨x, r, rfl, ha_⟩ := mi_pI h
    obtain ⟨hi, hb_⟩ := mi_cond ha_
    simp only [Bool.and_eq_true, Bool.not_eq_true', decide_eq_false_iff_not] at hi
    exact ga_newa hx hb hY hK h16n hA hRc hRs hat hi.2.1 (Nat.le_of_ble_eq_true hi.2.2) (hts _ (hTs _ (hws _ List.mem_cons_self))) hd (hk _ _ _ hb_)
  | anewarray idx =>
    obtain rfl : len = 3 := of_decide_eq_true hok
    obtain ⟨x, r, rfl, ha_⟩ := mi_pI h
    obtain ⟨hi, hb_⟩ := mi_cond ha_
    simp only [Bool.and_eq_true, Bool.not_eq_true', decide_eq_false_iff_not] at hi
    exact ga_anew hx hb hY hK h16n hA hRc hRs hown (hts _ (hTs _ (hws _ List.mem_cons_self))) hO hi.2.1 (Nat.le_of_ble_eq_true hi.2.2) hd (hk _ _ _ hb_)
  | multianewarray idx k9 =>
    obtain ⟨rfl, rfl⟩ := of_decide_eq_true hok
    obtain ⟨x, y, r, rfl, ha_⟩ := mi_pII h
    obtain ⟨hi, hb_⟩ := mi_cond ha_
    simp only [Bool.and_eq_true, decide_eq_true_eq] at hi
    obtain ⟨-, rfl, rfl⟩ := hi
    exact ga_mna hx hb hY hK h16n hA hRc hRs hown (hts _ (hTs _ (hws _ List.mem_cons_self))) h5 (hts _ (hTs _ (hws _ (List.mem_cons_of_mem _ List.mem_cons_self)))) hd (hk _ _ _ hb_)
  | new idx =>
    obtain ⟨rfl, ha9⟩ := of_decide_eq_true hok
    obtain ⟨q, hq⟩ : ∃ q, mm_cl[a]? = some q := ⟨_, List.getElem?_eq_getElem (show a < mm_cl.length from ha9)⟩
    simp only [mm_sem, (mm_cl_ok a q hq).1] at h
    obtain ⟨hi, ha_⟩ := mi_cond h
    have hw9 : ∀ w ∈ [Cond.classLink own idx q.1, Cond.instantiable q.1 q.2.2, Cond.initialized q.1], w.before args s = true := fun w hw => hts _ (hTs _ (hws _ (by simp only [mm_wds, hq]; exact hw)))
    exact ga_new hx hb hY hK h16n hA hRc hRs hts hown hq (fun w hw => hTs w (hlay a q hq w hw)) (hw9 _ (by simp)) (hw9 _ (by simp)) (hw9 _ (by simp)) hd (hk _ _ _ ha_)
  | invokevirtual idx =>
    cases hy : mth[a]? with
    | none => simp only [mm_okI, hy] at hok; cases hok
    | some y =>
      cases hq : mm_cl[c9 / 16]? with
      | none => simp only [mm_okI, hy, hq] at hok; cases hok
      | some q =>
        simp only [mm_okI, hy, hq, Bool.and_eq_true, decide_eq_true_eq] at hok
        obtain ⟨⟨rfl, hcls, hc4⟩, hpl⟩ := hok
        obtain ⟨p9, hp9, ha_⟩ := mi_bind h
        obtain ⟨as, rest0⟩ := p9
        obtain ⟨bs, e1, rfl, hlen⟩ := mm_pop_eq _ _ _ _ _ hp9
        rw [List.append_nil] at e1
        subst e1
        obtain ⟨o, rest, e2, hb_⟩ := mi_pR ha_
        simp only at e2
        subst e2
        obtain ⟨hi, hc_⟩ := mi_cond hb_
        rw [Bool.and_eq_true] at hi
        obtain ⟨v9, m9, hev, hd_⟩ := mi_ans hc_
        refine sm_callV hx hb hml hown hlocks hrt hnm hTs hts hY hK hnest h16n hA0 hM0 hA hT hZ hN hO h5 hlay hcode hRc hRs hRf hRl hcall hy hq (mm_obj_eq hi.1) hcls hpl (Nat.le_of_ble_eq_true hi.2) hlen hev ?_ hd (hk _ _ _ hd_)
        rcases (show (c9 / 4) % 4 = 0 ∨ (c9 / 4) % 4 = 1 by omega) with h4 | h4
        · simp only [mm_wds, hy, h4] at hws
          exact Or.inl hws
        · simp only [mm_wds, mm_nwd, hy, h4] at hws hns
          exact Or.inr ⟨hws, hns _ List.mem_cons_self⟩
  | invokestatic idx =>
    by_cases h4 : (c9 / 4) % 4 = 2
    · simp only [mm_okI, h4, decide_eq_true_eq] at hok
      subst hok
      simp only [mm_sem, h4] at h
      simp only [mm_wds, h4] at hws
      have hw9 : ∀ w ∈ [Cond.methodLink own idx arraycopyName, Cond.native arraycopyName, Cond.static arraycopyName, Cond.initialized "java/lang/System"], w.before args s = true := fun w hw => hts _ (hTs _ (hws w hw))
      unfold mm_copy at h
      split at h
      · obtain ⟨x1, rfl, ha_⟩ := mi_asR h
        obtain ⟨x2, e2, hb_⟩ := mi_asR ha_
        subst e2
        obtain ⟨nb, hb1, hc_⟩ := mi_bind hb_
        obtain ⟨na, ha1, hd_⟩ := mi_bind hc_
        obtain ⟨hi, he_⟩ := mi_cond hd_
        simp only [Bool.and_eq_true, Bool.not_eq_true', decide_eq_false_iff_not] at hi
        obtain ⟨i1, i2, i3, i4, i5, i6, i7, i8⟩ := hi
        exact gq_copy hx hb hml hY hK hown (hw9 _ (by simp)) (hw9 _ (by simp)) (hw9 _ (by simp)) (hw9 _ (by simp)) (mm_arr_eq hb1) (mm_arr_eq ha1) (Nat.le_of_ble_eq_true i2) (Nat.le_of_ble_eq_true i3) i6 i5 i4 (Nat.le_of_ble_eq_true i7) (Nat.le_of_ble_eq_true i8) (by omega) (Nat.le_trans (show 8 + (nativeFrameWords "java/lang/System" "arraycopy" 5 + 11) ≤ 200 by decide +kernel) (by omega)) (Nat.le_of_ble_eq_true i1) hd (hk _ _ _ he_)
      · cases h
    · cases hy : mth[a]? with
      | none =>
        exfalso
        simp only [mm_okI, hy] at hok
        cases hok
      | some y =>
        have hlk : (decide (len = 3) && mm_plain y.1 b) = true ∧ ((c9 / 4) % 4 = 0 ∨ (c9 / 4) % 4 = 1) := by
          rcases (show (c9 / 4) % 4 = 0 ∨ (c9 / 4) % 4 = 1 ∨ (c9 / 4) % 4 = 3 by omega) with e4 | e4 | e4
          · simp only [mm_okI, hy, e4] at hok; exact ⟨hok, Or.inl e4⟩
          · simp only [mm_okI, hy, e4] at hok; exact ⟨hok, Or.inr e4⟩
          · simp only [mm_okI, hy, e4] at hok; cases hok
        obtain ⟨hok, h04⟩ := hlk
        simp only [Bool.and_eq_true, decide_eq_true_eq] at hok
        obtain ⟨rfl, hpl⟩ := hok
        have ha_ : mm_invS call a b (c9 % 4) L K M k = some res := by rcases h04 with e4 | e4 <;> simpa only [mm_sem, e4] using h
        obtain ⟨p9, hp9, hb_⟩ := mi_bind ha_
        obtain ⟨as, rest⟩ := p9
        obtain ⟨bs, e1, rfl, hlen⟩ := mm_pop_eq _ _ _ _ _ hp9
        rw [List.append_nil] at e1
        subst e1
        obtain ⟨hi, hc_⟩ := mi_cond hb_
        obtain ⟨v9, m9, hev, hd_⟩ := mi_ans hc_
        refine sm_callS hx hb hml hown hlocks hrt hnm hTs hts hY hK hnest h16n hA0 hM0 hA hT hZ hN hO h5 hlay hcode hRc hRs hRf hRl hcall hy hpl (Nat.le_of_ble_eq_true hi) hlen hev ?_ hd (hk _ _ _ hd_)
        rcases h04 with e4 | e4
        · simp only [mm_wds, hy, e4] at hws
          exact Or.inl hws
        · simp only [mm_wds, mm_nwd, hy, e4] at hws hns
          exact Or.inr ⟨hws, hns _ List.mem_cons_self⟩
  | invokespecial idx =>
    by_cases h4 : (c9 / 4) % 4 = 2
    · simp only [mm_okI, h4, decide_eq_true_eq] at hok
      subst hok
      simp only [mm_sem, h4] at h
      simp only [mm_wds, h4] at hws
      have hw9 : ∀ w ∈ [Cond.methodLink own idx Lib.objectInit, Cond.instanceMethod Lib.objectInit, Cond.code Lib.objectInit ⟨#[0xb1]⟩ 1 none], w.before args s = true := fun w hw => hts _ (hTs _ (hws w hw))
      obtain ⟨o, rest, rfl, ha_⟩ := mi_pR h
      obtain ⟨hi, hb_⟩ := mi_cond ha_
      exact gq_obj hx hb hml hown (hw9 _ (by simp)) (hw9 _ (by simp)) (hw9 _ (by simp)) (by omega) (by omega) (Nat.le_of_ble_eq_true hi) hd (hk _ _ _ hb_)
    · cases hy : mth[a]? with
      | none =>
        exfalso
        simp only [mm_okI, hy] at hok
        cases hok
      | some y =>
        have hlk : (decide (len = 3 ∧ y.1.name = "<init>" ∧ y.2.2.2 = none) && mm_plain y.1 b) = true ∧ ((c9 / 4) % 4 = 0 ∨ (c9 / 4) % 4 = 1) := by
          rcases (show (c9 / 4) % 4 = 0 ∨ (c9 / 4) % 4 = 1 ∨ (c9 / 4) % 4 = 3 by omega) with e4 | e4 | e4
          · simp only [mm_okI, hy, e4] at hok; exact ⟨hok, Or.inl e4⟩
          · simp only [mm_okI, hy, e4] at hok; exact ⟨hok, Or.inr e4⟩
          · simp only [mm_okI, hy, e4] at hok; cases hok
        obtain ⟨hok, h04⟩ := hlk
        simp only [Bool.and_eq_true, decide_eq_true_eq] at hok
        obtain ⟨⟨rfl, hin1, hre⟩, hpl⟩ := hok
        have ha_ : mm_inv Y call a b 0 (c9 / 16) L K M k = some res := by rcases h04 with e4 | e4 <;> simpa only [mm_sem, e4] using h
        obtain ⟨p9, hp9, hb_⟩ := mi_bind ha_
        obtain ⟨as, rest0⟩ := p9
        obtain ⟨bs, e1, rfl, hlen⟩ := mm_pop_eq _ _ _ _ _ hp9
        rw [List.append_nil] at e1
        subst e1
        obtain ⟨o, rest, e2, hc_⟩ := mi_pR hb_
        simp only at e2
        subst e2
        obtain ⟨hi, hd_⟩ := mi_cond hc_
        rw [Bool.and_eq_true] at hi
        obtain ⟨v9, m9, hev, he_⟩ := mi_ans hd_
        refine sm_callI hx hb hml hown hlocks hrt hnm hTs hts hY hK hnest h16n hA0 hM0 hA hT hZ hN hO h5 hlay hcode hRc hRs hRf hRl hcall hy hpl hin1 hre (Nat.le_of_ble_eq_true hi.2) hlen hev ?_ hd (hk _ _ _ he_)
        rcases h04 with e4 | e4
        · simp only [mm_wds, hy, e4] at hws
          exact Or.inl hws
        · simp only [mm_wds, mm_nwd, hy, e4] at hws hns
          exact Or.inr ⟨hws, hns _ List.mem_cons_self⟩
  | _ => cases h
end SM
end
section
theorem mm_wf_wP {Y : mmY} {M : mmM} {o k x : Nat} (hw : mm_wf Y M) (hx : x < M.2.1) (hf : mm_free Y o k = true) : mm_wf Y (mm_wP M o k (some x)) := by
  refine ⟨hw.1, fun a j b ha1 ha2 hb2 => ?_⟩
  by_cases e : a = o
  · subst e
    by_cases e2 : j = k
    · subst e2
      rw [mm_p_wP_same hf] at hb2
      cases hb2
      exact hx
    · rw [mm_p_wP_nk e2] at hb2
      exact hw.2 a j b ha1 ha2 hb2
  · rw [mm_p_wP e] at hb2
    exact hw.2 a j b ha1 ha2 hb2
/-- what an evaluation leaves of the memory -/
def mm_Po (Y : mmY) (res : mmR) (n z : Nat) : Prop := mm_wf Y res.2 ∧ n ≤ res.2.2.1 ∧ z ≤ res.2.2.2.1 ∧ ∀ x, res.1 = some x → mm_okv res.2.2.1 x
def mm_Pu (Y : mmY) (res : mmR) (L : mmL) (K : List Value) (M : mmM) : Prop := mm_wf Y M → 16 ≤ M.2.1 → mm_ks M.2.1 K → mm_lk M.2.1 L → mm_Po Y res M.2.1 M.2.2.1
theorem mm_Po_le {Y : mmY} {res : mmR} {n z n' z' : Nat} (h : mm_Po Y res n' z') (h1 : n ≤ n') (h2 : z ≤ z') : mm_Po Y res n z := ⟨h.1, Nat.le_trans h1 h.2.1, Nat.le_trans h2 h.2.2.1, h.2.2.2⟩

theorem mi_br {c : ClassFile.Cond} {x y : Int32} {t f : Option mmR} {res : mmR} (h : mm_br c x y t f = some res) : t = some res ∨ f = some res := by
  unfold mm_br at h
  cases c <;> simp only at h <;> split at h <;> first | exact Or.inl h | exact Or.inr h

theorem mp_inv {Y : mmY} {call : mmC} {res : mmR} (hcall : ∀ (j : Nat) (as : List Value) (M : mmM) (v : Option Value) (M' : mmM), call j as M = some (v, M') → mm_wf Y M → 16 ≤ M.2.1 → mm_ks M.2.1 as → mm_Po Y (v, M') M.2.1 M.2.2.1) {j n c ci : Nat} {L : mmL} {K : List Value} {M : mmM} {k : mmK} (h : mm_inv Y call j n c ci L K M k = some res) (hk : ∀ (L' : mmL) (K' : List Value) (M' : mmM), k L' K' M' = some res → mm_Pu Y res L' K' M') : mm_Pu Y res L K M := by
  intro a1 a2 a3 a4
  obtain ⟨p9, hp9, h1⟩ := mi_bind h
  obtain ⟨as, rest0⟩ := p9
  obtain ⟨bs, e1, rfl, hlen⟩ := mm_pop_eq _ _ _ _ _ hp9
  rw [List.append_nil] at e1
  subst e1
  obtain ⟨o, rest, e2, h2⟩ := mi_pR h1
  simp only at e2
  subst e2
  obtain ⟨hi, h3⟩ := mi_cond h2
  obtain ⟨v9, m9, hev, h4⟩ := mi_ans h3
  have hk9 : mm_ks M.2.1 (.ref o :: as) := fun x hx1 => by
    rcases List.mem_cons.mp hx1 with rfl | hx1
    · exact a3 _ (List.mem_append_right _ List.mem_cons_self)
    · exact a3 _ (List.mem_append_left _ (List.mem_reverse.mpr hx1))
  obtain ⟨c1, c2, c3, c4⟩ := hcall _ _ _ _ _ hev a1 a2 hk9
  refine mm_Po_le (hk _ _ _ h4 c1 (Nat.le_trans a2 c2) (fun x hx1 => ?_) (fun i x hx1 => mm_okv_le (a4 i x hx1) c2)) c2 c3
  rcases List.mem_append.mp hx1 with h9 | h9
  · exact c4 x (by cases v9 with | none => cases h9 | some y => simp at h9; rw [h9])
  · exact mm_okv_le (a3 _ (List.mem_append_right _ (List.mem_cons_of_mem _ h9))) c2
theorem mp_invS {Y : mmY} {call : mmC} {res : mmR} (hcall : ∀ (j : Nat) (as : List Value) (M : mmM) (v : Option Value) (M' : mmM), call j as M = some (v, M') → mm_wf Y M → 16 ≤ M.2.1 → mm_ks M.2.1 as → mm_Po Y (v, M') M.2.1 M.2.2.1) {j n c : Nat} {L : mmL} {K : List Value} {M : mmM} {k : mmK} (h : mm_invS call j n c L K M k = some res) (hk : ∀ (L' : mmL) (K' : List Value) (M' : mmM), k L' K' M' = some res → mm_Pu Y res L' K' M') : mm_Pu Y res L K M := by
  intro a1 a2 a3 a4
  obtain ⟨p9, hp9, h1⟩ := mi_bind h
  obtain ⟨as, rest⟩ := p9
  obtain ⟨bs, e1, rfl, hlen⟩ := mm_pop_eq _ _ _ _ _ hp9
  rw [List.append_nil] at e1
  subst e1
  obtain ⟨hi, h3⟩ := mi_cond h1
  obtain ⟨v9, m9, hev, h4⟩ := mi_ans h3
  have hk9 : mm_ks M.2.1 as := fun x hx1 => a3 _ (List.mem_append_left _ (List.mem_reverse.mpr hx1))
  obtain ⟨c1, c2, c3, c4⟩ := hcall _ _ _ _ _ hev a1 a2 hk9
  refine mm_Po_le (hk _ _ _ h4 c1 (Nat.le_trans a2 c2) (fun x hx1 => ?_) (fun i x hx1 => mm_okv_le (a4 i x hx1) c2)) c2 c3
  rcases List.mem_append.mp hx1 with h9 | h9
  · exact c4 x (by cases v9 with | none => cases h9 | some y => simp at h9; rw [h9])
  · exact mm_okv_le (a3 _ (List.mem_append_right _ h9)) c2

set_option maxHeartbeats 8000000 in
theorem mp_sem {Y : mmY} {call : mmC} {res : mmR} {mth : List mmT} {own nm : String} {rt : Option FieldType} {nL pc : Nat} (hY : mm_wfY Y) (hcall : ∀ (j : Nat) (as : List Value) (M : mmM) (v : Option Value) (M' : mmM), call j as M = some (v, M') → mm_wf Y M → 16 ≤ M.2.1 → mm_ks M.2.1 as → mm_Po Y (v, M') M.2.1 M.2.2.1) {i : Instr} {len a b c9 : Nat} {v : Value} {w : List (Int32 × Nat)} {L : mmL} {K : List Value} {M : mmM} {k : mmK} {g : mmG} (hok : mm_okI mth own nm rt nL pc i len a b c9 v w = true)
    (h : mm_sem Y call i a b c9 v w L K M k g = some res) (hk : ∀ (L' : mmL) (K' : List Value) (M' : mmM), k L' K' M' = some res → mm_Pu Y res L' K' M') (hg : ∀ (t : Nat) (L' : mmL) (K' : List Value) (M' : mmM), g t L' K' M' = some res → mm_Pu Y res L' K' M') : mm_Pu Y res L K M := by
  cases i with
  | iconst z =>
    intro a1 a2 a3 a4
    obtain ⟨-, rfl⟩ := of_decide_eq_true hok
    exact hk _ _ _ h a1 a2 (mm_ks_cons trivial a3) a4
  | bipush z =>
    intro a1 a2 a3 a4
    obtain ⟨-, rfl⟩ := of_decide_eq_true hok
    exact hk _ _ _ h a1 a2 (mm_ks_cons trivial a3) a4
  | sipush z =>
    intro a1 a2 a3 a4
    obtain ⟨-, rfl⟩ := of_decide_eq_true hok
    exact hk _ _ _ h a1 a2 (mm_ks_cons trivial a3) a4
  | lconst z =>
    intro a1 a2 a3 a4
    obtain ⟨-, rfl⟩ := of_decide_eq_true hok
    exact hk _ _ _ h a1 a2 (mm_ks_cons trivial a3) a4
  | ldc idx =>
    intro a1 a2 a3 a4
    simp only [mm_okI, Bool.and_eq_true, decide_eq_true_eq] at hok
    obtain ⟨-, hv⟩ := hok
    cases v with
    | int x => exact hk _ _ _ h a1 a2 (mm_ks_cons trivial a3) a4
    | _ => cases hv
  | ldc_w idx =>
    intro a1 a2 a3 a4
    simp only [mm_okI, Bool.and_eq_true, decide_eq_true_eq] at hok
    obtain ⟨-, hv⟩ := hok
    cases v with
    | int x => exact hk _ _ _ h a1 a2 (mm_ks_cons trivial a3) a4
    | _ => cases hv
  | ldc2_w idx =>
    intro a1 a2 a3 a4
    simp only [mm_okI, Bool.and_eq_true, decide_eq_true_eq] at hok
    obtain ⟨-, hv⟩ := hok
    cases v with
    | long x => exact hk _ _ _ h a1 a2 (mm_ks_cons trivial a3) a4
    | _ => cases hv
  | iload_n k9 =>
    intro a1 a2 a3 a4
    obtain ⟨v9, hv9, h1⟩ := mi_ld h
    obtain ⟨x, e9, h2⟩ := mi_isI h1
    exact hk _ _ _ h2 a1 a2 (mm_ks_cons (a4 _ _ hv9) a3) a4
  | iload k9 =>
    intro a1 a2 a3 a4
    obtain ⟨v9, hv9, h1⟩ := mi_ld h
    obtain ⟨x, e9, h2⟩ := mi_isI h1
    exact hk _ _ _ h2 a1 a2 (mm_ks_cons (a4 _ _ hv9) a3) a4
  | lload_n k9 =>
    intro a1 a2 a3 a4
    obtain ⟨v9, hv9, h1⟩ := mi_ld h
    obtain ⟨x, e9, h2⟩ := mi_isJ h1
    exact hk _ _ _ h2 a1 a2 (mm_ks_cons (a4 _ _ hv9) a3) a4
  | lload k9 =>
    intro a1 a2 a3 a4
    obtain ⟨v9, hv9, h1⟩ := mi_ld h
    obtain ⟨x, e9, h2⟩ := mi_isJ h1
    exact hk _ _ _ h2 a1 a2 (mm_ks_cons (a4 _ _ hv9) a3) a4
  | aload_n k9 =>
    intro a1 a2 a3 a4
    obtain ⟨v9, hv9, h1⟩ := mi_ld h
    obtain ⟨e9, h2⟩ := mi_isA h1
    exact hk _ _ _ h2 a1 a2 (mm_ks_cons (a4 _ _ hv9) a3) a4
  | aload k9 =>
    intro a1 a2 a3 a4
    obtain ⟨v9, hv9, h1⟩ := mi_ld h
    obtain ⟨e9, h2⟩ := mi_isA h1
    exact hk _ _ _ h2 a1 a2 (mm_ks_cons (a4 _ _ hv9) a3) a4
  | istore_n k9 =>
    intro a1 a2 a3 a4
    obtain ⟨x, r, rfl, h1⟩ := mi_pI h
    exact hk _ _ _ ((mm_nrm_eq _ _).symm.trans h1) a1 a2 (mm_ks_tail a3) (mm_st1_lk a4 trivial)
  | istore k9 =>
    intro a1 a2 a3 a4
    obtain ⟨x, r, rfl, h1⟩ := mi_pI h
    exact hk _ _ _ ((mm_nrm_eq _ _).symm.trans h1) a1 a2 (mm_ks_tail a3) (mm_st1_lk a4 trivial)
  | lstore_n k9 =>
    intro a1 a2 a3 a4
    obtain ⟨x, r, rfl, h1⟩ := mi_pJ h
    exact hk _ _ _ ((mm_nrm_eq _ _).symm.trans h1) a1 a2 (mm_ks_tail a3) (mm_st2_lk a4 trivial)
  | lstore k9 =>
    intro a1 a2 a3 a4
    obtain ⟨x, r, rfl, h1⟩ := mi_pJ h
    exact hk _ _ _ ((mm_nrm_eq _ _).symm.trans h1) a1 a2 (mm_ks_tail a3) (mm_st2_lk a4 trivial)
  | astore_n k9 =>
    intro a1 a2 a3 a4
    rcases mi_pN h with ⟨x, r, rfl, h1⟩ | ⟨r, rfl, h1⟩
    · exact hk _ _ _ ((mm_nrm_eq _ _).symm.trans h1) a1 a2 (mm_ks_tail a3) (mm_st1_lk a4 (mm_ks_head a3))
    · exact hk _ _ _ ((mm_nrm_eq _ _).symm.trans h1) a1 a2 (mm_ks_tail a3) (mm_st1_lk a4 trivial)
  | astore k9 =>
    intro a1 a2 a3 a4
    rcases mi_pN h with ⟨x, r, rfl, h1⟩ | ⟨r, rfl, h1⟩
    · exact hk _ _ _ ((mm_nrm_eq _ _).symm.trans h1) a1 a2 (mm_ks_tail a3) (mm_st1_lk a4 (mm_ks_head a3))
    · exact hk _ _ _ ((mm_nrm_eq _ _).symm.trans h1) a1 a2 (mm_ks_tail a3) (mm_st1_lk a4 trivial)
  | iinc k9 z =>
    intro a1 a2 a3 a4
    obtain ⟨v9, hv9, h1⟩ := mi_ld h
    obtain ⟨y9, r9, e1, h2⟩ := mi_pI h1
    obtain ⟨n9, r8, e2, h3⟩ := mi_pI h2
    exact hk _ _ _ ((mm_nrm_eq _ _).symm.trans h3) a1 a2 a3 (mm_st1_lk a4 trivial)
  | iadd =>
    intro a1 a2 a3 a4
    obtain ⟨x, y, r, rfl, h1⟩ := mi_pII h
    exact hk _ _ _ h1 a1 a2 (mm_ks_cons trivial (mm_ks_tail (mm_ks_tail a3))) a4
  | isub =>
    intro a1 a2 a3 a4
    obtain ⟨x, y, r, rfl, h1⟩ := mi_pII h
    exact hk _ _ _ h1 a1 a2 (mm_ks_cons trivial (mm_ks_tail (mm_ks_tail a3))) a4
  | imul =>
    intro a1 a2 a3 a4
    obtain ⟨x, y, r, rfl, h1⟩ := mi_pII h
    exact hk _ _ _ h1 a1 a2 (mm_ks_cons trivial (mm_ks_tail (mm_ks_tail a3))) a4
  | iand =>
    intro a1 a2 a3 a4
    obtain ⟨x, y, r, rfl, h1⟩ := mi_pII h
    exact hk _ _ _ h1 a1 a2 (mm_ks_cons trivial (mm_ks_tail (mm_ks_tail a3))) a4
  | ior =>
    intro a1 a2 a3 a4
    obtain ⟨x, y, r, rfl, h1⟩ := mi_pII h
    exact hk _ _ _ h1 a1 a2 (mm_ks_cons trivial (mm_ks_tail (mm_ks_tail a3))) a4
  | ixor =>
    intro a1 a2 a3 a4
    obtain ⟨x, y, r, rfl, h1⟩ := mi_pII h
    exact hk _ _ _ h1 a1 a2 (mm_ks_cons trivial (mm_ks_tail (mm_ks_tail a3))) a4
  | ishl =>
    intro a1 a2 a3 a4
    obtain ⟨x, y, r, rfl, h1⟩ := mi_pII h
    exact hk _ _ _ h1 a1 a2 (mm_ks_cons trivial (mm_ks_tail (mm_ks_tail a3))) a4
  | ishr =>
    intro a1 a2 a3 a4
    obtain ⟨x, y, r, rfl, h1⟩ := mi_pII h
    exact hk _ _ _ h1 a1 a2 (mm_ks_cons trivial (mm_ks_tail (mm_ks_tail a3))) a4
  | iushr =>
    intro a1 a2 a3 a4
    obtain ⟨x, y, r, rfl, h1⟩ := mi_pII h
    exact hk _ _ _ h1 a1 a2 (mm_ks_cons trivial (mm_ks_tail (mm_ks_tail a3))) a4
  | idiv =>
    intro a1 a2 a3 a4
    obtain ⟨x, y, r, rfl, h1⟩ := mi_pII h
    by_cases hy0 : y = 0
    · rw [if_pos hy0] at h1; cases h1
    · rw [if_neg hy0] at h1; exact hk _ _ _ h1 a1 a2 (mm_ks_cons trivial (mm_ks_tail (mm_ks_tail a3))) a4
  | irem =>
    intro a1 a2 a3 a4
    obtain ⟨x, y, r, rfl, h1⟩ := mi_pII h
    by_cases hy0 : y = 0
    · rw [if_pos hy0] at h1; cases h1
    · rw [if_neg hy0] at h1; exact hk _ _ _ h1 a1 a2 (mm_ks_cons trivial (mm_ks_tail (mm_ks_tail a3))) a4
  | ladd =>
    intro a1 a2 a3 a4
    obtain ⟨x, y, r, rfl, h1⟩ := mi_pJJ h
    exact hk _ _ _ h1 a1 a2 (mm_ks_cons trivial (mm_ks_tail (mm_ks_tail a3))) a4
  | lsub =>
    intro a1 a2 a3 a4
    obtain ⟨x, y, r, rfl, h1⟩ := mi_pJJ h
    exact hk _ _ _ h1 a1 a2 (mm_ks_cons trivial (mm_ks_tail (mm_ks_tail a3))) a4
  | lmul =>
    intro a1 a2 a3 a4
    obtain ⟨x, y, r, rfl, h1⟩ := mi_pJJ h
    exact hk _ _ _ h1 a1 a2 (mm_ks_cons trivial (mm_ks_tail (mm_ks_tail a3))) a4
  | land =>
    intro a1 a2 a3 a4
    obtain ⟨x, y, r, rfl, h1⟩ := mi_pJJ h
    exact hk _ _ _ h1 a1 a2 (mm_ks_cons trivial (mm_ks_tail (mm_ks_tail a3))) a4
  | lor =>
    intro a1 a2 a3 a4
    obtain ⟨x, y, r, rfl, h1⟩ := mi_pJJ h
    exact hk _ _ _ h1 a1 a2 (mm_ks_cons trivial (mm_ks_tail (mm_ks_tail a3))) a4
  | lcmp =>
    intro a1 a2 a3 a4
    obtain ⟨x, y, r, rfl, h1⟩ := mi_pJJ h
    exact hk _ _ _ h1 a1 a2 (mm_ks_cons trivial (mm_ks_tail (mm_ks_tail a3))) a4
  | ldiv =>
    intro a1 a2 a3 a4
    obtain ⟨x, y, r, rfl, h1⟩ := mi_pJJ h
    by_cases hy0 : y = 0
    · rw [if_pos hy0] at h1; cases h1
    · rw [if_neg hy0] at h1; exact hk _ _ _ h1 a1 a2 (mm_ks_cons trivial (mm_ks_tail (mm_ks_tail a3))) a4
  | lrem =>
    intro a1 a2 a3 a4
    obtain ⟨x, y, r, rfl, h1⟩ := mi_pJJ h
    by_cases hy0 : y = 0
    · rw [if_pos hy0] at h1; cases h1
    · rw [if_neg hy0] at h1; exact hk _ _ _ h1 a1 a2 (mm_ks_cons trivial (mm_ks_tail (mm_ks_tail a3))) a4
  | lshl =>
    intro a1 a2 a3 a4
    obtain ⟨x, y, r, rfl, h1⟩ := mi_pJI h
    exact hk _ _ _ h1 a1 a2 (mm_ks_cons trivial (mm_ks_tail (mm_ks_tail a3))) a4
  | lushr =>
    intro a1 a2 a3 a4
    obtain ⟨x, y, r, rfl, h1⟩ := mi_pJI h
    exact hk _ _ _ h1 a1 a2 (mm_ks_cons trivial (mm_ks_tail (mm_ks_tail a3))) a4
  | ineg =>
    intro a1 a2 a3 a4
    obtain ⟨x, r, rfl, h1⟩ := mi_pI h
    exact hk _ _ _ h1 a1 a2 (mm_ks_cons trivial (mm_ks_tail a3)) a4
  | i2l =>
    intro a1 a2 a3 a4
    obtain ⟨x, r, rfl, h1⟩ := mi_pI h
    exact hk _ _ _ h1 a1 a2 (mm_ks_cons trivial (mm_ks_tail a3)) a4
  | l2i =>
    intro a1 a2 a3 a4
    obtain ⟨x, r, rfl, h1⟩ := mi_pJ h
    exact hk _ _ _ h1 a1 a2 (mm_ks_cons trivial (mm_ks_tail a3)) a4
  | dup =>
    intro a1 a2 a3 a4
    obtain ⟨x, r, rfl, hc9, h1⟩ := mi_p1 h
    exact hk _ _ _ h1 a1 a2 (mm_ks_cons (mm_ks_head a3) a3) a4
  | pop =>
    intro a1 a2 a3 a4
    obtain ⟨x, r, rfl, hc9, h1⟩ := mi_p1 h
    exact hk _ _ _ h1 a1 a2 (mm_ks_tail a3) a4
  | dup2 =>
    intro a1 a2 a3 a4
    obtain ⟨x, y, r, rfl, hc8, hc9, h1⟩ := mi_p11 h
    exact hk _ _ _ h1 a1 a2 (mm_ks_cons (mm_ks_head a3) (mm_ks_cons (mm_ks_head (mm_ks_tail a3)) a3)) a4
  | goto o9 =>
    intro a1 a2 a3 a4
    exact hg _ _ _ _ h a1 a2 a3 a4
  | ifCond q9 o9 =>
    intro a1 a2 a3 a4
    obtain ⟨x, r, rfl, h1⟩ := mi_pI h
    rcases mi_br h1 with h2 | h2
    · exact hg _ _ _ _ h2 a1 a2 (mm_ks_tail a3) a4
    · exact hk _ _ _ h2 a1 a2 (mm_ks_tail a3) a4
  | if_icmp q9 o9 =>
    intro a1 a2 a3 a4
    obtain ⟨x, y, r, rfl, h1⟩ := mi_pII h
    rcases mi_br h1 with h2 | h2
    · exact hg _ _ _ _ h2 a1 a2 (mm_ks_tail (mm_ks_tail a3)) a4
    · exact hk _ _ _ h2 a1 a2 (mm_ks_tail (mm_ks_tail a3)) a4
  | ifnull o9 =>
    intro a1 a2 a3 a4
    rcases mi_pN h with ⟨x, r, rfl, h1⟩ | ⟨r, rfl, h1⟩
    · exact hk _ _ _ h1 a1 a2 (mm_ks_tail a3) a4
    · exact hg _ _ _ _ h1 a1 a2 (mm_ks_tail a3) a4
  | ifnonnull o9 =>
    intro a1 a2 a3 a4
    rcases mi_pN h with ⟨x, r, rfl, h1⟩ | ⟨r, rfl, h1⟩
    · exact hg _ _ _ _ h1 a1 a2 (mm_ks_tail a3) a4
    · exact hk _ _ _ h1 a1 a2 (mm_ks_tail a3) a4
  | tableswitch d9 lo hi offs =>
    intro a1 a2 a3 a4
    obtain ⟨x, r, rfl, h1⟩ := mi_pI h
    rcases mm_sw_in _ h1 with ⟨j, q, -, -, -, h4⟩ | ⟨-, h4⟩
    · exact hg _ _ _ _ h4 a1 a2 (mm_ks_tail a3) a4
    · exact hg _ _ _ _ h4 a1 a2 (mm_ks_tail a3) a4
  | lookupswitch d9 ps9 =>
    intro a1 a2 a3 a4
    obtain ⟨x, r, rfl, h1⟩ := mi_pI h
    rcases mm_sw_in _ h1 with ⟨j, q, -, -, -, h4⟩ | ⟨-, h4⟩
    · exact hg _ _ _ _ h4 a1 a2 (mm_ks_tail a3) a4
    · exact hg _ _ _ _ h4 a1 a2 (mm_ks_tail a3) a4
  | ireturn =>
    intro a1 a2 a3 a4
    obtain ⟨x, r, rfl, h1⟩ := mi_pI h
    cases r with
    | cons z zs => cases h1
    | nil =>
      cases b with
      | zero =>
        cases h1
        exact ⟨a1, Nat.le_refl _, Nat.le_refl _, fun z hz => by cases hz; trivial⟩
      | succ b =>
        by_cases h0 : x = 0
        · simp only [h0] at h1
          cases h1
          exact ⟨a1, Nat.le_refl _, Nat.le_refl _, fun z hz => by cases hz; trivial⟩
        · by_cases h2 : x = 1
          · subst h2
            cases h1
            exact ⟨a1, Nat.le_refl _, Nat.le_refl _, fun z hz => by cases hz; trivial⟩
          · simp only [if_neg h0, if_neg h2] at h1
            cases h1
  | lreturn =>
    intro a1 a2 a3 a4
    obtain ⟨x, r, rfl, h1⟩ := mi_pJ h
    cases r with
    | cons z zs => cases h1
    | nil =>
      cases h1
      exact ⟨a1, Nat.le_refl _, Nat.le_refl _, fun z hz => by cases hz; trivial⟩
  | areturn =>
    intro a1 a2 a3 a4
    obtain ⟨x, r, rfl, h1⟩ := mi_pR h
    cases r with
    | cons z zs => cases h1
    | nil =>
      cases h1
      exact ⟨a1, Nat.le_refl _, Nat.le_refl _, fun z hz => by cases hz; exact mm_ks_head a3⟩
  | return_ =>
    intro a1 a2 a3 a4
    cases K with
    | cons z zs => cases h
    | nil =>
      cases h
      exact ⟨a1, Nat.le_refl _, Nat.le_refl _, fun z hz => by cases hz⟩
  | getfield idx =>
    intro a1 a2 a3 a4
    cases hq : mm_cl[a]? with
    | none => simp only [mm_okI, hq] at hok; cases hok
    | some q =>
      obtain ⟨o, r, rfl, h1⟩ := mi_pR h
      obtain ⟨ho, h2⟩ := mi_cond h1
      have ho := mm_obj_eq ho
      have h16 := mm_s_lt hY ho hq
      rcases (show c9 % 4 = 0 ∨ c9 % 4 = 1 ∨ c9 % 4 = 2 ∨ c9 % 4 = 3 by omega) with h4 | h4 | h4 | h4
      · simp only [h4] at h2; exact hk _ _ _ h2 a1 a2 (mm_ks_cons trivial (mm_ks_tail a3)) a4
      · simp only [h4] at h2; exact hk _ _ _ h2 a1 a2 (mm_ks_cons trivial (mm_ks_tail a3)) a4
      · simp only [h4] at h2; exact hk _ _ _ h2 a1 a2 (mm_ks_cons (mm_okv_rv fun b9 hb9 => a1.2 o b b9 h16 (mm_ks_head a3) hb9) (mm_ks_tail a3)) a4
      · simp only [h4] at h2; exact hk _ _ _ h2 a1 a2 (mm_ks_cons trivial (mm_ks_tail a3)) a4
  | putfield idx =>
    intro a1 a2 a3 a4
    rcases (show c9 % 4 = 0 ∨ c9 % 4 = 1 ∨ c9 % 4 = 2 ∨ c9 % 4 = 3 by omega) with h4 | h4 | h4 | h4
    · simp only [mm_sem, h4] at h
      obtain ⟨x, r1, rfl, h1⟩ := mi_pI h
      obtain ⟨o, r, rfl, h2⟩ := mi_pR h1
      obtain ⟨ho, h3⟩ := mi_cond h2
      have z9 := hk _ _ _ h3; exact z9 a1 a2 (mm_ks_tail (mm_ks_tail a3)) a4
    · simp only [mm_sem, h4] at h
      obtain ⟨x, r1, rfl, h1⟩ := mi_pJ h
      obtain ⟨o, r, rfl, h2⟩ := mi_pR h1
      obtain ⟨ho, h3⟩ := mi_cond h2
      have z9 := hk _ _ _ h3; exact z9 a1 a2 (mm_ks_tail (mm_ks_tail a3)) a4
    · simp only [mm_sem, h4] at h
      obtain ⟨x, r1, rfl, h1⟩ := mi_pR h
      obtain ⟨o, r, rfl, h2⟩ := mi_pR h1
      obtain ⟨ho, h3⟩ := mi_cond h2
      rw [Bool.and_eq_true] at ho
      have z9 := hk _ _ _ h3; exact z9 (mm_wf_wP a1 (mm_ks_head a3) ho.2) a2 (mm_ks_tail (mm_ks_tail a3)) a4
    · simp only [mm_sem, h4] at h
      obtain ⟨x, r1, rfl, h1⟩ := mi_pI h
      obtain ⟨o, r, rfl, h2⟩ := mi_pR h1
      obtain ⟨ho, h3⟩ := mi_cond h2
      by_cases h0 : x = 0
      · rw [if_pos h0] at h3; have z9 := hk _ _ _ h3; exact z9 a1 a2 (mm_ks_tail (mm_ks_tail a3)) a4
      · by_cases h5 : x = 1
        · rw [if_neg h0, if_pos h5] at h3; have z9 := hk _ _ _ h3; exact z9 a1 a2 (mm_ks_tail (mm_ks_tail a3)) a4
        · rw [if_neg h0, if_neg h5] at h3; cases h3
  | getstatic idx =>
    intro a1 a2 a3 a4
    obtain ⟨-, ha9⟩ := of_decide_eq_true hok
    exact hk _ _ _ h a1 a2 (mm_ks_cons (show a < M.2.1 by omega) a3) a4
  | arraylength =>
    intro a1 a2 a3 a4
    obtain ⟨o, r, rfl, h1⟩ := mi_pR h
    cases ho : mm_s Y M o with
    | inl ci => simp only [ho] at h1; cases h1
    | inr q =>
      simp only [ho] at h1
      obtain ⟨hty, h2⟩ := mi_cond h1
      exact hk _ _ _ h2 a1 a2 (mm_ks_cons trivial (mm_ks_tail a3)) a4
  | iaload =>
    intro a1 a2 a3 a4
    obtain ⟨o, i9, r, rfl, h1⟩ := mi_pRI h
    obtain ⟨n9, ho, h2⟩ := mi_bind h1
    obtain ⟨hi, h3⟩ := mi_cond h2
    exact hk _ _ _ h3 a1 a2 (mm_ks_cons trivial (mm_ks_tail (mm_ks_tail a3))) a4
  | baload =>
    intro a1 a2 a3 a4
    obtain ⟨o, i9, r, rfl, h1⟩ := mi_pRI h
    obtain ⟨n9, ho, h2⟩ := mi_bind h1
    obtain ⟨hi, h3⟩ := mi_cond h2
    exact hk _ _ _ h3 a1 a2 (mm_ks_cons trivial (mm_ks_tail (mm_ks_tail a3))) a4
  | caload =>
    intro a1 a2 a3 a4
    obtain ⟨o, i9, r, rfl, h1⟩ := mi_pRI h
    obtain ⟨n9, ho, h2⟩ := mi_bind h1
    obtain ⟨hi, h3⟩ := mi_cond h2
    exact hk _ _ _ h3 a1 a2 (mm_ks_cons trivial (mm_ks_tail (mm_ks_tail a3))) a4
  | laload =>
    intro a1 a2 a3 a4
    obtain ⟨o, i9, r, rfl, h1⟩ := mi_pRI h
    obtain ⟨n9, ho, h2⟩ := mi_bind h1
    obtain ⟨hi, h3⟩ := mi_cond h2
    exact hk _ _ _ h3 a1 a2 (mm_ks_cons trivial (mm_ks_tail (mm_ks_tail a3))) a4
  | aaload =>
    intro a1 a2 a3 a4
    obtain ⟨o, i9, r, rfl, h1⟩ := mi_pRI h
    obtain ⟨n9, ho, h2⟩ := mi_bind h1
    obtain ⟨hi, h3⟩ := mi_cond h2
    rw [Bool.and_eq_true] at hi
    exact hk _ _ _ h3 a1 a2 (mm_ks_cons (mm_okv_rv fun b9 hb9 => a1.2 o _ b9 (Nat.le_of_ble_eq_true hi.2) (mm_ks_head (mm_ks_tail a3)) hb9) (mm_ks_tail (mm_ks_tail a3))) a4
  | iastore =>
    intro a1 a2 a3 a4
    obtain ⟨o, i9, x, r, rfl, h1⟩ := mi_pRII h
    obtain ⟨n9, ho, h2⟩ := mi_bind h1
    obtain ⟨hi, h3⟩ := mi_cond h2
    have z9 := hk _ _ _ h3; exact z9 a1 a2 (mm_ks_tail (mm_ks_tail (mm_ks_tail a3))) a4
  | bastore =>
    intro a1 a2 a3 a4
    obtain ⟨o, i9, x, r, rfl, h1⟩ := mi_pRII h
    obtain ⟨n9, ho, h2⟩ := mi_bind h1
    obtain ⟨hi, h3⟩ := mi_cond h2
    have z9 := hk _ _ _ h3; exact z9 a1 a2 (mm_ks_tail (mm_ks_tail (mm_ks_tail a3))) a4
  | lastore =>
    intro a1 a2 a3 a4
    obtain ⟨o, i9, x, r, rfl, h1⟩ := mi_pRIJ h
    obtain ⟨n9, ho, h2⟩ := mi_bind h1
    obtain ⟨hi, h3⟩ := mi_cond h2
    have z9 := hk _ _ _ h3; exact z9 a1 a2 (mm_ks_tail (mm_ks_tail (mm_ks_tail a3))) a4
  | aastore =>
    intro a1 a2 a3 a4
    obtain ⟨o, i9, x, r, rfl, h1⟩ := mi_pRIR h
    obtain ⟨n9, ho, h2⟩ := mi_bind h1
    obtain ⟨hi, h3⟩ := mi_cond h2
    simp only [Bool.and_eq_true] at hi
    obtain ⟨hi1, ⟨hi2, hi3, hi4⟩, hi5⟩ := hi
    have z9 := hk _ _ _ h3; exact z9 (mm_wf_wP a1 (mm_ks_head a3) hi4) a2 (mm_ks_tail (mm_ks_tail (mm_ks_tail a3))) a4
  | newarray at9 =>
    intro a1 a2 a3 a4
    obtain ⟨x, r, rfl, h1⟩ := mi_pI h
    obtain ⟨hi, h2⟩ := mi_cond h1
    exact mm_Po_le (hk _ _ _ h2 (mm_new_wf a1) (Nat.le_succ_of_le a2) (mm_ks_cons (Nat.lt_succ_self _) (mm_ks_le (mm_ks_tail a3) (Nat.le_succ _))) (fun i v hv => mm_okv_le (a4 i v hv) (Nat.le_succ _))) (Nat.le_succ _) (Nat.le_add_right _ _)
  | anewarray idx =>
    intro a1 a2 a3 a4
    obtain ⟨x, r, rfl, h1⟩ := mi_pI h
    obtain ⟨hi, h2⟩ := mi_cond h1
    exact mm_Po_le (hk _ _ _ h2 (mm_new_wf a1) (Nat.le_succ_of_le a2) (mm_ks_cons (Nat.lt_succ_self _) (mm_ks_le (mm_ks_tail a3) (Nat.le_succ _))) (fun i v hv => mm_okv_le (a4 i v hv) (Nat.le_succ _))) (Nat.le_succ _) (Nat.le_add_right _ _)
  | multianewarray idx k9 =>
    intro a1 a2 a3 a4
    obtain ⟨x, y, r, rfl, h1⟩ := mi_pII h
    obtain ⟨hi, h2⟩ := mi_cond h1
    exact mm_Po_le (hk _ _ _ h2 (mm_mna_wf a1) (by show 16 ≤ _ + 5; omega) (mm_ks_cons (by show _ < _ + 5; omega) (mm_ks_le (mm_ks_tail (mm_ks_tail a3)) (by show _ ≤ _ + 5; omega))) (fun i v hv => mm_okv_le (a4 i v hv) (by show _ ≤ _ + 5; omega))) (by show _ ≤ _ + 5; omega) (by show _ ≤ _ + 4; omega)
  | new idx =>
    intro a1 a2 a3 a4
    cases hz : mm_size[a]? with
    | none => simp only [mm_sem, hz] at h; cases h
    | some z =>
      simp only [mm_sem, hz] at h
      obtain ⟨hi, h2⟩ := mi_cond h
      exact mm_Po_le (hk _ _ _ h2 (mm_new_wf a1) (Nat.le_succ_of_le a2) (mm_ks_cons (Nat.lt_succ_self _) (mm_ks_le a3 (Nat.le_succ _))) (fun i v hv => mm_okv_le (a4 i v hv) (Nat.le_succ _))) (Nat.le_succ _) (Nat.le_add_right _ _)
  | invokevirtual idx =>
    exact mp_inv hcall h hk
  | invokestatic idx =>
    by_cases h4 : (c9 / 4) % 4 = 2
    · simp only [mm_sem, h4] at h
      intro a1 a2 a3 a4
      unfold mm_copy at h
      split at h
      · obtain ⟨x1, rfl, h1⟩ := mi_asR h
        obtain ⟨x2, rfl, h2⟩ := mi_asR h1
        obtain ⟨nb, hb1, h3⟩ := mi_bind h2
        obtain ⟨na, ha1, h5⟩ := mi_bind h3
        obtain ⟨hi, h6⟩ := mi_cond h5
        have z9 := hk _ _ _ h6; exact z9 a1 a2 (mm_ks_tail (mm_ks_tail (mm_ks_tail (mm_ks_tail (mm_ks_tail a3))))) a4
      · cases h
    · have h1 : mm_invS call a b (c9 % 4) L K M k = some res := by
        rcases (show (c9 / 4) % 4 = 0 ∨ (c9 / 4) % 4 = 1 ∨ (c9 / 4) % 4 = 3 by omega) with e4 | e4 | e4 <;> simpa only [mm_sem, e4] using h
      exact mp_invS hcall h1 hk
  | invokespecial idx =>
    by_cases h4 : (c9 / 4) % 4 = 2
    · simp only [mm_sem, h4] at h
      intro a1 a2 a3 a4
      obtain ⟨o, rest, rfl, h1⟩ := mi_pR h
      obtain ⟨hi, h2⟩ := mi_cond h1
      exact hk _ _ _ h2 a1 a2 (mm_ks_tail a3) a4
    · have h1 : mm_inv Y call a b 0 (c9 / 16) L K M k = some res := by
        rcases (show (c9 / 4) % 4 = 0 ∨ (c9 / 4) % 4 = 1 ∨ (c9 / 4) % 4 = 3 by omega) with e4 | e4 | e4 <;> simpa only [mm_sem, e4] using h
      exact mp_inv hcall h1 hk
  | _ => cases h
end
section
/-- an entry of the code is right -/
def mm_okE (mth : List mmT) (nest : List Cond) (y : mmT) (e : mmE) : Prop := decode y.2.1 e.1 = .ok (e.2.1, e.2.2.1) ∧ mm_okI mth y.1.cls y.1.name y.2.2.2 y.2.2.1 e.1 e.2.1 e.2.2.1 e.2.2.2.1 e.2.2.2.2.1 e.2.2.2.2.2.1 e.2.2.2.2.2.2.1 e.2.2.2.2.2.2.2 = true ∧ (∀ z ∈ mm_wds mth y.1.cls e.2.1 e.2.2.2.1 e.2.2.2.2.1 e.2.2.2.2.2.1 e.2.2.2.2.2.2.1, z ∈ mm_gw) ∧ ∀ z ∈ mm_nwd mth y.1.cls e.2.1 e.2.2.2.1 e.2.2.2.2.1 e.2.2.2.2.2.1, z ∈ nest
theorem mm_at_in {t : Nat} : ∀ (es : List mmE), (∀ e ∈ mm_at t es, e ∈ es) ∧ ∀ e r, mm_at t es = e :: r → e.1 = t
  | [] => ⟨fun e h => h, fun e r h => by cases h⟩
  | x :: es => by
    obtain ⟨h1, h2⟩ := mm_at_in es
    have hc : mm_at t (x :: es) = cond (Nat.beq x.1 t) (x :: es) (mm_at t es) := rfl
    rw [hc]
    cases hb : Nat.beq x.1 t with
    | true => exact ⟨fun e h => h, fun e r h => by cases h; exact Nat.eq_of_beq_eq_true hb⟩
    | false => exact ⟨fun e h => List.mem_cons_of_mem _ (h1 e h), h2⟩
theorem mx_nil {Y : mmY} {call : mmC} {cs : List (Nat × List Bool)} {j : mmG} {pf : Nat} {L : mmL} {K : List Value} {M : mmM} : mm_ex Y call cs j pf [] L K M = none := by cases pf <;> rfl
theorem mx_cons {Y : mmY} {call : mmC} {cs : List (Nat × List Bool)} {j : mmG} {pf : Nat} {e : mmE} {r : List mmE} {L : mmL} {K : List Value} {M : mmM} : mm_ex Y call cs j (pf + 1) (e :: r) L K M = mm_sem Y call e.2.1 e.2.2.2.1 e.2.2.2.2.1 e.2.2.2.2.2.1 e.2.2.2.2.2.2.1 e.2.2.2.2.2.2.2 L K M
        (fun L K M => match mm_cut cs (e.1 + e.2.2.1) with
          | some m => j (e.1 + e.2.2.1) (mm_msk m L) K M
          | none => mm_ex Y call cs j pf (mm_at (e.1 + e.2.2.1) r) L K M)
        (fun t L K M => match mm_cut cs t with
          | some m => j t (mm_msk m L) K M
          | none => mm_ex Y call cs j pf (mm_at t r) L K M) := rfl
section MX
variable {p : Program} {l : Launch} {e : Env} {R : Room} {s : State} {m : MethodId} {args : Array Value} {below : List Frame} {meth : Method} {c : Code} {D : va_G} {cA : Nat → ClassId} {Y : mmY} {A : Nat → Prop} {nL n0 z0 oc : Nat} {ρ0 : Nat → Nat} {cc : ByteArray} {pc : Nat} {L : mmL} {M : mmM}
variable {own nm : String} {rt : Option FieldType} {Ts nest : List Cond} {mth : List mmT} {d : Nat} {M0 : mmM} {Q : State → Prop} {res : mmR} {call : mmC}
theorem mx_msk {t : Nat} {k : List Bool} {K : List Value} (h : mm_Gd p l e R s m args below meth c Q D cA Y A nL n0 z0 oc ρ0 res.2 t (mm_msk k L) K M) : mm_Gd p l e R s m args below meth c Q D cA Y A nL n0 z0 oc ρ0 res.2 t L K M := by
  intro a1 a2 a3 a4 a5
  obtain ⟨h1, h2⟩ := h a1 a2 a3 a4 (mm_msk_lk k a5)
  exact ⟨h1, fun ρ H locs ls hr hP hD hS hl => h2 ρ H locs ls hr hP hD hS (mm_msk_ok k hl)⟩
theorem mx_ex (hx : p.tables.exec = Jvm.exec) (hb : c.code = cc) (hml : c.maxLocals = nL) (hown : s.vm.findClass own = some m.cls) (hlocks : meth.locks = false) (hrt : meth.sig.returnType = rt) (hnm : nm = "<init>" → meth.name = "<init>") (hTs : ∀ w ∈ mm_gw, w ∈ Ts) (hts : ∀ w ∈ Ts, w.before args s = true) (hY : mm_wfY Y) (hK : va_K D mm_cl (mm_tysA cA) s) (hnest : ∀ w ∈ nest, mm_isN w = true) (h16n : 16 ≤ n0) (hA0 : A = va_A (mm_enc cA ρ0 Y M0) s.heap.size) (hM0 : M0.2.1 = n0) (hA : ∀ q, s.heap.size ≤ q → A q) (hT : mm_cnT Y ρ0 A s s.heap) (hZ : mm_cnZ ρ0 A s s.heap) (hN : mm_cnN nest s) (hO : va_AO RX0 s) (h5 : mm_c5 cA s) (hlay : ∀ (ci : Nat) (q : vw_C), mm_cl[ci]? = some q → ∀ w ∈ u_ws q.1 q.2.1 q.2.2, w ∈ mm_gw) (hcode : ∀ (j : Nat) (y : mmT), mth[j]? = some y → Cond.code y.1 y.2.1 y.2.2.1 y.2.2.2 ∈ mm_gw ∧ y.2.2.1 ≤ 41) (hRc : res.2.2.1 + oc - n0 ≤ R.cells) (hRs : res.2.2.2.1 - z0 ≤ R.slots) (hRf : d + 1 ≤ R.frames) (hRl : 60 * (d + 1) + 200 ≤ R.locals) (hcall : ∀ (j : Nat) (as : List Value) (M : mmM) (v : Option Value) (M' : mmM), call j as M = some (v, M') → mm_wf Y M → 16 ≤ M.2.1 → mm_ks M.2.1 as → mm_Call l D cA Y nest mth d j as M v M') {cs : List (Nat × List Bool)} {j : mmG} (hQr : Bool) (hQe : hQr = true → Q = (MQ below (mm_Qc D cA Y ρ0 M0 res.1 res.2 s.heap.size) args s (res.2.2.1 + oc - n0) (res.2.2.2.1 - z0) A)) (hj : ∀ (t : Nat) (L : mmL) (K : List Value) (M : mmM), j t L K M = some res → mm_Gd p l e R s m args below meth c Q D cA Y A nL n0 z0 oc ρ0 res.2 t L K M) : ∀ (pf : Nat) (e9 : mmE) (es : List mmE), (∀ e ∈ e9 :: es, mm_okE mth nest (⟨own, nm, ""⟩, cc, nL, rt) e ∧ (mm_isRet e.2.1 = true → hQr = true)) → ∀ (L : mmL) (K : List Value) (M : mmM), mm_ex Y call cs j pf (e9 :: es) L K M = some res → mm_Gd p l e R s m args below meth c Q D cA Y A nL n0 z0 oc ρ0 res.2 e9.1 L K M := by
  intro pf
  induction pf with
  | zero => intro e9 es _ L K M h; cases h
  | succ pf ih =>
    intro e9 es hes L K M h
    obtain ⟨⟨o1, o2, o3, o4⟩, o5⟩ := hes e9 List.mem_cons_self
    have hgo : ∀ (t : Nat) (L' : mmL) (K' : List Value) (M' : mmM), (match mm_cut cs t with | some m => j t (mm_msk m L') K' M' | none => mm_ex Y call cs j pf (mm_at t es) L' K' M') = some res → mm_Gd p l e R s m args below meth c Q D cA Y A nL n0 z0 oc ρ0 res.2 t L' K' M' := by
      intro t L' K' M' h9
      cases hc : mm_cut cs t with
      | some k => rw [hc] at h9; exact mx_msk (hj _ _ _ _ h9)
      | none =>
        rw [hc] at h9
        simp only at h9
        obtain ⟨m1, m2⟩ := mm_at_in (t := t) es
        cases hm : mm_at t es with
        | nil => rw [hm, mx_nil] at h9; cases h9
        | cons e8 r8 =>
          rw [hm] at h9 m1
          rw [← m2 e8 r8 hm]
          exact ih e8 r8 (fun e he => hes e (List.mem_cons_of_mem _ (m1 e he))) _ _ _ h9
    rw [mx_cons] at h
    exact mm_sem_ok hx hb hml hown hlocks hrt hnm hTs hts hY hK hnest h16n hA0 hM0 hA hT hZ hN hO h5 hlay hcode hRc hRs hRf hRl hcall (fun h5 => hQe (o5 h5)) o1 o2 o3 o4 h (fun L' K' M' h9 => hgo _ _ _ _ h9) (fun t L' K' M' h9 => hgo t _ _ _ h9)
theorem mx_lp (hx : p.tables.exec = Jvm.exec) (hb : c.code = cc) (hml : c.maxLocals = nL) (hown : s.vm.findClass own = some m.cls) (hlocks : meth.locks = false) (hrt : meth.sig.returnType = rt) (hnm : nm = "<init>" → meth.name = "<init>") (hTs : ∀ w ∈ mm_gw, w ∈ Ts) (hts : ∀ w ∈ Ts, w.before args s = true) (hY : mm_wfY Y) (hK : va_K D mm_cl (mm_tysA cA) s) (hnest : ∀ w ∈ nest, mm_isN w = true) (h16n : 16 ≤ n0) (hA0 : A = va_A (mm_enc cA ρ0 Y M0) s.heap.size) (hM0 : M0.2.1 = n0) (hA : ∀ q, s.heap.size ≤ q → A q) (hT : mm_cnT Y ρ0 A s s.heap) (hZ : mm_cnZ ρ0 A s s.heap) (hN : mm_cnN nest s) (hO : va_AO RX0 s) (h5 : mm_c5 cA s) (hlay : ∀ (ci : Nat) (q : vw_C), mm_cl[ci]? = some q → ∀ w ∈ u_ws q.1 q.2.1 q.2.2, w ∈ mm_gw) (hcode : ∀ (j : Nat) (y : mmT), mth[j]? = some y → Cond.code y.1 y.2.1 y.2.2.1 y.2.2.2 ∈ mm_gw ∧ y.2.2.1 ≤ 41) (hRc : res.2.2.1 + oc - n0 ≤ R.cells) (hRs : res.2.2.2.1 - z0 ≤ R.slots) (hRf : d + 1 ≤ R.frames) (hRl : 60 * (d + 1) + 200 ≤ R.locals) (hcall : ∀ (j : Nat) (as : List Value) (M : mmM) (v : Option Value) (M' : mmM), call j as M = some (v, M') → mm_wf Y M → 16 ≤ M.2.1 → mm_ks M.2.1 as → mm_Call l D cA Y nest mth d j as M v M') {cs : List (Nat × List Bool)} {code : List mmE} (hQr : Bool) (hQe : hQr = true → Q = (MQ below (mm_Qc D cA Y ρ0 M0 res.1 res.2 s.heap.size) args s (res.2.2.1 + oc - n0) (res.2.2.2.1 - z0) A)) (hes : ∀ e ∈ code, mm_okE mth nest (⟨own, nm, ""⟩, cc, nL, rt) e ∧ (mm_isRet e.2.1 = true → hQr = true)) : ∀ (N t : Nat) (L : mmL) (K : List Value) (M : mmM), mm_lp Y call code cs N t L K M = some res → mm_Gd p l e R s m args below meth c Q D cA Y A nL n0 z0 oc ρ0 res.2 t L K M := by
  intro N
  induction N with
  | zero => intro t L K M h; cases h
  | succ N ih =>
    intro t L K M h
    have h9 : mm_ex Y call cs (mm_lp Y call code cs N) 1200 (mm_at t code) L K M = some res := h
    obtain ⟨m1, m2⟩ := mm_at_in (t := t) code
    cases hm : mm_at t code with
    | nil => rw [hm, mx_nil] at h9; cases h9
    | cons e8 r8 =>
      rw [hm] at h9 m1
      rw [← m2 e8 r8 hm]
      exact mx_ex hx hb hml hown hlocks hrt hnm hTs hts hY hK hnest h16n hA0 hM0 hA hT hZ hN hO h5 hlay hcode hRc hRs hRf hRl hcall hQr hQe ih 1200 e8 r8 (fun e he => hes e (m1 e he)) _ _ _ h9
end MX

theorem mxp_msk {Y : mmY} {res : mmR} {k : List Bool} {L : mmL} {K : List Value} {M : mmM} (h : mm_Pu Y res (mm_msk k L) K M) : mm_Pu Y res L K M := fun a1 a2 a3 a4 => h a1 a2 a3 (mm_msk_lk k a4)
theorem mxp_ex {Y : mmY} {call : mmC} {res : mmR} {mth : List mmT} {nest : List Cond} {y : mmT} (hY : mm_wfY Y) (hcall : ∀ (j : Nat) (as : List Value) (M : mmM) (v : Option Value) (M' : mmM), call j as M = some (v, M') → mm_wf Y M → 16 ≤ M.2.1 → mm_ks M.2.1 as → mm_Po Y (v, M') M.2.1 M.2.2.1) {cs : List (Nat × List Bool)} {j : mmG} (hj : ∀ (t : Nat) (L : mmL) (K : List Value) (M : mmM), j t L K M = some res → mm_Pu Y res L K M) : ∀ (pf : Nat) (es : List mmE), (∀ e ∈ es, mm_okE mth nest y e) → ∀ (L : mmL) (K : List Value) (M : mmM), mm_ex Y call cs j pf es L K M = some res → mm_Pu Y res L K M := by
  intro pf
  induction pf with
  | zero => intro es _ L K M h; cases h
  | succ pf ih =>
    intro es hes L K M h
    cases es with
    | nil => cases h
    | cons e9 es =>
      obtain ⟨o1, o2, o3, o4⟩ := hes e9 List.mem_cons_self
      have hgo : ∀ (t : Nat) (L' : mmL) (K' : List Value) (M' : mmM), (match mm_cut cs t with | some m => j t (mm_msk m L') K' M' | none => mm_ex Y call cs j pf (mm_at t es) L' K' M') = some res → mm_Pu Y res L' K' M' := by
        intro t L' K' M' h9
        cases hc : mm_cut cs t with
        | some k => rw [hc] at h9; exact mxp_msk (hj _ _ _ _ h9)
        | none =>
          rw [hc] at h9
          exact ih _ (fun e he => hes e (List.mem_cons_of_mem _ ((mm_at_in (t := t) es).1 e he))) _ _ _ h9
      rw [mx_cons] at h
      exact mp_sem hY hcall o2 h (fun L' K' M' h9 => hgo _ _ _ _ h9) (fun t L' K' M' h9 => hgo t _ _ _ h9)
theorem mxp_lp {Y : mmY} {call : mmC} {res : mmR} {mth : List mmT} {nest : List Cond} {y : mmT} (hY : mm_wfY Y) (hcall : ∀ (j : Nat) (as : List Value) (M : mmM) (v : Option Value) (M' : mmM), call j as M = some (v, M') → mm_wf Y M → 16 ≤ M.2.1 → mm_ks M.2.1 as → mm_Po Y (v, M') M.2.1 M.2.2.1) {cs : List (Nat × List Bool)} {code : List mmE} (hes : ∀ e ∈ code, mm_okE mth nest y e) : ∀ (N t : Nat) (L : mmL) (K : List Value) (M : mmM), mm_lp Y call code cs N t L K M = some res → mm_Pu Y res L K M := by
  intro N
  induction N with
  | zero => intro t L K M h; cases h
  | succ N ih =>
    intro t L K M h
    have h9 : mm_ex Y call cs (mm_lp Y call code cs N) 1200 (mm_at t code) L K M = some res := h
    exact mxp_ex hY hcall ih 1200 _ (fun e he => hes e ((mm_at_in (t := t) code).1 e he)) _ _ _ h9
theorem mm_fl_at {ρ : Nat → Nat} : ∀ (k : Nat) (as : List Value) (i : Nat) (v : Value), (mm_fl as)[i]? = some (some v) → (k + i, mm_tr ρ v) ∈ lv_args k (as.map (mm_tr ρ)) ∧ v ∈ as
  | k, [], i, v, h => by simp [mm_fl] at h
  | k, w :: as, i, v, h => by
    have key1 : ∀ (hc : ¬ w.category = 2) (hf : mm_fl (w :: as) = some w :: mm_fl as), (k + i, mm_tr ρ v) ∈ lv_args k ((w :: as).map (mm_tr ρ)) ∧ v ∈ w :: as := by
      intro hc hf
      rw [hf] at h
      have hcat : ¬ (mm_tr ρ w).category = 2 := by cases w <;> exact hc
      simp only [List.map_cons, lv_args, if_neg hcat]
      cases i with
      | zero => cases h; exact ⟨List.mem_cons_self, List.mem_cons_self⟩
      | succ i =>
        rw [List.getElem?_cons_succ] at h
        obtain ⟨a1, a2⟩ := mm_fl_at (ρ := ρ) (k + 1) as i v h
        exact ⟨List.mem_cons_of_mem _ (by rw [show k + (i + 1) = k + 1 + i by omega]; exact a1), List.mem_cons_of_mem _ a2⟩
    have key2 : ∀ (hc : w.category = 2) (hf : mm_fl (w :: as) = some w :: none :: mm_fl as), (k + i, mm_tr ρ v) ∈ lv_args k ((w :: as).map (mm_tr ρ)) ∧ v ∈ w :: as := by
      intro hc hf
      rw [hf] at h
      have hcat : (mm_tr ρ w).category = 2 := by cases w <;> exact hc
      simp only [List.map_cons, lv_args, if_pos hcat]
      match i, h with
      | 0, h => cases h; exact ⟨List.mem_cons_self, List.mem_cons_self⟩
      | 1, h => cases h
      | i + 2, h =>
        rw [List.getElem?_cons_succ, List.getElem?_cons_succ] at h
        obtain ⟨a1, a2⟩ := mm_fl_at (ρ := ρ) (k + 2) as i v h
        exact ⟨List.mem_cons_of_mem _ (by rw [show k + (i + 2) = k + 2 + i by omega]; exact a1), List.mem_cons_of_mem _ a2⟩
    cases w with
    | long x => exact key2 rfl rfl
    | double x => exact key2 rfl rfl
    | int x => exact key1 (by simp [Value.category]) rfl
    | float x => exact key1 (by simp [Value.category]) rfl
    | null => exact key1 (by simp [Value.category]) rfl
    | ref x => exact key1 (by simp [Value.category]) rfl
    | retAddr x => exact key1 (by simp [Value.category]) rfl
theorem mm_fl_len : ∀ (as : List Value), (mm_fl as).length = mm_cat as
  | [] => rfl
  | w :: as => by
    have ih := mm_fl_len as
    have hc : mm_cat (w :: as) = w.category + mm_cat as := by simp [mm_cat]
    rw [hc]
    cases w <;> simp [mm_fl, ih, Value.category] <;> omega
theorem mm_sl_len (ρ : Nat → Nat) : ∀ (as : List Value), (lg_sl (as.map (mm_tr ρ))).length = mm_cat as
  | [] => rfl
  | w :: as => by
    have ih := mm_sl_len ρ as
    have hc : mm_cat (w :: as) = w.category + mm_cat as := by simp [mm_cat]
    rw [hc]
    unfold lg_sl at ih ⊢
    rw [List.map_cons, List.flatMap_cons, List.length_append, ih]
    cases w <;> simp [mm_tr, Value.category]
theorem mm_ent_at {n : Nat} {as : List Value} {i : Nat} {v : Value} (h : (mm_ent n as)[i]? = some (some v)) : (mm_fl as)[i]? = some (some v) := by
  unfold mm_ent at h
  rw [List.getElem?_append] at h
  split at h
  · exact h
  · rw [List.getElem?_replicate] at h
    split at h <;> cases h
theorem mm_ent_lk {n k : Nat} {as : List Value} (h : mm_ks n as) : mm_lk n (mm_ent k as) := fun i v hv => h v (mm_fl_at (ρ := id) 0 as i v (mm_ent_at hv)).2
theorem mm_ent_len {n : Nat} {as : List Value} (h : mm_cat as ≤ n) : (mm_ent n as).length = n := by
  unfold mm_ent
  rw [List.length_append, List.length_replicate, mm_fl_len]
  omega
/-- a method and its code fit -/
def mm_okP (mth : List mmT) (nest : List Cond) (prog : List mmP) : Prop := ∀ (i : Nat) (q : mmP), prog[i]? = some q → ∃ y, mth[i]? = some y ∧ plainName y.1.cls = true ∧ q.2.2 = y.2.2.1 ∧ (∃ e r, q.1 = e :: r ∧ e.1 = 0) ∧ ∀ e ∈ q.1, mm_okE mth nest y e
theorem mm_okE_ren {mth : List mmT} {nest : List Cond} {y : mmT} {e : mmE} (h : mm_okE mth nest y e) : mm_okE mth nest (⟨y.1.cls, y.1.name, ""⟩, y.2.1, y.2.2.1, y.2.2.2) e := h
theorem mv_run {l : Launch} {D : va_G} {cA : Nat → ClassId} {Y : mmY} {nest : List Cond} {mth : List mmT} {prog : List mmP} {N d : Nat} {call : mmC} (hY : mm_wfY Y) (hnest : ∀ w ∈ nest, mm_isN w = true) (hlay : ∀ (ci : Nat) (q : vw_C), mm_cl[ci]? = some q → ∀ w ∈ u_ws q.1 q.2.1 q.2.2, w ∈ mm_gw) (hcode : ∀ (j : Nat) (y : mmT), mth[j]? = some y → Cond.code y.1 y.2.1 y.2.2.1 y.2.2.2 ∈ mm_gw ∧ y.2.2.1 ≤ 41) (hprog : mm_okP mth nest prog)
    (hcall : ∀ (j : Nat) (as : List Value) (M : mmM) (v : Option Value) (M' : mmM), call j as M = some (v, M') → mm_wf Y M → 16 ≤ M.2.1 → mm_ks M.2.1 as → mm_Call l D cA Y nest mth d j as M v M') {i : Nat} {as : List Value} {M M' : mmM} {v : Option Value} (h : mm_run Y prog N call i as M = some (v, M')) (hw : mm_wf Y M) (h16 : 16 ≤ M.2.1) (hks : mm_ks M.2.1 as) : mm_Call l D cA Y nest mth (d + 1) i as M v M' := by
  unfold mm_run at h
  cases hq : prog[i]? with
  | none => rw [hq] at h; cases h
  | some q =>
    rw [hq] at h
    simp only at h
    obtain ⟨hcat, h⟩ := mi_cond h
    have hcat := Nat.le_of_ble_eq_true hcat
    obtain ⟨y, hy, hpl, hnl, ⟨e0, r0, he0, hpc0⟩, hes⟩ := hprog i q hq
    have hpu : mm_Pu Y (v, M') (mm_ent q.2.2 as) [] M := mxp_ex hY (fun j a2 m2 v2 m3 h2 h3 h4 h5 => (hcall j a2 m2 v2 m3 h2 h3 h4 h5).1) (mxp_lp hY (fun j a2 m2 v2 m3 h2 h3 h4 h5 => (hcall j a2 m2 v2 m3 h2 h3 h4 h5).1) hes N) 1200 q.1 hes _ _ _ h
    obtain ⟨p1, p2, p3, p4⟩ := hpu hw h16 (fun x hx => by cases hx) (mm_ent_lk hks)
    refine ⟨⟨p1, p2, p3, p4⟩, fun y2 hy2 ρ sz => ?_⟩
    have e2 : y2 = y := Option.some.inj (hy2.symm.trans hy)
    subst e2
    refine Met.ofW (cc := y2.2.1) (maxL := y2.2.2.1) (ret := y2.2.2.2) hpl rfl ?_
    intro p e s m args below meth c s₁ B hml hv
    obtain ⟨rfl, hsz, hP, hK, hD0, hT, hZ, hN, hO, h5⟩ := hv
    have hts := atoms_spec (ws := mm_ww y2) B.pre
    subst hsz
    have hD := hD0.self (sz := s.heap.size)
    have hl := lv_entry (as.map (mm_tr ρ)) (n := y2.2.2.1) (by rw [mm_sl_len, ← hnl]; exact hcat)
    rw [lg_entry_eq]
    generalize (lg_sl (as.map (mm_tr ρ)) ++ List.replicate (y2.2.2.1 - (lg_sl (as.map (mm_tr ρ))).length) Slot.unset).toArray = ls at hl ⊢
    have hlc : mm_lc ρ M.2.1 (mm_ent q.2.2 as) ls y2.2.2.1 := by
      refine ⟨hl.1, hl.2.1, by rw [mm_ent_len hcat, hnl]; exact Nat.le_refl _, fun j x hx => ?_⟩
      obtain ⟨a1, a2⟩ := mm_fl_at (ρ := ρ) 0 as j x (mm_ent_at hx)
      rw [Nat.zero_add] at a1
      exact ⟨hl.2.2 _ a1, hks x a2⟩
    have hgd := mx_ex (oc := 0) (res := (v, M')) (M0 := M) (R := mm_rm (d + 1) (M'.2.1 - M.2.1) (M'.2.2.1 - M.2.2.1)) (z0 := M.2.2.1) (Ts := mm_ww y2) (own := y2.1.cls) (nm := y2.1.name) (rt := y2.2.2.2) (A := va_A (mm_enc cA ρ Y M) s.heap.size) (ρ0 := ρ) (e := e) (below := below) B.exec B.bytes hml (findClass_of_methodNamed B.named) B.notSynchronized B.returns (fun hnm => by rw [(name_of_methodNamed B.named B.method).1]; exact hnm) (fun w hw9 => List.mem_cons_of_mem _ hw9) hts hY hK hnest h16 rfl rfl (fun q9 hq9 => Or.inr hq9) hT hZ hN hO h5 hlay hcode (Nat.le_refl _) (Nat.le_refl _) (Nat.le_refl _) (Nat.le_refl _) hcall true (fun _ => rfl)
      (mx_lp (oc := 0) (res := (v, M')) (M0 := M) (R := mm_rm (d + 1) (M'.2.1 - M.2.1) (M'.2.2.1 - M.2.2.1)) (z0 := M.2.2.1) (Ts := mm_ww y2) (own := y2.1.cls) (nm := y2.1.name) (rt := y2.2.2.2) (A := va_A (mm_enc cA ρ Y M) s.heap.size) (ρ0 := ρ) (e := e) (below := below) B.exec B.bytes hml (findClass_of_methodNamed B.named) B.notSynchronized B.returns (fun hnm => by rw [(name_of_methodNamed B.named B.method).1]; exact hnm) (fun w hw9 => List.mem_cons_of_mem _ hw9) hts hY hK hnest h16 rfl rfl (fun q9 hq9 => Or.inr hq9) hT hZ hN hO h5 hlay hcode (Nat.le_refl _) (Nat.le_refl _) (Nat.le_refl _) (Nat.le_refl _) hcall true (fun _ => rfl) (fun e9 he9 => ⟨mm_okE_ren (hes e9 he9), fun _ => rfl⟩) N) 1200 e0 r0 (fun e9 he9 => ⟨mm_okE_ren (hes e9 (by rw [he0]; exact he9)), fun _ => rfl⟩) (mm_ent q.2.2 as) [] M (by rw [← he0]; exact h)
    have hfin := (hgd hw (Nat.le_refl _) (Nat.le_refl _) (fun x hx => by cases hx) (mm_ent_lk hks)).2 ρ s.heap [] ls (fun _ _ => rfl) hP hD va_S.rf hlc
    have e00 : M.2.1 + 0 - M.2.1 = 0 := by omega
    rw [e00, Nat.sub_self, hpc0] at hfin
    exact hfin
/-- WHAT THE SMALL MACHINE EVALUATES, THE REAL ONE RUNS -/
theorem mv_ev {l : Launch} {D : va_G} {cA : Nat → ClassId} {Y : mmY} {nest : List Cond} {mth : List mmT} {prog : List mmP} {N : Nat} (hY : mm_wfY Y) (hnest : ∀ w ∈ nest, mm_isN w = true) (hlay : ∀ (ci : Nat) (q : vw_C), mm_cl[ci]? = some q → ∀ w ∈ u_ws q.1 q.2.1 q.2.2, w ∈ mm_gw) (hcode : ∀ (j : Nat) (y : mmT), mth[j]? = some y → Cond.code y.1 y.2.1 y.2.2.1 y.2.2.2 ∈ mm_gw ∧ y.2.2.1 ≤ 41) (hprog : mm_okP mth nest prog) : ∀ (d i : Nat) (as : List Value) (M : mmM) (v : Option Value) (M' : mmM), mm_ev Y prog N d i as M = some (v, M') → mm_wf Y M → 16 ≤ M.2.1 → mm_ks M.2.1 as → mm_Call l D cA Y nest mth d i as M v M' := by
  intro d
  induction d with
  | zero => intro i as M v M' h; cases h
  | succ d ih => intro i as M v M' h hw h16 hks; exact mv_run hY hnest hlay hcode hprog ih h hw h16 hks
end
section
/-! ===== BEGIN exceptions that leave a method, and their catching by the caller (launches without stack traces) ===== -/
section VXA
/-! The laws vx_back, vx_callV, vx_callS, vx_callSW, vx_throw0, vx_throwS follow proofs of the library, with one case more: JvmDerived/Free/Laws.lean (Back.of_free), Shelf42/LK1.lean (callV, callS), Shelf/KitTraced.lean (throwNew0V, throwNewS). -/
/-- where a method has thrown q: the class by its name, the cell, what was written, the world -/
def vx_T (XC : String → State → State → Prop) (st : State) (q : Addr) (t : State) (mc ms : Nat) (free : Addr → Prop) : Prop :=
  ∃ (E : String) (ce : Cell) (L : List Loc), XC E st t ∧ t.heap[q]? = some ce ∧ ce.vm = .none ∧ st.vm.findClass E = some ce.cls ∧ st.WarmedH t.vm ∧ st.sameButNew ({ t with vm := st.vm } : State) L mc ms ∧ ∀ z ∈ L, free z.base
def vx_Q (Qc : Array Value → State → Outcome → State → Prop) (XC : String → State → State → Prop) (mc ms : Nat) (free : Addr → Prop) : Array Value → State → Outcome → State → Prop := fun a st o t =>
  (Qc a st o t ∧ ∃ L, FrameEnd st o t L mc ms ∧ ∀ q ∈ L, free q.base) ∨ ∃ q, o = .threw q ∧ vx_T XC st q t mc ms free
/-- a callee that returns or throws -/
def vx_Met (l : Launch) (y : MethodName) (ws : List Cond) (rm : Room) (Pc : Array Value → State → Prop) (Qc : Array Value → State → Outcome → State → Prop) (XC : String → State → State → Prop) (mc ms : Nat) (free : Addr → Prop) : Prop :=
  MetFree l y (headSpec ws rm) Pc (fun _ _ _ _ _ => True) (vx_Q Qc XC mc ms free)
def vx_Post (XC : String → State → State → Prop) (mc ms : Nat) (free : Addr → Prop) : Pt → Array Value → Addr → Pt → Prop := fun A a q B =>
  ∃ (g : JFrame) (mk : MethodId) (t : State) (L : List Loc) (E : String) (ce : Cell), B.U.heap = t.heap ∧ B.U.vm = t.vm ∧ XC E (A.U.calling g mk a) t ∧ t.heap[q]? = some ce ∧ ce.vm = .none ∧ A.U.vm.findClass E = some ce.cls ∧ B.locs = A.locs ++ L ∧ (∀ z ∈ L, free z.base) ∧ B.cells = A.cells + mc ∧ B.slots = A.slots + ms
def vx_Back (l : Launch) (R : Room) (p : Program) (e : Env) (below : List Frame) (s : State) (sargs : Array Value) (y : MethodName) (len W9 : Nat)
    (Pre : Pt → Array Value → Prop) (Post : Pt → Array Value → Option Value → Pt → Prop) (PostX : Pt → Array Value → Addr → Pt → Prop) : Prop :=
  ∀ (m : MethodId) (meth : Method) (c : Code) (A : Pt) (g : JFrame) (ig : Instr) (mk : MethodId) (a : Array Value),
    Stand p l e R s m sargs below meth c A.U A.locs A.cells A.slots → g.method = m → g.locals.size = c.maxLocals → decode c.code g.pc = .ok (ig, len) →
    2 * g.monitorRoom + (g.stack.map fun v => v.category).sum ≤ W9 → A.U.methodNamed? y = some mk → Pre A a →
    (∃ (v : Option Value) (B : Pt), Stand p l e R s m sargs below meth c B.U B.locs B.cells B.slots ∧ Post A a v B ∧
      Steps p.tables e below (doInvoke e (A.U.setTop g) [] mk a).1 (B.U.setTop { g with pc := g.pc + len, stack := v.toList ++ g.stack })) ∨
    (∃ (q : Addr) (B : Pt), Stand p l e R s m sargs below meth c B.U B.locs B.cells B.slots ∧ PostX A a q B ∧
      Steps p.tables e below (doInvoke e (A.U.setTop g) [] mk a).1 ((B.U.setTop g).pushFrame (.throwing q)))
section Payer
variable {l : Launch} {R : Room} {p : Program} {e : Env} {below : List Frame} {s : State} {sargs : Array Value} {y : MethodName} {len W9 : Nat}
theorem vx_back {ws : List Cond} {rm : Room} {Pc : Array Value → State → Prop} {Qc : Array Value → State → Outcome → State → Prop} {XC : String → State → State → Prop} {mc ms : Nat} {free : Addr → Prop} {bytes : ByteArray} {maxL : Nat} {ret : Option FieldType}
    (hM : vx_Met l y ws rm Pc Qc XC mc ms free) (hblind : FrameBlind Pc) (hrc : rm.cells = mc) (hrs : rm.slots = ms)
    (hframes : rm.frames + 1 ≤ R.frames) (hlocals : W9 + (maxL + 11) + rm.locals ≤ R.locals)
    (hws : ∀ w ∈ ws, ∀ a' U, s.WarmedH U.vm → w.before a' U = true) (hcode : Cond.code y bytes maxL ret ∈ ws) (hinit : ∀ a' U, s.WarmedH U.vm → (Cond.initialized y.cls).before a' U = true) :
    vx_Back l R p e below s sargs y len W9 (PreOf R mc ms Pc) (PostOf Qc mc ms free) (vx_Post XC mc ms free) := by
  intro m meth c A g ig mk a X hg hsize hdg hW hn hp
  have h1 : (headSpec ws rm).pre.before a A.U = true := atoms_intro fun w hw => hws w hw _ _ X.warmed
  have h2 : (Cond.code y bytes maxL ret).before a A.U = true := hws _ hcode _ _ X.warmed
  have h3 : (Cond.initialized y.cls).before a A.U = true := hinit _ _ X.warmed
  have h4 : A.cells + (headSpec ws rm).room.cells ≤ R.cells := by rw [show (headSpec ws rm).room.cells = mc from hrc]; exact hp.1
  have h5 : A.slots + (headSpec ws rm).room.slots ≤ R.slots := by rw [show (headSpec ws rm).room.slots = ms from hrs]; exact hp.2.1
  have hPc : Pc a (A.U.calling g mk a) := hblind _ _ _ _ hp.2.2
  obtain ⟨U, Ls, c0, s0⟩ := A
  dsimp only [Pt.U, Pt.locs, Pt.cells, Pt.slots] at h1 h2 h3 h4 h5 X hn hPc ⊢
  obtain ⟨methY, cY, hmY, hcY, -, hlY, -, -, -, -⟩ := Cond.code_spec hn h2
  obtain ⟨kY, hkY, -⟩ := className_of_methodNamed hn
  have hinitY : kY.init = .initialized := Cond.initialized_spec (findClass_of_methodNamed hn) hkY h3
  have h : At U g.method c below := by rw [hg]; exact X.here
  have hlocals9 : W9 + (maxL + 11) + (headSpec ws rm).room.locals ≤ R.locals := hlocals
  have happ : (headSpec ws rm).appliesLoose y e.platform (U.calling g mk a) = true :=
    Spec.appliesLoose_calling (g := g) h hdg hn hkY hinitY
      (X.room_calling (g := g) (R' := (headSpec ws rm).room) hsize hmY hcY hframes (by rw [hlY]; omega) h4 h5) h1
  obtain ⟨mid, hmid⟩ := h.above
  have hfr : (U.setTop g).frames = (.java g :: mid) ++ below := by rw [State.frames_setTop' g h.top, hmid]; rfl
  obtain ⟨o, s₂, hsteps, -, hend, hq⟩ := Steps.callFree hM p X.admits X.cas X.clock (acts := []) hfr happ hPc trivial
  have hq' : vx_Q Qc XC mc ms free a (U.calling g mk a) o s₂ := hq
  rw [State.frames_setTop' g h.top] at hend
  obtain ⟨g₀, hg0⟩ := Option.isSome_iff_exists.mp h.top
  obtain ⟨r, hr⟩ := State.topJava?_eq_some.mp hg0
  have hr' : (({ U with heap := s₂.heap, slotsUsed := s₂.slotsUsed } : State).setVm s₂.vm).frames = .java g₀ :: r := hr
  rcases hq' with ⟨hqc, L, hfe, hL⟩ | ⟨q, rfl, E, ce, L, hx, hce, hcv, hcl, hW₂, hsm, hL⟩
  · obtain ⟨⟨v, rfl⟩, hW₂, e2, q2, q3, q4, q5, q6⟩ := id hfe
    have e3 : s₂ = ({ (U.calling g mk a).setFrames s₂.frames with heap := s₂.heap, slotsUsed := s₂.slotsUsed } : State).setVm s₂.vm := by
      have : s₂ = ({ s₂ with vm := (U.calling g mk a).vm } : State).setVm s₂.vm := rfl
      rw [e2] at this
      exact this
    obtain ⟨c₂, i₂, len₂, hc₂, hd₂, hf₂⟩ := hend
    have hW' : U.WarmedH s₂.vm := hW₂
    have hcc : c₂ = c := by
      have h1 : s₂.code? g.method = U.code? g.method := by
        rw [State.code?_eq, State.code?_eq, hW'.alike.method?]
      exact Option.some.inj (hc₂.symm.trans (h1.trans h.code))
    subst hcc
    have hlen : len₂ = len := by rw [hdg] at hd₂; cases hd₂; rfl
    subst hlen
    have hs₂ : s₂ = (({ U with heap := s₂.heap, slotsUsed := s₂.slotsUsed } : State).setVm s₂.vm).setTop { g with pc := g.pc + len₂, stack := v.toList ++ g.stack } := by
      refine e3.trans ?_
      rw [hf₂, State.calling_eq h.top, State.setFrames_setFrames, State.setTop_of_frames _ hr', hr]
      rfl
    have hsame : U.sameButNew ({ U with heap := s₂.heap, slotsUsed := s₂.slotsUsed } : State) L mc ms := by
      refine ⟨?_, q2, q3, q4, q5, q6⟩
      obtain ⟨t, ht, -⟩ := State.frames_cons hr
      show ({ U with heap := s₂.heap, slotsUsed := s₂.slotsUsed } : State) = { U.setFrames U.frames with heap := s₂.heap, slotsUsed := s₂.slotsUsed }
      rw [State.setFrames_self ht]
    subst hg
    refine Or.inl ⟨v, ⟨(({ U with heap := s₂.heap, slotsUsed := s₂.slotsUsed } : State).setVm s₂.vm), Ls ++ L, c0 + mc, s0 + ms⟩,
      ⟨X.admits, X.cas, X.clock, X.frames, X.room, X.hears, X.method, X.code, (X.here.setHeapUsed s₂.heap s₂.slotsUsed).setVm hW'.alike, X.tail, State.WarmedH.trans X.warmed hW', X.limits, X.bytes, X.same.trans (hsame.setVm s.vm)⟩,
      ⟨g, mk, s₂, L, rfl, rfl, hqc, rfl, hL, rfl, rfl⟩, ?_⟩
    show Steps p.tables e below _ ((({ U with heap := s₂.heap, slotsUsed := s₂.slotsUsed } : State).setVm s₂.vm).setTop { g with pc := g.pc + len₂, stack := v.toList ++ g.stack })
    rw [← hs₂]
    exact hsteps
  · obtain ⟨e2, q2, q3, q4, q5, q6⟩ := id hsm
    have e3 : s₂ = ({ (U.calling g mk a).setFrames s₂.frames with heap := s₂.heap, slotsUsed := s₂.slotsUsed } : State).setVm s₂.vm := by
      have : s₂ = ({ s₂ with vm := (U.calling g mk a).vm } : State).setVm s₂.vm := rfl
      rw [e2] at this
      exact this
    have hf₂ : s₂.frames = .throwing q :: .java g :: U.frames.tail := hend
    have hW' : U.WarmedH s₂.vm := hW₂
    have hs₂ : s₂ = ((({ U with heap := s₂.heap, slotsUsed := s₂.slotsUsed } : State).setVm s₂.vm).setTop g).pushFrame (.throwing q) := by
      refine e3.trans ?_
      rw [hf₂, State.calling_eq h.top, State.setFrames_setFrames, State.pushFrame, State.frames_setTop _ hr', State.setTop_of_frames _ hr', State.setFrames_setFrames, hr]
      rfl
    have hsame : U.sameButNew ({ U with heap := s₂.heap, slotsUsed := s₂.slotsUsed } : State) L mc ms := by
      refine ⟨?_, q2, q3, q4, q5, q6⟩
      obtain ⟨t, ht, -⟩ := State.frames_cons hr
      show ({ U with heap := s₂.heap, slotsUsed := s₂.slotsUsed } : State) = { U.setFrames U.frames with heap := s₂.heap, slotsUsed := s₂.slotsUsed }
      rw [State.setFrames_self ht]
    subst hg
    refine Or.inr ⟨q, ⟨(({ U with heap := s₂.heap, slotsUsed := s₂.slotsUsed } : State).setVm s₂.vm), Ls ++ L, c0 + mc, s0 + ms⟩,
      ⟨X.admits, X.cas, X.clock, X.frames, X.room, X.hears, X.method, X.code, (X.here.setHeapUsed s₂.heap s₂.slotsUsed).setVm hW'.alike, X.tail, State.WarmedH.trans X.warmed hW', X.limits, X.bytes, X.same.trans (hsame.setVm s.vm)⟩,
      ⟨g, mk, s₂, L, E, ce, rfl, rfl, hx, hce, hcv, hcl, rfl, hL, rfl, rfl⟩, ?_⟩
    show Steps p.tables e below _ (((({ U with heap := s₂.heap, slotsUsed := s₂.slotsUsed } : State).setVm s₂.vm).setTop g).pushFrame (.throwing q))
    rw [← hs₂]
    exact hsteps
end Payer
section Calls
variable {p : Program} {l : Launch} {e : Env} {R : Room} {s : State} {m : MethodId} {args : Array Value} {below : List Frame} {meth : Method} {c : Code} {T : State} {locs : List Loc} {cells slots : Nat}
theorem vx_callV (X : Stand p l e R s m args below meth c T locs cells slots) (hexec : p.tables.exec = Jvm.exec) {own C : String} {index : Nat} {y : MethodName} {bytes : ByteArray} {maxL : Nat} {ret : Option FieldType}
    (hown : s.vm.findClass own = some m.cls) (hlink : (Cond.methodLink own index y).before args s = true) (hinst : (Cond.instanceMethod y).before args s = true) (hsel : (Cond.selects C y y).before args s = true)
    (hcode : (Cond.code y bytes maxL ret).before args s = true) (hy : y.cls ≠ "java/lang/invoke/MethodHandle" ∧ y.cls ≠ "java/lang/invoke/VarHandle")
    {W9 : Nat} {Pre : Pt → Array Value → Prop} {Post : Pt → Array Value → Option Value → Pt → Prop} {PostX : Pt → Array Value → Addr → Pt → Prop} (hK : vx_Back l R p e below s args y 3 W9 Pre Post PostX)
    {b : Addr} {cellB : Cell} (hcell : T.heap[b]? = some cellB) (hobj : cellB.vm.isStatics = false) (hcls : s.vm.findClass C = some cellB.cls)
    {g : JFrame} (hg : g.method = m) (hsize : g.locals.size = c.maxLocals) {argsL rest : List Value} (hlen : ∀ sig, parseMethodDescriptor y.desc = some sig → argsL.length = sig.parameters.length)
    (hstack : g.stack = argsL.reverse ++ .ref b :: rest) (hW : 2 * g.monitorRoom + (rest.map fun v => v.category).sum ≤ W9) (hdg : decode c.code g.pc = .ok (.invokevirtual index, 3))
    (hpre : ∀ vm₁, s.WarmedH vm₁ → Pre ⟨T.setVm vm₁, locs, cells, slots⟩ (Value.ref b :: argsL).toArray) :
    (∃ (v : Option Value) (vm₁ : Vm) (B : Pt), s.WarmedH vm₁ ∧ Stand p l e R s m args below meth c B.U B.locs B.cells B.slots ∧ Post ⟨T.setVm vm₁, locs, cells, slots⟩ (Value.ref b :: argsL).toArray v B ∧
      ∀ target, Steps p.tables e below (B.U.setTop { g with pc := g.pc + 3, stack := v.toList ++ rest }) target → Steps p.tables e below (T.setTop g) target) ∨
    (∃ (q : Addr) (vm₁ : Vm) (B : Pt), s.WarmedH vm₁ ∧ Stand p l e R s m args below meth c B.U B.locs B.cells B.slots ∧ PostX ⟨T.setVm vm₁, locs, cells, slots⟩ (Value.ref b :: argsL).toArray q B ∧
      Steps p.tables e below (T.setTop g) ((B.U.setTop { g with stack := rest }).pushFrame (.throwing q))) := by
  obtain ⟨mk, methM, hnamed, hmethM, hstM, habM⟩ := Cond.instanceMethod_spec hinst
  obtain ⟨methM', cM, hmethM', -, -, -, -, -, -, hsigM⟩ := Cond.code_spec hnamed hcode
  cases hmethM.symm.trans hmethM'
  obtain ⟨c2, r2, m2, q1, q2, q3, q4, kP, hkP, hkPi⟩ := Cond.selects_spec hsel
  cases hcls.symm.trans q1
  cases (State.methodFound?_of_named hnamed hy).symm.trans q2
  cases hnamed.symm.trans q3
  have hselP : selectMethod e.platform s.vm cellB.cls mk = .method mk := by rw [Launch.admits_selectMethod X.admits]; exact q4
  obtain ⟨vm₁, X₁, hstep₁⟩ := X.invokevirtual hexec hown hlink hnamed hmethM hstM hkP hkPi hy (a := b) (cell := cellB) hcell
    (fun z h => by rw [h] at hobj; cases hobj) hselP hmethM habM hkP hkPi (g := g) hg (argsL := argsL) (rest := rest) (hlen _ hsigM) hstack hdg
  rcases hK m meth c ⟨T.setVm vm₁, locs, cells, slots⟩ { g with stack := rest } (.invokevirtual index) mk (Value.ref b :: argsL).toArray X₁ hg hsize hdg hW (X₁.named hnamed) (hpre vm₁ X₁.warmed) with ⟨v, B, X', hpost, hsteps⟩ | ⟨q, B, X', hpost, hsteps⟩
  · exact Or.inl ⟨v, vm₁, B, X₁.warmed, X', hpost, fun target h => hstep₁ _ fun acts => by rw [doInvoke_state]; exact hsteps.trans h⟩
  · exact Or.inr ⟨q, vm₁, B, X₁.warmed, X', hpost, hstep₁ _ fun acts => by rw [doInvoke_state]; exact hsteps⟩
theorem vx_callS (X : Stand p l e R s m args below meth c T locs cells slots) (hexec : p.tables.exec = Jvm.exec) {own : String} {index : Nat} {y : MethodName} {bytes : ByteArray} {maxL : Nat} {ret : Option FieldType}
    (hown : s.vm.findClass own = some m.cls) (hlink : (Cond.methodLink own index y).before args s = true) (hstat : (Cond.static y).before args s = true) (hinit : (Cond.initialized y.cls).before args s = true)
    (hcode : (Cond.code y bytes maxL ret).before args s = true) (hy : y.cls ≠ "java/lang/invoke/MethodHandle" ∧ y.cls ≠ "java/lang/invoke/VarHandle")
    {W9 : Nat} {Pre : Pt → Array Value → Prop} {Post : Pt → Array Value → Option Value → Pt → Prop} {PostX : Pt → Array Value → Addr → Pt → Prop} (hK : vx_Back l R p e below s args y 3 W9 Pre Post PostX)
    {g : JFrame} (hg : g.method = m) (hsize : g.locals.size = c.maxLocals) {argsL rest : List Value} (hlen : ∀ sig, parseMethodDescriptor y.desc = some sig → argsL.length = sig.parameters.length)
    (hstack : g.stack = argsL.reverse ++ rest) (hW : 2 * g.monitorRoom + (rest.map fun v => v.category).sum ≤ W9) (hdg : decode c.code g.pc = .ok (.invokestatic index, 3))
    (hpre : ∀ vm₁, s.WarmedH vm₁ → Pre ⟨T.setVm vm₁, locs, cells, slots⟩ argsL.toArray) :
    (∃ (v : Option Value) (vm₁ : Vm) (B : Pt), s.WarmedH vm₁ ∧ Stand p l e R s m args below meth c B.U B.locs B.cells B.slots ∧ Post ⟨T.setVm vm₁, locs, cells, slots⟩ argsL.toArray v B ∧
      ∀ target, Steps p.tables e below (B.U.setTop { g with pc := g.pc + 3, stack := v.toList ++ rest }) target → Steps p.tables e below (T.setTop g) target) ∨
    (∃ (q : Addr) (vm₁ : Vm) (B : Pt), s.WarmedH vm₁ ∧ Stand p l e R s m args below meth c B.U B.locs B.cells B.slots ∧ PostX ⟨T.setVm vm₁, locs, cells, slots⟩ argsL.toArray q B ∧
      Steps p.tables e below (T.setTop g) ((B.U.setTop { g with stack := rest }).pushFrame (.throwing q))) := by
  obtain ⟨mk, hnamed⟩ := Cond.code_named hcode
  obtain ⟨methM, cM, hmethM, -, -, -, -, -, -, hsigM⟩ := Cond.code_spec hnamed hcode
  have hstatic : methM.isStatic = true := Cond.static_spec hnamed hmethM hstat
  obtain ⟨kP, hkP, -⟩ := className_of_methodNamed hnamed
  have hinitP : kP.init = .initialized := Cond.initialized_spec (findClass_of_methodNamed hnamed) hkP hinit
  obtain ⟨vm₁, X₁, hstep₁⟩ := X.invokestatic hexec hown hlink hnamed hmethM hstatic hkP hinitP hy (g := g) hg (argsL := argsL) (rest := rest) (hlen _ hsigM) hstack hdg
  rcases hK m meth c ⟨T.setVm vm₁, locs, cells, slots⟩ { g with stack := rest } (.invokestatic index) mk argsL.toArray X₁ hg hsize hdg hW (X₁.named hnamed) (hpre vm₁ X₁.warmed) with ⟨v, B, X', hpost, hsteps⟩ | ⟨q, B, X', hpost, hsteps⟩
  · exact Or.inl ⟨v, vm₁, B, X₁.warmed, X', hpost, fun target h => hstep₁ _ fun acts => by rw [doInvoke_state]; exact hsteps.trans h⟩
  · exact Or.inr ⟨q, vm₁, B, X₁.warmed, X', hpost, hstep₁ _ fun acts => by rw [doInvoke_state]; exact hsteps⟩
end Calls
theorem vx_cls {s : State} {T : State} {vm₁ : Vm} {E : String} {k : ClassId} (hW : s.WarmedH vm₁) (h : (T.setVm vm₁).vm.findClass E = some k) : s.vm.findClass E = some k := by
  have h1 : vm₁.findClass E = some k := h
  rw [hW.alike.findClass] at h1
  exact h1
/-- the method's frame g, with q thrown over it -/
def vx_W (p : Program) (l : Launch) (e : Env) (R : Room) (s : State) (m : MethodId) (args : Array Value) (below : List Frame) (meth : Method) (c : Code) (H : Heap) (locs : List Loc) (cells slots : Nat) (Q : State → Prop) (g : JFrame) (q : Addr) : Prop :=
  ∀ T : State, T.heap = H → Stand p l e R s m args below meth c T locs cells slots → ∃ t, Steps p.tables e below ((T.setTop g).pushFrame (.throwing q)) t ∧ Q t
def vx_Run (p : Program) (l : Launch) (e : Env) (R : Room) (s : State) (m : MethodId) (args : Array Value) (below : List Frame) (meth : Method) (c : Code) (H : Heap) (locs : List Loc) (cells slots mc ms : Nat) (g : JFrame) (rest : List Value) (Qa : State → Outcome → State → Prop) (XC : String → State → State → Prop) (free : Addr → Prop) : Prop :=
  ∀ T : State, T.heap = H → Stand p l e R s m args below meth c T locs cells slots →
    (∃ (v : Option Value) (st₀ t T' : State) (L : List Loc), st₀.heap = H ∧ Stand p l e R s m args below meth c T' (locs ++ L) (cells + mc) (slots + ms) ∧ (∀ q ∈ L, free q.base) ∧ T'.heap = t.heap ∧ T'.vm = t.vm ∧ Qa st₀ (.returned v) t ∧
      Goes p e below T g T' { g with pc := g.pc + 3, stack := v.toList ++ rest }) ∨
    (∃ (q : Addr) (st₀ t T' : State) (L : List Loc) (E : String) (ce : Cell), st₀.heap = H ∧ Stand p l e R s m args below meth c T' (locs ++ L) (cells + mc) (slots + ms) ∧ (∀ z ∈ L, free z.base) ∧ T'.heap = t.heap ∧ T'.vm = t.vm ∧ XC E st₀ t ∧ t.heap[q]? = some ce ∧ ce.vm = .none ∧ s.vm.findClass E = some ce.cls ∧
      Steps p.tables e below (T.setTop g) ((T'.setTop { g with stack := rest }).pushFrame (.throwing q)))
def vx_X {S : Type} (px : S → Prop) (B : String → S → State → Prop) (A : Nat → Prop) : String → State → State → Prop := fun E st t => ∃ u : S, px u ∧ B E u t ∧ va_F A st t
section Runs
variable {p : Program} {l : Launch} {e : Env} {R : Room} {s : State} {m : MethodId} {args : Array Value} {below : List Frame} {meth : Method} {c : Code} {H : Heap} {locs : List Loc} {cells slots : Nat}
variable {y : MethodName} {bytes cc : ByteArray} {maxL nL mc ms n index : Nat} {ret : Option FieldType} {ws : List Cond} {rm : Room} {Pc : Array Value → State → Prop} {Qc : Array Value → State → Outcome → State → Prop} {XC : String → State → State → Prop} {free : Addr → Prop} {Ts : List Cond} {own C : String} {b : Addr} {As rest : List Value} {g : JFrame}
theorem vx_callBack (cb : CallB R s args own index y bytes maxL ret ws rm mc ms n) (hM : vx_Met l y ws rm Pc Qc XC mc ms free) (hbl : FrameBlind Pc) : vx_Back l R p e below s args y 3 8 (PreOf R mc ms Pc) (PostOf Qc mc ms free) (vx_Post XC mc ms free) := by
  obtain ⟨hrc, hrs, hfr, hlo, hws, hcw, -, hini, -⟩ := cb
  exact vx_back (bytes := bytes) (maxL := maxL) (ret := ret) hM hbl hrc hrs hfr hlo hws hcw (fun a' U hW => word_at hW (Or.inl (by first | rfl | simp [Cond.onTables, Cond.keeps, Cond.steady])) hini)
theorem vx_runV (S : CallFix p m c cc nL s args Ts own) (hM : vx_Met l y ws rm Pc Qc XC mc ms free) (cw : CallW R s args own C index y bytes maxL ret ws rm mc ms n) (hp : PreV s H C b Pc As)
    (hg : g.method = m) (hn : As.length = n) (hsize : g.locals.size = nL) (hstack : g.stack = As.reverse ++ .ref b :: rest) (hW : 2 * g.monitorRoom + (rest.map fun v => v.category).sum ≤ 8) (hdg : decode cc g.pc = .ok (.invokevirtual index, 3)) (hf : cells + mc ≤ R.cells ∧ slots + ms ≤ R.slots) :
    vx_Run p l e R s m args below meth c H locs cells slots mc ms g rest (Qc (Value.ref b :: As).toArray) XC free := by
  have hK : vx_Back l R p e below s args y 3 8 (PreOf R mc ms Pc) (PostOf Qc mc ms free) (vx_Post XC mc ms free) := vx_callBack cw.1 hM hp.1
  obtain ⟨⟨-, -, -, -, -, -, hcode, -, hy, hlen, hl⟩, hin, hse⟩ := cw
  obtain ⟨hx, hb, hml, ho, -⟩ := S
  obtain ⟨-, ⟨cellB, hcB, hoB, hclB⟩, hPc⟩ := hp
  intro T hT X
  rcases vx_callV X hx (C := C) (bytes := bytes) (maxL := maxL) (ret := ret) ho hl hin hse hcode hy hK (by rw [hT]; exact hcB) hoB hclB hg (hsize.trans hml.symm) (argsL := As) (rest := rest) (fun sig h => hn.trans (hlen sig h)) hstack hW (by rw [hb]; exact hdg)
    (fun vm₁ hW₁ => ⟨hf.1, hf.2, hPc (T.setVm vm₁) hT hW₁⟩) with ⟨v, vm₁, ⟨U', l2, c2, s2⟩, hW₁, X', ⟨g', mk, t, L, e1, e2, hq, h1, hL, h2, h3⟩, st⟩ | ⟨q, vm₁, ⟨U', l2, c2, s2⟩, hW₁, X', ⟨g', mk, t, L, E, ce, e1, e2, hq, hce, hcv, hcl, h1, hL, h2, h3⟩, st⟩
  · dsimp only [Pt.U, Pt.locs, Pt.cells, Pt.slots] at X' e1 e2 h1 h2 h3 st
    subst h1; subst h2; subst h3
    exact Or.inl ⟨v, (T.setVm vm₁).calling g' mk (Value.ref b :: As).toArray, t, U', L, hT, X', hL, e1, e2, hq, st⟩
  · dsimp only [Pt.U, Pt.locs, Pt.cells, Pt.slots] at X' e1 e2 h1 h2 h3 st hcl
    subst h1; subst h2; subst h3
    exact Or.inr ⟨q, (T.setVm vm₁).calling g' mk (Value.ref b :: As).toArray, t, U', L, E, ce, hT, X', hL, e1, e2, hq, hce, hcv, vx_cls hW₁ hcl, st⟩
theorem vx_runS (S : CallFix p m c cc nL s args Ts own) (hM : vx_Met l y ws rm Pc Qc XC mc ms free) (cw : CallB R s args own index y bytes maxL ret ws rm mc ms n ∧ (Cond.static y).before args s = true) (hp : PreS s H Pc As)
    (hg : g.method = m) (hn : As.length = n) (hsize : g.locals.size = nL) (hstack : g.stack = As.reverse ++ rest) (hW : 2 * g.monitorRoom + (rest.map fun v => v.category).sum ≤ 8) (hdg : decode cc g.pc = .ok (.invokestatic index, 3)) (hf : cells + mc ≤ R.cells ∧ slots + ms ≤ R.slots) :
    vx_Run p l e R s m args below meth c H locs cells slots mc ms g rest (Qc As.toArray) XC free := by
  have hK : vx_Back l R p e below s args y 3 8 (PreOf R mc ms Pc) (PostOf Qc mc ms free) (vx_Post XC mc ms free) := vx_callBack cw.1 hM hp.1
  obtain ⟨⟨-, -, -, -, -, -, hcode, hini, hy, hlen, hl⟩, hstt⟩ := cw
  obtain ⟨hx, hb, hml, ho, -⟩ := S
  intro T hT X
  rcases vx_callS X hx (bytes := bytes) (maxL := maxL) (ret := ret) ho hl hstt hini hcode hy hK hg (hsize.trans hml.symm) (argsL := As) (rest := rest) (fun sig h => hn.trans (hlen sig h)) hstack hW (by rw [hb]; exact hdg)
    (fun vm₁ hW₁ => ⟨hf.1, hf.2, hp.2 (T.setVm vm₁) hT hW₁⟩) with ⟨v, vm₁, ⟨U', l2, c2, s2⟩, hW₁, X', ⟨g', mk, t, L, e1, e2, hq, h1, hL, h2, h3⟩, st⟩ | ⟨q, vm₁, ⟨U', l2, c2, s2⟩, hW₁, X', ⟨g', mk, t, L, E, ce, e1, e2, hq, hce, hcv, hcl, h1, hL, h2, h3⟩, st⟩
  · dsimp only [Pt.U, Pt.locs, Pt.cells, Pt.slots] at X' e1 e2 h1 h2 h3 st
    subst h1; subst h2; subst h3
    exact Or.inl ⟨v, (T.setVm vm₁).calling g' mk As.toArray, t, U', L, hT, X', hL, e1, e2, hq, st⟩
  · dsimp only [Pt.U, Pt.locs, Pt.cells, Pt.slots] at X' e1 e2 h1 h2 h3 st hcl
    subst h1; subst h2; subst h3
    exact Or.inr ⟨q, (T.setVm vm₁).calling g' mk As.toArray, t, U', L, E, ce, hT, X', hL, e1, e2, hq, hce, hcv, vx_cls hW₁ hcl, st⟩
end Runs
section Rows
variable {p : Program} {l : Launch} {e : Env} {R : Room} {s : State} {m : MethodId} {args : Array Value} {below : List Frame} {meth : Method} {c : Code} {H : Heap} {locs : List Loc} {cells slots : Nat} {Q : State → Prop}
variable {mc ms : Nat} {free : Addr → Prop} {A0 A1 : Nat → Prop} {H0 : Heap} {a : Array Value} {pc : Nat} {ls : Array Slot} {st0 rest : List Value}
theorem vx_keep {st₀ t T' : State} {L : List Loc} (h0 : st₀.heap = H) (e1 : T'.heap = t.heap) (hS : va_S A0 H0 H locs) (hA : ∀ q, q < H.size → A1 q → A0 q) (hf : ∀ q, free q → A0 q) (hL : ∀ q ∈ L, free q.base) (hF : va_F A1 st₀ t) :
    H.size ≤ T'.heap.size ∧ (∀ q : Nat, q < H.size → ¬ A1 q → T'.heap[q]? = H[q]?) ∧ va_S A0 H0 T'.heap (locs ++ L) := by
  obtain ⟨hz, hk⟩ := hF
  rw [h0] at hz hk
  exact ⟨by rw [e1]; exact hz, fun q h1 h2 => by rw [e1]; exact hk q h1 h2,
    ⟨Nat.le_trans hS.1 (by rw [e1]; exact hz), fun q h1 h2 => by rw [e1, hk q (Nat.lt_of_lt_of_le h1 hS.1) (fun z => h2 (hA q (Nat.lt_of_lt_of_le h1 hS.1) z))]; exact hS.2.1 q h1 h2, fun q hq => by
      rcases List.mem_append.mp hq with h | h
      · exact hS.2.2 q h
      · exact hf _ (hL q h)⟩⟩
theorem vx_calli {S SX : Type} {post : Int32 → S → Prop} {px : SX → Prop} {B : S → State → Prop} {BX : String → SX → State → Prop} {AX : Nat → Prop} (hr : vx_Run p l e R s m args below meth c H locs cells slots mc ms (F0 m pc ls st0) rest (va_Qi post B A1 a) (vx_X px BX AX) free) (hS : va_S A0 H0 H locs) (hA : ∀ q, q < H.size → A1 q → A0 q) (hf : ∀ q, free q → A0 q) (hAX : ∀ q, q < H.size → AX q → A0 q)
    (kx : ∀ (E : String) (ce : Cell) (q9 : Addr) (u : SX) (t : State) (H1 : Heap) (locs1 : List Loc), t.heap = H1 → s.vm.Alike t.vm → px u → BX E u t → H.size ≤ H1.size → (∀ q : Nat, q < H.size → ¬ AX q → H1[q]? = H[q]?) → va_S A0 H0 H1 locs1 → H1[q9]? = some ce → ce.vm = .none → s.vm.findClass E = some ce.cls → vx_W p l e R s m args below meth c H1 locs1 (cells + mc) (slots + ms) Q (F0 m pc ls rest) q9)
    (kk : ∀ (r : Int32) (u : S) (t : State) (H1 : Heap) (locs1 : List Loc), t.heap = H1 → s.vm.Alike t.vm → post r u → B u t → H.size ≤ H1.size → (∀ q : Nat, q < H.size → ¬ A1 q → H1[q]? = H[q]?) → va_S A0 H0 H1 locs1 → W p l e R s m args below meth c H1 locs1 (cells + mc) (slots + ms) Q (F0 m (pc + 3) ls (.int r :: rest))) : W p l e R s m args below meth c H locs cells slots Q (F0 m pc ls st0) := by
  intro T hT X
  rcases hr T hT X with ⟨v, st₀, t, T', L, h0, X', hL, e1, e2, ⟨⟨r, u, hv, hp, hb⟩, hF⟩, st⟩ | ⟨q, st₀, t, T', L, E, ce, h0, X', hL, e1, e2, ⟨u, hp, hb, hF⟩, hce, hcv, hcl, st⟩
  · cases hv
    obtain ⟨k1, k2, k3⟩ := vx_keep h0 e1 hS hA hf hL hF
    obtain ⟨t2, a1, b1⟩ := kk r u t T'.heap (locs ++ L) e1.symm (by rw [← e2]; exact X'.warmed.alike) hp hb k1 k2 k3 T' rfl X'
    exact ⟨t2, st t2 a1, b1⟩
  · obtain ⟨k1, k2, k3⟩ := vx_keep h0 e1 hS hAX hf hL hF
    obtain ⟨t2, a1, b1⟩ := kx E ce q u t T'.heap (locs ++ L) e1.symm (by rw [← e2]; exact X'.warmed.alike) hp hb k1 k2 k3 (by rw [e1]; exact hce) hcv hcl T' rfl X'
    exact ⟨t2, st.trans a1, b1⟩
theorem vx_calll {S SX : Type} {post : Int64 → S → Prop} {px : SX → Prop} {B : S → State → Prop} {BX : String → SX → State → Prop} {AX : Nat → Prop} (hr : vx_Run p l e R s m args below meth c H locs cells slots mc ms (F0 m pc ls st0) rest (va_Ql post B A1 a) (vx_X px BX AX) free) (hS : va_S A0 H0 H locs) (hA : ∀ q, q < H.size → A1 q → A0 q) (hf : ∀ q, free q → A0 q) (hAX : ∀ q, q < H.size → AX q → A0 q)
    (kx : ∀ (E : String) (ce : Cell) (q9 : Addr) (u : SX) (t : State) (H1 : Heap) (locs1 : List Loc), t.heap = H1 → s.vm.Alike t.vm → px u → BX E u t → H.size ≤ H1.size → (∀ q : Nat, q < H.size → ¬ AX q → H1[q]? = H[q]?) → va_S A0 H0 H1 locs1 → H1[q9]? = some ce → ce.vm = .none → s.vm.findClass E = some ce.cls → vx_W p l e R s m args below meth c H1 locs1 (cells + mc) (slots + ms) Q (F0 m pc ls rest) q9)
    (kk : ∀ (r : Int64) (u : S) (t : State) (H1 : Heap) (locs1 : List Loc), t.heap = H1 → s.vm.Alike t.vm → post r u → B u t → H.size ≤ H1.size → (∀ q : Nat, q < H.size → ¬ A1 q → H1[q]? = H[q]?) → va_S A0 H0 H1 locs1 → W p l e R s m args below meth c H1 locs1 (cells + mc) (slots + ms) Q (F0 m (pc + 3) ls (.long r :: rest))) : W p l e R s m args below meth c H locs cells slots Q (F0 m pc ls st0) := by
  intro T hT X
  rcases hr T hT X with ⟨v, st₀, t, T', L, h0, X', hL, e1, e2, ⟨⟨r, u, hv, hp, hb⟩, hF⟩, st⟩ | ⟨q, st₀, t, T', L, E, ce, h0, X', hL, e1, e2, ⟨u, hp, hb, hF⟩, hce, hcv, hcl, st⟩
  · cases hv
    obtain ⟨k1, k2, k3⟩ := vx_keep h0 e1 hS hA hf hL hF
    obtain ⟨t2, a1, b1⟩ := kk r u t T'.heap (locs ++ L) e1.symm (by rw [← e2]; exact X'.warmed.alike) hp hb k1 k2 k3 T' rfl X'
    exact ⟨t2, st t2 a1, b1⟩
  · obtain ⟨k1, k2, k3⟩ := vx_keep h0 e1 hS hAX hf hL hF
    obtain ⟨t2, a1, b1⟩ := kx E ce q u t T'.heap (locs ++ L) e1.symm (by rw [← e2]; exact X'.warmed.alike) hp hb k1 k2 k3 (by rw [e1]; exact hce) hcv hcl T' rfl X'
    exact ⟨t2, st.trans a1, b1⟩
theorem vx_callf {S SX : Type} {post : UInt32 → S → Prop} {px : SX → Prop} {B : S → State → Prop} {BX : String → SX → State → Prop} {AX : Nat → Prop} (hr : vx_Run p l e R s m args below meth c H locs cells slots mc ms (F0 m pc ls st0) rest (va_Qf post B A1 a) (vx_X px BX AX) free) (hS : va_S A0 H0 H locs) (hA : ∀ q, q < H.size → A1 q → A0 q) (hf : ∀ q, free q → A0 q) (hAX : ∀ q, q < H.size → AX q → A0 q)
    (kx : ∀ (E : String) (ce : Cell) (q9 : Addr) (u : SX) (t : State) (H1 : Heap) (locs1 : List Loc), t.heap = H1 → s.vm.Alike t.vm → px u → BX E u t → H.size ≤ H1.size → (∀ q : Nat, q < H.size → ¬ AX q → H1[q]? = H[q]?) → va_S A0 H0 H1 locs1 → H1[q9]? = some ce → ce.vm = .none → s.vm.findClass E = some ce.cls → vx_W p l e R s m args below meth c H1 locs1 (cells + mc) (slots + ms) Q (F0 m pc ls rest) q9)
    (kk : ∀ (r : UInt32) (u : S) (t : State) (H1 : Heap) (locs1 : List Loc), t.heap = H1 → s.vm.Alike t.vm → post r u → B u t → H.size ≤ H1.size → (∀ q : Nat, q < H.size → ¬ A1 q → H1[q]? = H[q]?) → va_S A0 H0 H1 locs1 → W p l e R s m args below meth c H1 locs1 (cells + mc) (slots + ms) Q (F0 m (pc + 3) ls (.float r :: rest))) : W p l e R s m args below meth c H locs cells slots Q (F0 m pc ls st0) := by
  intro T hT X
  rcases hr T hT X with ⟨v, st₀, t, T', L, h0, X', hL, e1, e2, ⟨⟨r, u, hv, hp, hb⟩, hF⟩, st⟩ | ⟨q, st₀, t, T', L, E, ce, h0, X', hL, e1, e2, ⟨u, hp, hb, hF⟩, hce, hcv, hcl, st⟩
  · cases hv
    obtain ⟨k1, k2, k3⟩ := vx_keep h0 e1 hS hA hf hL hF
    obtain ⟨t2, a1, b1⟩ := kk r u t T'.heap (locs ++ L) e1.symm (by rw [← e2]; exact X'.warmed.alike) hp hb k1 k2 k3 T' rfl X'
    exact ⟨t2, st t2 a1, b1⟩
  · obtain ⟨k1, k2, k3⟩ := vx_keep h0 e1 hS hAX hf hL hF
    obtain ⟨t2, a1, b1⟩ := kx E ce q u t T'.heap (locs ++ L) e1.symm (by rw [← e2]; exact X'.warmed.alike) hp hb k1 k2 k3 (by rw [e1]; exact hce) hcv hcl T' rfl X'
    exact ⟨t2, st.trans a1, b1⟩
theorem vx_calld {S SX : Type} {post : UInt64 → S → Prop} {px : SX → Prop} {B : S → State → Prop} {BX : String → SX → State → Prop} {AX : Nat → Prop} (hr : vx_Run p l e R s m args below meth c H locs cells slots mc ms (F0 m pc ls st0) rest (va_Qd post B A1 a) (vx_X px BX AX) free) (hS : va_S A0 H0 H locs) (hA : ∀ q, q < H.size → A1 q → A0 q) (hf : ∀ q, free q → A0 q) (hAX : ∀ q, q < H.size → AX q → A0 q)
    (kx : ∀ (E : String) (ce : Cell) (q9 : Addr) (u : SX) (t : State) (H1 : Heap) (locs1 : List Loc), t.heap = H1 → s.vm.Alike t.vm → px u → BX E u t → H.size ≤ H1.size → (∀ q : Nat, q < H.size → ¬ AX q → H1[q]? = H[q]?) → va_S A0 H0 H1 locs1 → H1[q9]? = some ce → ce.vm = .none → s.vm.findClass E = some ce.cls → vx_W p l e R s m args below meth c H1 locs1 (cells + mc) (slots + ms) Q (F0 m pc ls rest) q9)
    (kk : ∀ (r : UInt64) (u : S) (t : State) (H1 : Heap) (locs1 : List Loc), t.heap = H1 → s.vm.Alike t.vm → post r u → B u t → H.size ≤ H1.size → (∀ q : Nat, q < H.size → ¬ A1 q → H1[q]? = H[q]?) → va_S A0 H0 H1 locs1 → W p l e R s m args below meth c H1 locs1 (cells + mc) (slots + ms) Q (F0 m (pc + 3) ls (.double r :: rest))) : W p l e R s m args below meth c H locs cells slots Q (F0 m pc ls st0) := by
  intro T hT X
  rcases hr T hT X with ⟨v, st₀, t, T', L, h0, X', hL, e1, e2, ⟨⟨r, u, hv, hp, hb⟩, hF⟩, st⟩ | ⟨q, st₀, t, T', L, E, ce, h0, X', hL, e1, e2, ⟨u, hp, hb, hF⟩, hce, hcv, hcl, st⟩
  · cases hv
    obtain ⟨k1, k2, k3⟩ := vx_keep h0 e1 hS hA hf hL hF
    obtain ⟨t2, a1, b1⟩ := kk r u t T'.heap (locs ++ L) e1.symm (by rw [← e2]; exact X'.warmed.alike) hp hb k1 k2 k3 T' rfl X'
    exact ⟨t2, st t2 a1, b1⟩
  · obtain ⟨k1, k2, k3⟩ := vx_keep h0 e1 hS hAX hf hL hF
    obtain ⟨t2, a1, b1⟩ := kx E ce q u t T'.heap (locs ++ L) e1.symm (by rw [← e2]; exact X'.warmed.alike) hp hb k1 k2 k3 (by rw [e1]; exact hce) hcv hcl T' rfl X'
    exact ⟨t2, st.trans a1, b1⟩
theorem vx_callv {S SX : Type} {post : S → Prop} {px : SX → Prop} {B : S → State → Prop} {BX : String → SX → State → Prop} {AX : Nat → Prop} (hr : vx_Run p l e R s m args below meth c H locs cells slots mc ms (F0 m pc ls st0) rest (va_Qv post B A1 a) (vx_X px BX AX) free) (hS : va_S A0 H0 H locs) (hA : ∀ q, q < H.size → A1 q → A0 q) (hf : ∀ q, free q → A0 q) (hAX : ∀ q, q < H.size → AX q → A0 q)
    (kx : ∀ (E : String) (ce : Cell) (q9 : Addr) (u : SX) (t : State) (H1 : Heap) (locs1 : List Loc), t.heap = H1 → s.vm.Alike t.vm → px u → BX E u t → H.size ≤ H1.size → (∀ q : Nat, q < H.size → ¬ AX q → H1[q]? = H[q]?) → va_S A0 H0 H1 locs1 → H1[q9]? = some ce → ce.vm = .none → s.vm.findClass E = some ce.cls → vx_W p l e R s m args below meth c H1 locs1 (cells + mc) (slots + ms) Q (F0 m pc ls rest) q9)
    (kk : ∀ (u : S) (t : State) (H1 : Heap) (locs1 : List Loc), t.heap = H1 → s.vm.Alike t.vm → post u → B u t → H.size ≤ H1.size → (∀ q : Nat, q < H.size → ¬ A1 q → H1[q]? = H[q]?) → va_S A0 H0 H1 locs1 → W p l e R s m args below meth c H1 locs1 (cells + mc) (slots + ms) Q (F0 m (pc + 3) ls (rest))) : W p l e R s m args below meth c H locs cells slots Q (F0 m pc ls st0) := by
  intro T hT X
  rcases hr T hT X with ⟨v, st₀, t, T', L, h0, X', hL, e1, e2, ⟨⟨u, hv, hp, hb⟩, hF⟩, st⟩ | ⟨q, st₀, t, T', L, E, ce, h0, X', hL, e1, e2, ⟨u, hp, hb, hF⟩, hce, hcv, hcl, st⟩
  · cases hv
    obtain ⟨k1, k2, k3⟩ := vx_keep h0 e1 hS hA hf hL hF
    obtain ⟨t2, a1, b1⟩ := kk u t T'.heap (locs ++ L) e1.symm (by rw [← e2]; exact X'.warmed.alike) hp hb k1 k2 k3 T' rfl X'
    exact ⟨t2, st t2 a1, b1⟩
  · obtain ⟨k1, k2, k3⟩ := vx_keep h0 e1 hS hAX hf hL hF
    obtain ⟨t2, a1, b1⟩ := kx E ce q u t T'.heap (locs ++ L) e1.symm (by rw [← e2]; exact X'.warmed.alike) hp hb k1 k2 k3 (by rw [e1]; exact hce) hcv hcl T' rfl X'
    exact ⟨t2, st.trans a1, b1⟩
/-- caught by the row x of this method's table; the rows ahead don't take it -/
theorem vx_catch {own name : String} {E : String} {ce : Cell} {q : Addr} (hown : s.vm.findClass own = some m.cls) (pre : List ExceptionTableEntry) (x : ExceptionTableEntry) (suf : List ExceptionTableEntry) (hsplit : c.exceptionTable.toList = pre ++ x :: suf)
    (hpass : ∀ z ∈ pre, covers z pc = false ∨ (z.catchType ≠ 0 ∧ ∃ nm : String, (Cond.classLink own z.catchType nm).before args s = true ∧ va_Nc E nm s)) (hx : covers x pc = true) (h0 : x.catchType ≠ 0)
    (hlink : (Cond.classLink own x.catchType name).before args s = true) (hcast : (Cond.castable E name).before args s = true) (hcell : H[q]? = some ce) (hv : ce.vm = .none) (hcl : s.vm.findClass E = some ce.cls)
    (kk : W p l e R s m args below meth c H locs cells slots Q (F0 m x.handlerPc ls [.ref q])) : vx_W p l e R s m args below meth c H locs cells slots Q (F0 m pc ls rest) q := by
  intro T hT X
  have hpl : e.platform.magicAccessors = ({} : Platform).magicAccessors := by rw [X.admits.platform]
  obtain ⟨c3, c4, hc3, hc4, hasg⟩ := Cond.castable_spec hcast
  cases Option.some.inj (hc3.symm.trans hcl)
  obtain ⟨c5, hc5, hcl5⟩ := Cond.classLink_spec hown hlink e.platform hpl
  cases Option.some.inj (hc4.symm.trans hc5)
  obtain ⟨vm', X', st⟩ := X.thenCaughtThrough q (g := F0 m pc ls rest) rfl (Steps.refl _) (by rw [hT]; exact hcell) (by rw [hv]; rfl) (by obtain ⟨k9, h9, -⟩ := Vm.findClass_spec hcl; exact ⟨k9, h9⟩) pre x suf hsplit
    (fun z hz => by
      rcases hpass z hz with h | ⟨hz0, nm, hl1, hn1⟩
      · exact Or.inl h
      · obtain ⟨c6, hc6, hcl6⟩ := Cond.classLink_spec hown hl1 e.platform hpl
        obtain ⟨a8, b8, h1, h2, h3⟩ := hn1
        cases Option.some.inj (h1.symm.trans hcl)
        cases Option.some.inj (h2.symm.trans hc6)
        exact Or.inr ⟨hz0, _, hcl6, h3⟩) hx (Or.inr ⟨h0, c4, hcl5, hasg⟩)
  obtain ⟨t, a1, b1⟩ := kk (T.setVm vm') hT X'
  exact ⟨t, st.trans a1, b1⟩
end Rows
section Ends
variable {p : Program} {l : Launch} {e : Env} {R : Room} {s : State} {m : MethodId} {args : Array Value} {below : List Frame} {meth : Method} {c : Code} {H : Heap} {locs : List Loc} {cells slots : Nat} {Q : State → Prop}
variable {mc ms : Nat} {free : Addr → Prop} {A0 A1 : Nat → Prop} {H0 : Heap} {a : Array Value} {ls : Array Slot} {st0 rest : List Value}
variable {Qc : Array Value → State → Outcome → State → Prop} {XC : String → State → State → Prop}
/-- what a body that may throw owes at its end -/
def vx_MQ (below : List Frame) (Qc : Array Value → State → Outcome → State → Prop) (XC : String → State → State → Prop) (a : Array Value) (s : State) (mc ms : Nat) (free : Addr → Prop) : State → Prop := fun t =>
  ∃ o, t.status = .running ∧ Ended t below o ∧ vx_Q Qc XC mc ms free a s o t
theorem vx_ret {g : JFrame} {mc ms : Nat} (k : W p l e R s m args below meth c H locs cells slots (MQ below Qc args s mc ms free) g) : W p l e R s m args below meth c H locs cells slots (vx_MQ below Qc XC args s mc ms free) g := by
  intro T hT X
  obtain ⟨t, a1, o, b1, b2, b3, b4⟩ := k T hT X
  exact ⟨t, a1, o, b1, b2, Or.inl ⟨b3, b4⟩⟩
/-- not caught here: it goes on to the caller -/
theorem vx_widen {g : JFrame} {q : Addr} {k n : Nat} (h1 : cells ≤ k) (h2 : slots ≤ n) (kk : vx_W p l e R s m args below meth c H locs k n Q g q) : vx_W p l e R s m args below meth c H locs cells slots Q g q := fun T hT X => kk T hT (stand_widen X h1 h2)
theorem vx_out {pc : Nat} {E : String} {ce : Cell} {q : Addr} {mc ms : Nat} (hout : ∀ x ∈ c.exceptionTable.toList, covers x pc = false) (hlocks : meth.locks = false) (hcell : H[q]? = some ce) (hv : ce.vm = .none) (hcl : s.vm.findClass E = some ce.cls)
    (hx : ∀ t : State, t.heap = H → s.vm.Alike t.vm → XC E s t) (hf : ∀ z ∈ locs, free z.base) (hc : cells ≤ mc) (hs : slots ≤ ms) :
    vx_W p l e R s m args below meth c H locs cells slots (vx_MQ below Qc XC args s mc ms free) (F0 m pc ls rest) q := by
  intro T hT X
  obtain ⟨st1, hrun, hend, hW, hsm⟩ := X.leaveThrown q (g := F0 m pc ls rest) rfl rfl rfl hout hlocks
  have hcell9 : (T.setFrames (.throwing q :: below)).heap[q]? = some ce := by
    show T.heap[q]? = some ce
    rw [hT]; exact hcell
  exact ⟨_, st1, .threw q, hrun, hend, Or.inr ⟨q, rfl, E, ce, locs, hx _ hT hW.alike, hcell9, hv, hcl, hW, hsm.mono hc hs, hf⟩⟩
theorem vx_frame {U : State} {k n : Nat} (h : s.sameButNew ({ U with vm := s.vm } : State) locs k n) : s.heap.size ≤ U.heap.size ∧ ∀ q : Nat, q < s.heap.size → (∀ z ∈ locs, z.base ≠ q) → U.heap[q]? = s.heap[q]? := by
  obtain ⟨-, h2, -, -, -, h6⟩ := h
  refine ⟨h2, fun q hq hz => ?_⟩
  obtain ⟨c9, e1, e2, e3, e4⟩ := h6 q _ (Array.getElem?_eq_getElem hq)
  have hs : c9.slots = (s.heap[q]).slots := Array.ext_getElem? fun i => e4 i fun hm => hz _ hm rfl
  have h9 : c9 = s.heap[q] := by
    rw [hs] at e2
    exact e2
  have e5 : U.heap[q]? = some c9 := e1
  rw [e5, h9, Array.getElem?_eq_getElem hq]
/-- the words of a throw but the four that speak of the heap -/
def vx_no (w : Cond) : Bool := decide (w ≠ .isRef (.static Bundle.tN "UNASSIGNED_STACK" Bundle.steD)) && decide (w ≠ .isRef (.static Bundle.tN "SUPPRESSED_SENTINEL" Bundle.listD)) && decide (w ≠ .laysStatic Bundle.tN "UNASSIGNED_STACK" Bundle.steD) && decide (w ≠ .laysStatic Bundle.tN "SUPPRESSED_SENTINEL" Bundle.listD)
def vx_at0 (own : String) (ic : Nat) (X : String) (names : List String) : List Cond := (Bundle.ownAtoms0 own ic X names).filter vx_no
def vx_atS (own : String) (ic : Nat) (X : String) (names : List String) : List Cond := (Bundle.ownAtoms own ic X names).filter vx_no
/-- a word that the tables alone decide, or a good one -/
def vx_ot (w : Cond) : Bool := w.onTables || goodWord w
theorem vx_ot_at {args a' : Array Value} {s U : State} {w : Cond} (hW : s.WarmedH U.vm) (hvm : s.vm = U.vm) (hg : vx_ot w = true) (h : w.before args s = true) : w.before a' U = true := by
  simp only [vx_ot, Bool.or_eq_true] at hg
  rcases hg with hg | hg
  · exact va_tabs hg hvm h
  · exact word_at hW (good_of_word hg) h
/-- a list's words: the good ones out of the method's own list, the others by premises of their own -/
theorem vx_hat {args : Array Value} {s : State} {L B : List Cond} (h1 : ∀ w ∈ L.filter goodWord, w.before args s = true) (h2 : ∀ w ∈ L.filter (fun w => !goodWord w), w ∈ B) (h3 : ∀ w ∈ B, w.before args s = true) : ∀ w ∈ L, w.before args s = true := by
  intro w hw
  by_cases g : goodWord w = true
  · exact h1 w (List.mem_filter.mpr ⟨hw, g⟩)
  · refine h3 w (h2 w (List.mem_filter.mpr ⟨hw, ?_⟩))
    show (!goodWord w) = true
    cases hgw : goodWord w
    · rfl
    · exact absurd hgw g
theorem vx_c {args : Array Value} {s : State} {w : Cond} {B : List Cond} (h : w.before args s = true) (t : ∀ w ∈ B, w.before args s = true) : ∀ w' ∈ w :: B, w'.before args s = true := fun w' h' => (List.mem_cons.mp h').elim (fun e => by rw [e]; exact h) (t w')
theorem vx_n {args : Array Value} {s : State} : ∀ w ∈ ([] : List Cond), w.before args s = true := fun _ h => nomatch h
theorem vx_own {args : Array Value} {s : State} {L : List Cond} (h1 : ∀ w ∈ L.filter vx_no, w.before args s = true)
    (hU : (Cond.isRef (.static Bundle.tN "UNASSIGNED_STACK" Bundle.steD)).before args s = true) (hN : (Cond.isRef (.static Bundle.tN "SUPPRESSED_SENTINEL" Bundle.listD)).before args s = true)
    (lU : (Cond.laysStatic Bundle.tN "UNASSIGNED_STACK" Bundle.steD).before args s = true) (lN : (Cond.laysStatic Bundle.tN "SUPPRESSED_SENTINEL" Bundle.listD).before args s = true) : ∀ w ∈ L, w.before args s = true := by
  intro w hw
  by_cases e1 : w = .isRef (.static Bundle.tN "UNASSIGNED_STACK" Bundle.steD)
  · rw [e1]; exact hU
  · by_cases e2 : w = .isRef (.static Bundle.tN "SUPPRESSED_SENTINEL" Bundle.listD)
    · rw [e2]; exact hN
    · by_cases e3 : w = .laysStatic Bundle.tN "UNASSIGNED_STACK" Bundle.steD
      · rw [e3]; exact lU
      · by_cases e4 : w = .laysStatic Bundle.tN "SUPPRESSED_SENTINEL" Bundle.listD
        · rw [e4]; exact lN
        · exact h1 w (List.mem_filter.mpr ⟨hw, by unfold vx_no; rw [decide_eq_true e1, decide_eq_true e2, decide_eq_true e3, decide_eq_true e4]; rfl⟩)
/-- where a static field lies, its class's statics cell in H -/
def vx_L (C n d : String) (A : Nat → Prop) (U : State) (H : Heap) : Prop := ∃ (c : ClassId) (k : Class) (i : Nat) (f : Field) (a : Nat) (cell : Cell), U.vm.findClass C = some c ∧ U.fieldFound? C n d = some (c, k, i, f) ∧ f.isStatic = true ∧ k.statics = some a ∧ H[a]? = some cell ∧ cell.vm.isStatics = true ∧ cell.cls = c ∧ f.slot < cell.slots.size ∧ k.staticTypes[f.slot]? = some f.type ∧ ¬ A a
theorem vx_L.moved {C n d : String} {A : Nat → Prop} {u U : State} {H : Heap} (hvm : u.vm.Alike U.vm) (h : vx_L C n d A u H) : vx_L C n d A U H := by
  obtain ⟨c, k, i, f, a, cell, h1, h2, h3, h4, h5, h6, h7, h8, h9, h10⟩ := h
  obtain ⟨k', hi', he⟩ := State.fieldFound?_setVm hvm h2
  exact ⟨c, k', i, f, a, cell, by rw [hvm.findClass]; exact h1, hi', h3, by rw [he]; exact h4, h5, h6, h7, h8, by rw [he]; exact h9, h10⟩
theorem vx_L.kept {C n d : String} {A : Nat → Prop} {U : State} {H H1 : Heap} (h : vx_L C n d A U H) (hq : ∀ a : Nat, a < H.size → ¬ A a → H1[a]? = H[a]?) : vx_L C n d A U H1 := by
  obtain ⟨c, k, i, f, a, cell, h1, h2, h3, h4, h5, h6, h7, h8, h9, h10⟩ := h
  exact ⟨c, k, i, f, a, cell, h1, h2, h3, h4, by rw [hq a (Array.getElem?_eq_some_iff.mp h5).1 h10]; exact h5, h6, h7, h8, h9, h10⟩
theorem vx_L.narrow {C n d : String} {A B : Nat → Prop} {U : State} {H : Heap} (h : vx_L C n d A U H) (hAB : ∀ q, B q → A q) : vx_L C n d B U H := by
  obtain ⟨c, k, i, f, a, cell, h1, h2, h3, h4, h5, h6, h7, h8, h9, h10⟩ := h
  exact ⟨c, k, i, f, a, cell, h1, h2, h3, h4, h5, h6, h7, h8, h9, fun z => h10 (hAB _ z)⟩
theorem vx_L.word {C n d : String} {A : Nat → Prop} {s : State} {args : Array Value} (h : vx_L C n d A s s.heap) : (Cond.laysStatic C n d).before args s = true := by
  obtain ⟨c, k, i, f, a, cell, h1, h2, h3, h4, h5, h6, h7, h8, h9, -⟩ := h
  show (Cond.laysStatic C n d).holds args s none s [] = true
  exact Cond.laysStatic_of h1 h2 h3 h4 h5 h6 h7 h8 h9
/-- .. and what it holds: null or some reference -/
def vx_Zq (C n d : String) (A : Nat → Prop) (U : State) (H : Heap) : Prop := va_Zq C n d A U H ∧ vx_L C n d A U H
theorem vx_Zq.moved {C n d : String} {A : Nat → Prop} {u U : State} {H : Heap} (hvm : u.vm.Alike U.vm) (h : vx_Zq C n d A u H) : vx_Zq C n d A U H := ⟨va_Zq.moved hvm h.1, vx_L.moved hvm h.2⟩
theorem vx_Zq.kept {C n d : String} {A : Nat → Prop} {U : State} {H H1 : Heap} (h : vx_Zq C n d A U H) (hq : ∀ a : Nat, a < H.size → ¬ A a → H1[a]? = H[a]?) : vx_Zq C n d A U H1 := ⟨va_Zq.kept h.1 hq, vx_L.kept h.2 hq⟩
theorem vx_Zq.narrow {C n d : String} {A B : Nat → Prop} {U : State} {H : Heap} (h : vx_Zq C n d A U H) (hAB : ∀ q, B q → A q) : vx_Zq C n d B U H := ⟨va_Zq.narrow h.1 hAB, vx_L.narrow h.2 hAB⟩
theorem vx_Zqof {args : Array Value} {s : State} {C n d : String} {A : Nat → Prop} (hl : (Cond.laysStatic C n d).before args s = true) (hini : (Cond.initialized C).before args s = true) (h : (Cond.isRef (.static C n d)).before args s = true) (hA : ∀ a : Nat, a < s.heap.size → ¬ A a) : vx_Zq C n d A s s.heap := by
  refine ⟨va_Zqof hl hini h hA, ?_⟩
  obtain ⟨c, k, i, f, a, cell, h1, h2, h3, h4, h5, h6, h7, h8, h9⟩ := Cond.laysStatic_spec hl
  exact ⟨c, k, i, f, a, cell, h1, h2, h3, h4, h5, h6, h7, h8, h9, hA a (Array.getElem?_eq_some_iff.mp h5).1⟩
theorem vx_isRef {C n d : String} {v : Value} {A : Nat → Prop} {s : State} {args : Array Value} (h : va_Z C n d v A s s.heap) (hv : v.isRef = true) : (Cond.isRef (.static C n d)).before args s = true := by
  obtain ⟨cf, kf, fi, f, a, cell, h1, h2, h3, h4, h5, h6, h7, -⟩ := h
  have he : (Term.static C n d).eval args s none [] s = some v := by
    simp [Term.eval, State.fieldNamed?, h1, h2, h4, h5, h6, h7]
  simp only [Cond.before, Cond.holds, Cond.value, he]
  cases v <;> simp_all [Value.isRef]
theorem vx_isRefq {C n d : String} {A : Nat → Prop} {s : State} {args : Array Value} (h : va_Zq C n d A s s.heap) : (Cond.isRef (.static C n d)).before args s = true := by
  rcases h with h | ⟨t, h⟩
  · exact vx_isRef h rfl
  · exact vx_isRef h rfl
/-- the same frame, seen from here: as if the method were called anew in this heap -/
theorem vx_rebase {T : State} (X : Stand p l e R s m args below meth c T locs cells slots) {R' : Room} (hf : R'.frames ≤ R.frames) (hl : R'.locals ≤ R.locals) (hc : cells + R'.cells ≤ R.cells) (hs : slots + R'.slots ≤ R.slots) :
    Stand p l e R' ((T.setVm s.vm).setFrames (.invoking m args :: below)) m args below meth c T [] 0 0 := by
  have htop : (T.setVm s.vm).topJava?.isSome := X.here.top
  have hF : ((T.setVm s.vm).setFrames (.invoking m args :: below)).frames = .invoking m args :: below := State.frames_setFrames _ (State.cur_lt_of_top htop)
  obtain ⟨g₀, hg0⟩ := Option.isSome_iff_exists.mp htop
  obtain ⟨r, hr⟩ := State.topJava?_eq_some.mp hg0
  have hl9 : e.platform.stackLimits (T.setVm s.vm).me = e.platform.stackLimits s.me := X.limits
  have hb9 : (T.setVm s.vm).me.stackBytes = s.me.stackBytes := X.bytes
  refine ⟨X.admits, X.cas, X.clock, hF, ?_, X.hears, X.method, X.code, X.here, X.tail, X.warmed, ?_, ?_, ?_⟩
  · have h := X.room
    have hU : ((T.setVm s.vm).setFrames (.invoking m args :: below)).localsInUse = s.localsInUse := by
      rw [State.localsInUse_invoking hF (meth := meth) (c := c) X.method X.code, State.localsInUse_invoking X.frames X.method X.code]
    simp only [State.hasRoom, Bool.and_eq_true, decide_eq_true_eq] at h ⊢
    obtain ⟨⟨⟨⟨h1, h2, h3, h4, h5, h6⟩, h7⟩, h8⟩, h9⟩ := h
    rw [X.frames, List.length_cons] at h2 h3
    have q1 := X.heapSize
    have q2 := X.used
    simp only [hF, hU, List.length_cons, State.stackLimits_setFrames, State.stackBytes_setFrames, hl9, hb9]
    refine ⟨⟨⟨⟨by omega, by omega, by omega, by omega, by omega, h6⟩, ?_⟩, ?_⟩, X.book⟩
    · show T.heap.size + R'.cells ≤ e.platform.maxCells
      omega
    · show T.slotsUsed + R'.slots ≤ e.platform.maxSlots
      omega
  · rw [State.stackLimits_setFrames]; rfl
  · rw [State.stackBytes_setFrames]; rfl
  · refine ⟨?_, Nat.le_refl _, Nat.le_refl _, ?_, ?_, fun a c9 h9 => ⟨c9, h9, rfl, rfl, fun _ _ => rfl⟩⟩
    · obtain ⟨t, ht, -⟩ := State.frames_cons hr
      show T.setVm s.vm = { ((T.setVm s.vm).setFrames (.invoking m args :: below)).setFrames (T.setVm s.vm).frames with heap := T.heap, slotsUsed := T.slotsUsed }
      rw [State.setFrames_setFrames, State.setFrames_self ht]
      rfl
    · show T.slotsUsed = T.slotsUsed + ((T.heap.toList.drop T.heap.size).map (·.slots.size)).sum
      rw [List.drop_eq_nil_of_le (Nat.le_of_eq Array.length_toList)]
      rfl
    · show ((T.heap.toList.drop T.heap.size).map (·.slots.size)).sum ≤ 0
      rw [List.drop_eq_nil_of_le (Nat.le_of_eq Array.length_toList)]
      exact Nat.le_refl _
/-- 'throw new E()': new; dup; invokespecial; athrow -/
theorem vx_throw0 {cc : ByteArray} {pc : Nat} (hexec : p.tables.exec = Jvm.exec) (hb : c.code = cc) (hl : l.stackTraces = false) {own cls : String} {names : List String} {ik ic mc ms : Nat} {A : Nat → Prop}
    (hown : s.vm.findClass own = some m.cls) (hcls : Bundle.fit cls = true) (hnames : ∀ n ∈ names, Bundle.fit n = true)
    (hk : (Cond.classLink own ik cls).before args s = true) (hini : (Cond.initialized cls).before args s = true) (hat : ∀ w ∈ vx_at0 own ic cls names, w.before args s = true)
    (hgood : ∀ w ∈ Cond.classLink own ik cls :: Cond.initialized cls :: vx_at0 own ic cls names, vx_ot w = true)
    (hU : vx_Zq Bundle.tN "UNASSIGNED_STACK" Bundle.steD A s s.heap) (hN : vx_Zq Bundle.tN "SUPPRESSED_SENTINEL" Bundle.listD A s s.heap) (hS : va_S A s.heap H locs) (hsize : ls.size = c.maxLocals)
    (d0 : decode cc pc = .ok (.new ik, 3)) (d3 : decode cc (pc + 3) = .ok (.dup, 1)) (d4 : decode cc (pc + 4) = .ok (.invokespecial ic, 3)) (d7 : decode cc (pc + 7) = .ok (.athrow, 1))
    (hout : ∀ x ∈ c.exceptionTable.toList, covers x (pc + 7) = false)
    (hRframes : names.length + 3 < R.frames) (hRlocals : (rest.map fun v => v.category).sum + (13 * (names.length + 1) + 42) ≤ R.locals) (hRcells : cells + 1 ≤ R.cells) (hRslots : slots + 6 ≤ R.slots) (hlocks : meth.locks = false)
    (hx : ∀ t : State, s.vm.Alike t.vm → H.size ≤ t.heap.size → (∀ q : Nat, q < H.size → t.heap[q]? = H[q]?) → XC cls s t)
    (hf : ∀ z ∈ locs, free z.base) (hc : cells + 1 ≤ mc) (hs : slots + 6 ≤ ms) :
    W p l e R s m args below meth c H locs cells slots (vx_MQ below Qc XC args s mc ms free) (F0 m pc ls rest) := by
  intro T hT X
  have htr : e.platform.stackTraces = false := (show e.platform.stackTraces = l.stackTraces by rw [X.admits.platform]).trans hl
  have Y := vx_rebase X (R' := { frames := R.frames, locals := R.locals, cells := 1, slots := 6 }) (Nat.le_refl _) (Nat.le_refl _) hRcells hRslots
  obtain ⟨s', hA⟩ : ∃ z, z = (T.setVm s.vm).setFrames (.invoking m args :: below) := ⟨_, rfl⟩
  rw [← hA] at Y
  have hvm : s'.vm = s.vm := by rw [hA]; rfl
  have hhp : s'.heap = H := by rw [hA]; exact hT
  have hW0 : s.WarmedH s'.vm := by rw [hvm]; exact State.WarmedH.refl s
  have hat' : ∀ w ∈ vx_at0 own ic cls names, w.before args s' = true := fun w hw => vx_ot_at hW0 hvm.symm (hgood w (List.mem_cons_of_mem _ (List.mem_cons_of_mem _ hw))) (hat w hw)
  have hk' : (Cond.classLink own ik cls).before args s' = true := vx_ot_at hW0 hvm.symm (hgood _ List.mem_cons_self) hk
  have hini' : (Cond.initialized cls).before args s' = true := vx_ot_at hW0 hvm.symm (hgood _ (List.mem_cons_of_mem _ List.mem_cons_self)) hini
  have hU' : vx_Zq Bundle.tN "UNASSIGNED_STACK" Bundle.steD A s' s'.heap := by rw [hhp]; exact vx_Zq.moved hW0.alike (hU.kept hS.2.1)
  have hN' : vx_Zq Bundle.tN "SUPPRESSED_SENTINEL" Bundle.listD A s' s'.heap := by rw [hhp]; exact vx_Zq.moved hW0.alike (hN.kept hS.2.1)
  have h : ∀ w ∈ Bundle.ownAtoms0 own ic cls names, w.before args s' = true := vx_own hat' (vx_isRefq hU'.1) (vx_isRefq hN'.1) hU'.2.word hN'.2.word
  have hown' : s'.vm.findClass own = some m.cls := by rw [hvm]; exact hown
  have hins : (Cond.instantiable cls 6).before args s' = true := h _ (by simp [Bundle.ownAtoms0])
  obtain ⟨vm₁, cX, kX, hfX, hkX, -, -, X₁, st1⟩ := Y.newCold hexec (own := own) (C := cls) (index := ik) (n := 6) hown' hk' hins hini'
    (g := F0 m pc ls rest) rfl (by rw [hb]; exact d0) (Nat.le_refl _) (Nat.le_refl _)
  generalize hT1 : (T.setVm vm₁).pushCell { cls := cX, slots := kX.instanceTypes.map defaultValue, vm := .none } = T1 at X₁ st1
  have hcat : (Value.ref T.heap.size).category = 1 := rfl
  have hcellA : T1.heap[T.heap.size]? = some (freshCell cX kX) := by rw [← hT1]; exact State.heap_pushCell_size _ _
  have d3' : decode c.code (pc + 3) = .ok (.dup, 1) := by rw [hb]; exact d3
  obtain ⟨U, hsteps, hrun, hend, hW, hsame, ce, hce, hO⟩ := X₁.ctorThrow0 hexec htr (own := own) (cls := cls) (names := names) (ic := ic) hown' hcls hnames h (fun x hx => nomatch hx) hfX hkX hcellA (by rw [hhp, hT]; exact Nat.le_refl _)
    (g := { method := m, pc := pc + 4, locals := ls, stack := .ref T.heap.size :: .ref T.heap.size :: rest, locked := none }) rfl hsize rfl rfl (rest := rest) rfl
    (by rw [hb]; exact d4) (by rw [hb]; exact d7) hout hRframes (by simp only [List.map_cons, List.sum_cons, hcat]; omega) hlocks
  obtain ⟨f1, f2⟩ := vx_frame hsame
  rw [hhp] at f1 f2
  have hWs : s.WarmedH U.vm := State.WarmedH.trans hW0 hW
  have hcl : s.vm.findClass cls = some ce.cls := by
    have h9 := hO.cls
    rw [hvm] at h9
    exact h9
  have hall : s.sameButNew ({ U with vm := s.vm } : State) locs mc ms := by
    subst hA
    obtain ⟨e1, e2⟩ := hsame
    rw [State.setFrames_setFrames] at e1
    have h2 : (T.setVm s.vm).sameButNew ({ U with vm := s.vm } : State) [] (0 + 1) (0 + 6) := ⟨e1, e2⟩
    have h3 := X.same.trans h2
    rw [List.append_nil] at h3
    exact h3.mono hc hs
  refine ⟨U, ?_, .threw T.heap.size, hrun, hend, Or.inr ⟨T.heap.size, rfl, cls, ce, locs, hx U hWs.alike f1 (fun q hq => f2 q hq (fun z hz => nomatch hz)), hce, hO.vm, hcl, hWs, hall, hf⟩⟩
  refine st1 _ ?_
  show Steps p.tables e below (T1.setTop { method := m, pc := pc + 3, locals := ls, stack := .ref T.heap.size :: rest, locked := none }) _
  jvm_step X₁.here [X₁.here.top, hexec, d3', Value.category]
  exact hsteps
/-- 'throw new E("text")': new; dup; ldc; invokespecial; athrow -/
theorem vx_throwS {cc : ByteArray} {pc : Nat} (hexec : p.tables.exec = Jvm.exec) (hb : c.code = cc) (hl : l.stackTraces = false) {own cls text : String} {names : List String} {ik is ic mc ms sa : Nat} {A : Nat → Prop}
    (hown : s.vm.findClass own = some m.cls) (hcls : Bundle.fit cls = true) (hnames : ∀ n ∈ names, Bundle.fit n = true)
    (hk : (Cond.classLink own ik cls).before args s = true) (hini : (Cond.initialized cls).before args s = true) (hstr : vk_R own is text sa s) (hat : ∀ w ∈ vx_atS own ic cls names, w.before args s = true)
    (hgood : ∀ w ∈ Cond.classLink own ik cls :: Cond.initialized cls :: vx_atS own ic cls names, vx_ot w = true)
    (hU : vx_Zq Bundle.tN "UNASSIGNED_STACK" Bundle.steD A s s.heap) (hN : vx_Zq Bundle.tN "SUPPRESSED_SENTINEL" Bundle.listD A s s.heap) (hS : va_S A s.heap H locs) (hsize : ls.size = c.maxLocals)
    (d0 : decode cc pc = .ok (.new ik, 3)) (d3 : decode cc (pc + 3) = .ok (.dup, 1)) (d4 : decode cc (pc + 4) = .ok (.ldc is, 2)) (d6 : decode cc (pc + 6) = .ok (.invokespecial ic, 3)) (d9 : decode cc (pc + 9) = .ok (.athrow, 1))
    (hout : ∀ x ∈ c.exceptionTable.toList, covers x (pc + 9) = false)
    (hRframes : names.length + 3 < R.frames) (hRlocals : (rest.map fun v => v.category).sum + (13 * (names.length + 1) + 43) ≤ R.locals) (hRcells : cells + 1 ≤ R.cells) (hRslots : slots + 6 ≤ R.slots) (hlocks : meth.locks = false)
    (hx : ∀ t : State, s.vm.Alike t.vm → H.size ≤ t.heap.size → (∀ q : Nat, q < H.size → t.heap[q]? = H[q]?) → XC cls s t)
    (hf : ∀ z ∈ locs, free z.base) (hc : cells + 1 ≤ mc) (hs : slots + 6 ≤ ms) :
    W p l e R s m args below meth c H locs cells slots (vx_MQ below Qc XC args s mc ms free) (F0 m pc ls rest) := by
  intro T hT X
  have htr : e.platform.stackTraces = false := (show e.platform.stackTraces = l.stackTraces by rw [X.admits.platform]).trans hl
  have Y := vx_rebase X (R' := { frames := R.frames, locals := R.locals, cells := 1, slots := 6 }) (Nat.le_refl _) (Nat.le_refl _) hRcells hRslots
  obtain ⟨s', hA⟩ : ∃ z, z = (T.setVm s.vm).setFrames (.invoking m args :: below) := ⟨_, rfl⟩
  rw [← hA] at Y
  have hvm : s'.vm = s.vm := by rw [hA]; rfl
  have hhp : s'.heap = H := by rw [hA]; exact hT
  have hW0 : s.WarmedH s'.vm := by rw [hvm]; exact State.WarmedH.refl s
  have hat' : ∀ w ∈ vx_atS own ic cls names, w.before args s' = true := fun w hw => vx_ot_at hW0 hvm.symm (hgood w (List.mem_cons_of_mem _ (List.mem_cons_of_mem _ hw))) (hat w hw)
  have hk' : (Cond.classLink own ik cls).before args s' = true := vx_ot_at hW0 hvm.symm (hgood _ List.mem_cons_self) hk
  have hini' : (Cond.initialized cls).before args s' = true := vx_ot_at hW0 hvm.symm (hgood _ (List.mem_cons_of_mem _ List.mem_cons_self)) hini
  have hU' : vx_Zq Bundle.tN "UNASSIGNED_STACK" Bundle.steD A s' s'.heap := by rw [hhp]; exact vx_Zq.moved hW0.alike (hU.kept hS.2.1)
  have hN' : vx_Zq Bundle.tN "SUPPRESSED_SENTINEL" Bundle.listD A s' s'.heap := by rw [hhp]; exact vx_Zq.moved hW0.alike (hN.kept hS.2.1)
  have h : ∀ w ∈ Bundle.ownAtoms own ic cls names, w.before args s' = true := vx_own hat' (vx_isRefq hU'.1) (vx_isRefq hN'.1) hU'.2.word hN'.2.word
  have hown' : s'.vm.findClass own = some m.cls := by rw [hvm]; exact hown
  have hins : (Cond.instantiable cls 6).before args s' = true := h _ (by simp [Bundle.ownAtoms])
  obtain ⟨vm₁, cX, kX, hfX, hkX, -, -, X₁, st1⟩ := Y.newCold hexec (own := own) (C := cls) (index := ik) (n := 6) hown' hk' hins hini'
    (g := F0 m pc ls rest) rfl (by rw [hb]; exact d0) (Nat.le_refl _) (Nat.le_refl _)
  generalize hT1 : (T.setVm vm₁).pushCell { cls := cX, slots := kX.instanceTypes.map defaultValue, vm := .none } = T1 at X₁ st1
  have hcat : (Value.ref T.heap.size).category = 1 := rfl
  have hcellA : T1.heap[T.heap.size]? = some (freshCell cX kX) := by rw [← hT1]; exact State.heap_pushCell_size _ _
  have d3' : decode c.code (pc + 3) = .ok (.dup, 1) := by rw [hb]; exact d3
  have d4' : decode c.code (pc + 4) = .ok (.ldc is, 2) := by rw [hb]; exact d4
  have hstr' : vk_R own is text sa s' := vk_R.warm hW0 hstr
  obtain ⟨U, hsteps, hrun, hend, hW, hsame, ce, hce, hO⟩ := X₁.ctorThrowS hexec htr (own := own) (cls := cls) (names := names) (ic := ic) hown' hcls hnames h (fun x hx => nomatch hx) hfX hkX hcellA (by rw [hhp, hT]; exact Nat.le_refl _) (msg := .ref sa) rfl
    (g := { method := m, pc := pc + 6, locals := ls, stack := .ref sa :: .ref T.heap.size :: .ref T.heap.size :: rest, locked := none }) rfl hsize rfl rfl (rest := rest) rfl
    (by rw [hb]; exact d6) (by rw [hb]; exact d9) hout hRframes (by simp only [List.map_cons, List.sum_cons, hcat]; omega) hlocks
  obtain ⟨f1, f2⟩ := vx_frame hsame
  rw [hhp] at f1 f2
  have hWs : s.WarmedH U.vm := State.WarmedH.trans hW0 hW
  have hcl : s.vm.findClass cls = some ce.cls := by
    have h9 := hO.cls
    rw [hvm] at h9
    exact h9
  have hall : s.sameButNew ({ U with vm := s.vm } : State) locs mc ms := by
    subst hA
    obtain ⟨e1, e2⟩ := hsame
    rw [State.setFrames_setFrames] at e1
    have h2 : (T.setVm s.vm).sameButNew ({ U with vm := s.vm } : State) [] (0 + 1) (0 + 6) := ⟨e1, e2⟩
    have h3 := X.same.trans h2
    rw [List.append_nil] at h3
    exact h3.mono hc hs
  refine ⟨U, ?_, .threw T.heap.size, hrun, hend, Or.inr ⟨T.heap.size, rfl, cls, ce, locs, hx U hWs.alike f1 (fun q hq => f2 q hq (fun z hz => nomatch hz)), hce, hO.vm, hcl, hWs, hall, hf⟩⟩
  refine st1 _ ?_
  show Steps p.tables e below (T1.setTop { method := m, pc := pc + 3, locals := ls, stack := .ref T.heap.size :: rest, locked := none }) _
  jvm_step X₁.here [X₁.here.top, hexec, d3', Value.category]
  exact X₁.ldcString hexec (own := own) (text := text) (index := is) (a := sa) hown' hstr'.1 hstr'.2
    (g := { method := m, pc := pc + 4, locals := ls, stack := .ref T.heap.size :: .ref T.heap.size :: rest, locked := none }) rfl d4' _ hsteps
/-- 'throw new E("text")', the text by a wide index -/
theorem vx_throwSW {cc : ByteArray} {pc : Nat} (hexec : p.tables.exec = Jvm.exec) (hb : c.code = cc) (hl : l.stackTraces = false) {own cls text : String} {names : List String} {ik is ic mc ms sa : Nat} {A : Nat → Prop}
    (hown : s.vm.findClass own = some m.cls) (hcls : Bundle.fit cls = true) (hnames : ∀ n ∈ names, Bundle.fit n = true)
    (hk : (Cond.classLink own ik cls).before args s = true) (hini : (Cond.initialized cls).before args s = true) (hstr : vk_R own is text sa s) (hat : ∀ w ∈ vx_atS own ic cls names, w.before args s = true)
    (hgood : ∀ w ∈ Cond.classLink own ik cls :: Cond.initialized cls :: vx_atS own ic cls names, vx_ot w = true)
    (hU : vx_Zq Bundle.tN "UNASSIGNED_STACK" Bundle.steD A s s.heap) (hN : vx_Zq Bundle.tN "SUPPRESSED_SENTINEL" Bundle.listD A s s.heap) (hS : va_S A s.heap H locs) (hsize : ls.size = c.maxLocals)
    (d0 : decode cc pc = .ok (.new ik, 3)) (d3 : decode cc (pc + 3) = .ok (.dup, 1)) (d4 : decode cc (pc + 4) = .ok (.ldc_w is, 3)) (d7 : decode cc (pc + 7) = .ok (.invokespecial ic, 3)) (d10 : decode cc (pc + 10) = .ok (.athrow, 1))
    (hout : ∀ x ∈ c.exceptionTable.toList, covers x (pc + 10) = false)
    (hRframes : names.length + 3 < R.frames) (hRlocals : (rest.map fun v => v.category).sum + (13 * (names.length + 1) + 43) ≤ R.locals) (hRcells : cells + 1 ≤ R.cells) (hRslots : slots + 6 ≤ R.slots) (hlocks : meth.locks = false)
    (hx : ∀ t : State, s.vm.Alike t.vm → H.size ≤ t.heap.size → (∀ q : Nat, q < H.size → t.heap[q]? = H[q]?) → XC cls s t)
    (hf : ∀ z ∈ locs, free z.base) (hc : cells + 1 ≤ mc) (hs : slots + 6 ≤ ms) :
    W p l e R s m args below meth c H locs cells slots (vx_MQ below Qc XC args s mc ms free) (F0 m pc ls rest) := by
  intro T hT X
  have htr : e.platform.stackTraces = false := (show e.platform.stackTraces = l.stackTraces by rw [X.admits.platform]).trans hl
  have Y := vx_rebase X (R' := { frames := R.frames, locals := R.locals, cells := 1, slots := 6 }) (Nat.le_refl _) (Nat.le_refl _) hRcells hRslots
  obtain ⟨s', hA⟩ : ∃ z, z = (T.setVm s.vm).setFrames (.invoking m args :: below) := ⟨_, rfl⟩
  rw [← hA] at Y
  have hvm : s'.vm = s.vm := by rw [hA]; rfl
  have hhp : s'.heap = H := by rw [hA]; exact hT
  have hW0 : s.WarmedH s'.vm := by rw [hvm]; exact State.WarmedH.refl s
  have hat' : ∀ w ∈ vx_atS own ic cls names, w.before args s' = true := fun w hw => vx_ot_at hW0 hvm.symm (hgood w (List.mem_cons_of_mem _ (List.mem_cons_of_mem _ hw))) (hat w hw)
  have hk' : (Cond.classLink own ik cls).before args s' = true := vx_ot_at hW0 hvm.symm (hgood _ List.mem_cons_self) hk
  have hini' : (Cond.initialized cls).before args s' = true := vx_ot_at hW0 hvm.symm (hgood _ (List.mem_cons_of_mem _ List.mem_cons_self)) hini
  have hU' : vx_Zq Bundle.tN "UNASSIGNED_STACK" Bundle.steD A s' s'.heap := by rw [hhp]; exact vx_Zq.moved hW0.alike (hU.kept hS.2.1)
  have hN' : vx_Zq Bundle.tN "SUPPRESSED_SENTINEL" Bundle.listD A s' s'.heap := by rw [hhp]; exact vx_Zq.moved hW0.alike (hN.kept hS.2.1)
  have h : ∀ w ∈ Bundle.ownAtoms own ic cls names, w.before args s' = true := vx_own hat' (vx_isRefq hU'.1) (vx_isRefq hN'.1) hU'.2.word hN'.2.word
  have hown' : s'.vm.findClass own = some m.cls := by rw [hvm]; exact hown
  have hins : (Cond.instantiable cls 6).before args s' = true := h _ (by simp [Bundle.ownAtoms])
  obtain ⟨vm₁, cX, kX, hfX, hkX, -, -, X₁, st1⟩ := Y.newCold hexec (own := own) (C := cls) (index := ik) (n := 6) hown' hk' hins hini'
    (g := F0 m pc ls rest) rfl (by rw [hb]; exact d0) (Nat.le_refl _) (Nat.le_refl _)
  generalize hT1 : (T.setVm vm₁).pushCell { cls := cX, slots := kX.instanceTypes.map defaultValue, vm := .none } = T1 at X₁ st1
  have hcat : (Value.ref T.heap.size).category = 1 := rfl
  have hcellA : T1.heap[T.heap.size]? = some (freshCell cX kX) := by rw [← hT1]; exact State.heap_pushCell_size _ _
  have d3' : decode c.code (pc + 3) = .ok (.dup, 1) := by rw [hb]; exact d3
  have d4' : decode c.code (pc + 4) = .ok (.ldc_w is, 3) := by rw [hb]; exact d4
  have hstr' : vk_R own is text sa s' := vk_R.warm hW0 hstr
  obtain ⟨U, hsteps, hrun, hend, hW, hsame, ce, hce, hO⟩ := X₁.ctorThrowS hexec htr (own := own) (cls := cls) (names := names) (ic := ic) hown' hcls hnames h (fun x hx => nomatch hx) hfX hkX hcellA (by rw [hhp, hT]; exact Nat.le_refl _) (msg := .ref sa) rfl
    (g := { method := m, pc := pc + 7, locals := ls, stack := .ref sa :: .ref T.heap.size :: .ref T.heap.size :: rest, locked := none }) rfl hsize rfl rfl (rest := rest) rfl
    (by rw [hb]; exact d7) (by rw [hb]; exact d10) hout hRframes (by simp only [List.map_cons, List.sum_cons, hcat]; omega) hlocks
  obtain ⟨f1, f2⟩ := vx_frame hsame
  rw [hhp] at f1 f2
  have hWs : s.WarmedH U.vm := State.WarmedH.trans hW0 hW
  have hcl : s.vm.findClass cls = some ce.cls := by
    have h9 := hO.cls
    rw [hvm] at h9
    exact h9
  have hall : s.sameButNew ({ U with vm := s.vm } : State) locs mc ms := by
    subst hA
    obtain ⟨e1, e2⟩ := hsame
    rw [State.setFrames_setFrames] at e1
    have h2 : (T.setVm s.vm).sameButNew ({ U with vm := s.vm } : State) [] (0 + 1) (0 + 6) := ⟨e1, e2⟩
    have h3 := X.same.trans h2
    rw [List.append_nil] at h3
    exact h3.mono hc hs
  refine ⟨U, ?_, .threw T.heap.size, hrun, hend, Or.inr ⟨T.heap.size, rfl, cls, ce, locs, hx U hWs.alike f1 (fun q hq => f2 q hq (fun z hz => nomatch hz)), hce, hO.vm, hcl, hWs, hall, hf⟩⟩
  refine st1 _ ?_
  show Steps p.tables e below (T1.setTop { method := m, pc := pc + 3, locals := ls, stack := .ref T.heap.size :: rest, locked := none }) _
  jvm_step X₁.here [X₁.here.top, hexec, d3', Value.category]
  exact X₁.ldcStringW hexec (own := own) (text := text) (index := is) (a := sa) hown' hstr'.1 hstr'.2
    (g := { method := m, pc := pc + 4, locals := ls, stack := .ref T.heap.size :: .ref T.heap.size :: rest, locked := none }) rfl d4' _ hsteps
end Ends
section Bodies
variable {l : Launch}
theorem vx_ofW {y : MethodName} {ws ws' : List Cond} {rm : Room} {Pc : Array Value → State → Prop} {Qc : Array Value → State → Outcome → State → Prop} {XC : String → State → State → Prop} {mc ms : Nat} {free : Addr → Prop} {cc : ByteArray} {maxL : Nat} {ret : Option FieldType}
    (hy : plainName y.cls = true) (hw : ws = Cond.code y cc maxL ret :: ws')
    (body : ∀ p e s m args below meth c s₁, BodyLoose p l y (headSpec ws rm) cc maxL ret e s m args below meth c s₁ → c.maxLocals = maxL → (∀ x ∈ c.exceptionTable.toList, False) → Pc args s →
      W p l e (headSpec ws rm).room s m args below meth c s.heap [] 0 0 (vx_MQ below Qc XC args s mc ms free) (entryFrame m args maxL)) : vx_Met l y ws rm Pc Qc XC mc ms free := by
  refine MetFree.of_bodyS (code := cc) (maxLocals := maxL) (ret := ret) hy ?_ ?_
  · intro args s m h hn
    obtain ⟨meth, c, h1, h2, h3, h4, h5, h6, -, -⟩ := Cond.code_spec hn (atoms_spec (ws := ws) h _ (by rw [hw]; exact List.mem_cons_self))
    exact ⟨meth, c, h1, h2, h3, h4, h5, h6⟩
  · intro p e s m args below meth c s₁ B hml hP _
    have hh0 : s₁.heap = s.heap := by rw [B.state]; rfl
    have ht : ∀ x ∈ c.exceptionTable.toList, False := by
      obtain ⟨meth9, c9, h1, h2, -, -, -, -, h7, -⟩ := Cond.code_spec B.named (atoms_spec (ws := ws) B.pre _ (by rw [hw]; exact List.mem_cons_self))
      cases Option.some.inj (h1.symm.trans B.method)
      cases Option.some.inj (h2.symm.trans (Stand.of_body B).code)
      intro x hx
      rw [Array.isEmpty_iff.mp h7] at hx
      cases hx
    obtain ⟨t, a1, o, b1, b2, b3⟩ := body p e s m args below meth c s₁ B hml ht hP s₁ hh0 (Stand.of_body B)
    exact ⟨t, o, a1, b1, b2, b3⟩
/-- the table of a body with handlers -/
theorem vx_table {p : Program} {x y : MethodName} {S : Spec} {cc bytes : ByteArray} {maxL maxL' : Nat} {ret ret' : Option FieldType} {e : Env} {s s₁ : State} {m : MethodId} {args : Array Value} {below : List Frame} {meth : Method} {c : Code} {hh : List (Nat × Nat × Nat × Nat)}
    (B : BodyLoose p l y S cc maxL ret e s m args below meth c s₁) (h : (Cond.codeWith y bytes maxL' ret' hh).before args s = true) : c.exceptionTable.toList = tableOf hh := by
  obtain ⟨m9, meth9, c9, hn9, h1, h2, -, -, h6, -⟩ := Cond.codeWith_spec h
  cases Option.some.inj (hn9.symm.trans B.named)
  cases Option.some.inj (h1.symm.trans B.method)
  cases Option.some.inj (h2.symm.trans (Stand.of_body B).code)
  rw [← h6, table_eq]
end Bodies
end VXA
/-! ===== END ===== -/
end
section
/-! ===== BEGIN a static call of a method with an exception table ===== -/
section VXS
variable {p : Program} {l : Launch} {e : Env} {R : Room} {s : State} {m : MethodId} {args : Array Value} {below : List Frame} {meth : Method} {c : Code} {T : State} {H : Heap} {locs : List Loc} {cells slots : Nat}
abbrev vx_CSW (R : Room) (s : State) (args : Array Value) (own : String) (index : Nat) (y : MethodName) (bytes : ByteArray) (maxL : Nat) (ret : Option FieldType) (hh : List (Nat × Nat × Nat × Nat)) (ws : List Cond) (rm : Room) (mc ms n : Nat) : Prop :=
  (rm.cells = mc ∧ rm.slots = ms ∧ rm.frames + 1 ≤ R.frames ∧ 8 + (maxL + 11) + rm.locals ≤ R.locals ∧ (∀ w ∈ ws, ∀ (a' : Array Value) (U : State), s.WarmedH U.vm → w.before a' U = true) ∧ Cond.codeWith y bytes maxL ret hh ∈ ws) ∧
  (Cond.codeWith y bytes maxL ret hh).before args s = true ∧ (Cond.initialized y.cls).before args s = true ∧ (y.cls ≠ "java/lang/invoke/MethodHandle" ∧ y.cls ≠ "java/lang/invoke/VarHandle") ∧
  (∀ sig, parseMethodDescriptor y.desc = some sig → n = sig.parameters.length) ∧ (Cond.methodLink own index y).before args s = true ∧ (Cond.static y).before args s = true
theorem vx_cwSW {own : String} {index maxL mc ms : Nat} {y : MethodName} {bytes : ByteArray} {ret : Option FieldType} {hh : List (Nat × Nat × Nat × Nat)} {Ts ws ws' : List Cond} {rm : Room} (n : Nat) (ht : ∀ w ∈ Ts, w.before args s = true) (hT : GoodIn Ts (va_wsS own index y ws)) (hw : ws = Cond.codeWith y bytes maxL ret hh :: ws') (hrc : rm.cells = mc) (hrs : rm.slots = ms)
    (hd : y.cls ≠ "java/lang/invoke/MethodHandle" ∧ y.cls ≠ "java/lang/invoke/VarHandle" ∧ (parseMethodDescriptor y.desc).map (fun d => d.parameters.length) = some n) (hR : rm.frames + 1 ≤ R.frames ∧ 8 + (maxL + 11) + rm.locals ≤ R.locals) :
    vx_CSW R s args own index y bytes maxL ret hh ws rm mc ms n := by
  have ok : ∀ w ∈ va_wsS own index y ws, w.before args s = true := fun w h => ht w (hT w h).1
  have hG : GoodIn Ts ws := fun w h => hT w (by unfold va_wsS; exact List.mem_append_right _ h)
  have hc : Cond.codeWith y bytes maxL ret hh ∈ ws := by rw [hw]; exact List.mem_cons_self
  refine ⟨⟨hrc, hrs, hR.1, hR.2, pay_in ht hG, hc⟩, ht _ (hG _ hc).1, ok _ (by simp [va_wsS]), ⟨hd.1, hd.2.1⟩, fun sig h => ?_, ok _ (by simp [va_wsS]), ok _ (by simp [va_wsS])⟩
  have h2 := hd.2.2
  rw [h] at h2
  exact (Option.some.inj h2).symm
theorem vx_callSW (X : Stand p l e R s m args below meth c T locs cells slots) (hexec : p.tables.exec = Jvm.exec) {own : String} {index : Nat} {y : MethodName} {bytes : ByteArray} {maxL : Nat} {ret : Option FieldType} {hh : List (Nat × Nat × Nat × Nat)}
    (hown : s.vm.findClass own = some m.cls) (hlink : (Cond.methodLink own index y).before args s = true) (hstat : (Cond.static y).before args s = true) (hinit : (Cond.initialized y.cls).before args s = true)
    (hcode : (Cond.codeWith y bytes maxL ret hh).before args s = true) (hy : y.cls ≠ "java/lang/invoke/MethodHandle" ∧ y.cls ≠ "java/lang/invoke/VarHandle")
    {W9 : Nat} {Pre : Pt → Array Value → Prop} {Post : Pt → Array Value → Option Value → Pt → Prop} (hK : Back l R p e below s args y 3 W9 Pre Post)
    {g : JFrame} (hg : g.method = m) (hsize : g.locals.size = c.maxLocals) {argsL rest : List Value} (hlen : ∀ sig, parseMethodDescriptor y.desc = some sig → argsL.length = sig.parameters.length)
    (hstack : g.stack = argsL.reverse ++ rest) (hW : 2 * g.monitorRoom + (rest.map fun v => v.category).sum ≤ W9) (hdg : decode c.code g.pc = .ok (.invokestatic index, 3))
    (hpre : ∀ vm₁, s.WarmedH vm₁ → Pre ⟨T.setVm vm₁, locs, cells, slots⟩ argsL.toArray) :
    ∃ (v : Option Value) (vm₁ : Vm) (B : Pt), s.WarmedH vm₁ ∧ Stand p l e R s m args below meth c B.U B.locs B.cells B.slots ∧ Post ⟨T.setVm vm₁, locs, cells, slots⟩ argsL.toArray v B ∧
      ∀ target, Steps p.tables e below (B.U.setTop { g with pc := g.pc + 3, stack := v.toList ++ rest }) target → Steps p.tables e below (T.setTop g) target := by
  obtain ⟨mk, methM, cM, hnamed, hmethM, -, -, -, -, -, -, hsigM⟩ := Cond.codeWith_spec hcode
  have hstatic : methM.isStatic = true := Cond.static_spec hnamed hmethM hstat
  obtain ⟨kP, hkP, -⟩ := className_of_methodNamed hnamed
  have hinitP : kP.init = .initialized := Cond.initialized_spec (findClass_of_methodNamed hnamed) hkP hinit
  obtain ⟨vm₁, X₁, hstep₁⟩ := X.invokestatic hexec hown hlink hnamed hmethM hstatic hkP hinitP hy (g := g) hg (argsL := argsL) (rest := rest) (hlen _ hsigM) hstack hdg
  obtain ⟨v, B, X', hpost, hsteps⟩ := hK m meth c ⟨T.setVm vm₁, locs, cells, slots⟩ { g with stack := rest } (.invokestatic index) mk argsL.toArray X₁ hg hsize hdg hW (X₁.named hnamed) (hpre vm₁ X₁.warmed)
  exact ⟨v, vm₁, B, X₁.warmed, X', hpost, fun target h => hstep₁ _ fun acts => by rw [doInvoke_state]; exact hsteps.trans h⟩
theorem vx_runSW {y : MethodName} {bytes cc : ByteArray} {maxL nL mc ms n index : Nat} {ret : Option FieldType} {hh : List (Nat × Nat × Nat × Nat)} {ws : List Cond} {rm : Room} {Pc : Array Value → State → Prop} {Qc : Array Value → State → Outcome → State → Prop} {free : Addr → Prop} {Ts : List Cond} {own : String} {As rest : List Value} {g : JFrame}
    (S : CallFix p m c cc nL s args Ts own) (hM : Met l y ws rm Pc Qc mc ms free) (cw : vx_CSW R s args own index y bytes maxL ret hh ws rm mc ms n) (hp : PreS s H Pc As)
    (hg : g.method = m) (hn : As.length = n) (hsize : g.locals.size = nL) (hstack : g.stack = As.reverse ++ rest) (hW : 2 * g.monitorRoom + (rest.map fun v => v.category).sum ≤ 8) (hdg : decode cc g.pc = .ok (.invokestatic index, 3)) (hf : cells + mc ≤ R.cells ∧ slots + ms ≤ R.slots) :
    va_Run p l e R s m args below meth c H locs cells slots mc ms g rest (Qc As.toArray) (free) := by
  obtain ⟨⟨hrc, hrs, hfr, hlo, hws, hcw⟩, hcode, hini, hy, hlen, hl, hstt⟩ := cw
  have hK : Back l R p e below s args y 3 8 (PreOf R mc ms Pc) (PostOf Qc mc ms free) := va_backW (hh := hh) (bytes := bytes) (maxL := maxL) (ret := ret) hM hp.1 hrc hrs hfr hlo hws hcw (fun a' U hW => word_at hW (Or.inl (by first | rfl | simp [Cond.onTables, Cond.keeps, Cond.steady])) hini)
  obtain ⟨hx, hb, hml, ho, -⟩ := S
  intro T hT X
  obtain ⟨v, vm₁, ⟨U', l2, c2, s2⟩, hW₁, X', ⟨g', mk, t, L, e1, e2, hq, h1, hL, h2, h3⟩, st⟩ := vx_callSW X hx (hh := hh) (bytes := bytes) (maxL := maxL) (ret := ret) ho hl hstt hini hcode hy hK hg (hsize.trans hml.symm) (argsL := As) (rest := rest) (fun sig h => hn.trans (hlen sig h)) hstack hW (by rw [hb]; exact hdg)
    (fun vm₁ hW₁ => ⟨hf.1, hf.2, hp.2 (T.setVm vm₁) hT hW₁⟩)
  dsimp only [Pt.U, Pt.locs, Pt.cells, Pt.slots] at X' e1 e2 h1 h2 h3 st
  subst h1; subst h2; subst h3
  exact ⟨v, (T.setVm vm₁).calling g' mk As.toArray, t, U', L, hT, X', hL, e1, e2, hq, st⟩
/-- not caught here, past rows that name other classes: it goes on to the caller -/
theorem vx_outP {p : Program} {l : Launch} {e : Env} {R : Room} {s : State} {m : MethodId} {args : Array Value} {below : List Frame} {meth : Method} {c : Code} {H : Heap} {locs : List Loc} {cells slots : Nat} {free : Addr → Prop} {ls : Array Slot} {rest : List Value} {Qc : Array Value → State → Outcome → State → Prop} {XC : String → State → State → Prop}
    {pc : Nat} {own E : String} {ce : Cell} {q : Addr} {mc ms : Nat} (hown : s.vm.findClass own = some m.cls) (hlocks : meth.locks = false)
    (hpass : ∀ z ∈ c.exceptionTable.toList, covers z pc = false ∨ (z.catchType ≠ 0 ∧ ∃ nm : String, (Cond.classLink own z.catchType nm).before args s = true ∧ va_Nc E nm s)) (hcell : H[q]? = some ce) (hv : ce.vm = .none) (hcl : s.vm.findClass E = some ce.cls)
    (hx : ∀ t : State, t.heap = H → s.vm.Alike t.vm → XC E s t) (hf : ∀ z ∈ locs, free z.base) (hc : cells ≤ mc) (hs : slots ≤ ms) :
    vx_W p l e R s m args below meth c H locs cells slots (vx_MQ below Qc XC args s mc ms free) (F0 m pc ls rest) q := by
  intro T hT X
  have hpl : e.platform.magicAccessors = ({} : Platform).magicAccessors := by rw [X.admits.platform]
  obtain ⟨vm', hW', X', st⟩ := X.outThrough hlocks q (g := F0 m pc ls rest) rfl rfl rfl (cell := ce) (by rw [hT]; exact hcell) (by rw [hv]; rfl)
    (by obtain ⟨k9, h9, -⟩ := Vm.findClass_spec hcl; exact ⟨k9, h9⟩) (fun z hz => by
      rcases hpass z hz with h | ⟨hz0, nm, hl1, hn1⟩
      · exact Or.inl h
      · obtain ⟨c6, hc6, hcl6⟩ := Cond.classLink_spec hown hl1 e.platform hpl
        obtain ⟨a8, b8, h1, h2, h3⟩ := hn1
        cases Option.some.inj (h1.symm.trans hcl)
        cases Option.some.inj (h2.symm.trans hc6)
        exact Or.inr ⟨hz0, _, hcl6, h3⟩)
  obtain ⟨g₀, hfr⟩ := X'.frames_eq
  have hcell9 : ((T.setVm vm').setFrames (.throwing q :: below)).heap[q]? = some ce := by
    show T.heap[q]? = some ce
    rw [hT]; exact hcell
  have hend : Ended ((T.setVm vm').setFrames (.throwing q :: below)) below (.threw q) := State.frames_setFrames _ (State.cur_lt_of_frames hfr)
  refine ⟨(T.setVm vm').setFrames (.throwing q :: below), ?_, .threw q, X'.here.running, hend, Or.inr ⟨q, rfl, E, ce, locs, hx _ hT (X'.ends _).1.alike, hcell9, hv, hcl, (X'.ends _).1, (X'.ends _).2.mono hc hs, hf⟩⟩
  rw [X.pushThrowing_eq]
  exact st
/-- a thing of a world lies in the heap -/
theorem vx_lt {D : va_G} {cl : List vw_C} {ws : va_W} {H1 : Heap} (h : va_P D cl ws H1) {k : Nat} {q : Nat × va_E} (hk : ws[k]? = some q) : q.1 < H1.size := (h k q hk).lt
end VXS
/-! ===== END ===== -/
/-! ===== BEGIN methods with a table of their own: called by a name, returning or throwing ===== -/
section VXH
/-! vx_backW, vx_callVX, vx_callSX, vx_callVW, vx_runVW, vx_runVX, vx_runSX, vx_ofWH follow the same proofs as their sisters above (Free/Laws.lean, Shelf42/LK1.lean); vx_outP calls Shelf42/NT130.lean (outThrough). -/
section
variable {l : Launch} {R : Room} {p : Program} {e : Env} {below : List Frame} {s : State} {sargs : Array Value} {y : MethodName} {len W9 : Nat}
theorem vx_backW {ws : List Cond} {rm : Room} {Pc : Array Value → State → Prop} {Qc : Array Value → State → Outcome → State → Prop} {XC : String → State → State → Prop} {mc ms : Nat} {free : Addr → Prop} {bytes : ByteArray} {maxL : Nat} {ret : Option FieldType} {hh : List (Nat × Nat × Nat × Nat)}
    (hM : vx_Met l y ws rm Pc Qc XC mc ms free) (hblind : FrameBlind Pc) (hrc : rm.cells = mc) (hrs : rm.slots = ms)
    (hframes : rm.frames + 1 ≤ R.frames) (hlocals : W9 + (maxL + 11) + rm.locals ≤ R.locals)
    (hws : ∀ w ∈ ws, ∀ a' U, s.WarmedH U.vm → w.before a' U = true) (hcode : Cond.codeWith y bytes maxL ret hh ∈ ws) (hinit : ∀ a' U, s.WarmedH U.vm → (Cond.initialized y.cls).before a' U = true) :
    vx_Back l R p e below s sargs y len W9 (PreOf R mc ms Pc) (PostOf Qc mc ms free) (vx_Post XC mc ms free) := by
  intro m meth c A g ig mk a X hg hsize hdg hW hn hp
  have h1 : (headSpec ws rm).pre.before a A.U = true := atoms_intro fun w hw => hws w hw _ _ X.warmed
  have h2 : (Cond.codeWith y bytes maxL ret hh).before a A.U = true := hws _ hcode _ _ X.warmed
  have h3 : (Cond.initialized y.cls).before a A.U = true := hinit _ _ X.warmed
  have h4 : A.cells + (headSpec ws rm).room.cells ≤ R.cells := by rw [show (headSpec ws rm).room.cells = mc from hrc]; exact hp.1
  have h5 : A.slots + (headSpec ws rm).room.slots ≤ R.slots := by rw [show (headSpec ws rm).room.slots = ms from hrs]; exact hp.2.1
  have hPc : Pc a (A.U.calling g mk a) := hblind _ _ _ _ hp.2.2
  obtain ⟨U, Ls, c0, s0⟩ := A
  dsimp only [Pt.U, Pt.locs, Pt.cells, Pt.slots] at h1 h2 h3 h4 h5 X hn hPc ⊢
  obtain ⟨m9, methY, cY, hn9, hmY, hcY, -, hlY, -⟩ := Cond.codeWith_spec h2
  cases Option.some.inj (hn9.symm.trans hn)
  obtain ⟨kY, hkY, -⟩ := className_of_methodNamed hn
  have hinitY : kY.init = .initialized := Cond.initialized_spec (findClass_of_methodNamed hn) hkY h3
  have h : At U g.method c below := by rw [hg]; exact X.here
  have hlocals9 : W9 + (maxL + 11) + (headSpec ws rm).room.locals ≤ R.locals := hlocals
  have happ : (headSpec ws rm).appliesLoose y e.platform (U.calling g mk a) = true :=
    Spec.appliesLoose_calling (g := g) h hdg hn hkY hinitY
      (X.room_calling (g := g) (R' := (headSpec ws rm).room) hsize hmY hcY hframes (by rw [hlY]; omega) h4 h5) h1
  obtain ⟨mid, hmid⟩ := h.above
  have hfr : (U.setTop g).frames = (.java g :: mid) ++ below := by rw [State.frames_setTop' g h.top, hmid]; rfl
  obtain ⟨o, s₂, hsteps, -, hend, hq⟩ := Steps.callFree hM p X.admits X.cas X.clock (acts := []) hfr happ hPc trivial
  have hq' : vx_Q Qc XC mc ms free a (U.calling g mk a) o s₂ := hq
  rw [State.frames_setTop' g h.top] at hend
  obtain ⟨g₀, hg0⟩ := Option.isSome_iff_exists.mp h.top
  obtain ⟨r, hr⟩ := State.topJava?_eq_some.mp hg0
  have hr' : (({ U with heap := s₂.heap, slotsUsed := s₂.slotsUsed } : State).setVm s₂.vm).frames = .java g₀ :: r := hr
  rcases hq' with ⟨hqc, L, hfe, hL⟩ | ⟨q, rfl, E, ce, L, hx, hce, hcv, hcl, hW₂, hsm, hL⟩
  · obtain ⟨⟨v, rfl⟩, hW₂, e2, q2, q3, q4, q5, q6⟩ := id hfe
    have e3 : s₂ = ({ (U.calling g mk a).setFrames s₂.frames with heap := s₂.heap, slotsUsed := s₂.slotsUsed } : State).setVm s₂.vm := by
      have : s₂ = ({ s₂ with vm := (U.calling g mk a).vm } : State).setVm s₂.vm := rfl
      rw [e2] at this
      exact this
    obtain ⟨c₂, i₂, len₂, hc₂, hd₂, hf₂⟩ := hend
    have hW' : U.WarmedH s₂.vm := hW₂
    have hcc : c₂ = c := by
      have h1 : s₂.code? g.method = U.code? g.method := by
        rw [State.code?_eq, State.code?_eq, hW'.alike.method?]
      exact Option.some.inj (hc₂.symm.trans (h1.trans h.code))
    subst hcc
    have hlen : len₂ = len := by rw [hdg] at hd₂; cases hd₂; rfl
    subst hlen
    have hs₂ : s₂ = (({ U with heap := s₂.heap, slotsUsed := s₂.slotsUsed } : State).setVm s₂.vm).setTop { g with pc := g.pc + len₂, stack := v.toList ++ g.stack } := by
      refine e3.trans ?_
      rw [hf₂, State.calling_eq h.top, State.setFrames_setFrames, State.setTop_of_frames _ hr', hr]
      rfl
    have hsame : U.sameButNew ({ U with heap := s₂.heap, slotsUsed := s₂.slotsUsed } : State) L mc ms := by
      refine ⟨?_, q2, q3, q4, q5, q6⟩
      obtain ⟨t, ht, -⟩ := State.frames_cons hr
      show ({ U with heap := s₂.heap, slotsUsed := s₂.slotsUsed } : State) = { U.setFrames U.frames with heap := s₂.heap, slotsUsed := s₂.slotsUsed }
      rw [State.setFrames_self ht]
    subst hg
    refine Or.inl ⟨v, ⟨(({ U with heap := s₂.heap, slotsUsed := s₂.slotsUsed } : State).setVm s₂.vm), Ls ++ L, c0 + mc, s0 + ms⟩,
      ⟨X.admits, X.cas, X.clock, X.frames, X.room, X.hears, X.method, X.code, (X.here.setHeapUsed s₂.heap s₂.slotsUsed).setVm hW'.alike, X.tail, State.WarmedH.trans X.warmed hW', X.limits, X.bytes, X.same.trans (hsame.setVm s.vm)⟩,
      ⟨g, mk, s₂, L, rfl, rfl, hqc, rfl, hL, rfl, rfl⟩, ?_⟩
    show Steps p.tables e below _ ((({ U with heap := s₂.heap, slotsUsed := s₂.slotsUsed } : State).setVm s₂.vm).setTop { g with pc := g.pc + len₂, stack := v.toList ++ g.stack })
    rw [← hs₂]
    exact hsteps
  · obtain ⟨e2, q2, q3, q4, q5, q6⟩ := id hsm
    have e3 : s₂ = ({ (U.calling g mk a).setFrames s₂.frames with heap := s₂.heap, slotsUsed := s₂.slotsUsed } : State).setVm s₂.vm := by
      have : s₂ = ({ s₂ with vm := (U.calling g mk a).vm } : State).setVm s₂.vm := rfl
      rw [e2] at this
      exact this
    have hf₂ : s₂.frames = .throwing q :: .java g :: U.frames.tail := hend
    have hW' : U.WarmedH s₂.vm := hW₂
    have hs₂ : s₂ = ((({ U with heap := s₂.heap, slotsUsed := s₂.slotsUsed } : State).setVm s₂.vm).setTop g).pushFrame (.throwing q) := by
      refine e3.trans ?_
      rw [hf₂, State.calling_eq h.top, State.setFrames_setFrames, State.pushFrame, State.frames_setTop _ hr', State.setTop_of_frames _ hr', State.setFrames_setFrames, hr]
      rfl
    have hsame : U.sameButNew ({ U with heap := s₂.heap, slotsUsed := s₂.slotsUsed } : State) L mc ms := by
      refine ⟨?_, q2, q3, q4, q5, q6⟩
      obtain ⟨t, ht, -⟩ := State.frames_cons hr
      show ({ U with heap := s₂.heap, slotsUsed := s₂.slotsUsed } : State) = { U.setFrames U.frames with heap := s₂.heap, slotsUsed := s₂.slotsUsed }
      rw [State.setFrames_self ht]
    subst hg
    refine Or.inr ⟨q, ⟨(({ U with heap := s₂.heap, slotsUsed := s₂.slotsUsed } : State).setVm s₂.vm), Ls ++ L, c0 + mc, s0 + ms⟩,
      ⟨X.admits, X.cas, X.clock, X.frames, X.room, X.hears, X.method, X.code, (X.here.setHeapUsed s₂.heap s₂.slotsUsed).setVm hW'.alike, X.tail, State.WarmedH.trans X.warmed hW', X.limits, X.bytes, X.same.trans (hsame.setVm s.vm)⟩,
      ⟨g, mk, s₂, L, E, ce, rfl, rfl, hx, hce, hcv, hcl, rfl, hL, rfl, rfl⟩, ?_⟩
    show Steps p.tables e below _ (((({ U with heap := s₂.heap, slotsUsed := s₂.slotsUsed } : State).setVm s₂.vm).setTop g).pushFrame (.throwing q))
    rw [← hs₂]
    exact hsteps
end
variable {p : Program} {l : Launch} {e : Env} {R : Room} {s : State} {m : MethodId} {args : Array Value} {below : List Frame} {meth : Method} {c : Code} {T : State} {H : Heap} {locs : List Loc} {cells slots : Nat}
theorem vx_callVX (X : Stand p l e R s m args below meth c T locs cells slots) (hexec : p.tables.exec = Jvm.exec) {own C : String} {index : Nat} {y : MethodName} {bytes : ByteArray} {maxL : Nat} {ret : Option FieldType} {hh : List (Nat × Nat × Nat × Nat)}
    (hown : s.vm.findClass own = some m.cls) (hlink : (Cond.methodLink own index y).before args s = true) (hinst : (Cond.instanceMethod y).before args s = true) (hsel : (Cond.selects C y y).before args s = true)
    (hcode : (Cond.codeWith y bytes maxL ret hh).before args s = true) (hy : y.cls ≠ "java/lang/invoke/MethodHandle" ∧ y.cls ≠ "java/lang/invoke/VarHandle")
    {W9 : Nat} {Pre : Pt → Array Value → Prop} {Post : Pt → Array Value → Option Value → Pt → Prop} {PostX : Pt → Array Value → Addr → Pt → Prop} (hK : vx_Back l R p e below s args y 3 W9 Pre Post PostX)
    {b : Addr} {cellB : Cell} (hcell : T.heap[b]? = some cellB) (hobj : cellB.vm.isStatics = false) (hcls : s.vm.findClass C = some cellB.cls)
    {g : JFrame} (hg : g.method = m) (hsize : g.locals.size = c.maxLocals) {argsL rest : List Value} (hlen : ∀ sig, parseMethodDescriptor y.desc = some sig → argsL.length = sig.parameters.length)
    (hstack : g.stack = argsL.reverse ++ .ref b :: rest) (hW : 2 * g.monitorRoom + (rest.map fun v => v.category).sum ≤ W9) (hdg : decode c.code g.pc = .ok (.invokevirtual index, 3))
    (hpre : ∀ vm₁, s.WarmedH vm₁ → Pre ⟨T.setVm vm₁, locs, cells, slots⟩ (Value.ref b :: argsL).toArray) :
    (∃ (v : Option Value) (vm₁ : Vm) (B : Pt), s.WarmedH vm₁ ∧ Stand p l e R s m args below meth c B.U B.locs B.cells B.slots ∧ Post ⟨T.setVm vm₁, locs, cells, slots⟩ (Value.ref b :: argsL).toArray v B ∧
      ∀ target, Steps p.tables e below (B.U.setTop { g with pc := g.pc + 3, stack := v.toList ++ rest }) target → Steps p.tables e below (T.setTop g) target) ∨
    (∃ (q : Addr) (vm₁ : Vm) (B : Pt), s.WarmedH vm₁ ∧ Stand p l e R s m args below meth c B.U B.locs B.cells B.slots ∧ PostX ⟨T.setVm vm₁, locs, cells, slots⟩ (Value.ref b :: argsL).toArray q B ∧
      Steps p.tables e below (T.setTop g) ((B.U.setTop { g with stack := rest }).pushFrame (.throwing q))) := by
  obtain ⟨mk, methM, hnamed, hmethM, hstM, habM⟩ := Cond.instanceMethod_spec hinst
  obtain ⟨m8, methM', cM, hn8, hmethM', -, -, -, -, -, -, hsigM⟩ := Cond.codeWith_spec hcode
  cases Option.some.inj (hn8.symm.trans hnamed)
  cases hmethM.symm.trans hmethM'
  obtain ⟨c2, r2, m2, q1, q2, q3, q4, kP, hkP, hkPi⟩ := Cond.selects_spec hsel
  cases hcls.symm.trans q1
  cases (State.methodFound?_of_named hnamed hy).symm.trans q2
  cases hnamed.symm.trans q3
  have hselP : selectMethod e.platform s.vm cellB.cls mk = .method mk := by rw [Launch.admits_selectMethod X.admits]; exact q4
  obtain ⟨vm₁, X₁, hstep₁⟩ := X.invokevirtual hexec hown hlink hnamed hmethM hstM hkP hkPi hy (a := b) (cell := cellB) hcell
    (fun z h => by rw [h] at hobj; cases hobj) hselP hmethM habM hkP hkPi (g := g) hg (argsL := argsL) (rest := rest) (hlen _ hsigM) hstack hdg
  rcases hK m meth c ⟨T.setVm vm₁, locs, cells, slots⟩ { g with stack := rest } (.invokevirtual index) mk (Value.ref b :: argsL).toArray X₁ hg hsize hdg hW (X₁.named hnamed) (hpre vm₁ X₁.warmed) with ⟨v, B, X', hpost, hsteps⟩ | ⟨q, B, X', hpost, hsteps⟩
  · exact Or.inl ⟨v, vm₁, B, X₁.warmed, X', hpost, fun target h => hstep₁ _ fun acts => by rw [doInvoke_state]; exact hsteps.trans h⟩
  · exact Or.inr ⟨q, vm₁, B, X₁.warmed, X', hpost, hstep₁ _ fun acts => by rw [doInvoke_state]; exact hsteps⟩
theorem vx_callSX (X : Stand p l e R s m args below meth c T locs cells slots) (hexec : p.tables.exec = Jvm.exec) {own : String} {index : Nat} {y : MethodName} {bytes : ByteArray} {maxL : Nat} {ret : Option FieldType} {hh : List (Nat × Nat × Nat × Nat)}
    (hown : s.vm.findClass own = some m.cls) (hlink : (Cond.methodLink own index y).before args s = true) (hstat : (Cond.static y).before args s = true) (hinit : (Cond.initialized y.cls).before args s = true)
    (hcode : (Cond.codeWith y bytes maxL ret hh).before args s = true) (hy : y.cls ≠ "java/lang/invoke/MethodHandle" ∧ y.cls ≠ "java/lang/invoke/VarHandle")
    {W9 : Nat} {Pre : Pt → Array Value → Prop} {Post : Pt → Array Value → Option Value → Pt → Prop} {PostX : Pt → Array Value → Addr → Pt → Prop} (hK : vx_Back l R p e below s args y 3 W9 Pre Post PostX)
    {g : JFrame} (hg : g.method = m) (hsize : g.locals.size = c.maxLocals) {argsL rest : List Value} (hlen : ∀ sig, parseMethodDescriptor y.desc = some sig → argsL.length = sig.parameters.length)
    (hstack : g.stack = argsL.reverse ++ rest) (hW : 2 * g.monitorRoom + (rest.map fun v => v.category).sum ≤ W9) (hdg : decode c.code g.pc = .ok (.invokestatic index, 3))
    (hpre : ∀ vm₁, s.WarmedH vm₁ → Pre ⟨T.setVm vm₁, locs, cells, slots⟩ argsL.toArray) :
    (∃ (v : Option Value) (vm₁ : Vm) (B : Pt), s.WarmedH vm₁ ∧ Stand p l e R s m args below meth c B.U B.locs B.cells B.slots ∧ Post ⟨T.setVm vm₁, locs, cells, slots⟩ argsL.toArray v B ∧
      ∀ target, Steps p.tables e below (B.U.setTop { g with pc := g.pc + 3, stack := v.toList ++ rest }) target → Steps p.tables e below (T.setTop g) target) ∨
    (∃ (q : Addr) (vm₁ : Vm) (B : Pt), s.WarmedH vm₁ ∧ Stand p l e R s m args below meth c B.U B.locs B.cells B.slots ∧ PostX ⟨T.setVm vm₁, locs, cells, slots⟩ argsL.toArray q B ∧
      Steps p.tables e below (T.setTop g) ((B.U.setTop { g with stack := rest }).pushFrame (.throwing q))) := by
  obtain ⟨mk, methM, cM, hnamed, hmethM, -, -, -, -, -, -, hsigM⟩ := Cond.codeWith_spec hcode
  have hstatic : methM.isStatic = true := Cond.static_spec hnamed hmethM hstat
  obtain ⟨kP, hkP, -⟩ := className_of_methodNamed hnamed
  have hinitP : kP.init = .initialized := Cond.initialized_spec (findClass_of_methodNamed hnamed) hkP hinit
  obtain ⟨vm₁, X₁, hstep₁⟩ := X.invokestatic hexec hown hlink hnamed hmethM hstatic hkP hinitP hy (g := g) hg (argsL := argsL) (rest := rest) (hlen _ hsigM) hstack hdg
  rcases hK m meth c ⟨T.setVm vm₁, locs, cells, slots⟩ { g with stack := rest } (.invokestatic index) mk argsL.toArray X₁ hg hsize hdg hW (X₁.named hnamed) (hpre vm₁ X₁.warmed) with ⟨v, B, X', hpost, hsteps⟩ | ⟨q, B, X', hpost, hsteps⟩
  · exact Or.inl ⟨v, vm₁, B, X₁.warmed, X', hpost, fun target h => hstep₁ _ fun acts => by rw [doInvoke_state]; exact hsteps.trans h⟩
  · exact Or.inr ⟨q, vm₁, B, X₁.warmed, X', hpost, hstep₁ _ fun acts => by rw [doInvoke_state]; exact hsteps⟩
theorem vx_callVW (X : Stand p l e R s m args below meth c T locs cells slots) (hexec : p.tables.exec = Jvm.exec) {own C : String} {index : Nat} {y : MethodName} {bytes : ByteArray} {maxL : Nat} {ret : Option FieldType} {hh : List (Nat × Nat × Nat × Nat)}
    (hown : s.vm.findClass own = some m.cls) (hlink : (Cond.methodLink own index y).before args s = true) (hinst : (Cond.instanceMethod y).before args s = true) (hsel : (Cond.selects C y y).before args s = true)
    (hcode : (Cond.codeWith y bytes maxL ret hh).before args s = true) (hy : y.cls ≠ "java/lang/invoke/MethodHandle" ∧ y.cls ≠ "java/lang/invoke/VarHandle")
    {W9 : Nat} {Pre : Pt → Array Value → Prop} {Post : Pt → Array Value → Option Value → Pt → Prop} (hK : Back l R p e below s args y 3 W9 Pre Post)
    {b : Addr} {cellB : Cell} (hcell : T.heap[b]? = some cellB) (hobj : cellB.vm.isStatics = false) (hcls : s.vm.findClass C = some cellB.cls)
    {g : JFrame} (hg : g.method = m) (hsize : g.locals.size = c.maxLocals) {argsL rest : List Value} (hlen : ∀ sig, parseMethodDescriptor y.desc = some sig → argsL.length = sig.parameters.length)
    (hstack : g.stack = argsL.reverse ++ .ref b :: rest) (hW : 2 * g.monitorRoom + (rest.map fun v => v.category).sum ≤ W9) (hdg : decode c.code g.pc = .ok (.invokevirtual index, 3))
    (hpre : ∀ vm₁, s.WarmedH vm₁ → Pre ⟨T.setVm vm₁, locs, cells, slots⟩ (Value.ref b :: argsL).toArray) :
    ∃ (v : Option Value) (vm₁ : Vm) (B : Pt), s.WarmedH vm₁ ∧ Stand p l e R s m args below meth c B.U B.locs B.cells B.slots ∧ Post ⟨T.setVm vm₁, locs, cells, slots⟩ (Value.ref b :: argsL).toArray v B ∧
      ∀ target, Steps p.tables e below (B.U.setTop { g with pc := g.pc + 3, stack := v.toList ++ rest }) target → Steps p.tables e below (T.setTop g) target := by
  obtain ⟨mk, methM, hnamed, hmethM, hstM, habM⟩ := Cond.instanceMethod_spec hinst
  obtain ⟨m8, methM', cM, hn8, hmethM', -, -, -, -, -, -, hsigM⟩ := Cond.codeWith_spec hcode
  cases Option.some.inj (hn8.symm.trans hnamed)
  cases hmethM.symm.trans hmethM'
  obtain ⟨c2, r2, m2, q1, q2, q3, q4, kP, hkP, hkPi⟩ := Cond.selects_spec hsel
  cases hcls.symm.trans q1
  cases (State.methodFound?_of_named hnamed hy).symm.trans q2
  cases hnamed.symm.trans q3
  have hselP : selectMethod e.platform s.vm cellB.cls mk = .method mk := by rw [Launch.admits_selectMethod X.admits]; exact q4
  obtain ⟨vm₁, X₁, hstep₁⟩ := X.invokevirtual hexec hown hlink hnamed hmethM hstM hkP hkPi hy (a := b) (cell := cellB) hcell
    (fun z h => by rw [h] at hobj; cases hobj) hselP hmethM habM hkP hkPi (g := g) hg (argsL := argsL) (rest := rest) (hlen _ hsigM) hstack hdg
  obtain ⟨v, B, X', hpost, hsteps⟩ := hK m meth c ⟨T.setVm vm₁, locs, cells, slots⟩ { g with stack := rest } (.invokevirtual index) mk (Value.ref b :: argsL).toArray X₁ hg hsize hdg hW (X₁.named hnamed) (hpre vm₁ X₁.warmed)
  exact ⟨v, vm₁, B, X₁.warmed, X', hpost, fun target h => hstep₁ _ fun acts => by rw [doInvoke_state]; exact hsteps.trans h⟩
abbrev vx_CVW (R : Room) (s : State) (args : Array Value) (own C : String) (index : Nat) (y : MethodName) (bytes : ByteArray) (maxL : Nat) (ret : Option FieldType) (hh : List (Nat × Nat × Nat × Nat)) (ws : List Cond) (rm : Room) (mc ms n : Nat) : Prop :=
  (rm.cells = mc ∧ rm.slots = ms ∧ rm.frames + 1 ≤ R.frames ∧ 8 + (maxL + 11) + rm.locals ≤ R.locals ∧ (∀ w ∈ ws, ∀ (a' : Array Value) (U : State), s.WarmedH U.vm → w.before a' U = true) ∧ Cond.codeWith y bytes maxL ret hh ∈ ws) ∧
  (Cond.codeWith y bytes maxL ret hh).before args s = true ∧ (Cond.initialized y.cls).before args s = true ∧ (y.cls ≠ "java/lang/invoke/MethodHandle" ∧ y.cls ≠ "java/lang/invoke/VarHandle") ∧
  (∀ sig, parseMethodDescriptor y.desc = some sig → n = sig.parameters.length) ∧ (Cond.methodLink own index y).before args s = true ∧ (Cond.instanceMethod y).before args s = true ∧ (Cond.selects C y y).before args s = true
theorem vx_cwVW {own C : String} {index maxL mc ms : Nat} {y : MethodName} {bytes : ByteArray} {ret : Option FieldType} {hh : List (Nat × Nat × Nat × Nat)} {Ts ws ws' : List Cond} {rm : Room} (n : Nat) (ht : ∀ w ∈ Ts, w.before args s = true) (hT : GoodIn Ts (wsV own index C y ws)) (hw : ws = Cond.codeWith y bytes maxL ret hh :: ws') (hrc : rm.cells = mc) (hrs : rm.slots = ms)
    (hd : y.cls = C ∧ y.cls ≠ "java/lang/invoke/MethodHandle" ∧ y.cls ≠ "java/lang/invoke/VarHandle" ∧ (parseMethodDescriptor y.desc).map (fun d => d.parameters.length) = some n) (hR : rm.frames + 1 ≤ R.frames ∧ 8 + (maxL + 11) + rm.locals ≤ R.locals) :
    vx_CVW R s args own C index y bytes maxL ret hh ws rm mc ms n := by
  obtain ⟨hC, hd⟩ := hd
  subst hC
  have ok : ∀ w ∈ wsV own index y.cls y ws, w.before args s = true := fun w h => ht w (hT w h).1
  have hG : GoodIn Ts ws := fun w h => hT w (by unfold wsV; exact List.mem_append_right _ h)
  have hc : Cond.codeWith y bytes maxL ret hh ∈ ws := by rw [hw]; exact List.mem_cons_self
  refine ⟨⟨hrc, hrs, hR.1, hR.2, pay_in ht hG, hc⟩, ht _ (hG _ hc).1, ok _ (by simp [wsV]), ⟨hd.1, hd.2.1⟩, fun sig h => ?_, ok _ (by simp [wsV]), ok _ (by simp [wsV]), ok _ (by simp [wsV])⟩
  have h2 := hd.2.2
  rw [h] at h2
  exact (Option.some.inj h2).symm
theorem vx_runVW {y : MethodName} {bytes cc : ByteArray} {maxL nL mc ms n index : Nat} {ret : Option FieldType} {hh : List (Nat × Nat × Nat × Nat)} {ws : List Cond} {rm : Room} {Pc : Array Value → State → Prop} {Qc : Array Value → State → Outcome → State → Prop} {free : Addr → Prop} {Ts : List Cond} {own C : String} {b : Addr} {As rest : List Value} {g : JFrame}
    (S : CallFix p m c cc nL s args Ts own) (hM : Met l y ws rm Pc Qc mc ms free) (cw : vx_CVW R s args own C index y bytes maxL ret hh ws rm mc ms n) (hp : PreV s H C b Pc As)
    (hg : g.method = m) (hn : As.length = n) (hsize : g.locals.size = nL) (hstack : g.stack = As.reverse ++ .ref b :: rest) (hW : 2 * g.monitorRoom + (rest.map fun v => v.category).sum ≤ 8) (hdg : decode cc g.pc = .ok (.invokevirtual index, 3)) (hf : cells + mc ≤ R.cells ∧ slots + ms ≤ R.slots) :
    va_Run p l e R s m args below meth c H locs cells slots mc ms g rest (Qc (Value.ref b :: As).toArray) free := by
  obtain ⟨⟨hrc, hrs, hfr, hlo, hws, hcw⟩, hcode, hini, hy, hlen, hl, hin, hse⟩ := cw
  have hK : Back l R p e below s args y 3 8 (PreOf R mc ms Pc) (PostOf Qc mc ms free) := va_backW (hh := hh) (bytes := bytes) (maxL := maxL) (ret := ret) hM hp.1 hrc hrs hfr hlo hws hcw (fun a' U hW => word_at hW (Or.inl (by first | rfl | simp [Cond.onTables, Cond.keeps, Cond.steady])) hini)
  obtain ⟨hx, hb, hml, ho, -⟩ := S
  obtain ⟨-, ⟨cellB, hcB, hoB, hclB⟩, hPc⟩ := hp
  intro T hT X
  obtain ⟨v, vm₁, ⟨U', l2, c2, s2⟩, hW₁, X', ⟨g', mk, t, L, e1, e2, hq, h1, hL, h2, h3⟩, st⟩ := vx_callVW X hx (C := C) (hh := hh) (bytes := bytes) (maxL := maxL) (ret := ret) ho hl hin hse hcode hy hK (by rw [hT]; exact hcB) hoB hclB hg (hsize.trans hml.symm) (argsL := As) (rest := rest) (fun sig h => hn.trans (hlen sig h)) hstack hW (by rw [hb]; exact hdg)
    (fun vm₁ hW₁ => ⟨hf.1, hf.2, hPc (T.setVm vm₁) hT hW₁⟩)
  dsimp only [Pt.U, Pt.locs, Pt.cells, Pt.slots] at X' e1 e2 h1 h2 h3 st
  subst h1; subst h2; subst h3
  exact ⟨v, (T.setVm vm₁).calling g' mk (Value.ref b :: As).toArray, t, U', L, hT, X', hL, e1, e2, hq, st⟩
section
variable {y : MethodName} {bytes cc : ByteArray} {maxL nL mc ms n index : Nat} {ret : Option FieldType} {ws : List Cond} {rm : Room} {Pc : Array Value → State → Prop} {Qc : Array Value → State → Outcome → State → Prop} {XC : String → State → State → Prop} {free : Addr → Prop} {Ts : List Cond} {own C : String} {b : Addr} {As rest : List Value} {g : JFrame}
theorem vx_runVX {hh : List (Nat × Nat × Nat × Nat)} (S : CallFix p m c cc nL s args Ts own) (hM : vx_Met l y ws rm Pc Qc XC mc ms free) (cw : vx_CVW R s args own C index y bytes maxL ret hh ws rm mc ms n) (hp : PreV s H C b Pc As)
    (hg : g.method = m) (hn : As.length = n) (hsize : g.locals.size = nL) (hstack : g.stack = As.reverse ++ .ref b :: rest) (hW : 2 * g.monitorRoom + (rest.map fun v => v.category).sum ≤ 8) (hdg : decode cc g.pc = .ok (.invokevirtual index, 3)) (hf : cells + mc ≤ R.cells ∧ slots + ms ≤ R.slots) :
    vx_Run p l e R s m args below meth c H locs cells slots mc ms g rest (Qc (Value.ref b :: As).toArray) XC free := by
  obtain ⟨⟨hrc, hrs, hfr, hlo, hws, hcw⟩, hcode, hini, hy, hlen, hl, hin, hse⟩ := cw
  have hK : vx_Back l R p e below s args y 3 8 (PreOf R mc ms Pc) (PostOf Qc mc ms free) (vx_Post XC mc ms free) := vx_backW (hh := hh) (bytes := bytes) (maxL := maxL) (ret := ret) hM hp.1 hrc hrs hfr hlo hws hcw (fun a' U hW => word_at hW (Or.inl (by first | rfl | simp [Cond.onTables, Cond.keeps, Cond.steady])) hini)
  obtain ⟨hx, hb, hml, ho, -⟩ := S
  obtain ⟨-, ⟨cellB, hcB, hoB, hclB⟩, hPc⟩ := hp
  intro T hT X
  rcases vx_callVX X hx (C := C) (hh := hh) (bytes := bytes) (maxL := maxL) (ret := ret) ho hl hin hse hcode hy hK (by rw [hT]; exact hcB) hoB hclB hg (hsize.trans hml.symm) (argsL := As) (rest := rest) (fun sig h => hn.trans (hlen sig h)) hstack hW (by rw [hb]; exact hdg)
    (fun vm₁ hW₁ => ⟨hf.1, hf.2, hPc (T.setVm vm₁) hT hW₁⟩) with ⟨v, vm₁, ⟨U', l2, c2, s2⟩, hW₁, X', ⟨g', mk, t, L, e1, e2, hq, h1, hL, h2, h3⟩, st⟩ | ⟨q, vm₁, ⟨U', l2, c2, s2⟩, hW₁, X', ⟨g', mk, t, L, E, ce, e1, e2, hq, hce, hcv, hcl, h1, hL, h2, h3⟩, st⟩
  · dsimp only [Pt.U, Pt.locs, Pt.cells, Pt.slots] at X' e1 e2 h1 h2 h3 st
    subst h1; subst h2; subst h3
    exact Or.inl ⟨v, (T.setVm vm₁).calling g' mk (Value.ref b :: As).toArray, t, U', L, hT, X', hL, e1, e2, hq, st⟩
  · dsimp only [Pt.U, Pt.locs, Pt.cells, Pt.slots] at X' e1 e2 h1 h2 h3 st hcl
    subst h1; subst h2; subst h3
    exact Or.inr ⟨q, (T.setVm vm₁).calling g' mk (Value.ref b :: As).toArray, t, U', L, E, ce, hT, X', hL, e1, e2, hq, hce, hcv, vx_cls hW₁ hcl, st⟩
theorem vx_runSX {hh : List (Nat × Nat × Nat × Nat)} (S : CallFix p m c cc nL s args Ts own) (hM : vx_Met l y ws rm Pc Qc XC mc ms free) (cw : vx_CSW R s args own index y bytes maxL ret hh ws rm mc ms n) (hp : PreS s H Pc As)
    (hg : g.method = m) (hn : As.length = n) (hsize : g.locals.size = nL) (hstack : g.stack = As.reverse ++ rest) (hW : 2 * g.monitorRoom + (rest.map fun v => v.category).sum ≤ 8) (hdg : decode cc g.pc = .ok (.invokestatic index, 3)) (hf : cells + mc ≤ R.cells ∧ slots + ms ≤ R.slots) :
    vx_Run p l e R s m args below meth c H locs cells slots mc ms g rest (Qc As.toArray) XC free := by
  obtain ⟨⟨hrc, hrs, hfr, hlo, hws, hcw⟩, hcode, hini, hy, hlen, hl, hstt⟩ := cw
  have hK : vx_Back l R p e below s args y 3 8 (PreOf R mc ms Pc) (PostOf Qc mc ms free) (vx_Post XC mc ms free) := vx_backW (hh := hh) (bytes := bytes) (maxL := maxL) (ret := ret) hM hp.1 hrc hrs hfr hlo hws hcw (fun a' U hW => word_at hW (Or.inl (by first | rfl | simp [Cond.onTables, Cond.keeps, Cond.steady])) hini)
  obtain ⟨hx, hb, hml, ho, -⟩ := S
  intro T hT X
  rcases vx_callSX X hx (hh := hh) (bytes := bytes) (maxL := maxL) (ret := ret) ho hl hstt hini hcode hy hK hg (hsize.trans hml.symm) (argsL := As) (rest := rest) (fun sig h => hn.trans (hlen sig h)) hstack hW (by rw [hb]; exact hdg)
    (fun vm₁ hW₁ => ⟨hf.1, hf.2, hp.2 (T.setVm vm₁) hT hW₁⟩) with ⟨v, vm₁, ⟨U', l2, c2, s2⟩, hW₁, X', ⟨g', mk, t, L, e1, e2, hq, h1, hL, h2, h3⟩, st⟩ | ⟨q, vm₁, ⟨U', l2, c2, s2⟩, hW₁, X', ⟨g', mk, t, L, E, ce, e1, e2, hq, hce, hcv, hcl, h1, hL, h2, h3⟩, st⟩
  · dsimp only [Pt.U, Pt.locs, Pt.cells, Pt.slots] at X' e1 e2 h1 h2 h3 st
    subst h1; subst h2; subst h3
    exact Or.inl ⟨v, (T.setVm vm₁).calling g' mk As.toArray, t, U', L, hT, X', hL, e1, e2, hq, st⟩
  · dsimp only [Pt.U, Pt.locs, Pt.cells, Pt.slots] at X' e1 e2 h1 h2 h3 st hcl
    subst h1; subst h2; subst h3
    exact Or.inr ⟨q, (T.setVm vm₁).calling g' mk As.toArray, t, U', L, E, ce, hT, X', hL, e1, e2, hq, hce, hcv, vx_cls hW₁ hcl, st⟩
end
end VXH
theorem vx_ofWH {l : Launch} {y : MethodName} {ws ws' : List Cond} {rm : Room} {Pc : Array Value → State → Prop} {Qc : Array Value → State → Outcome → State → Prop} {XC : String → State → State → Prop} {mc ms : Nat} {free : Addr → Prop} {cc : ByteArray} {maxL : Nat} {ret : Option FieldType} {hh : List (Nat × Nat × Nat × Nat)}
    (hy : plainName y.cls = true) (hw : ws = Cond.codeWith y cc maxL ret hh :: ws')
    (body : ∀ p e s m args below meth c s₁, BodyLoose p l y (headSpec ws rm) cc maxL ret e s m args below meth c s₁ → c.maxLocals = maxL → Pc args s →
      W p l e (headSpec ws rm).room s m args below meth c s.heap [] 0 0 (vx_MQ below Qc XC args s mc ms free) (entryFrame m args maxL)) : vx_Met l y ws rm Pc Qc XC mc ms free := by
  refine MetFree.of_bodyS (code := cc) (maxLocals := maxL) (ret := ret) hy ?_ ?_
  · intro args s m h hn
    obtain ⟨m9, meth, c, hn9, h1, h2, h3, h4, -, h5, h6, -⟩ := Cond.codeWith_spec (atoms_spec (ws := ws) h _ (by rw [hw]; exact List.mem_cons_self))
    cases hn.symm.trans hn9
    exact ⟨meth, c, h1, h2, h3, h4, h5, h6⟩
  · intro p e s m args below meth c s₁ B hml hP _
    have hh0 : s₁.heap = s.heap := by rw [B.state]; rfl
    obtain ⟨t, a1, o, b1, b2, b3⟩ := body p e s m args below meth c s₁ B hml hP s₁ hh0 (Stand.of_body B)
    exact ⟨t, o, a1, b1, b2, b3⟩
/-! ===== END ===== -/
end
