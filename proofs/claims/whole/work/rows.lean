section
-- ===== PART A: goes FIRST, ahead of the names: the tables' words, and 'selects' of the private methods out of them =====
/-- a private method of a class that the tables say can be made, by its rows of tables_1 -/
def lw_okq (q : MethodName × Nat) : Prop := (q.1.cls ≠ "java/lang/invoke/MethodHandle" ∧ q.1.cls ≠ "java/lang/invoke/VarHandle") ∧ Cond.instantiable q.1.cls q.2 ∈ tables_1 ∧ Cond.privateMethod q.1 ∈ tables_1 ∧ Cond.instanceMethod q.1 ∈ tables_1
theorem lw_p0 : lw_okq (⟨"SumsToOne$Sieves", "removeAt", "(I)V"⟩, 2) := ⟨⟨by decide +kernel, by decide +kernel⟩, List.mem_of_getElem? (i := 65) (by decide +kernel), List.mem_of_getElem? (i := 344) (by decide +kernel), List.mem_of_getElem? (i := 345) (by decide +kernel)⟩
theorem lw_p1 : lw_okq (⟨"SumsToOne", "primesChanged", "()V"⟩, 15) := ⟨⟨by decide +kernel, by decide +kernel⟩, List.mem_of_getElem? (i := 18) (by decide +kernel), List.mem_of_getElem? (i := 348) (by decide +kernel), List.mem_of_getElem? (i := 349) (by decide +kernel)⟩
theorem lw_p2 : lw_okq (⟨"SumsToOne$Unit", "oneSide", "(LSumsToOne$Base;I)J"⟩, 2) := ⟨⟨by decide +kernel, by decide +kernel⟩, List.mem_of_getElem? (i := 81) (by decide +kernel), List.mem_of_getElem? (i := 413) (by decide +kernel), List.mem_of_getElem? (i := 414) (by decide +kernel)⟩
theorem lw_p3 : lw_okq (⟨"SumsToOne", "combine", "(IIII)I"⟩, 15) := ⟨⟨by decide +kernel, by decide +kernel⟩, List.mem_of_getElem? (i := 18) (by decide +kernel), List.mem_of_getElem? (i := 444) (by decide +kernel), List.mem_of_getElem? (i := 445) (by decide +kernel)⟩
theorem lw_p4 : lw_okq (⟨"SumsToOne", "hasPartner", "(LSumsToOne$Unit;)Z"⟩, 15) := ⟨⟨by decide +kernel, by decide +kernel⟩, List.mem_of_getElem? (i := 18) (by decide +kernel), List.mem_of_getElem? (i := 472) (by decide +kernel), List.mem_of_getElem? (i := 473) (by decide +kernel)⟩
theorem lw_p5 : lw_okq (⟨"SumsToOne$Split", "rawBelow", "(I)J"⟩, 3) := ⟨⟨by decide +kernel, by decide +kernel⟩, List.mem_of_getElem? (i := 119) (by decide +kernel), List.mem_of_getElem? (i := 500) (by decide +kernel), List.mem_of_getElem? (i := 501) (by decide +kernel)⟩
theorem lw_p6 : lw_okq (⟨"SumsToOne$Split", "rawAbove", "(I)J"⟩, 3) := ⟨⟨by decide +kernel, by decide +kernel⟩, List.mem_of_getElem? (i := 119) (by decide +kernel), List.mem_of_getElem? (i := 504) (by decide +kernel), List.mem_of_getElem? (i := 505) (by decide +kernel)⟩
theorem lw_p7 : lw_okq (⟨"SumsToOne$Split", "isLikeAnEarlierOne", "(I)Z"⟩, 3) := ⟨⟨by decide +kernel, by decide +kernel⟩, List.mem_of_getElem? (i := 119) (by decide +kernel), List.mem_of_getElem? (i := 521) (by decide +kernel), List.mem_of_getElem? (i := 522) (by decide +kernel)⟩
theorem lw_p8 : lw_okq (⟨"SumsToOne", "known", "()LSumsToOne$Answers;"⟩, 15) := ⟨⟨by decide +kernel, by decide +kernel⟩, List.mem_of_getElem? (i := 18) (by decide +kernel), List.mem_of_getElem? (i := 531) (by decide +kernel), List.mem_of_getElem? (i := 532) (by decide +kernel)⟩
theorem lw_p9 : lw_okq (⟨"SumsToOne$Answers", "tryGroupOf", "(LSumsToOne$Base;JJ)V"⟩, 7) := ⟨⟨by decide +kernel, by decide +kernel⟩, List.mem_of_getElem? (i := 113) (by decide +kernel), List.mem_of_getElem? (i := 542) (by decide +kernel), List.mem_of_getElem? (i := 543) (by decide +kernel)⟩
theorem lw_p10 : lw_okq (⟨"SumsToOne$Answers", "insert", "(JJI)V"⟩, 7) := ⟨⟨by decide +kernel, by decide +kernel⟩, List.mem_of_getElem? (i := 113) (by decide +kernel), List.mem_of_getElem? (i := 554) (by decide +kernel), List.mem_of_getElem? (i := 555) (by decide +kernel)⟩
theorem lw_p11 : lw_okq (⟨"SumsToOne$Answers", "placeFor", "(JJ)I"⟩, 7) := ⟨⟨by decide +kernel, by decide +kernel⟩, List.mem_of_getElem? (i := 113) (by decide +kernel), List.mem_of_getElem? (i := 558) (by decide +kernel), List.mem_of_getElem? (i := 559) (by decide +kernel)⟩
theorem lw_p12 : lw_okq (⟨"SumsToOne$Answers", "isAt", "(IJJ)Z"⟩, 7) := ⟨⟨by decide +kernel, by decide +kernel⟩, List.mem_of_getElem? (i := 113) (by decide +kernel), List.mem_of_getElem? (i := 562) (by decide +kernel), List.mem_of_getElem? (i := 563) (by decide +kernel)⟩
theorem lw_p13 : lw_okq (⟨"SumsToOne$Answers", "numberGroups", "()V"⟩, 7) := ⟨⟨by decide +kernel, by decide +kernel⟩, List.mem_of_getElem? (i := 113) (by decide +kernel), List.mem_of_getElem? (i := 567) (by decide +kernel), List.mem_of_getElem? (i := 568) (by decide +kernel)⟩
theorem lw_p14 : lw_okq (⟨"SumsToOne", "greatestHeightIn", "(LSumsToOne$Answers;I)I"⟩, 15) := ⟨⟨by decide +kernel, by decide +kernel⟩, List.mem_of_getElem? (i := 18) (by decide +kernel), List.mem_of_getElem? (i := 620) (by decide +kernel), List.mem_of_getElem? (i := 621) (by decide +kernel)⟩
theorem lw_p15 : lw_okq (⟨"SumsToOne", "faultOfModulus", "(I)I"⟩, 15) := ⟨⟨by decide +kernel, by decide +kernel⟩, List.mem_of_getElem? (i := 18) (by decide +kernel), List.mem_of_getElem? (i := 643) (by decide +kernel), List.mem_of_getElem? (i := 644) (by decide +kernel)⟩
def lw_privs_1 : List (MethodName × Nat) := [(⟨"SumsToOne$Sieves", "removeAt", "(I)V"⟩, 2), (⟨"SumsToOne", "primesChanged", "()V"⟩, 15), (⟨"SumsToOne$Unit", "oneSide", "(LSumsToOne$Base;I)J"⟩, 2), (⟨"SumsToOne", "combine", "(IIII)I"⟩, 15), (⟨"SumsToOne", "hasPartner", "(LSumsToOne$Unit;)Z"⟩, 15), (⟨"SumsToOne$Split", "rawBelow", "(I)J"⟩, 3), (⟨"SumsToOne$Split", "rawAbove", "(I)J"⟩, 3), (⟨"SumsToOne$Split", "isLikeAnEarlierOne", "(I)Z"⟩, 3), (⟨"SumsToOne", "known", "()LSumsToOne$Answers;"⟩, 15), (⟨"SumsToOne$Answers", "tryGroupOf", "(LSumsToOne$Base;JJ)V"⟩, 7), (⟨"SumsToOne$Answers", "insert", "(JJI)V"⟩, 7), (⟨"SumsToOne$Answers", "placeFor", "(JJ)I"⟩, 7), (⟨"SumsToOne$Answers", "isAt", "(IJJ)Z"⟩, 7), (⟨"SumsToOne$Answers", "numberGroups", "()V"⟩, 7), (⟨"SumsToOne", "greatestHeightIn", "(LSumsToOne$Answers;I)I"⟩, 15), (⟨"SumsToOne", "faultOfModulus", "(I)I"⟩, 15)]
theorem lw_r1 : ∀ q ∈ lw_privs_1, lw_okq q := List.forall_mem_cons.mpr ⟨lw_p0, List.forall_mem_cons.mpr ⟨lw_p1, List.forall_mem_cons.mpr ⟨lw_p2, List.forall_mem_cons.mpr ⟨lw_p3, List.forall_mem_cons.mpr ⟨lw_p4, List.forall_mem_cons.mpr ⟨lw_p5, List.forall_mem_cons.mpr ⟨lw_p6, List.forall_mem_cons.mpr ⟨lw_p7, List.forall_mem_cons.mpr ⟨lw_p8, List.forall_mem_cons.mpr ⟨lw_p9, List.forall_mem_cons.mpr ⟨lw_p10, List.forall_mem_cons.mpr ⟨lw_p11, List.forall_mem_cons.mpr ⟨lw_p12, List.forall_mem_cons.mpr ⟨lw_p13, List.forall_mem_cons.mpr ⟨lw_p14, List.forall_mem_cons.mpr ⟨lw_p15, fun _ h => absurd h List.not_mem_nil⟩⟩⟩⟩⟩⟩⟩⟩⟩⟩⟩⟩⟩⟩⟩⟩
theorem lw_p16 : lw_okq (⟨"SumsToOne$Modulus", "note", "(I)V"⟩, 4) := ⟨⟨by decide +kernel, by decide +kernel⟩, List.mem_of_getElem? (i := 174) (by decide +kernel), List.mem_of_getElem? (i := 680) (by decide +kernel), List.mem_of_getElem? (i := 681) (by decide +kernel)⟩
theorem lw_p17 : lw_okq (⟨"SumsToOne$Sifter", "passingSigns", "([I)I"⟩, 3) := ⟨⟨by decide +kernel, by decide +kernel⟩, List.mem_of_getElem? (i := 165) (by decide +kernel), List.mem_of_getElem? (i := 715) (by decide +kernel), List.mem_of_getElem? (i := 716) (by decide +kernel)⟩
theorem lw_p18 : lw_okq (⟨"SumsToOne$Sifter", "isCaught", "([II)Z"⟩, 3) := ⟨⟨by decide +kernel, by decide +kernel⟩, List.mem_of_getElem? (i := 165) (by decide +kernel), List.mem_of_getElem? (i := 719) (by decide +kernel), List.mem_of_getElem? (i := 720) (by decide +kernel)⟩
theorem lw_p19 : lw_okq (⟨"SumsToOne$Reader", "scanFactor", "(LSumsToOne$Bytes;LSumsToOne$Base;)Z"⟩, 2) := ⟨⟨by decide +kernel, by decide +kernel⟩, List.mem_of_getElem? (i := 230) (by decide +kernel), List.mem_of_getElem? (i := 757) (by decide +kernel), List.mem_of_getElem? (i := 758) (by decide +kernel)⟩
theorem lw_p20 : lw_okq (⟨"SumsToOne$Reader", "scanNumber", "(LSumsToOne$Bytes;)I"⟩, 2) := ⟨⟨by decide +kernel, by decide +kernel⟩, List.mem_of_getElem? (i := 230) (by decide +kernel), List.mem_of_getElem? (i := 761) (by decide +kernel), List.mem_of_getElem? (i := 762) (by decide +kernel)⟩
theorem lw_p21 : lw_okq (⟨"SumsToOne$Reader", "scanPower", "(LSumsToOne$Bytes;I)Z"⟩, 2) := ⟨⟨by decide +kernel, by decide +kernel⟩, List.mem_of_getElem? (i := 230) (by decide +kernel), List.mem_of_getElem? (i := 766) (by decide +kernel), List.mem_of_getElem? (i := 767) (by decide +kernel)⟩
theorem lw_p22 : lw_okq (⟨"SumsToOne", "howManyPairs", "()I"⟩, 15) := ⟨⟨by decide +kernel, by decide +kernel⟩, List.mem_of_getElem? (i := 18) (by decide +kernel), List.mem_of_getElem? (i := 854) (by decide +kernel), List.mem_of_getElem? (i := 855) (by decide +kernel)⟩
theorem lw_p23 : lw_okq (⟨"SumsToOneModel", "placeOf", "(I)I"⟩, 34) := ⟨⟨by decide +kernel, by decide +kernel⟩, List.mem_of_getElem? (i := 858) (by decide +kernel), List.mem_of_getElem? (i := 977) (by decide +kernel), List.mem_of_getElem? (i := 978) (by decide +kernel)⟩
theorem lw_p24 : lw_okq (⟨"SumsToOneModel", "moves", "(II)V"⟩, 34) := ⟨⟨by decide +kernel, by decide +kernel⟩, List.mem_of_getElem? (i := 858) (by decide +kernel), List.mem_of_getElem? (i := 981) (by decide +kernel), List.mem_of_getElem? (i := 982) (by decide +kernel)⟩
theorem lw_p25 : lw_okq (⟨"SumsToOneModel", "forgets", "(I)I"⟩, 34) := ⟨⟨by decide +kernel, by decide +kernel⟩, List.mem_of_getElem? (i := 858) (by decide +kernel), List.mem_of_getElem? (i := 985) (by decide +kernel), List.mem_of_getElem? (i := 986) (by decide +kernel)⟩
theorem lw_p26 : lw_okq (⟨"SumsToOneModel", "isPrime", "(I)Z"⟩, 34) := ⟨⟨by decide +kernel, by decide +kernel⟩, List.mem_of_getElem? (i := 858) (by decide +kernel), List.mem_of_getElem? (i := 993) (by decide +kernel), List.mem_of_getElem? (i := 994) (by decide +kernel)⟩
theorem lw_p27 : lw_okq (⟨"SumsToOneModel", "looks", "(I)V"⟩, 34) := ⟨⟨by decide +kernel, by decide +kernel⟩, List.mem_of_getElem? (i := 858) (by decide +kernel), List.mem_of_getElem? (i := 1029) (by decide +kernel), List.mem_of_getElem? (i := 1030) (by decide +kernel)⟩
theorem lw_p28 : lw_okq (⟨"SumsToOneModel", "aboveOf", "([II)J"⟩, 34) := ⟨⟨by decide +kernel, by decide +kernel⟩, List.mem_of_getElem? (i := 858) (by decide +kernel), List.mem_of_getElem? (i := 1033) (by decide +kernel), List.mem_of_getElem? (i := 1034) (by decide +kernel)⟩
theorem lw_p29 : lw_okq (⟨"SumsToOneModel", "belowOf", "([I)J"⟩, 34) := ⟨⟨by decide +kernel, by decide +kernel⟩, List.mem_of_getElem? (i := 858) (by decide +kernel), List.mem_of_getElem? (i := 1037) (by decide +kernel), List.mem_of_getElem? (i := 1038) (by decide +kernel)⟩
theorem lw_p30 : lw_okq (⟨"SumsToOneModel", "heightOf", "([I)I"⟩, 34) := ⟨⟨by decide +kernel, by decide +kernel⟩, List.mem_of_getElem? (i := 858) (by decide +kernel), List.mem_of_getElem? (i := 1045) (by decide +kernel), List.mem_of_getElem? (i := 1046) (by decide +kernel)⟩
theorem lw_p31 : lw_okq (⟨"SumsToOneModel", "isInBox", "([I)Z"⟩, 34) := ⟨⟨by decide +kernel, by decide +kernel⟩, List.mem_of_getElem? (i := 858) (by decide +kernel), List.mem_of_getElem? (i := 1054) (by decide +kernel), List.mem_of_getElem? (i := 1055) (by decide +kernel)⟩
def lw_privs_2 : List (MethodName × Nat) := [(⟨"SumsToOne$Modulus", "note", "(I)V"⟩, 4), (⟨"SumsToOne$Sifter", "passingSigns", "([I)I"⟩, 3), (⟨"SumsToOne$Sifter", "isCaught", "([II)Z"⟩, 3), (⟨"SumsToOne$Reader", "scanFactor", "(LSumsToOne$Bytes;LSumsToOne$Base;)Z"⟩, 2), (⟨"SumsToOne$Reader", "scanNumber", "(LSumsToOne$Bytes;)I"⟩, 2), (⟨"SumsToOne$Reader", "scanPower", "(LSumsToOne$Bytes;I)Z"⟩, 2), (⟨"SumsToOne", "howManyPairs", "()I"⟩, 15), (⟨"SumsToOneModel", "placeOf", "(I)I"⟩, 34), (⟨"SumsToOneModel", "moves", "(II)V"⟩, 34), (⟨"SumsToOneModel", "forgets", "(I)I"⟩, 34), (⟨"SumsToOneModel", "isPrime", "(I)Z"⟩, 34), (⟨"SumsToOneModel", "looks", "(I)V"⟩, 34), (⟨"SumsToOneModel", "aboveOf", "([II)J"⟩, 34), (⟨"SumsToOneModel", "belowOf", "([I)J"⟩, 34), (⟨"SumsToOneModel", "heightOf", "([I)I"⟩, 34), (⟨"SumsToOneModel", "isInBox", "([I)Z"⟩, 34)]
theorem lw_r2 : ∀ q ∈ lw_privs_2, lw_okq q := List.forall_mem_cons.mpr ⟨lw_p16, List.forall_mem_cons.mpr ⟨lw_p17, List.forall_mem_cons.mpr ⟨lw_p18, List.forall_mem_cons.mpr ⟨lw_p19, List.forall_mem_cons.mpr ⟨lw_p20, List.forall_mem_cons.mpr ⟨lw_p21, List.forall_mem_cons.mpr ⟨lw_p22, List.forall_mem_cons.mpr ⟨lw_p23, List.forall_mem_cons.mpr ⟨lw_p24, List.forall_mem_cons.mpr ⟨lw_p25, List.forall_mem_cons.mpr ⟨lw_p26, List.forall_mem_cons.mpr ⟨lw_p27, List.forall_mem_cons.mpr ⟨lw_p28, List.forall_mem_cons.mpr ⟨lw_p29, List.forall_mem_cons.mpr ⟨lw_p30, List.forall_mem_cons.mpr ⟨lw_p31, fun _ h => absurd h List.not_mem_nil⟩⟩⟩⟩⟩⟩⟩⟩⟩⟩⟩⟩⟩⟩⟩⟩
theorem lw_p32 : lw_okq (⟨"SumsToOneModel", "joins", "(IIII)I"⟩, 34) := ⟨⟨by decide +kernel, by decide +kernel⟩, List.mem_of_getElem? (i := 858) (by decide +kernel), List.mem_of_getElem? (i := 1062) (by decide +kernel), List.mem_of_getElem? (i := 1063) (by decide +kernel)⟩
theorem lw_p33 : lw_okq (⟨"SumsToOneModel", "gets", "(I[II)V"⟩, 34) := ⟨⟨by decide +kernel, by decide +kernel⟩, List.mem_of_getElem? (i := 858) (by decide +kernel), List.mem_of_getElem? (i := 1066) (by decide +kernel), List.mem_of_getElem? (i := 1067) (by decide +kernel)⟩
theorem lw_p34 : lw_okq (⟨"SumsToOneModel", "hasMate", "()Z"⟩, 34) := ⟨⟨by decide +kernel, by decide +kernel⟩, List.mem_of_getElem? (i := 858) (by decide +kernel), List.mem_of_getElem? (i := 1078) (by decide +kernel), List.mem_of_getElem? (i := 1079) (by decide +kernel)⟩
theorem lw_p35 : lw_okq (⟨"SumsToOneModel", "hasForm", "(I)Z"⟩, 34) := ⟨⟨by decide +kernel, by decide +kernel⟩, List.mem_of_getElem? (i := 858) (by decide +kernel), List.mem_of_getElem? (i := 1087) (by decide +kernel), List.mem_of_getElem? (i := 1088) (by decide +kernel)⟩
theorem lw_p36 : lw_okq (⟨"SumsToOneModel", "layAnswers", "()V"⟩, 34) := ⟨⟨by decide +kernel, by decide +kernel⟩, List.mem_of_getElem? (i := 858) (by decide +kernel), List.mem_of_getElem? (i := 1099) (by decide +kernel), List.mem_of_getElem? (i := 1100) (by decide +kernel)⟩
theorem lw_p37 : lw_okq (⟨"SumsToOneModel", "looksFirst", "()V"⟩, 34) := ⟨⟨by decide +kernel, by decide +kernel⟩, List.mem_of_getElem? (i := 858) (by decide +kernel), List.mem_of_getElem? (i := 1103) (by decide +kernel), List.mem_of_getElem? (i := 1104) (by decide +kernel)⟩
theorem lw_p38 : lw_okq (⟨"SumsToOneModel", "isAnswer", "()Z"⟩, 34) := ⟨⟨by decide +kernel, by decide +kernel⟩, List.mem_of_getElem? (i := 858) (by decide +kernel), List.mem_of_getElem? (i := 1107) (by decide +kernel), List.mem_of_getElem? (i := 1108) (by decide +kernel)⟩
theorem lw_p39 : lw_okq (⟨"SumsToOneModel", "answerComes", "()V"⟩, 34) := ⟨⟨by decide +kernel, by decide +kernel⟩, List.mem_of_getElem? (i := 858) (by decide +kernel), List.mem_of_getElem? (i := 1111) (by decide +kernel), List.mem_of_getElem? (i := 1112) (by decide +kernel)⟩
theorem lw_p40 : lw_okq (⟨"SumsToOneModel", "looksOn", "()Z"⟩, 34) := ⟨⟨by decide +kernel, by decide +kernel⟩, List.mem_of_getElem? (i := 858) (by decide +kernel), List.mem_of_getElem? (i := 1115) (by decide +kernel), List.mem_of_getElem? (i := 1116) (by decide +kernel)⟩
theorem lw_p41 : lw_okq (⟨"SumsToOneModel", "looksAnswer", "(I)V"⟩, 34) := ⟨⟨by decide +kernel, by decide +kernel⟩, List.mem_of_getElem? (i := 858) (by decide +kernel), List.mem_of_getElem? (i := 1127) (by decide +kernel), List.mem_of_getElem? (i := 1128) (by decide +kernel)⟩
theorem lw_p42 : lw_okq (⟨"SumsToOneModel", "answerBy", "(JJ)I"⟩, 34) := ⟨⟨by decide +kernel, by decide +kernel⟩, List.mem_of_getElem? (i := 858) (by decide +kernel), List.mem_of_getElem? (i := 1135) (by decide +kernel), List.mem_of_getElem? (i := 1136) (by decide +kernel)⟩
theorem lw_p43 : lw_okq (⟨"SumsToOneModel", "layGroups", "()V"⟩, 34) := ⟨⟨by decide +kernel, by decide +kernel⟩, List.mem_of_getElem? (i := 858) (by decide +kernel), List.mem_of_getElem? (i := 1143) (by decide +kernel), List.mem_of_getElem? (i := 1144) (by decide +kernel)⟩
theorem lw_p44 : lw_okq (⟨"SumsToOneModel", "groupNumber", "(I)I"⟩, 34) := ⟨⟨by decide +kernel, by decide +kernel⟩, List.mem_of_getElem? (i := 858) (by decide +kernel), List.mem_of_getElem? (i := 1151) (by decide +kernel), List.mem_of_getElem? (i := 1152) (by decide +kernel)⟩
theorem lw_p45 : lw_okq (⟨"SumsToOneModel", "draw", "(I)I"⟩, 34) := ⟨⟨by decide +kernel, by decide +kernel⟩, List.mem_of_getElem? (i := 858) (by decide +kernel), List.mem_of_getElem? (i := 1163) (by decide +kernel), List.mem_of_getElem? (i := 1164) (by decide +kernel)⟩
theorem lw_p46 : lw_okq (⟨"SumsToOneModel", "reaches", "(I)I"⟩, 34) := ⟨⟨by decide +kernel, by decide +kernel⟩, List.mem_of_getElem? (i := 858) (by decide +kernel), List.mem_of_getElem? (i := 1193) (by decide +kernel), List.mem_of_getElem? (i := 1194) (by decide +kernel)⟩
theorem lw_p47 : lw_okq (⟨"SumsToOneModel", "layInverses", "(I)V"⟩, 34) := ⟨⟨by decide +kernel, by decide +kernel⟩, List.mem_of_getElem? (i := 858) (by decide +kernel), List.mem_of_getElem? (i := 1201) (by decide +kernel), List.mem_of_getElem? (i := 1202) (by decide +kernel)⟩
def lw_privs_3 : List (MethodName × Nat) := [(⟨"SumsToOneModel", "joins", "(IIII)I"⟩, 34), (⟨"SumsToOneModel", "gets", "(I[II)V"⟩, 34), (⟨"SumsToOneModel", "hasMate", "()Z"⟩, 34), (⟨"SumsToOneModel", "hasForm", "(I)Z"⟩, 34), (⟨"SumsToOneModel", "layAnswers", "()V"⟩, 34), (⟨"SumsToOneModel", "looksFirst", "()V"⟩, 34), (⟨"SumsToOneModel", "isAnswer", "()Z"⟩, 34), (⟨"SumsToOneModel", "answerComes", "()V"⟩, 34), (⟨"SumsToOneModel", "looksOn", "()Z"⟩, 34), (⟨"SumsToOneModel", "looksAnswer", "(I)V"⟩, 34), (⟨"SumsToOneModel", "answerBy", "(JJ)I"⟩, 34), (⟨"SumsToOneModel", "layGroups", "()V"⟩, 34), (⟨"SumsToOneModel", "groupNumber", "(I)I"⟩, 34), (⟨"SumsToOneModel", "draw", "(I)I"⟩, 34), (⟨"SumsToOneModel", "reaches", "(I)I"⟩, 34), (⟨"SumsToOneModel", "layInverses", "(I)V"⟩, 34)]
theorem lw_r3 : ∀ q ∈ lw_privs_3, lw_okq q := List.forall_mem_cons.mpr ⟨lw_p32, List.forall_mem_cons.mpr ⟨lw_p33, List.forall_mem_cons.mpr ⟨lw_p34, List.forall_mem_cons.mpr ⟨lw_p35, List.forall_mem_cons.mpr ⟨lw_p36, List.forall_mem_cons.mpr ⟨lw_p37, List.forall_mem_cons.mpr ⟨lw_p38, List.forall_mem_cons.mpr ⟨lw_p39, List.forall_mem_cons.mpr ⟨lw_p40, List.forall_mem_cons.mpr ⟨lw_p41, List.forall_mem_cons.mpr ⟨lw_p42, List.forall_mem_cons.mpr ⟨lw_p43, List.forall_mem_cons.mpr ⟨lw_p44, List.forall_mem_cons.mpr ⟨lw_p45, List.forall_mem_cons.mpr ⟨lw_p46, List.forall_mem_cons.mpr ⟨lw_p47, fun _ h => absurd h List.not_mem_nil⟩⟩⟩⟩⟩⟩⟩⟩⟩⟩⟩⟩⟩⟩⟩⟩
theorem lw_p48 : lw_okq (⟨"SumsToOneModel", "isPassing", "(I)Z"⟩, 34) := ⟨⟨by decide +kernel, by decide +kernel⟩, List.mem_of_getElem? (i := 858) (by decide +kernel), List.mem_of_getElem? (i := 1208) (by decide +kernel), List.mem_of_getElem? (i := 1209) (by decide +kernel)⟩
theorem lw_p49 : lw_okq (⟨"SumsToOneModel", "readUnit", "()Z"⟩, 34) := ⟨⟨by decide +kernel, by decide +kernel⟩, List.mem_of_getElem? (i := 858) (by decide +kernel), List.mem_of_getElem? (i := 1228) (by decide +kernel), List.mem_of_getElem? (i := 1229) (by decide +kernel)⟩
theorem lw_p50 : lw_okq (⟨"SumsToOneModel", "takes", "(I)Z"⟩, 34) := ⟨⟨by decide +kernel, by decide +kernel⟩, List.mem_of_getElem? (i := 858) (by decide +kernel), List.mem_of_getElem? (i := 1232) (by decide +kernel), List.mem_of_getElem? (i := 1233) (by decide +kernel)⟩
theorem lw_p51 : lw_okq (⟨"SumsToOneModel", "readFactor", "()Z"⟩, 34) := ⟨⟨by decide +kernel, by decide +kernel⟩, List.mem_of_getElem? (i := 858) (by decide +kernel), List.mem_of_getElem? (i := 1236) (by decide +kernel), List.mem_of_getElem? (i := 1237) (by decide +kernel)⟩
theorem lw_p52 : lw_okq (⟨"SumsToOneModel", "isHere", "(II)Z"⟩, 34) := ⟨⟨by decide +kernel, by decide +kernel⟩, List.mem_of_getElem? (i := 858) (by decide +kernel), List.mem_of_getElem? (i := 1240) (by decide +kernel), List.mem_of_getElem? (i := 1241) (by decide +kernel)⟩
theorem lw_p53 : lw_okq (⟨"SumsToOneModel", "writes", "(I)V"⟩, 34) := ⟨⟨by decide +kernel, by decide +kernel⟩, List.mem_of_getElem? (i := 858) (by decide +kernel), List.mem_of_getElem? (i := 1248) (by decide +kernel), List.mem_of_getElem? (i := 1249) (by decide +kernel)⟩
theorem lw_p54 : lw_okq (⟨"SumsToOneModel", "writesPower", "(IZ)V"⟩, 34) := ⟨⟨by decide +kernel, by decide +kernel⟩, List.mem_of_getElem? (i := 858) (by decide +kernel), List.mem_of_getElem? (i := 1252) (by decide +kernel), List.mem_of_getElem? (i := 1253) (by decide +kernel)⟩
def lw_privs_4 : List (MethodName × Nat) := [(⟨"SumsToOneModel", "isPassing", "(I)Z"⟩, 34), (⟨"SumsToOneModel", "readUnit", "()Z"⟩, 34), (⟨"SumsToOneModel", "takes", "(I)Z"⟩, 34), (⟨"SumsToOneModel", "readFactor", "()Z"⟩, 34), (⟨"SumsToOneModel", "isHere", "(II)Z"⟩, 34), (⟨"SumsToOneModel", "writes", "(I)V"⟩, 34), (⟨"SumsToOneModel", "writesPower", "(IZ)V"⟩, 34)]
theorem lw_r4 : ∀ q ∈ lw_privs_4, lw_okq q := List.forall_mem_cons.mpr ⟨lw_p48, List.forall_mem_cons.mpr ⟨lw_p49, List.forall_mem_cons.mpr ⟨lw_p50, List.forall_mem_cons.mpr ⟨lw_p51, List.forall_mem_cons.mpr ⟨lw_p52, List.forall_mem_cons.mpr ⟨lw_p53, List.forall_mem_cons.mpr ⟨lw_p54, fun _ h => absurd h List.not_mem_nil⟩⟩⟩⟩⟩⟩⟩
def lw_privs : List (MethodName × Nat) := lw_privs_1 ++ (lw_privs_2 ++ (lw_privs_3 ++ (lw_privs_4)))
def lw_tbl : List Cond := k2_sels lw_privs ++ tables_1
theorem lw_privs_ok : ∀ q ∈ lw_privs, lw_okq q := by
  show ∀ q ∈ lw_privs_1 ++ (lw_privs_2 ++ (lw_privs_3 ++ (lw_privs_4))), lw_okq q
  exact List.forall_mem_append.mpr ⟨lw_r1, List.forall_mem_append.mpr ⟨lw_r2, List.forall_mem_append.mpr ⟨lw_r3, lw_r4⟩⟩⟩
end
section
/-! ===== BEGIN words of one list among another's, by their places ===== -/
theorem goodIn_r {big : List Cond} (ws : List Cond) (ps : List Nat) (hp : ws = ps.filterMap (fun i => big[i]?)) (h : ws.all goodWord = true) : GoodIn big ws := by
  intro w hw
  have h1 := List.all_eq_true.mp h w hw
  rw [hp] at hw
  obtain ⟨i, -, hi⟩ := List.mem_filterMap.mp hw
  have hm : w ∈ big := by first | exact List.mem_of_getElem? hi | exact List.getElem?_mem hi
  exact ⟨hm, good_of_word h1⟩
theorem goodIn_app {big a b : List Cond} (ha : GoodIn big a) (hb : GoodIn big b) : GoodIn big (a ++ b) := fun w h => (List.mem_append.mp h).elim (ha w) (hb w)
theorem goodIn_ca {big a b : List Cond} {c : Cond} (ha : GoodIn big (c :: a)) (hb : GoodIn big b) : GoodIn big (c :: (a ++ b)) := fun w h => (List.mem_cons.mp h).elim (fun e => ha w (List.mem_cons.mpr (Or.inl e))) (fun h => (List.mem_append.mp h).elim (fun h => ha w (List.mem_cons.mpr (Or.inr h))) (hb w))
theorem goodIn_sub {big ws : List Cond} (hm : ∀ w ∈ ws, w ∈ big) (h : ws.all goodWord = true) : GoodIn big ws := fun w hw => ⟨hm w hw, good_of_word (List.all_eq_true.mp h w hw)⟩
/-! ===== END ===== -/
/-! ===== BEGIN printed: names, fields, word lists, decode rows ===== -/
def RX0 : String := "SumsToOne$Answers"
def TX0 : u_T := fun k => match k with
  | 0 => ("SumsToOne$Answers", "above", "[J", true)
  | 1 => ("SumsToOne$Answers", "below", "[J", true)
  | 2 => ("SumsToOne$Answers", "group", "[I", true)
  | 3 => ("SumsToOne$Answers", "newNumbers", "[I", true)
  | 4 => ("SumsToOne$Answers", "split", "LSumsToOne$Split;", true)
  | 5 => ("SumsToOne$Answers", "size", "I", false)
  | _ => ("SumsToOne$Answers", "groupCount", "I", false)
def tyX0 : Nat → FieldType := fun k => match k with
  | 0 => .array .long
  | 1 => .array .long
  | 2 => .array .int
  | 3 => .array .int
  | 4 => .object "SumsToOne$Split"
  | 5 => .int
  | _ => .int
abbrev wsX00 : List Cond := u_ws RX0 TX0 7
theorem nmX0 : ∀ a, a < 7 → ∀ b, b < 7 → a ≠ b → (TX0 a).2.1 ≠ (TX0 b).2.1 := by decide +kernel
theorem tyX0_ok : ∀ k, k < 7 → parseFieldDescriptor (TX0 k).2.2.1 = some (tyX0 k) := by decide +kernel
abbrev cX0_init : ByteArray := prog_2_method_1_code
def yX0_init : MethodName := ⟨RX0, "<init>", "()V"⟩
abbrev cX0_has : ByteArray := prog_2_method_2_code
def yX0_has : MethodName := ⟨RX0, "has", "(I)Z"⟩
abbrev cX0_told : ByteArray := prog_2_method_3_code
def yX0_told : MethodName := ⟨RX0, "told", "(II)J"⟩
abbrev cX0_fill : ByteArray := prog_2_method_4_code
def yX0_fill : MethodName := ⟨RX0, "fill", "(LSumsToOne$Base;)V"⟩
abbrev cX0_spread : ByteArray := prog_2_method_5_code
def yX0_spread : MethodName := ⟨RX0, "spread", "(LSumsToOne$Answers;LSumsToOne$Base;IJJ)V"⟩
abbrev cX0_tryGroupOf : ByteArray := prog_2_method_6_code
def yX0_tryGroupOf : MethodName := ⟨RX0, "tryGroupOf", "(LSumsToOne$Base;JJ)V"⟩
abbrev cX0_insert : ByteArray := prog_2_method_7_code
def yX0_insert : MethodName := ⟨RX0, "insert", "(JJI)V"⟩
abbrev cX0_placeFor : ByteArray := prog_2_method_8_code
def yX0_placeFor : MethodName := ⟨RX0, "placeFor", "(JJ)I"⟩
abbrev cX0_isAt : ByteArray := prog_2_method_9_code
def yX0_isAt : MethodName := ⟨RX0, "isAt", "(IJJ)Z"⟩
abbrev cX0_numberOf : ByteArray := prog_2_method_10_code
def yX0_numberOf : MethodName := ⟨RX0, "numberOf", "(LSumsToOne$Unit;LSumsToOne$Base;)I"⟩
abbrev cX0_numberGroups : ByteArray := prog_2_method_11_code
def yX0_numberGroups : MethodName := ⟨RX0, "numberGroups", "()V"⟩
abbrev cX0_sizeOfGroup : ByteArray := prog_2_method_12_code
def yX0_sizeOfGroup : MethodName := ⟨RX0, "sizeOfGroup", "(I)I"⟩
abbrev cX0_firstOfGroup : ByteArray := prog_2_method_13_code
def yX0_firstOfGroup : MethodName := ⟨RX0, "firstOfGroup", "(I)I"⟩
def RX1 : String := "SumsToOne$Base"
def TX1 : u_T := fun k => match k with
  | 0 => ("SumsToOne$Base", "primes", "[I", true)
  | 1 => ("SumsToOne$Base", "boxes", "[I", true)
  | _ => ("SumsToOne$Base", "size", "I", false)
def tyX1 : Nat → FieldType := fun k => match k with
  | 0 => .array .int
  | 1 => .array .int
  | _ => .int
abbrev wsX10 : List Cond := u_ws RX1 TX1 3
theorem nmX1 : ∀ a, a < 3 → ∀ b, b < 3 → a ≠ b → (TX1 a).2.1 ≠ (TX1 b).2.1 := by decide +kernel
theorem tyX1_ok : ∀ k, k < 3 → parseFieldDescriptor (TX1 k).2.2.1 = some (tyX1 k) := by decide +kernel
abbrev cX1_init : ByteArray := prog_3_method_1_code
def yX1_init : MethodName := ⟨RX1, "<init>", "()V"⟩
abbrev cX1_has : ByteArray := prog_3_method_2_code
def yX1_has : MethodName := ⟨RX1, "has", "(I)Z"⟩
abbrev cX1_placeOf : ByteArray := prog_3_method_3_code
def yX1_placeOf : MethodName := ⟨RX1, "placeOf", "(I)I"⟩
abbrev cX1_product : ByteArray := prog_3_method_4_code
def yX1_product : MethodName := ⟨RX1, "product", "()I"⟩
abbrev cX1_insert : ByteArray := prog_3_method_5_code
def yX1_insert : MethodName := ⟨RX1, "insert", "(I)I"⟩
abbrev cX1_removeAt : ByteArray := prog_3_method_6_code
def yX1_removeAt : MethodName := ⟨RX1, "removeAt", "(I)V"⟩
abbrev cX1_boxesHold : ByteArray := prog_3_method_7_code
def yX1_boxesHold : MethodName := ⟨RX1, "boxesHold", "(J)Z"⟩
abbrev cX1_copy : ByteArray := prog_3_method_8_code
def yX1_copy : MethodName := ⟨RX1, "copy", "(LSumsToOne$Base;)V"⟩
def RX2 : String := "SumsToOne$Bytes"
def TX2 : u_T := fun k => match k with
  | 0 => ("SumsToOne$Bytes", "row", "[I", true)
  | _ => ("SumsToOne$Bytes", "size", "I", false)
def tyX2 : Nat → FieldType := fun k => match k with
  | 0 => .array .int
  | _ => .int
abbrev wsX20 : List Cond := u_ws RX2 TX2 2
theorem nmX2 : ∀ a, a < 2 → ∀ b, b < 2 → a ≠ b → (TX2 a).2.1 ≠ (TX2 b).2.1 := by decide +kernel
theorem tyX2_ok : ∀ k, k < 2 → parseFieldDescriptor (TX2 k).2.2.1 = some (tyX2 k) := by decide +kernel
abbrev cX2_init : ByteArray := prog_4_method_1_code
def yX2_init : MethodName := ⟨RX2, "<init>", "(I)V"⟩
abbrev cX2_add : ByteArray := prog_4_method_2_code
def yX2_add : MethodName := ⟨RX2, "add", "(I)Z"⟩
abbrev cX2_at : ByteArray := prog_4_method_3_code
def yX2_at : MethodName := ⟨RX2, "at", "(I)I"⟩
abbrev cX2_clear : ByteArray := prog_4_method_4_code
def yX2_clear : MethodName := ⟨RX2, "clear", "()V"⟩
def RX3 : String := "SumsToOne$Desk"
def TX3 : u_T := fun k => match k with
  | 0 => ("SumsToOne$Desk", "base", "LSumsToOne$Base;", true)
  | 1 => ("SumsToOne$Desk", "shelves", "[LSumsToOne$Unit;", true)
  | _ => ("SumsToOne$Desk", "sieves", "LSumsToOne$Sieves;", true)
def tyX3 : Nat → FieldType := fun k => match k with
  | 0 => .object "SumsToOne$Base"
  | 1 => .array (.object "SumsToOne$Unit")
  | _ => .object "SumsToOne$Sieves"
abbrev wsX30 : List Cond := u_ws RX3 TX3 3
theorem nmX3 : ∀ a, a < 3 → ∀ b, b < 3 → a ≠ b → (TX3 a).2.1 ≠ (TX3 b).2.1 := by decide +kernel
theorem tyX3_ok : ∀ k, k < 3 → parseFieldDescriptor (TX3 k).2.2.1 = some (tyX3 k) := by decide +kernel
abbrev cX3_init : ByteArray := prog_5_method_1_code
def yX3_init : MethodName := ⟨RX3, "<init>", "()V"⟩
abbrev cX3_addPrime : ByteArray := prog_5_method_2_code
def yX3_addPrime : MethodName := ⟨RX3, "addPrime", "(I)V"⟩
abbrev cX3_removePrime : ByteArray := prog_5_method_3_code
def yX3_removePrime : MethodName := ⟨RX3, "removePrime", "(I)V"⟩
abbrev cX3_copy : ByteArray := prog_5_method_4_code
def yX3_copy : MethodName := ⟨RX3, "copy", "(LSumsToOne$Desk;)V"⟩
def RX4 : String := "SumsToOne$Lists"
def TX4 : u_T := fun k => match k with
  | 0 => ("SumsToOne$Lists", "rows", "[[J", true)
  | _ => ("SumsToOne$Lists", "sizes", "[I", true)
def tyX4 : Nat → FieldType := fun k => match k with
  | 0 => .array (.array .long)
  | _ => .array .int
abbrev wsX40 : List Cond := u_ws RX4 TX4 2
theorem nmX4 : ∀ a, a < 2 → ∀ b, b < 2 → a ≠ b → (TX4 a).2.1 ≠ (TX4 b).2.1 := by decide +kernel
theorem tyX4_ok : ∀ k, k < 2 → parseFieldDescriptor (TX4 k).2.2.1 = some (tyX4 k) := by decide +kernel
abbrev cX4_init : ByteArray := prog_6_method_1_code
def yX4_init : MethodName := ⟨RX4, "<init>", "()V"⟩
abbrev cX4_start : ByteArray := prog_6_method_2_code
def yX4_start : MethodName := ⟨RX4, "start", "(II)V"⟩
abbrev cX4_isMissing : ByteArray := prog_6_method_3_code
def yX4_isMissing : MethodName := ⟨RX4, "isMissing", "(I)Z"⟩
abbrev cX4_has : ByteArray := prog_6_method_4_code
def yX4_has : MethodName := ⟨RX4, "has", "(II)Z"⟩
abbrev cX4_howManyThere : ByteArray := prog_6_method_5_code
def yX4_howManyThere : MethodName := ⟨RX4, "howManyThere", "()I"⟩
def RX5 : String := "SumsToOne$Modulus"
def TX5 : u_T := fun k => match k with
  | 0 => ("SumsToOne$Modulus", "isReached", "[Z", true)
  | 1 => ("SumsToOne$Modulus", "reached", "[I", true)
  | 2 => ("SumsToOne$Modulus", "q", "I", false)
  | _ => ("SumsToOne$Modulus", "size", "I", false)
def tyX5 : Nat → FieldType := fun k => match k with
  | 0 => .array .boolean
  | 1 => .array .int
  | 2 => .int
  | _ => .int
abbrev wsX50 : List Cond := u_ws RX5 TX5 4
theorem nmX5 : ∀ a, a < 4 → ∀ b, b < 4 → a ≠ b → (TX5 a).2.1 ≠ (TX5 b).2.1 := by decide +kernel
theorem tyX5_ok : ∀ k, k < 4 → parseFieldDescriptor (TX5 k).2.2.1 = some (tyX5 k) := by decide +kernel
abbrev cX5_init : ByteArray := prog_7_method_1_code
def yX5_init : MethodName := ⟨RX5, "<init>", "()V"⟩
abbrev cX5_fill : ByteArray := prog_7_method_2_code
def yX5_fill : MethodName := ⟨RX5, "fill", "(LSumsToOne$Base;I)V"⟩
abbrev cX5_note : ByteArray := prog_7_method_3_code
def yX5_note : MethodName := ⟨RX5, "note", "(I)V"⟩
abbrev cX5_residueOf : ByteArray := prog_7_method_4_code
def yX5_residueOf : MethodName := ⟨RX5, "residueOf", "(LSumsToOne$Unit;LSumsToOne$Base;)I"⟩
abbrev cX5_powerOfPrime : ByteArray := prog_7_method_5_code
def yX5_powerOfPrime : MethodName := ⟨RX5, "powerOfPrime", "(II)I"⟩
abbrev cX5_letsPass : ByteArray := prog_7_method_6_code
def yX5_letsPass : MethodName := ⟨RX5, "letsPass", "(I)Z"⟩
def RX6 : String := "SumsToOne$Reader"
def TX6 : u_T := fun k => match k with
  | 0 => ("SumsToOne$Reader", "unit", "LSumsToOne$Unit;", true)
  | _ => ("SumsToOne$Reader", "place", "I", false)
def tyX6 : Nat → FieldType := fun k => match k with
  | 0 => .object "SumsToOne$Unit"
  | _ => .int
abbrev wsX60 : List Cond := u_ws RX6 TX6 2
theorem nmX6 : ∀ a, a < 2 → ∀ b, b < 2 → a ≠ b → (TX6 a).2.1 ≠ (TX6 b).2.1 := by decide +kernel
theorem tyX6_ok : ∀ k, k < 2 → parseFieldDescriptor (TX6 k).2.2.1 = some (tyX6 k) := by decide +kernel
abbrev cX6_init : ByteArray := prog_8_method_1_code
def yX6_init : MethodName := ⟨RX6, "<init>", "()V"⟩
abbrev cX6_scan : ByteArray := prog_8_method_2_code
def yX6_scan : MethodName := ⟨RX6, "scan", "(LSumsToOne$Bytes;LSumsToOne$Base;)Z"⟩
abbrev cX6_scanFactor : ByteArray := prog_8_method_3_code
def yX6_scanFactor : MethodName := ⟨RX6, "scanFactor", "(LSumsToOne$Bytes;LSumsToOne$Base;)Z"⟩
abbrev cX6_scanNumber : ByteArray := prog_8_method_4_code
def yX6_scanNumber : MethodName := ⟨RX6, "scanNumber", "(LSumsToOne$Bytes;)I"⟩
abbrev cX6_scanPower : ByteArray := prog_8_method_5_code
def yX6_scanPower : MethodName := ⟨RX6, "scanPower", "(LSumsToOne$Bytes;I)Z"⟩
abbrev cX6_isFigure : ByteArray := prog_8_method_6_code
def yX6_isFigure : MethodName := ⟨RX6, "isFigure", "(I)Z"⟩
def RX7 : String := "SumsToOne$Sieves"
def TX7 : u_T := fun k => match k with
  | 0 => ("SumsToOne$Sieves", "row", "[I", true)
  | _ => ("SumsToOne$Sieves", "size", "I", false)
def tyX7 : Nat → FieldType := fun k => match k with
  | 0 => .array .int
  | _ => .int
abbrev wsX70 : List Cond := u_ws RX7 TX7 2
theorem nmX7 : ∀ a, a < 2 → ∀ b, b < 2 → a ≠ b → (TX7 a).2.1 ≠ (TX7 b).2.1 := by decide +kernel
theorem tyX7_ok : ∀ k, k < 2 → parseFieldDescriptor (TX7 k).2.2.1 = some (tyX7 k) := by decide +kernel
abbrev cX7_init : ByteArray := prog_9_method_1_code
def yX7_init : MethodName := ⟨RX7, "<init>", "()V"⟩
abbrev cX7_ask : ByteArray := prog_9_method_2_code
def yX7_ask : MethodName := ⟨RX7, "ask", "(I)V"⟩
abbrev cX7_remove : ByteArray := prog_9_method_3_code
def yX7_remove : MethodName := ⟨RX7, "remove", "(I)Z"⟩
abbrev cX7_removeAt : ByteArray := prog_9_method_4_code
def yX7_removeAt : MethodName := ⟨RX7, "removeAt", "(I)V"⟩
abbrev cX7_copy : ByteArray := prog_9_method_5_code
def yX7_copy : MethodName := ⟨RX7, "copy", "(LSumsToOne$Sieves;)V"⟩
def RX8 : String := "SumsToOne$Sifter"
def TX8 : u_T := fun k => match k with
  | 0 => ("SumsToOne$Sifter", "moduli", "[LSumsToOne$Modulus;", true)
  | 1 => ("SumsToOne$Sifter", "products", "[[I", true)
  | _ => ("SumsToOne$Sifter", "used", "I", false)
def tyX8 : Nat → FieldType := fun k => match k with
  | 0 => .array (.object "SumsToOne$Modulus")
  | 1 => .array (.array .int)
  | _ => .int
abbrev wsX80 : List Cond := u_ws RX8 TX8 3
theorem nmX8 : ∀ a, a < 3 → ∀ b, b < 3 → a ≠ b → (TX8 a).2.1 ≠ (TX8 b).2.1 := by decide +kernel
theorem tyX8_ok : ∀ k, k < 3 → parseFieldDescriptor (TX8 k).2.2.1 = some (tyX8 k) := by decide +kernel
abbrev cX8_init : ByteArray := prog_10_method_1_code
def yX8_init : MethodName := ⟨RX8, "<init>", "()V"⟩
abbrev cX8_sift : ByteArray := prog_10_method_2_code
def yX8_sift : MethodName := ⟨RX8, "sift", "(LSumsToOne$Base;LSumsToOne$Sieves;)I"⟩
abbrev cX8_passing : ByteArray := prog_10_method_3_code
def yX8_passing : MethodName := ⟨RX8, "passing", "(LSumsToOne$Sifter;LSumsToOne$Base;I)I"⟩
abbrev cX8_passingSigns : ByteArray := prog_10_method_4_code
def yX8_passingSigns : MethodName := ⟨RX8, "passingSigns", "([I)I"⟩
abbrev cX8_isCaught : ByteArray := prog_10_method_5_code
def yX8_isCaught : MethodName := ⟨RX8, "isCaught", "([II)Z"⟩
def RX9 : String := "SumsToOne$Split"
def TX9 : u_T := fun k => match k with
  | 0 => ("SumsToOne$Split", "a", "J", false)
  | 1 => ("SumsToOne$Split", "b", "J", false)
  | _ => ("SumsToOne$Split", "c", "J", false)
def tyX9 : Nat → FieldType := fun k => match k with
  | 0 => .long
  | 1 => .long
  | _ => .long
abbrev wsX90 : List Cond := u_ws RX9 TX9 3
theorem nmX9 : ∀ a, a < 3 → ∀ b, b < 3 → a ≠ b → (TX9 a).2.1 ≠ (TX9 b).2.1 := by decide +kernel
theorem tyX9_ok : ∀ k, k < 3 → parseFieldDescriptor (TX9 k).2.2.1 = some (tyX9 k) := by decide +kernel
abbrev cX9_init : ByteArray := prog_11_method_1_code
def yX9_init : MethodName := ⟨RX9, "<init>", "()V"⟩
abbrev cX9_set : ByteArray := prog_11_method_2_code
def yX9_set : MethodName := ⟨RX9, "set", "(JJ)V"⟩
abbrev cX9_formAbove : ByteArray := prog_11_method_3_code
def yX9_formAbove : MethodName := ⟨RX9, "formAbove", "(I)J"⟩
abbrev cX9_formBelow : ByteArray := prog_11_method_4_code
def yX9_formBelow : MethodName := ⟨RX9, "formBelow", "(I)J"⟩
abbrev cX9_rawAbove : ByteArray := prog_11_method_5_code
def yX9_rawAbove : MethodName := ⟨RX9, "rawAbove", "(I)J"⟩
abbrev cX9_rawBelow : ByteArray := prog_11_method_6_code
def yX9_rawBelow : MethodName := ⟨RX9, "rawBelow", "(I)J"⟩
abbrev cX9_unlikeForms : ByteArray := prog_11_method_7_code
def yX9_unlikeForms : MethodName := ⟨RX9, "unlikeForms", "()I"⟩
abbrev cX9_isLikeAnEarlierOne : ByteArray := prog_11_method_8_code
def yX9_isLikeAnEarlierOne : MethodName := ⟨RX9, "isLikeAnEarlierOne", "(I)Z"⟩
def RX10 : String := "SumsToOne$Unit"
def TX10 : u_T := fun k => match k with
  | 0 => ("SumsToOne$Unit", "powers", "[I", true)
  | _ => ("SumsToOne$Unit", "sign", "I", false)
def tyX10 : Nat → FieldType := fun k => match k with
  | 0 => .array .int
  | _ => .int
abbrev wsX100 : List Cond := u_ws RX10 TX10 2
theorem nmX10 : ∀ a, a < 2 → ∀ b, b < 2 → a ≠ b → (TX10 a).2.1 ≠ (TX10 b).2.1 := by decide +kernel
theorem tyX10_ok : ∀ k, k < 2 → parseFieldDescriptor (TX10 k).2.2.1 = some (tyX10 k) := by decide +kernel
abbrev cX10_init : ByteArray := prog_12_method_1_code
def yX10_init : MethodName := ⟨RX10, "<init>", "()V"⟩
abbrev cX10_setOne : ByteArray := prog_12_method_2_code
def yX10_setOne : MethodName := ⟨RX10, "setOne", "()V"⟩
abbrev cX10_copy : ByteArray := prog_12_method_3_code
def yX10_copy : MethodName := ⟨RX10, "copy", "(LSumsToOne$Unit;)V"⟩
abbrev cX10_insertPower : ByteArray := prog_12_method_4_code
def yX10_insertPower : MethodName := ⟨RX10, "insertPower", "(I)V"⟩
abbrev cX10_removePower : ByteArray := prog_12_method_5_code
def yX10_removePower : MethodName := ⟨RX10, "removePower", "(I)V"⟩
abbrev cX10_above : ByteArray := prog_12_method_6_code
def yX10_above : MethodName := ⟨RX10, "above", "(LSumsToOne$Base;)J"⟩
abbrev cX10_below : ByteArray := prog_12_method_7_code
def yX10_below : MethodName := ⟨RX10, "below", "(LSumsToOne$Base;)J"⟩
abbrev cX10_oneSide : ByteArray := prog_12_method_8_code
def yX10_oneSide : MethodName := ⟨RX10, "oneSide", "(LSumsToOne$Base;I)J"⟩
abbrev cX10_greatestPower : ByteArray := prog_12_method_9_code
def yX10_greatestPower : MethodName := ⟨RX10, "greatestPower", "()I"⟩
abbrev cX10_isInRange : ByteArray := prog_12_method_10_code
def yX10_isInRange : MethodName := ⟨RX10, "isInRange", "()Z"⟩
abbrev cX10_isWithin : ByteArray := prog_12_method_11_code
def yX10_isWithin : MethodName := ⟨RX10, "isWithin", "(LSumsToOne$Base;)Z"⟩
abbrev cX10_setProduct : ByteArray := prog_12_method_12_code
def yX10_setProduct : MethodName := ⟨RX10, "setProduct", "(LSumsToOne$Unit;LSumsToOne$Unit;I)V"⟩
abbrev cX10_setFraction : ByteArray := prog_12_method_13_code
def yX10_setFraction : MethodName := ⟨RX10, "setFraction", "(LSumsToOne$Base;JJ)Z"⟩
abbrev cX10_spell : ByteArray := prog_12_method_14_code
def yX10_spell : MethodName := ⟨RX10, "spell", "(LSumsToOne$Base;LSumsToOne$Bytes;)V"⟩
abbrev cX10_spellFactor : ByteArray := prog_12_method_15_code
def yX10_spellFactor : MethodName := ⟨RX10, "spellFactor", "(IILSumsToOne$Bytes;)V"⟩
def RX11 : String := "SumsToOne"
def TX11 : u_T := fun k => match k with
  | 0 => ("SumsToOne", "now", "LSumsToOne$Desk;", true)
  | 1 => ("SumsToOne", "kept", "LSumsToOne$Desk;", true)
  | 2 => ("SumsToOne", "found", "LSumsToOne$Answers;", true)
  | 3 => ("SumsToOne", "sifter", "LSumsToOne$Sifter;", true)
  | 4 => ("SumsToOne", "modulus", "LSumsToOne$Modulus;", true)
  | 5 => ("SumsToOne", "work", "LSumsToOne$Unit;", true)
  | 6 => ("SumsToOne", "split", "LSumsToOne$Split;", true)
  | 7 => ("SumsToOne", "tape", "LSumsToOne$Bytes;", true)
  | 8 => ("SumsToOne", "spelling", "LSumsToOne$Bytes;", true)
  | 9 => ("SumsToOne", "reader", "LSumsToOne$Reader;", true)
  | 10 => ("SumsToOne", "lists", "LSumsToOne$Lists;", true)
  | 11 => ("SumsToOne", "hasImage", "Z", false)
  | 12 => ("SumsToOne", "answersKnown", "Z", false)
  | 13 => ("SumsToOne", "leftKnown", "Z", false)
  | _ => ("SumsToOne", "leftLast", "I", false)
def tyX11 : Nat → FieldType := fun k => match k with
  | 0 => .object "SumsToOne$Desk"
  | 1 => .object "SumsToOne$Desk"
  | 2 => .object "SumsToOne$Answers"
  | 3 => .object "SumsToOne$Sifter"
  | 4 => .object "SumsToOne$Modulus"
  | 5 => .object "SumsToOne$Unit"
  | 6 => .object "SumsToOne$Split"
  | 7 => .object "SumsToOne$Bytes"
  | 8 => .object "SumsToOne$Bytes"
  | 9 => .object "SumsToOne$Reader"
  | 10 => .object "SumsToOne$Lists"
  | 11 => .boolean
  | 12 => .boolean
  | 13 => .boolean
  | _ => .int
abbrev wsX110 : List Cond := u_ws RX11 TX11 15
theorem nmX11 : ∀ a, a < 15 → ∀ b, b < 15 → a ≠ b → (TX11 a).2.1 ≠ (TX11 b).2.1 := by decide +kernel
theorem tyX11_ok : ∀ k, k < 15 → parseFieldDescriptor (TX11 k).2.2.1 = some (tyX11 k) := by decide +kernel
abbrev cX11_init : ByteArray := prog_1_method_1_code
def yX11_init : MethodName := ⟨RX11, "<init>", "()V"⟩
abbrev cX11_prime : ByteArray := prog_1_method_2_code
def yX11_prime : MethodName := ⟨RX11, "prime", "(I)I"⟩
abbrev cX11_drop : ByteArray := prog_1_method_3_code
def yX11_drop : MethodName := ⟨RX11, "drop", "(I)I"⟩
abbrev cX11_primeOf : ByteArray := prog_1_method_4_code
def yX11_primeOf : MethodName := ⟨RX11, "primeOf", "(I)I"⟩
abbrev cX11_box : ByteArray := prog_1_method_5_code
def yX11_box : MethodName := ⟨RX11, "box", "(II)I"⟩
abbrev cX11_boxOf : ByteArray := prog_1_method_6_code
def yX11_boxOf : MethodName := ⟨RX11, "boxOf", "(I)I"⟩
abbrev cX11_put : ByteArray := prog_1_method_7_code
def yX11_put : MethodName := ⟨RX11, "put", "(III)I"⟩
abbrev cX11_sign : ByteArray := prog_1_method_8_code
def yX11_sign : MethodName := ⟨RX11, "sign", "(II)I"⟩
abbrev cX11_powerOf : ByteArray := prog_1_method_9_code
def yX11_powerOf : MethodName := ⟨RX11, "powerOf", "(II)I"⟩
abbrev cX11_value : ByteArray := prog_1_method_10_code
def yX11_value : MethodName := ⟨RX11, "value", "(II)J"⟩
abbrev cX11_height : ByteArray := prog_1_method_11_code
def yX11_height : MethodName := ⟨RX11, "height", "(I)I"⟩
abbrev cX11_isIn : ByteArray := prog_1_method_12_code
def yX11_isIn : MethodName := ⟨RX11, "isIn", "(I)I"⟩
abbrev cX11_times : ByteArray := prog_1_method_13_code
def yX11_times : MethodName := ⟨RX11, "times", "(III)I"⟩
abbrev cX11_over : ByteArray := prog_1_method_14_code
def yX11_over : MethodName := ⟨RX11, "over", "(III)I"⟩
abbrev cX11_partner : ByteArray := prog_1_method_15_code
def yX11_partner : MethodName := ⟨RX11, "partner", "(II)I"⟩
abbrev cX11_form : ByteArray := prog_1_method_16_code
def yX11_form : MethodName := ⟨RX11, "form", "(III)I"⟩
abbrev cX11_forms : ByteArray := prog_1_method_17_code
def yX11_forms : MethodName := ⟨RX11, "forms", "(I)I"⟩
abbrev cX11_answers : ByteArray := prog_1_method_18_code
def yX11_answers : MethodName := ⟨RX11, "answers", "()I"⟩
abbrev cX11_answer : ByteArray := prog_1_method_19_code
def yX11_answer : MethodName := ⟨RX11, "answer", "(II)J"⟩
abbrev cX11_take : ByteArray := prog_1_method_20_code
def yX11_take : MethodName := ⟨RX11, "take", "(II)I"⟩
abbrev cX11_which : ByteArray := prog_1_method_21_code
def yX11_which : MethodName := ⟨RX11, "which", "(I)I"⟩
abbrev cX11_groups : ByteArray := prog_1_method_22_code
def yX11_groups : MethodName := ⟨RX11, "groups", "()I"⟩
abbrev cX11_groupOf : ByteArray := prog_1_method_23_code
def yX11_groupOf : MethodName := ⟨RX11, "groupOf", "(I)I"⟩
abbrev cX11_group : ByteArray := prog_1_method_24_code
def yX11_group : MethodName := ⟨RX11, "group", "(II)I"⟩
abbrev cX11_lots : ByteArray := prog_1_method_25_code
def yX11_lots : MethodName := ⟨RX11, "lots", "(II)I"⟩
abbrev cX11_sieve : ByteArray := prog_1_method_26_code
def yX11_sieve : MethodName := ⟨RX11, "sieve", "(I)I"⟩
abbrev cX11_sieveOf : ByteArray := prog_1_method_27_code
def yX11_sieveOf : MethodName := ⟨RX11, "sieveOf", "(I)I"⟩
abbrev cX11_forget : ByteArray := prog_1_method_28_code
def yX11_forget : MethodName := ⟨RX11, "forget", "(I)I"⟩
abbrev cX11_order : ByteArray := prog_1_method_29_code
def yX11_order : MethodName := ⟨RX11, "order", "(II)I"⟩
abbrev cX11_reach : ByteArray := prog_1_method_30_code
def yX11_reach : MethodName := ⟨RX11, "reach", "(I)I"⟩
abbrev cX11_passes : ByteArray := prog_1_method_31_code
def yX11_passes : MethodName := ⟨RX11, "passes", "(II)I"⟩
abbrev cX11_left : ByteArray := prog_1_method_32_code
def yX11_left : MethodName := ⟨RX11, "left", "()I"⟩
abbrev cX11_feed : ByteArray := prog_1_method_33_code
def yX11_feed : MethodName := ⟨RX11, "feed", "(I)I"⟩
abbrev cX11_wipe : ByteArray := prog_1_method_34_code
def yX11_wipe : MethodName := ⟨RX11, "wipe", "()I"⟩
abbrev cX11_read : ByteArray := prog_1_method_35_code
def yX11_read : MethodName := ⟨RX11, "read", "(I)I"⟩
abbrev cX11_spelled : ByteArray := prog_1_method_36_code
def yX11_spelled : MethodName := ⟨RX11, "spelled", "(II)I"⟩
abbrev cX11_list : ByteArray := prog_1_method_37_code
def yX11_list : MethodName := ⟨RX11, "list", "(II)I"⟩
abbrev cX11_lay : ByteArray := prog_1_method_38_code
def yX11_lay : MethodName := ⟨RX11, "lay", "(IIJ)I"⟩
abbrev cX11_get : ByteArray := prog_1_method_39_code
def yX11_get : MethodName := ⟨RX11, "get", "(II)J"⟩
abbrev cX11_film : ByteArray := prog_1_method_40_code
def yX11_film : MethodName := ⟨RX11, "film", "(II)I"⟩
abbrev cX11_judge : ByteArray := prog_1_method_41_code
def yX11_judge : MethodName := ⟨RX11, "judge", "(II)I"⟩
abbrev cX11_image : ByteArray := prog_1_method_42_code
def yX11_image : MethodName := ⟨RX11, "image", "()I"⟩
abbrev cX11_undo : ByteArray := prog_1_method_43_code
def yX11_undo : MethodName := ⟨RX11, "undo", "()I"⟩
abbrev cX11_count : ByteArray := prog_1_method_44_code
def yX11_count : MethodName := ⟨RX11, "count", "(I)I"⟩
abbrev cX11_isShelf : ByteArray := prog_1_method_45_code
def yX11_isShelf : MethodName := ⟨RX11, "isShelf", "(I)Z"⟩
abbrev cX11_isPart : ByteArray := prog_1_method_46_code
def yX11_isPart : MethodName := ⟨RX11, "isPart", "(I)Z"⟩
abbrev cX11_isList : ByteArray := prog_1_method_47_code
def yX11_isList : MethodName := ⟨RX11, "isList", "(I)Z"⟩
abbrev cX11_isPrimeWithin : ByteArray := prog_1_method_48_code
def yX11_isPrimeWithin : MethodName := ⟨RX11, "isPrimeWithin", "(III)Z"⟩
abbrev cX11_nextSeed : ByteArray := prog_1_method_49_code
def yX11_nextSeed : MethodName := ⟨RX11, "nextSeed", "(I)I"⟩
abbrev cX11_draw : ByteArray := prog_1_method_50_code
def yX11_draw : MethodName := ⟨RX11, "draw", "(II)I"⟩
abbrev cX11_orderModulo : ByteArray := prog_1_method_51_code
def yX11_orderModulo : MethodName := ⟨RX11, "orderModulo", "(II)I"⟩
abbrev cX11_primesChanged : ByteArray := prog_1_method_52_code
def yX11_primesChanged : MethodName := ⟨RX11, "primesChanged", "()V"⟩
abbrev cX11_known : ByteArray := prog_1_method_53_code
def yX11_known : MethodName := ⟨RX11, "known", "()LSumsToOne$Answers;"⟩
abbrev cX11_combine : ByteArray := prog_1_method_54_code
def yX11_combine : MethodName := ⟨RX11, "combine", "(IIII)I"⟩
abbrev cX11_hasPartner : ByteArray := prog_1_method_55_code
def yX11_hasPartner : MethodName := ⟨RX11, "hasPartner", "(LSumsToOne$Unit;)Z"⟩
abbrev cX11_howManyPairs : ByteArray := prog_1_method_56_code
def yX11_howManyPairs : MethodName := ⟨RX11, "howManyPairs", "()I"⟩
abbrev cX11_greatestHeightIn : ByteArray := prog_1_method_57_code
def yX11_greatestHeightIn : MethodName := ⟨RX11, "greatestHeightIn", "(LSumsToOne$Answers;I)I"⟩
abbrev cX11_faultOfModulus : ByteArray := prog_1_method_58_code
def yX11_faultOfModulus : MethodName := ⟨RX11, "faultOfModulus", "(I)I"⟩
def RX12 : String := "SumsToOneModel"
def TX12 : u_T := fun k => match k with
  | 0 => ("SumsToOneModel", "primes", "I", false)
  | 1 => ("SumsToOneModel", "prime", "[I", true)
  | 2 => ("SumsToOneModel", "box", "[I", true)
  | 3 => ("SumsToOneModel", "power", "[I", true)
  | 4 => ("SumsToOneModel", "sign", "[I", true)
  | 5 => ("SumsToOneModel", "sieves", "I", false)
  | 6 => ("SumsToOneModel", "sieve", "[I", true)
  | 7 => ("SumsToOneModel", "tape", "[I", true)
  | 8 => ("SumsToOneModel", "taped", "I", false)
  | 9 => ("SumsToOneModel", "size", "[I", true)
  | 10 => ("SumsToOneModel", "cell", "[J", true)
  | 11 => ("SumsToOneModel", "own", "[I", true)
  | 12 => ("SumsToOneModel", "mate", "[I", true)
  | 13 => ("SumsToOneModel", "shape", "[I", true)
  | 14 => ("SumsToOneModel", "ownSign", "I", false)
  | 15 => ("SumsToOneModel", "mateSign", "I", false)
  | 16 => ("SumsToOneModel", "shapeSign", "I", false)
  | 17 => ("SumsToOneModel", "formAbove", "[J", true)
  | 18 => ("SumsToOneModel", "formBelow", "[J", true)
  | 19 => ("SumsToOneModel", "answers", "I", false)
  | 20 => ("SumsToOneModel", "above", "[J", true)
  | 21 => ("SumsToOneModel", "below", "[J", true)
  | 22 => ("SumsToOneModel", "answerPower", "[I", true)
  | 23 => ("SumsToOneModel", "answerSign", "[I", true)
  | 24 => ("SumsToOneModel", "firstOf", "[I", true)
  | 25 => ("SumsToOneModel", "drawn", "I", false)
  | 26 => ("SumsToOneModel", "isReached", "[Z", true)
  | 27 => ("SumsToOneModel", "divides", "[I", true)
  | 28 => ("SumsToOneModel", "passed", "[Z", true)
  | 29 => ("SumsToOneModel", "at", "I", false)
  | 30 => ("SumsToOneModel", "paper", "[I", true)
  | 31 => ("SumsToOneModel", "papers", "I", false)
  | 32 => ("SumsToOneModel", "hasImage", "Z", false)
  | _ => ("SumsToOneModel", "imaged", "[I", true)
def tyX12 : Nat → FieldType := fun k => match k with
  | 0 => .int
  | 1 => .array .int
  | 2 => .array .int
  | 3 => .array .int
  | 4 => .array .int
  | 5 => .int
  | 6 => .array .int
  | 7 => .array .int
  | 8 => .int
  | 9 => .array .int
  | 10 => .array .long
  | 11 => .array .int
  | 12 => .array .int
  | 13 => .array .int
  | 14 => .int
  | 15 => .int
  | 16 => .int
  | 17 => .array .long
  | 18 => .array .long
  | 19 => .int
  | 20 => .array .long
  | 21 => .array .long
  | 22 => .array .int
  | 23 => .array .int
  | 24 => .array .int
  | 25 => .int
  | 26 => .array .boolean
  | 27 => .array .int
  | 28 => .array .boolean
  | 29 => .int
  | 30 => .array .int
  | 31 => .int
  | 32 => .boolean
  | _ => .array .int
abbrev wsX120 : List Cond := u_ws RX12 TX12 34
theorem nmX12 : ∀ a, a < 34 → ∀ b, b < 34 → a ≠ b → (TX12 a).2.1 ≠ (TX12 b).2.1 := by decide +kernel
theorem tyX12_ok : ∀ k, k < 34 → parseFieldDescriptor (TX12 k).2.2.1 = some (tyX12 k) := by decide +kernel
abbrev cX12_init : ByteArray := prog_14_method_1_code
def yX12_init : MethodName := ⟨RX12, "<init>", "()V"⟩
abbrev cX12_in : ByteArray := prog_14_method_2_code
def yX12_in : MethodName := ⟨RX12, "in", "(III)Z"⟩
abbrev cX12_isPrime : ByteArray := prog_14_method_3_code
def yX12_isPrime : MethodName := ⟨RX12, "isPrime", "(I)Z"⟩
abbrev cX12_isShelf : ByteArray := prog_14_method_4_code
def yX12_isShelf : MethodName := ⟨RX12, "isShelf", "(I)Z"⟩
abbrev cX12_isWhole : ByteArray := prog_14_method_5_code
def yX12_isWhole : MethodName := ⟨RX12, "isWhole", "(I)Z"⟩
abbrev cX12_placeOf : ByteArray := prog_14_method_6_code
def yX12_placeOf : MethodName := ⟨RX12, "placeOf", "(I)I"⟩
abbrev cX12_prime : ByteArray := prog_14_method_7_code
def yX12_prime : MethodName := ⟨RX12, "prime", "(I)I"⟩
abbrev cX12_moves : ByteArray := prog_14_method_8_code
def yX12_moves : MethodName := ⟨RX12, "moves", "(II)V"⟩
abbrev cX12_drop : ByteArray := prog_14_method_9_code
def yX12_drop : MethodName := ⟨RX12, "drop", "(I)I"⟩
abbrev cX12_primeOf : ByteArray := prog_14_method_10_code
def yX12_primeOf : MethodName := ⟨RX12, "primeOf", "(I)I"⟩
abbrev cX12_box : ByteArray := prog_14_method_11_code
def yX12_box : MethodName := ⟨RX12, "box", "(II)I"⟩
abbrev cX12_boxOf : ByteArray := prog_14_method_12_code
def yX12_boxOf : MethodName := ⟨RX12, "boxOf", "(I)I"⟩
abbrev cX12_looks : ByteArray := prog_14_method_13_code
def yX12_looks : MethodName := ⟨RX12, "looks", "(I)V"⟩
abbrev cX12_aboveOf : ByteArray := prog_14_method_14_code
def yX12_aboveOf : MethodName := ⟨RX12, "aboveOf", "([II)J"⟩
abbrev cX12_belowOf : ByteArray := prog_14_method_15_code
def yX12_belowOf : MethodName := ⟨RX12, "belowOf", "([I)J"⟩
abbrev cX12_isInBox : ByteArray := prog_14_method_16_code
def yX12_isInBox : MethodName := ⟨RX12, "isInBox", "([I)Z"⟩
abbrev cX12_hasMate : ByteArray := prog_14_method_17_code
def yX12_hasMate : MethodName := ⟨RX12, "hasMate", "()Z"⟩
abbrev cX12_hasForm : ByteArray := prog_14_method_18_code
def yX12_hasForm : MethodName := ⟨RX12, "hasForm", "(I)Z"⟩
abbrev cX12_gets : ByteArray := prog_14_method_19_code
def yX12_gets : MethodName := ⟨RX12, "gets", "(I[II)V"⟩
abbrev cX12_put : ByteArray := prog_14_method_20_code
def yX12_put : MethodName := ⟨RX12, "put", "(III)I"⟩
abbrev cX12_sign : ByteArray := prog_14_method_21_code
def yX12_sign : MethodName := ⟨RX12, "sign", "(II)I"⟩
abbrev cX12_powerOf : ByteArray := prog_14_method_22_code
def yX12_powerOf : MethodName := ⟨RX12, "powerOf", "(II)I"⟩
abbrev cX12_value : ByteArray := prog_14_method_23_code
def yX12_value : MethodName := ⟨RX12, "value", "(II)J"⟩
abbrev cX12_heightOf : ByteArray := prog_14_method_24_code
def yX12_heightOf : MethodName := ⟨RX12, "heightOf", "([I)I"⟩
abbrev cX12_height : ByteArray := prog_14_method_25_code
def yX12_height : MethodName := ⟨RX12, "height", "(I)I"⟩
abbrev cX12_isIn : ByteArray := prog_14_method_26_code
def yX12_isIn : MethodName := ⟨RX12, "isIn", "(I)I"⟩
abbrev cX12_joins : ByteArray := prog_14_method_27_code
def yX12_joins : MethodName := ⟨RX12, "joins", "(IIII)I"⟩
abbrev cX12_times : ByteArray := prog_14_method_28_code
def yX12_times : MethodName := ⟨RX12, "times", "(III)I"⟩
abbrev cX12_over : ByteArray := prog_14_method_29_code
def yX12_over : MethodName := ⟨RX12, "over", "(III)I"⟩
abbrev cX12_partner : ByteArray := prog_14_method_30_code
def yX12_partner : MethodName := ⟨RX12, "partner", "(II)I"⟩
abbrev cX12_form : ByteArray := prog_14_method_31_code
def yX12_form : MethodName := ⟨RX12, "form", "(III)I"⟩
abbrev cX12_forms : ByteArray := prog_14_method_32_code
def yX12_forms : MethodName := ⟨RX12, "forms", "(I)I"⟩
abbrev cX12_looksFirst : ByteArray := prog_14_method_33_code
def yX12_looksFirst : MethodName := ⟨RX12, "looksFirst", "()V"⟩
abbrev cX12_looksOn : ByteArray := prog_14_method_34_code
def yX12_looksOn : MethodName := ⟨RX12, "looksOn", "()Z"⟩
abbrev cX12_isAnswer : ByteArray := prog_14_method_35_code
def yX12_isAnswer : MethodName := ⟨RX12, "isAnswer", "()Z"⟩
abbrev cX12_answerComes : ByteArray := prog_14_method_36_code
def yX12_answerComes : MethodName := ⟨RX12, "answerComes", "()V"⟩
abbrev cX12_layAnswers : ByteArray := prog_14_method_37_code
def yX12_layAnswers : MethodName := ⟨RX12, "layAnswers", "()V"⟩
abbrev cX12_answerBy : ByteArray := prog_14_method_38_code
def yX12_answerBy : MethodName := ⟨RX12, "answerBy", "(JJ)I"⟩
abbrev cX12_looksAnswer : ByteArray := prog_14_method_39_code
def yX12_looksAnswer : MethodName := ⟨RX12, "looksAnswer", "(I)V"⟩
abbrev cX12_layGroups : ByteArray := prog_14_method_40_code
def yX12_layGroups : MethodName := ⟨RX12, "layGroups", "()V"⟩
abbrev cX12_groupNumber : ByteArray := prog_14_method_41_code
def yX12_groupNumber : MethodName := ⟨RX12, "groupNumber", "(I)I"⟩
abbrev cX12_answers : ByteArray := prog_14_method_42_code
def yX12_answers : MethodName := ⟨RX12, "answers", "()I"⟩
abbrev cX12_answer : ByteArray := prog_14_method_43_code
def yX12_answer : MethodName := ⟨RX12, "answer", "(II)J"⟩
abbrev cX12_take : ByteArray := prog_14_method_44_code
def yX12_take : MethodName := ⟨RX12, "take", "(II)I"⟩
abbrev cX12_which : ByteArray := prog_14_method_45_code
def yX12_which : MethodName := ⟨RX12, "which", "(I)I"⟩
abbrev cX12_groups : ByteArray := prog_14_method_46_code
def yX12_groups : MethodName := ⟨RX12, "groups", "()I"⟩
abbrev cX12_groupOf : ByteArray := prog_14_method_47_code
def yX12_groupOf : MethodName := ⟨RX12, "groupOf", "(I)I"⟩
abbrev cX12_group : ByteArray := prog_14_method_48_code
def yX12_group : MethodName := ⟨RX12, "group", "(II)I"⟩
abbrev cX12_draw : ByteArray := prog_14_method_49_code
def yX12_draw : MethodName := ⟨RX12, "draw", "(I)I"⟩
abbrev cX12_lots : ByteArray := prog_14_method_50_code
def yX12_lots : MethodName := ⟨RX12, "lots", "(II)I"⟩
abbrev cX12_isSieve : ByteArray := prog_14_method_51_code
def yX12_isSieve : MethodName := ⟨RX12, "isSieve", "(I)Z"⟩
abbrev cX12_forgets : ByteArray := prog_14_method_52_code
def yX12_forgets : MethodName := ⟨RX12, "forgets", "(I)I"⟩
abbrev cX12_sieve : ByteArray := prog_14_method_53_code
def yX12_sieve : MethodName := ⟨RX12, "sieve", "(I)I"⟩
abbrev cX12_sieveOf : ByteArray := prog_14_method_54_code
def yX12_sieveOf : MethodName := ⟨RX12, "sieveOf", "(I)I"⟩
abbrev cX12_forget : ByteArray := prog_14_method_55_code
def yX12_forget : MethodName := ⟨RX12, "forget", "(I)I"⟩
abbrev cX12_order : ByteArray := prog_14_method_56_code
def yX12_order : MethodName := ⟨RX12, "order", "(II)I"⟩
abbrev cX12_reaches : ByteArray := prog_14_method_57_code
def yX12_reaches : MethodName := ⟨RX12, "reaches", "(I)I"⟩
abbrev cX12_reach : ByteArray := prog_14_method_58_code
def yX12_reach : MethodName := ⟨RX12, "reach", "(I)I"⟩
abbrev cX12_inverse : ByteArray := prog_14_method_59_code
def yX12_inverse : MethodName := ⟨RX12, "inverse", "(II)I"⟩
abbrev cX12_layInverses : ByteArray := prog_14_method_60_code
def yX12_layInverses : MethodName := ⟨RX12, "layInverses", "(I)V"⟩
abbrev cX12_isPassing : ByteArray := prog_14_method_61_code
def yX12_isPassing : MethodName := ⟨RX12, "isPassing", "(I)Z"⟩
abbrev cX12_passes : ByteArray := prog_14_method_62_code
def yX12_passes : MethodName := ⟨RX12, "passes", "(II)I"⟩
abbrev cX12_left : ByteArray := prog_14_method_63_code
def yX12_left : MethodName := ⟨RX12, "left", "()I"⟩
abbrev cX12_feed : ByteArray := prog_14_method_64_code
def yX12_feed : MethodName := ⟨RX12, "feed", "(I)I"⟩
abbrev cX12_wipe : ByteArray := prog_14_method_65_code
def yX12_wipe : MethodName := ⟨RX12, "wipe", "()I"⟩
abbrev cX12_takes : ByteArray := prog_14_method_66_code
def yX12_takes : MethodName := ⟨RX12, "takes", "(I)Z"⟩
abbrev cX12_isHere : ByteArray := prog_14_method_67_code
def yX12_isHere : MethodName := ⟨RX12, "isHere", "(II)Z"⟩
abbrev cX12_readFactor : ByteArray := prog_14_method_68_code
def yX12_readFactor : MethodName := ⟨RX12, "readFactor", "()Z"⟩
abbrev cX12_readUnit : ByteArray := prog_14_method_69_code
def yX12_readUnit : MethodName := ⟨RX12, "readUnit", "()Z"⟩
abbrev cX12_read : ByteArray := prog_14_method_70_code
def yX12_read : MethodName := ⟨RX12, "read", "(I)I"⟩
abbrev cX12_writes : ByteArray := prog_14_method_71_code
def yX12_writes : MethodName := ⟨RX12, "writes", "(I)V"⟩
abbrev cX12_writesPower : ByteArray := prog_14_method_72_code
def yX12_writesPower : MethodName := ⟨RX12, "writesPower", "(IZ)V"⟩
abbrev cX12_spelled : ByteArray := prog_14_method_73_code
def yX12_spelled : MethodName := ⟨RX12, "spelled", "(II)I"⟩
abbrev cX12_isList : ByteArray := prog_14_method_74_code
def yX12_isList : MethodName := ⟨RX12, "isList", "(I)Z"⟩
abbrev cX12_list : ByteArray := prog_14_method_75_code
def yX12_list : MethodName := ⟨RX12, "list", "(II)I"⟩
abbrev cX12_lay : ByteArray := prog_14_method_76_code
def yX12_lay : MethodName := ⟨RX12, "lay", "(IIJ)I"⟩
abbrev cX12_get : ByteArray := prog_14_method_77_code
def yX12_get : MethodName := ⟨RX12, "get", "(II)J"⟩
abbrev cX12_film : ByteArray := prog_14_method_78_code
def yX12_film : MethodName := ⟨RX12, "film", "(II)I"⟩
abbrev cX12_judge : ByteArray := prog_14_method_79_code
def yX12_judge : MethodName := ⟨RX12, "judge", "(II)I"⟩
abbrev cX12_image : ByteArray := prog_14_method_80_code
def yX12_image : MethodName := ⟨RX12, "image", "()I"⟩
abbrev cX12_undo : ByteArray := prog_14_method_81_code
def yX12_undo : MethodName := ⟨RX12, "undo", "()I"⟩
abbrev cX12_count : ByteArray := prog_14_method_82_code
def yX12_count : MethodName := ⟨RX12, "count", "(I)I"⟩
def RJ9 : String := "java/lang/Math"
def TJ9 : u_T := fun k => match k with
  | _ => ("", "", "", false)
def tyJ9 : Nat → FieldType := fun k => match k with
  | _ => .int
abbrev wsJ90 : List Cond := u_ws RJ9 TJ9 0
theorem nmJ9 : ∀ a, a < 0 → ∀ b, b < 0 → a ≠ b → (TJ9 a).2.1 ≠ (TJ9 b).2.1 := by decide +kernel
theorem tyJ9_ok : ∀ k, k < 0 → parseFieldDescriptor (TJ9 k).2.2.1 = some (tyJ9 k) := by decide +kernel
abbrev cJ9_floorMod_7cf53 : ByteArray := prog_15_method_50_code
def yJ9_floorMod_7cf53 : MethodName := ⟨RJ9, "floorMod", "(II)I"⟩
abbrev cJ9_abs_0f7a4 : ByteArray := prog_15_method_59_code
def yJ9_abs_0f7a4 : MethodName := ⟨RJ9, "abs", "(I)I"⟩
abbrev cJ9_abs_067f4 : ByteArray := prog_15_method_61_code
def yJ9_abs_067f4 : MethodName := ⟨RJ9, "abs", "(J)J"⟩
abbrev cJ9_max_7cf53 : ByteArray := prog_15_method_65_code
def yJ9_max_7cf53 : MethodName := ⟨RJ9, "max", "(II)I"⟩
abbrev cJ9_min_7cf53 : ByteArray := prog_15_method_69_code
def yJ9_min_7cf53 : MethodName := ⟨RJ9, "min", "(II)I"⟩
def RJ10 : String := "java/lang/System"
def TJ10 : u_T := fun k => match k with
  | _ => ("", "", "", false)
def tyJ10 : Nat → FieldType := fun k => match k with
  | _ => .int
abbrev wsJ100 : List Cond := u_ws RJ10 TJ10 0
theorem nmJ10 : ∀ a, a < 0 → ∀ b, b < 0 → a ≠ b → (TJ10 a).2.1 ≠ (TJ10 b).2.1 := by decide +kernel
theorem tyJ10_ok : ∀ k, k < 0 → parseFieldDescriptor (TJ10 k).2.2.1 = some (tyJ10 k) := by decide +kernel
def RJ7 : String := "java/util/Arrays"
def TJ7 : u_T := fun k => match k with
  | _ => ("", "", "", false)
def tyJ7 : Nat → FieldType := fun k => match k with
  | _ => .int
abbrev wsJ70 : List Cond := u_ws RJ7 TJ7 0
theorem nmJ7 : ∀ a, a < 0 → ∀ b, b < 0 → a ≠ b → (TJ7 a).2.1 ≠ (TJ7 b).2.1 := by decide +kernel
theorem tyJ7_ok : ∀ k, k < 0 → parseFieldDescriptor (TJ7 k).2.2.1 = some (tyJ7 k) := by decide +kernel
abbrev cJ7_fill_d0a16 : ByteArray := prog_17_method_101_code
def yJ7_fill_d0a16 : MethodName := ⟨RJ7, "fill", "([JJ)V"⟩
abbrev cJ7_fill_53178 : ByteArray := prog_17_method_103_code
def yJ7_fill_53178 : MethodName := ⟨RJ7, "fill", "([II)V"⟩
def RL : String := "SumsToOneLaw"
abbrev cL_law : ByteArray := code
def yL_law : MethodName := ⟨RL, "law", "([I)Z"⟩
end
section
/-! THE LOGIC: a world of fixed shape (objects and arrays by small numbers), its ints and longs as two functions; 'wp' = from this place of the method the machine comes to its end with Qc; a rule an instruction -/
abbrev sw_cl : List vw_C := [(RX0, TX0, 7), (RX1, TX1, 3), (RX2, TX2, 2), (RX3, TX3, 3), (RX4, TX4, 2), (RX5, TX5, 4), (RX6, TX6, 2), (RX7, TX7, 2), (RX8, TX8, 3), (RX9, TX9, 3), (RX10, TX10, 2), (RX11, TX11, 15), (RX12, TX12, 34)]
def sw_ty (ci : Nat) : Nat → FieldType := match ci with
  | 0 => tyX0 | 1 => tyX1 | 2 => tyX2 | 3 => tyX3 | 4 => tyX4 | 5 => tyX5 | 6 => tyX6 | 7 => tyX7 | 8 => tyX8 | 9 => tyX9 | 10 => tyX10 | 11 => tyX11 | _ => tyX12
def sw_nf (ci : Nat) : Nat := match ci with
  | 0 => 7 | 1 => 3 | 2 => 2 | 3 => 3 | 4 => 2 | 5 => 4 | 6 => 2 | 7 => 2 | 8 => 3 | 9 => 3 | 10 => 2 | 11 => 15 | _ => 34
def sw_big : List Cond := lw_tbl.filter goodWord
theorem sw_big_in {w : Cond} (h : w ∈ lw_tbl) (g : goodWord w = true) : w ∈ sw_big := List.mem_filter.mpr ⟨h, g⟩
theorem sw_big_good {w : Cond} (h : w ∈ sw_big) : (w.onTables && w.keeps) = true ∨ ∃ ty, w = .arrayClass ty := good_of_word (List.mem_filter.mp h).2
/-- the ints and the longs: by cell and place -/
abbrev sw_H : Type := (Nat → Nat → Int32) × (Nat → Nat → Int64)
/-- the shape: how many cells; an object of a class, or an array (0 int, 1 long, 2 boolean, 3 Unit, 4 Modulus, 5 int[], 6 long[]) of a length; the references -/
abbrev sw_W : Type := Nat × (Nat → Nat ⊕ (Nat × Nat)) × (Nat → Nat → Nat)
/-- the machine's own numbers: class, slot, array class, address -/
abbrev sw_X : Type := (Nat → ClassId) × (Nat → Nat → Nat) × (Nat → ClassId) × (Nat → Nat)
/-- a method: name, bytes, locals, type -/
abbrev sw_M : Type := MethodName × ByteArray × Nat × Option FieldType
def sw_cv (σ : Nat → Nat) : Value → Value
  | .ref a => .ref (σ a)
  | .int x => .int x
  | .long x => .long x
  | .float x => .float x
  | .double x => .double x
  | .null => .null
  | .retAddr x => .retAddr x
theorem sw_cv_cat (σ : Nat → Nat) (v : Value) : (sw_cv σ v).category = v.category := by cases v <;> rfl
def sw_v (σ : Nat → Nat) (ty : FieldType) (i : Int32) (j : Int64) (r : Nat) : Value := match ty with
  | .int => .int i
  | .boolean => .int i
  | .long => .long j
  | _ => .ref (σ r)
def sw_fs (w : sw_W) (X : sw_X) (h : sw_H) (a ci : Nat) : List Value := (List.range (sw_nf ci)).map fun k => sw_v X.2.2.2 (sw_ty ci k) (h.1 a k) (h.2 a k) (w.2.2 a k)
def sw_ar (w : sw_W) (X : sw_X) (h : sw_H) (a t : Nat) : (Nat → Int32) ⊕ (Nat → Int64) ⊕ (Nat → UInt32) ⊕ (Nat → UInt64) ⊕ (Nat → Option Nat) := match t with
  | 0 => .inl (h.1 a)
  | 1 => .inr (.inl (h.2 a))
  | 2 => .inl (h.1 a)
  | _ => .inr (.inr (.inr (.inr fun i => some (X.2.2.2 (w.2.2 a i)))))
def sw_e (w : sw_W) (X : sw_X) (h : sw_H) (a : Nat) : va_E := match w.2.1 a with
  | .inl ci => .inr (ci, sw_fs w X h a ci)
  | .inr q => .inl (X.2.2.1 q.1, q.2, sw_ar w X h a q.1)
def sw_ws (w : sw_W) (X : sw_X) (h : sw_H) : va_W := (List.range w.1).map fun a => (X.2.2.2 a, sw_e w X h a)
def sw_A (w : sw_W) (X : sw_X) : Nat → Prop := fun q => ∃ a, a < w.1 ∧ q = X.2.2.2 a
def sw_inj (w : sw_W) (X : sw_X) : Prop := ∀ a b, a < w.1 → b < w.1 → X.2.2.2 a = X.2.2.2 b → a = b
def sw_ts (X : sw_X) : List (ClassId × FieldType) := [(X.2.2.1 0, .int), (X.2.2.1 1, .long), (X.2.2.1 2, .boolean), (X.2.2.1 3, .object RX10), (X.2.2.1 4, .object RX5), (X.2.2.1 5, .array .int), (X.2.2.1 6, .array .long)]
def sw_o (w : sw_W) (a ci : Nat) : Prop := a < w.1 ∧ w.2.1 a = .inl ci
def sw_r (w : sw_W) (a t n : Nat) : Prop := a < w.1 ∧ w.2.1 a = .inr (t, n)
theorem sw_at {w : sw_W} {X : sw_X} {h : sw_H} {a : Nat} (ha : a < w.1) : (sw_ws w X h)[a]? = some (X.2.2.2 a, sw_e w X h a) := by
  simp [sw_ws, List.getElem?_map, List.getElem?_range ha]
theorem sw_out {w : sw_W} {X : sw_X} {h : sw_H} {a : Nat} (ha : ¬ a < w.1) : (sw_ws w X h)[a]? = none := by
  simp [sw_ws]; omega
theorem sw_eO {w : sw_W} {X : sw_X} {h : sw_H} {a ci : Nat} (ho : sw_o w a ci) : sw_e w X h a = .inr (ci, sw_fs w X h a ci) := by
  unfold sw_e; rw [ho.2]
theorem sw_eR {w : sw_W} {X : sw_X} {h : sw_H} {a t n : Nat} (ho : sw_r w a t n) : sw_e w X h a = .inl (X.2.2.1 t, n, sw_ar w X h a t) := by
  unfold sw_e; rw [ho.2]
theorem sw_set {w : sw_W} {X : sw_X} {h h' : sw_H} {a : Nat} {e : va_E} (he : sw_e w X h' a = e) (ho : ∀ b, b ≠ a → sw_e w X h' b = sw_e w X h b) : (sw_ws w X h).set a (X.2.2.2 a, e) = sw_ws w X h' := by
  apply List.ext_getElem?
  intro j
  by_cases hj : j < w.1
  · rw [sw_at hj]
    by_cases hja : j = a
    · subst hja
      have hl : j < (sw_ws w X h).length := by simp [sw_ws]; exact hj
      rw [List.getElem?_set_self hl, he]
    · rw [List.getElem?_set_ne (Ne.symm hja), sw_at hj, ho j hja]
  · rw [sw_out hj]
    simp [sw_ws]; omega
theorem sw_D {w : sw_W} {X : sw_X} {h : sw_H} (hi : sw_inj w X) : va_D (sw_A w X) (sw_ws w X h) := by
  have key : ∀ (i : Nat) (p : Nat × va_E), (sw_ws w X h)[i]? = some p → i < w.1 ∧ p.1 = X.2.2.2 i := by
    intro i p hp
    by_cases hl : i < w.1
    · rw [sw_at hl] at hp
      cases hp
      exact ⟨hl, rfl⟩
    · rw [sw_out hl] at hp
      cases hp
  refine ⟨fun i j p q hp hq he => ?_, fun k q hq => ?_⟩
  · obtain ⟨a1, a2⟩ := key i p hp
    obtain ⟨b1, b2⟩ := key j q hq
    exact hi i j a1 b1 (by rw [← a2, ← b2]; exact he)
  · obtain ⟨a1, a2⟩ := key k q hq
    exact ⟨k, a1, a2⟩
/-- an int at a place -/
def sw_wI (h : sw_H) (a k : Nat) (x : Int32) : sw_H := (va_up h.1 a (va_up (h.1 a) k x), h.2)
def sw_wL (h : sw_H) (a k : Nat) (x : Int64) : sw_H := (h.1, va_up h.2 a (va_up (h.2 a) k x))
theorem sw_wI_ne {h : sw_H} {a k b : Nat} {x : Int32} (hb : b ≠ a) : (sw_wI h a k x).1 b = h.1 b := by simp [sw_wI, va_up, hb]
theorem sw_wL_ne {h : sw_H} {a k b : Nat} {x : Int64} (hb : b ≠ a) : (sw_wL h a k x).2 b = h.2 b := by simp [sw_wL, va_up, hb]
theorem sw_wI_at {h : sw_H} {a k : Nat} {x : Int32} : (sw_wI h a k x).1 a = va_up (h.1 a) k x := by simp [sw_wI, va_up]
theorem sw_wL_at {h : sw_H} {a k : Nat} {x : Int64} : (sw_wL h a k x).2 a = va_up (h.2 a) k x := by simp [sw_wL, va_up]
theorem sw_e_ne {w : sw_W} {X : sw_X} {h h' : sw_H} {b : Nat} (h1 : h'.1 b = h.1 b) (h2 : h'.2 b = h.2 b) : sw_e w X h' b = sw_e w X h b := by
  unfold sw_e
  cases w.2.1 b with
  | inl ci => simp only [sw_fs, h1, h2]
  | inr q =>
    have : sw_ar w X h' b q.1 = sw_ar w X h b q.1 := by unfold sw_ar; rw [h1, h2]
    simp only [this]
theorem sw_fs_at {w : sw_W} {X : sw_X} {h : sw_H} {a ci k : Nat} (hk : k < sw_nf ci) : (sw_fs w X h a ci)[k]? = some (sw_v X.2.2.2 (sw_ty ci k) (h.1 a k) (h.2 a k) (w.2.2 a k)) := by
  simp [sw_fs, List.getElem?_map, List.getElem?_range hk]
theorem sw_fs_len {w : sw_W} {X : sw_X} {h : sw_H} {a ci : Nat} : (sw_fs w X h a ci).length = sw_nf ci := by simp [sw_fs]
theorem sw_fs_set {w : sw_W} {X : sw_X} {h h' : sw_H} {a ci k : Nat} {v : Value} (hv : sw_v X.2.2.2 (sw_ty ci k) (h'.1 a k) (h'.2 a k) (w.2.2 a k) = v) (ho : ∀ j, j ≠ k → h'.1 a j = h.1 a j ∧ h'.2 a j = h.2 a j) : sw_fs w X h' a ci = (sw_fs w X h a ci).set k v := by
  apply List.ext_getElem?
  intro j
  by_cases hj : j < sw_nf ci
  · rw [sw_fs_at hj]
    by_cases hjk : j = k
    · subst hjk
      rw [List.getElem?_set_self (by rw [sw_fs_len]; exact hj), hv]
    · rw [List.getElem?_set_ne (Ne.symm hjk), sw_fs_at hj, (ho j hjk).1, (ho j hjk).2]
  · rw [List.getElem?_eq_none (by rw [sw_fs_len]; omega), List.getElem?_eq_none (by rw [List.length_set, sw_fs_len]; omega)]
/-- locals: by place -/
def sw_lg : List (Nat × Value) → Nat → Option Value
  | [], _ => none
  | q :: r, i => match Nat.beq q.1 i with
    | true => some q.2
    | false => sw_lg r i
def sw_dr (i : Nat) : List (Nat × Value) → List (Nat × Value)
  | [] => []
  | q :: r => match Nat.beq q.1 i || (Nat.beq (q.1 + 1) i && Nat.beq q.2.category 2) with
    | true => sw_dr i r
    | false => q :: sw_dr i r
/-- a value of one word -/
def sw_s1 (i : Nat) (v : Value) : List (Nat × Value) → List (Nat × Value)
  | [] => [(i, v)]
  | q :: r => match Nat.beq q.1 i with
    | true => (i, v) :: sw_dr i r
    | false => match Nat.beq (q.1 + 1) i && Nat.beq q.2.category 2 with
      | true => sw_s1 i v r
      | false => q :: sw_s1 i v r
def sw_d2 (i : Nat) : List (Nat × Value) → List (Nat × Value)
  | [] => []
  | q :: r => match Nat.beq q.1 i || (Nat.beq q.1 (i + 1) || (Nat.beq (q.1 + 1) i && Nat.beq q.2.category 2)) with
    | true => sw_d2 i r
    | false => q :: sw_d2 i r
/-- a long: two words -/
def sw_s2 (i : Nat) (v : Value) : List (Nat × Value) → List (Nat × Value)
  | [] => [(i, v)]
  | q :: r => match Nat.beq q.1 i with
    | true => (i, v) :: sw_d2 i r
    | false => match Nat.beq q.1 (i + 1) || (Nat.beq (q.1 + 1) i && Nat.beq q.2.category 2) with
      | true => sw_s2 i v r
      | false => q :: sw_s2 i v r
theorem sw_lg_mem {i : Nat} {v : Value} : ∀ {lc : List (Nat × Value)}, sw_lg lc i = some v → (i, v) ∈ lc
  | [], h => by cases h
  | q :: r, h => by
    unfold sw_lg at h
    cases hb : Nat.beq q.1 i with
    | true =>
      rw [hb] at h
      have e := Nat.eq_of_beq_eq_true hb
      cases h
      exact List.mem_cons.mpr (Or.inl (by rw [← e]))
    | false =>
      rw [hb] at h
      exact List.mem_cons_of_mem _ (sw_lg_mem h)
theorem sw_beq (a b : Nat) : Nat.beq a b = (a == b) := by
  by_cases h : a = b
  · subst h; simp
  · rw [show (a == b) = false from by simpa using h]
    cases hb : Nat.beq a b with
    | true => exact absurd (Nat.eq_of_beq_eq_true hb) h
    | false => rfl
abbrev sw_k1 (i : Nat) (q : Nat × Value) : Bool := !(q.1 == i) && !(q.1 + 1 == i && q.2.category == 2)
abbrev sw_k2 (i : Nat) (q : Nat × Value) : Bool := !(q.1 == i) && (!(q.1 == i + 1) && !(q.1 + 1 == i && q.2.category == 2))
theorem sw_dr_sub {i : Nat} : ∀ {lc : List (Nat × Value)} {q : Nat × Value}, q ∈ sw_dr i lc → q ∈ lc ∧ sw_k1 i q = true
  | [], q, h => by cases h
  | p :: r, q, h => by
    unfold sw_dr at h
    cases hb : (Nat.beq p.1 i || (Nat.beq (p.1 + 1) i && Nat.beq p.2.category 2)) with
    | true =>
      rw [hb] at h
      exact ⟨List.mem_cons_of_mem _ (sw_dr_sub h).1, (sw_dr_sub h).2⟩
    | false =>
      rw [hb] at h
      rcases List.mem_cons.mp h with rfl | h
      · refine ⟨List.mem_cons_self, ?_⟩
        simp only [Bool.or_eq_false_iff, sw_beq] at hb
        have e1 : (q.1 == i) = false := hb.1
        have e2 : (q.1 + 1 == i && q.2.category == 2) = false := hb.2
        show (!(q.1 == i) && !(q.1 + 1 == i && q.2.category == 2)) = true
        rw [e1, e2]; rfl
      · exact ⟨List.mem_cons_of_mem _ (sw_dr_sub h).1, (sw_dr_sub h).2⟩
theorem sw_s1_sub {i : Nat} {v : Value} : ∀ {lc : List (Nat × Value)} {q : Nat × Value}, q ∈ sw_s1 i v lc → q = (i, v) ∨ (q ∈ lc ∧ sw_k1 i q = true)
  | [], q, h => Or.inl (List.mem_singleton.mp h)
  | p :: r, q, h => by
    unfold sw_s1 at h
    cases hb : Nat.beq p.1 i with
    | true =>
      rw [hb] at h
      rcases List.mem_cons.mp h with h | h
      · exact Or.inl h
      · exact Or.inr ⟨List.mem_cons_of_mem _ (sw_dr_sub h).1, (sw_dr_sub h).2⟩
    | false =>
      rw [hb] at h
      cases hc : (Nat.beq (p.1 + 1) i && Nat.beq p.2.category 2) with
      | true =>
        rw [hc] at h
        rcases sw_s1_sub h with h | h
        · exact Or.inl h
        · exact Or.inr ⟨List.mem_cons_of_mem _ h.1, h.2⟩
      | false =>
        rw [hc] at h
        rcases List.mem_cons.mp h with rfl | h
        · refine Or.inr ⟨List.mem_cons_self, ?_⟩
          simp only [sw_beq] at hb hc
          have e1 : (q.1 == i) = false := hb
          have e2 : (q.1 + 1 == i && q.2.category == 2) = false := hc
          show (!(q.1 == i) && !(q.1 + 1 == i && q.2.category == 2)) = true
          rw [e1, e2]; rfl
        · rcases sw_s1_sub h with h | h
          · exact Or.inl h
          · exact Or.inr ⟨List.mem_cons_of_mem _ h.1, h.2⟩
theorem sw_d2_sub {i : Nat} : ∀ {lc : List (Nat × Value)} {q : Nat × Value}, q ∈ sw_d2 i lc → q ∈ lc ∧ sw_k2 i q = true
  | [], q, h => by cases h
  | p :: r, q, h => by
    unfold sw_d2 at h
    cases hb : (Nat.beq p.1 i || (Nat.beq p.1 (i + 1) || (Nat.beq (p.1 + 1) i && Nat.beq p.2.category 2))) with
    | true =>
      rw [hb] at h
      exact ⟨List.mem_cons_of_mem _ (sw_d2_sub h).1, (sw_d2_sub h).2⟩
    | false =>
      rw [hb] at h
      rcases List.mem_cons.mp h with rfl | h
      · refine ⟨List.mem_cons_self, ?_⟩
        simp only [Bool.or_eq_false_iff, sw_beq] at hb
        have e1 : (q.1 == i) = false := hb.1
        have e3 : (q.1 == i + 1) = false := hb.2.1
        have e2 : (q.1 + 1 == i && q.2.category == 2) = false := hb.2.2
        show (!(q.1 == i) && (!(q.1 == i + 1) && !(q.1 + 1 == i && q.2.category == 2))) = true
        rw [e1, e2, e3]; rfl
      · exact ⟨List.mem_cons_of_mem _ (sw_d2_sub h).1, (sw_d2_sub h).2⟩
theorem sw_s2_sub {i : Nat} {v : Value} : ∀ {lc : List (Nat × Value)} {q : Nat × Value}, q ∈ sw_s2 i v lc → q = (i, v) ∨ (q ∈ lc ∧ sw_k2 i q = true)
  | [], q, h => Or.inl (List.mem_singleton.mp h)
  | p :: r, q, h => by
    unfold sw_s2 at h
    cases hb : Nat.beq p.1 i with
    | true =>
      rw [hb] at h
      rcases List.mem_cons.mp h with h | h
      · exact Or.inl h
      · exact Or.inr ⟨List.mem_cons_of_mem _ (sw_d2_sub h).1, (sw_d2_sub h).2⟩
    | false =>
      rw [hb] at h
      cases hc : (Nat.beq p.1 (i + 1) || (Nat.beq (p.1 + 1) i && Nat.beq p.2.category 2)) with
      | true =>
        rw [hc] at h
        rcases sw_s2_sub h with h | h
        · exact Or.inl h
        · exact Or.inr ⟨List.mem_cons_of_mem _ h.1, h.2⟩
      | false =>
        rw [hc] at h
        rcases List.mem_cons.mp h with rfl | h
        · refine Or.inr ⟨List.mem_cons_self, ?_⟩
          simp only [Bool.or_eq_false_iff, sw_beq] at hc
          simp only [sw_beq] at hb
          have e1 : (q.1 == i) = false := hb
          have e3 : (q.1 == i + 1) = false := hc.1
          have e2 : (q.1 + 1 == i && q.2.category == 2) = false := hc.2
          show (!(q.1 == i) && (!(q.1 == i + 1) && !(q.1 + 1 == i && q.2.category == 2))) = true
          rw [e1, e2, e3]; rfl
        · rcases sw_s2_sub h with h | h
          · exact Or.inl h
          · exact Or.inr ⟨List.mem_cons_of_mem _ h.1, h.2⟩
/-- the locals of the machine hold the listed ones -/
def sw_L (X : sw_X) (ls : Array Slot) (n : Nat) (lc : List (Nat × Value)) : Prop := lv_has ls n (lc.map fun q => (q.1, sw_cv X.2.2.2 q.2))
theorem sw_L.at {X : sw_X} {ls : Array Slot} {n i : Nat} {lc : List (Nat × Value)} {v : Value} (h : sw_L X ls n lc) (hv : sw_lg lc i = some v) : ls[i]? = some (.val (sw_cv X.2.2.2 v)) :=
  h.2.2 (i, sw_cv X.2.2.2 v) (List.mem_map.mpr ⟨(i, v), sw_lg_mem hv, rfl⟩)
theorem sw_L.sub {X : sw_X} {ls : Array Slot} {n : Nat} {lc lc' : List (Nat × Value)} (h : sw_L X ls n lc) (hs : ∀ q ∈ lc', q ∈ lc) : sw_L X ls n lc' := by
  refine ⟨h.1, h.2.1, fun q hq => ?_⟩
  obtain ⟨r, hr, rfl⟩ := List.mem_map.mp hq
  exact h.2.2 _ (List.mem_map.mpr ⟨r, hs r hr, rfl⟩)
theorem sw_L.s1 {X : sw_X} {ls : Array Slot} {n i : Nat} {lc lc' : List (Nat × Value)} {v : Value} (h : sw_L X ls n lc) (hi : i < n) (hc : v.category = 1) (he : sw_s1 i v lc = lc') :
    ∃ ls', storeLocals ls i (sw_cv X.2.2.2 v) = some ls' ∧ sw_L X ls' n lc' := by
  obtain ⟨ls', e', h'⟩ := lv_store1 (v := sw_cv X.2.2.2 v) h hi (by rw [sw_cv_cat]; exact hc)
  refine ⟨ls', e', h'.1, h'.2.1, fun q hq => h'.2.2 q ?_⟩
  obtain ⟨r, hr, rfl⟩ := List.mem_map.mp hq
  rw [← he] at hr
  rcases sw_s1_sub hr with rfl | ⟨h1, h2⟩
  · exact List.mem_cons_self
  · refine List.mem_cons_of_mem _ (List.mem_filter.mpr ⟨List.mem_map.mpr ⟨r, h1, rfl⟩, ?_⟩)
    show (!(r.1 == i) && !(r.1 + 1 == i && (sw_cv X.2.2.2 r.2).category == 2)) = true
    rw [sw_cv_cat]
    exact h2
theorem sw_L.s2 {X : sw_X} {ls : Array Slot} {n i : Nat} {lc lc' : List (Nat × Value)} {v : Value} (h : sw_L X ls n lc) (hi : i + 1 < n) (hc : v.category = 2) (he : sw_s2 i v lc = lc') :
    ∃ ls', storeLocals ls i (sw_cv X.2.2.2 v) = some ls' ∧ sw_L X ls' n lc' := by
  obtain ⟨ls', e', h'⟩ := lv_store2 (v := sw_cv X.2.2.2 v) h hi (by rw [sw_cv_cat]; exact hc)
  refine ⟨ls', e', h'.1, h'.2.1, fun q hq => h'.2.2 q ?_⟩
  obtain ⟨r, hr, rfl⟩ := List.mem_map.mp hq
  rw [← he] at hr
  rcases sw_s2_sub hr with rfl | ⟨h1, h2⟩
  · exact List.mem_cons_self
  · refine List.mem_cons_of_mem _ (List.mem_filter.mpr ⟨List.mem_map.mpr ⟨r, h1, rfl⟩, ?_⟩)
    show (!(r.1 == i) && (!(r.1 == i + 1) && !(r.1 + 1 == i && (sw_cv X.2.2.2 r.2).category == 2))) = true
    rw [sw_cv_cat]
    exact h2
/-- contracts and places -/
def sw_mw (y : sw_M) : List Cond := Cond.code y.1 y.2.1 y.2.2.1 y.2.2.2 :: sw_big
def sw_rm (d : Nat) : Room := { frames := d, cells := 0, slots := 0, locals := d * 40 }
def sw_in (w : sw_W) (X : sw_X) (h : sw_H) (U : State) : Prop := va_P (X.1, X.2.1) sw_cl (sw_ws w X h) U.heap ∧ va_K (X.1, X.2.1) sw_cl (sw_ts X) U ∧ sw_inj w X
def sw_pc (w : sw_W) (X : sw_X) (args : List Value) (h : sw_H) : Array Value → State → Prop := va_Pc (args.map (sw_cv X.2.2.2)) (sw_in w X h)
abbrev sw_Q : Type := Array Value → State → Outcome → State → Prop
def sw_qI (w : sw_W) (X : sw_X) (Q : Int32 → sw_H → Prop) : sw_Q := va_Qi Q (fun u t => sw_in w X u t) (sw_A w X)
def sw_qL (w : sw_W) (X : sw_X) (Q : Int64 → sw_H → Prop) : sw_Q := va_Ql Q (fun u t => sw_in w X u t) (sw_A w X)
def sw_qV (w : sw_W) (X : sw_X) (Q : sw_H → Prop) : sw_Q := va_Qv Q (fun u t => sw_in w X u t) (sw_A w X)
def sw_qR (w : sw_W) (X : sw_X) (Q : Nat → sw_H → Prop) : sw_Q := va_Qr (fun u : Nat × sw_H => Q u.1 u.2) (fun u ra t => ra = X.2.2.2 u.1 ∧ sw_in w X u.2 t) (sw_A w X)
/-- CONTRACT: the method at these arguments, from this heap, at most d calls deep, comes to an end with Qc -/
def sw_ct (w : sw_W) (X : sw_X) (l : Launch) (d : Nat) (y : sw_M) (args : List Value) (h : sw_H) (Qc : sw_Q) : Prop := Met l y.1 (sw_mw y) (sw_rm d) (sw_pc w X args h) Qc 0 0 (sw_A w X)
/-- PLACE: from this pc, with these locals, this stack, this heap -/
def sw_wp (w : sw_W) (X : sw_X) (l : Launch) (d : Nat) (y : sw_M) (Qc : sw_Q) (pc : Nat) (lc : List (Nat × Value)) (st : List Value) (h : sw_H) : Prop :=
  ∀ (p : Program) (e : Env) (s : State) (m : MethodId) (args : Array Value) (below : List Frame) (meth : Method) (c : Code) (s₁ : State),
    BodyLoose p l y.1 (headSpec (sw_mw y) (sw_rm d)) y.2.1 y.2.2.1 y.2.2.2 e s m args below meth c s₁ → c.maxLocals = y.2.2.1 → va_K (X.1, X.2.1) sw_cl (sw_ts X) s → sw_inj w X →
    ∀ (H : Heap) (locs : List Loc), va_P (X.1, X.2.1) sw_cl (sw_ws w X h) H → va_S (sw_A w X) s.heap H locs → ∀ ls : Array Slot, sw_L X ls y.2.2.1 lc →
    W p l e (sw_rm d) s m args below meth c H locs 0 0 (MQ below Qc args s 0 0 (sw_A w X)) (F0 m pc ls (st.map (sw_cv X.2.2.2)))
theorem sw_args_map (σ : Nat → Nat) : ∀ (i : Nat) (vs : List Value), lv_args i (vs.map (sw_cv σ)) = (lv_args i vs).map fun q => (q.1, sw_cv σ q.2)
  | _, [] => by simp [lv_args]
  | i, v :: vs => by
    simp only [List.map_cons, lv_args, sw_cv_cat]
    rw [sw_args_map σ _ vs]
theorem sw_sl_len (σ : Nat → Nat) (vs : List Value) : (lg_sl (vs.map (sw_cv σ))).length = (lg_sl vs).length := by
  induction vs with
  | nil => rfl
  | cons v vs ih =>
    simp only [lg_sl, List.map_cons, List.flatMap_cons, List.length_append, sw_cv_cat] at ih ⊢
    rw [ih]
    by_cases hc : v.category = 2 <;> simp [hc]
theorem sw_ct_of {w : sw_W} {X : sw_X} {l : Launch} {d : Nat} {y : sw_M} {args : List Value} {h : sw_H} {Qc : sw_Q} {lc : List (Nat × Value)} (hy : plainName y.1.cls = true) (hlen : (lg_sl args).length ≤ y.2.2.1) (hlc : lv_args 0 args = lc)
    (k : sw_wp w X l d y Qc 0 lc [] h) : sw_ct w X l d y args h Qc := by
  refine Met.ofW (cc := y.2.1) (maxL := y.2.2.1) (ret := y.2.2.2) (ws' := sw_big) hy rfl ?_
  intro p e s m ar below meth c s₁ B hml hv
  obtain ⟨rfl, hP, hK, hi⟩ := hv
  have hl := lv_entry (args.map (sw_cv X.2.2.2)) (n := y.2.2.1) (by rw [sw_sl_len]; exact hlen)
  rw [lg_entry_eq]
  generalize (lg_sl (args.map (sw_cv X.2.2.2)) ++ List.replicate (y.2.2.1 - (lg_sl (args.map (sw_cv X.2.2.2))).length) Slot.unset).toArray = ls at hl ⊢
  rw [sw_args_map, hlc] at hl
  exact k p e s m _ below meth c s₁ B hml hK hi s.heap [] hP va_S.rf ls hl
theorem sw_wp_sub {w : sw_W} {X : sw_X} {l : Launch} {d : Nat} {y : sw_M} {Qc : sw_Q} {pc : Nat} {lc lc' : List (Nat × Value)} {st : List Value} {h : sw_H} (hs : ∀ q ∈ lc', q ∈ lc) (k : sw_wp w X l d y Qc pc lc' st h) : sw_wp w X l d y Qc pc lc st h := by
  intro p e s m args below meth c s₁ B hml hK hi H locs hP hS ls hl
  exact k p e s m args below meth c s₁ B hml hK hi H locs hP hS ls (hl.sub hs)
end
section
/-! THE RULES: a rule an instruction; n is the pc behind it, tgt where a jump goes -/
section sw_rules
variable {w : sw_W} {X : sw_X} {l : Launch} {d : Nat} {y : sw_M} {Qc : sw_Q} {pc : Nat} {lc lc' : List (Nat × Value)} {st : List Value} {h : sw_H}
theorem sw_iadd (n : Nat) {a b : Int32} (hd : decode y.2.1 pc = .ok (.iadd, 1)) (hn : pc + 1 = n) (k : sw_wp w X l d y Qc n lc (.int (a + b) :: st) h) : sw_wp w X l d y Qc pc lc (.int b :: .int a :: st) h := by
  subst hn
  intro p e s m args below meth c s₁ B hml hK hi H locs hP hS ls hl
  exact lv_iadd B.exec B.bytes hd (k p e s m args below meth c s₁ B hml hK hi H locs hP hS ls hl)
theorem sw_isub (n : Nat) {a b : Int32} (hd : decode y.2.1 pc = .ok (.isub, 1)) (hn : pc + 1 = n) (k : sw_wp w X l d y Qc n lc (.int (a - b) :: st) h) : sw_wp w X l d y Qc pc lc (.int b :: .int a :: st) h := by
  subst hn
  intro p e s m args below meth c s₁ B hml hK hi H locs hP hS ls hl
  exact lv_isub B.exec B.bytes hd (k p e s m args below meth c s₁ B hml hK hi H locs hP hS ls hl)
theorem sw_imul (n : Nat) {a b : Int32} (hd : decode y.2.1 pc = .ok (.imul, 1)) (hn : pc + 1 = n) (k : sw_wp w X l d y Qc n lc (.int (a * b) :: st) h) : sw_wp w X l d y Qc pc lc (.int b :: .int a :: st) h := by
  subst hn
  intro p e s m args below meth c s₁ B hml hK hi H locs hP hS ls hl
  exact lv_imul B.exec B.bytes hd (k p e s m args below meth c s₁ B hml hK hi H locs hP hS ls hl)
theorem sw_iand (n : Nat) {a b : Int32} (hd : decode y.2.1 pc = .ok (.iand, 1)) (hn : pc + 1 = n) (k : sw_wp w X l d y Qc n lc (.int (a &&& b) :: st) h) : sw_wp w X l d y Qc pc lc (.int b :: .int a :: st) h := by
  subst hn
  intro p e s m args below meth c s₁ B hml hK hi H locs hP hS ls hl
  exact lv_iand B.exec B.bytes hd (k p e s m args below meth c s₁ B hml hK hi H locs hP hS ls hl)
theorem sw_ixor (n : Nat) {a b : Int32} (hd : decode y.2.1 pc = .ok (.ixor, 1)) (hn : pc + 1 = n) (k : sw_wp w X l d y Qc n lc (.int (a ^^^ b) :: st) h) : sw_wp w X l d y Qc pc lc (.int b :: .int a :: st) h := by
  subst hn
  intro p e s m args below meth c s₁ B hml hK hi H locs hP hS ls hl
  exact lv_ixor B.exec B.bytes hd (k p e s m args below meth c s₁ B hml hK hi H locs hP hS ls hl)
theorem sw_ladd (n : Nat) {a b : Int64} (hd : decode y.2.1 pc = .ok (.ladd, 1)) (hn : pc + 1 = n) (k : sw_wp w X l d y Qc n lc (.long (a + b) :: st) h) : sw_wp w X l d y Qc pc lc (.long b :: .long a :: st) h := by
  subst hn
  intro p e s m args below meth c s₁ B hml hK hi H locs hP hS ls hl
  exact lv_ladd B.exec B.bytes hd (k p e s m args below meth c s₁ B hml hK hi H locs hP hS ls hl)
theorem sw_lsub (n : Nat) {a b : Int64} (hd : decode y.2.1 pc = .ok (.lsub, 1)) (hn : pc + 1 = n) (k : sw_wp w X l d y Qc n lc (.long (a - b) :: st) h) : sw_wp w X l d y Qc pc lc (.long b :: .long a :: st) h := by
  subst hn
  intro p e s m args below meth c s₁ B hml hK hi H locs hP hS ls hl
  exact lv_lsub B.exec B.bytes hd (k p e s m args below meth c s₁ B hml hK hi H locs hP hS ls hl)
theorem sw_lmul (n : Nat) {a b : Int64} (hd : decode y.2.1 pc = .ok (.lmul, 1)) (hn : pc + 1 = n) (k : sw_wp w X l d y Qc n lc (.long (a * b) :: st) h) : sw_wp w X l d y Qc pc lc (.long b :: .long a :: st) h := by
  subst hn
  intro p e s m args below meth c s₁ B hml hK hi H locs hP hS ls hl
  exact lv_lmul B.exec B.bytes hd (k p e s m args below meth c s₁ B hml hK hi H locs hP hS ls hl)
theorem sw_idiv (n : Nat) {a b : Int32} (hd : decode y.2.1 pc = .ok (.idiv, 1)) (hn : pc + 1 = n) (hz : ¬ b = 0) (k : sw_wp w X l d y Qc n lc (.int (a / b) :: st) h) : sw_wp w X l d y Qc pc lc (.int b :: .int a :: st) h := by
  subst hn
  intro p e s m args below meth c s₁ B hml hK hi H locs hP hS ls hl
  exact lv_idiv B.exec B.bytes hd hz (k p e s m args below meth c s₁ B hml hK hi H locs hP hS ls hl)
theorem sw_irem (n : Nat) {a b : Int32} (hd : decode y.2.1 pc = .ok (.irem, 1)) (hn : pc + 1 = n) (hz : ¬ b = 0) (k : sw_wp w X l d y Qc n lc (.int (a - a / b * b) :: st) h) : sw_wp w X l d y Qc pc lc (.int b :: .int a :: st) h := by
  subst hn
  intro p e s m args below meth c s₁ B hml hK hi H locs hP hS ls hl
  exact lv_irem B.exec B.bytes hd hz (k p e s m args below meth c s₁ B hml hK hi H locs hP hS ls hl)
theorem sw_ldiv (n : Nat) {a b : Int64} (hd : decode y.2.1 pc = .ok (.ldiv, 1)) (hn : pc + 1 = n) (hz : ¬ b = 0) (k : sw_wp w X l d y Qc n lc (.long (a / b) :: st) h) : sw_wp w X l d y Qc pc lc (.long b :: .long a :: st) h := by
  subst hn
  intro p e s m args below meth c s₁ B hml hK hi H locs hP hS ls hl
  exact lv_ldiv B.exec B.bytes hd hz (k p e s m args below meth c s₁ B hml hK hi H locs hP hS ls hl)
theorem sw_lrem (n : Nat) {a b : Int64} (hd : decode y.2.1 pc = .ok (.lrem, 1)) (hn : pc + 1 = n) (hz : ¬ b = 0) (k : sw_wp w X l d y Qc n lc (.long (a - a / b * b) :: st) h) : sw_wp w X l d y Qc pc lc (.long b :: .long a :: st) h := by
  subst hn
  intro p e s m args below meth c s₁ B hml hK hi H locs hP hS ls hl
  exact lv_lrem B.exec B.bytes hd hz (k p e s m args below meth c s₁ B hml hK hi H locs hP hS ls hl)
theorem sw_ineg (n : Nat) {a : Int32} (hd : decode y.2.1 pc = .ok (.ineg, 1)) (hn : pc + 1 = n) (k : sw_wp w X l d y Qc n lc (.int (-a) :: st) h) : sw_wp w X l d y Qc pc lc (.int a :: st) h := by
  subst hn
  intro p e s m args below meth c s₁ B hml hK hi H locs hP hS ls hl
  exact lv_ineg B.exec B.bytes hd (k p e s m args below meth c s₁ B hml hK hi H locs hP hS ls hl)
theorem sw_lneg (n : Nat) {a : Int64} (hd : decode y.2.1 pc = .ok (.lneg, 1)) (hn : pc + 1 = n) (k : sw_wp w X l d y Qc n lc (.long (-a) :: st) h) : sw_wp w X l d y Qc pc lc (.long a :: st) h := by
  subst hn
  intro p e s m args below meth c s₁ B hml hK hi H locs hP hS ls hl
  exact lv_lneg B.exec B.bytes hd (k p e s m args below meth c s₁ B hml hK hi H locs hP hS ls hl)
theorem sw_i2l (n : Nat) {a : Int32} (hd : decode y.2.1 pc = .ok (.i2l, 1)) (hn : pc + 1 = n) (k : sw_wp w X l d y Qc n lc (.long a.toInt64 :: st) h) : sw_wp w X l d y Qc pc lc (.int a :: st) h := by
  subst hn
  intro p e s m args below meth c s₁ B hml hK hi H locs hP hS ls hl
  exact lv_i2l B.exec B.bytes hd rfl (k p e s m args below meth c s₁ B hml hK hi H locs hP hS ls hl)
theorem sw_l2i (n : Nat) {a : Int64} (hd : decode y.2.1 pc = .ok (.l2i, 1)) (hn : pc + 1 = n) (k : sw_wp w X l d y Qc n lc (.int a.toInt32 :: st) h) : sw_wp w X l d y Qc pc lc (.long a :: st) h := by
  subst hn
  intro p e s m args below meth c s₁ B hml hK hi H locs hP hS ls hl
  exact lv_l2i B.exec B.bytes hd rfl (k p e s m args below meth c s₁ B hml hK hi H locs hP hS ls hl)
theorem sw_lcmp (n : Nat) {a b : Int64} (hd : decode y.2.1 pc = .ok (.lcmp, 1)) (hn : pc + 1 = n) (k : sw_wp w X l d y Qc n lc (.int (lg_cmp a b) :: st) h) : sw_wp w X l d y Qc pc lc (.long b :: .long a :: st) h := by
  subst hn
  intro p e s m args below meth c s₁ B hml hK hi H locs hP hS ls hl
  exact W.lcmp B.exec B.bytes hd (k p e s m args below meth c s₁ B hml hK hi H locs hP hS ls hl)
theorem sw_iconst (n : Nat) {z : Int} (hd : decode y.2.1 pc = .ok (.iconst z, 1)) (hn : pc + 1 = n) {v : Int32} (hv : Int32.ofInt z = v) (k : sw_wp w X l d y Qc n lc (.int v :: st) h) : sw_wp w X l d y Qc pc lc (st) h := by
  subst hn
  intro p e s m args below meth c s₁ B hml hK hi H locs hP hS ls hl
  exact lv_iconst B.exec B.bytes hd hv (k p e s m args below meth c s₁ B hml hK hi H locs hP hS ls hl)
theorem sw_bipush (n : Nat) {z : Int} (hd : decode y.2.1 pc = .ok (.bipush z, 2)) (hn : pc + 2 = n) {v : Int32} (hv : (Int8.ofInt z).toInt32 = v) (k : sw_wp w X l d y Qc n lc (.int v :: st) h) : sw_wp w X l d y Qc pc lc (st) h := by
  subst hn
  intro p e s m args below meth c s₁ B hml hK hi H locs hP hS ls hl
  exact lv_bipush B.exec B.bytes hd hv (k p e s m args below meth c s₁ B hml hK hi H locs hP hS ls hl)
theorem sw_sipush (n : Nat) {z : Int} (hd : decode y.2.1 pc = .ok (.sipush z, 3)) (hn : pc + 3 = n) {v : Int32} (hv : (Int16.ofInt z).toInt32 = v) (k : sw_wp w X l d y Qc n lc (.int v :: st) h) : sw_wp w X l d y Qc pc lc (st) h := by
  subst hn
  intro p e s m args below meth c s₁ B hml hK hi H locs hP hS ls hl
  exact lv_sipush B.exec B.bytes hd hv (k p e s m args below meth c s₁ B hml hK hi H locs hP hS ls hl)
theorem sw_lconst (n : Nat) {z : Fin 2} (hd : decode y.2.1 pc = .ok (.lconst z, 1)) (hn : pc + 1 = n) {v : Int64} (hv : Int64.ofNat (z : Nat) = v) (k : sw_wp w X l d y Qc n lc (.long v :: st) h) : sw_wp w X l d y Qc pc lc (st) h := by
  subst hn
  intro p e s m args below meth c s₁ B hml hK hi H locs hP hS ls hl
  exact lv_lconst B.exec B.bytes hd hv (k p e s m args below meth c s₁ B hml hK hi H locs hP hS ls hl)
theorem sw_iload_n (n : Nat) {j : Fin 4} {i : Nat} {x : Int32} (hd : decode y.2.1 pc = .ok (.iload_n j, 1)) (hn : pc + 1 = n) (h9 : (j : Nat) = i) (hg : sw_lg lc i = some (.int x)) (k : sw_wp w X l d y Qc n lc (.int x :: st) h) : sw_wp w X l d y Qc pc lc (st) h := by
  subst hn
  intro p e s m args below meth c s₁ B hml hK hi H locs hP hS ls hl
  exact lv_iload_n B.exec B.bytes hd h9 (hl.at hg) (k p e s m args below meth c s₁ B hml hK hi H locs hP hS ls hl)
theorem sw_iload (n : Nat) {i : Nat} {x : Int32} (hd : decode y.2.1 pc = .ok (.iload i, 2)) (hn : pc + 2 = n) (hg : sw_lg lc i = some (.int x)) (k : sw_wp w X l d y Qc n lc (.int x :: st) h) : sw_wp w X l d y Qc pc lc (st) h := by
  subst hn
  intro p e s m args below meth c s₁ B hml hK hi H locs hP hS ls hl
  exact lv_iload B.exec B.bytes hd (hl.at hg) (k p e s m args below meth c s₁ B hml hK hi H locs hP hS ls hl)
theorem sw_lload_n (n : Nat) {j : Fin 4} {i : Nat} {x : Int64} (hd : decode y.2.1 pc = .ok (.lload_n j, 1)) (hn : pc + 1 = n) (h9 : (j : Nat) = i) (hg : sw_lg lc i = some (.long x)) (k : sw_wp w X l d y Qc n lc (.long x :: st) h) : sw_wp w X l d y Qc pc lc (st) h := by
  subst hn
  intro p e s m args below meth c s₁ B hml hK hi H locs hP hS ls hl
  exact lv_lload_n B.exec B.bytes hd h9 (hl.at hg) (k p e s m args below meth c s₁ B hml hK hi H locs hP hS ls hl)
theorem sw_lload (n : Nat) {i : Nat} {x : Int64} (hd : decode y.2.1 pc = .ok (.lload i, 2)) (hn : pc + 2 = n) (hg : sw_lg lc i = some (.long x)) (k : sw_wp w X l d y Qc n lc (.long x :: st) h) : sw_wp w X l d y Qc pc lc (st) h := by
  subst hn
  intro p e s m args below meth c s₁ B hml hK hi H locs hP hS ls hl
  exact lv_lload B.exec B.bytes hd (hl.at hg) (k p e s m args below meth c s₁ B hml hK hi H locs hP hS ls hl)
theorem sw_aload_n (n : Nat) {j : Fin 4} {i : Nat} {x : Nat} (hd : decode y.2.1 pc = .ok (.aload_n j, 1)) (hn : pc + 1 = n) (h9 : (j : Nat) = i) (hg : sw_lg lc i = some (.ref x)) (k : sw_wp w X l d y Qc n lc (.ref x :: st) h) : sw_wp w X l d y Qc pc lc (st) h := by
  subst hn
  intro p e s m args below meth c s₁ B hml hK hi H locs hP hS ls hl
  exact lv_aload_n B.exec B.bytes hd h9 (hl.at hg) (k p e s m args below meth c s₁ B hml hK hi H locs hP hS ls hl)
theorem sw_aload (n : Nat) {i : Nat} {x : Nat} (hd : decode y.2.1 pc = .ok (.aload i, 2)) (hn : pc + 2 = n) (hg : sw_lg lc i = some (.ref x)) (k : sw_wp w X l d y Qc n lc (.ref x :: st) h) : sw_wp w X l d y Qc pc lc (st) h := by
  subst hn
  intro p e s m args below meth c s₁ B hml hK hi H locs hP hS ls hl
  exact lv_aload B.exec B.bytes hd (hl.at hg) (k p e s m args below meth c s₁ B hml hK hi H locs hP hS ls hl)
theorem sw_istore_n (n : Nat) {j : Fin 4} {i : Nat} {x : Int32} (hd : decode y.2.1 pc = .ok (.istore_n j, 1)) (hn : pc + 1 = n) (hi : (j : Nat) = i) (hm : i < y.2.2.1) (he : sw_s1 i (.int x) lc = lc') (k : sw_wp w X l d y Qc n lc' (st) h) : sw_wp w X l d y Qc pc lc (.int x :: st) h := by
  subst hn
  subst hi
  intro p e s m args below meth c s₁ B hml hK hj H locs hP hS ls hl
  obtain ⟨ls', e', h'⟩ := hl.s1 (v := .int x) hm rfl he
  have kk := k p e s m args below meth c s₁ B hml hK hj H locs hP hS ls' h'
  intro T hT Y
  obtain ⟨t, a1, b1⟩ := kk T hT Y
  refine ⟨t, ?_, b1⟩
  have e9 : storeLocals ls j (.int x) = some ls' := e'
  have hx := B.exec
  have hb := B.bytes
  jvm_step Y.here [Y.here.top, ↓top_set Y.here.top, hx, hb, hd, e9, sw_cv, List.map_cons]
  exact a1
theorem sw_istore (n : Nat) {i : Nat} {x : Int32} (hd : decode y.2.1 pc = .ok (.istore i, 2)) (hn : pc + 2 = n) (hm : i < y.2.2.1) (he : sw_s1 i (.int x) lc = lc') (k : sw_wp w X l d y Qc n lc' (st) h) : sw_wp w X l d y Qc pc lc (.int x :: st) h := by
  subst hn
  intro p e s m args below meth c s₁ B hml hK hj H locs hP hS ls hl
  obtain ⟨ls', e', h'⟩ := hl.s1 (v := .int x) hm rfl he
  have kk := k p e s m args below meth c s₁ B hml hK hj H locs hP hS ls' h'
  intro T hT Y
  obtain ⟨t, a1, b1⟩ := kk T hT Y
  refine ⟨t, ?_, b1⟩
  have e9 : storeLocals ls i (.int x) = some ls' := e'
  have hx := B.exec
  have hb := B.bytes
  jvm_step Y.here [Y.here.top, ↓top_set Y.here.top, hx, hb, hd, e9, sw_cv, List.map_cons]
  exact a1
theorem sw_lstore_n (n : Nat) {j : Fin 4} {i : Nat} {x : Int64} (hd : decode y.2.1 pc = .ok (.lstore_n j, 1)) (hn : pc + 1 = n) (hi : (j : Nat) = i) (hm : i + 1 < y.2.2.1) (he : sw_s2 i (.long x) lc = lc') (k : sw_wp w X l d y Qc n lc' (st) h) : sw_wp w X l d y Qc pc lc (.long x :: st) h := by
  subst hn
  subst hi
  intro p e s m args below meth c s₁ B hml hK hj H locs hP hS ls hl
  obtain ⟨ls', e', h'⟩ := hl.s2 (v := .long x) hm rfl he
  have kk := k p e s m args below meth c s₁ B hml hK hj H locs hP hS ls' h'
  intro T hT Y
  obtain ⟨t, a1, b1⟩ := kk T hT Y
  refine ⟨t, ?_, b1⟩
  have e9 : storeLocals ls j (.long x) = some ls' := e'
  have hx := B.exec
  have hb := B.bytes
  jvm_step Y.here [Y.here.top, ↓top_set Y.here.top, hx, hb, hd, e9, sw_cv, List.map_cons]
  exact a1
theorem sw_lstore (n : Nat) {i : Nat} {x : Int64} (hd : decode y.2.1 pc = .ok (.lstore i, 2)) (hn : pc + 2 = n) (hm : i + 1 < y.2.2.1) (he : sw_s2 i (.long x) lc = lc') (k : sw_wp w X l d y Qc n lc' (st) h) : sw_wp w X l d y Qc pc lc (.long x :: st) h := by
  subst hn
  intro p e s m args below meth c s₁ B hml hK hj H locs hP hS ls hl
  obtain ⟨ls', e', h'⟩ := hl.s2 (v := .long x) hm rfl he
  have kk := k p e s m args below meth c s₁ B hml hK hj H locs hP hS ls' h'
  intro T hT Y
  obtain ⟨t, a1, b1⟩ := kk T hT Y
  refine ⟨t, ?_, b1⟩
  have e9 : storeLocals ls i (.long x) = some ls' := e'
  have hx := B.exec
  have hb := B.bytes
  jvm_step Y.here [Y.here.top, ↓top_set Y.here.top, hx, hb, hd, e9, sw_cv, List.map_cons]
  exact a1
theorem sw_astore_n (n : Nat) {j : Fin 4} {i : Nat} {x : Nat} (hd : decode y.2.1 pc = .ok (.astore_n j, 1)) (hn : pc + 1 = n) (hi : (j : Nat) = i) (hm : i < y.2.2.1) (he : sw_s1 i (.ref x) lc = lc') (k : sw_wp w X l d y Qc n lc' (st) h) : sw_wp w X l d y Qc pc lc (.ref x :: st) h := by
  subst hn
  subst hi
  intro p e s m args below meth c s₁ B hml hK hj H locs hP hS ls hl
  obtain ⟨ls', e', h'⟩ := hl.s1 (v := .ref x) hm rfl he
  have kk := k p e s m args below meth c s₁ B hml hK hj H locs hP hS ls' h'
  intro T hT Y
  obtain ⟨t, a1, b1⟩ := kk T hT Y
  refine ⟨t, ?_, b1⟩
  have e9 : storeLocals ls j (.ref (X.2.2.2 x)) = some ls' := e'
  have hx := B.exec
  have hb := B.bytes
  jvm_step Y.here [Y.here.top, ↓top_set Y.here.top, hx, hb, hd, e9, sw_cv, List.map_cons]
  exact ⟨rfl, a1⟩
theorem sw_astore (n : Nat) {i : Nat} {x : Nat} (hd : decode y.2.1 pc = .ok (.astore i, 2)) (hn : pc + 2 = n) (hm : i < y.2.2.1) (he : sw_s1 i (.ref x) lc = lc') (k : sw_wp w X l d y Qc n lc' (st) h) : sw_wp w X l d y Qc pc lc (.ref x :: st) h := by
  subst hn
  intro p e s m args below meth c s₁ B hml hK hj H locs hP hS ls hl
  obtain ⟨ls', e', h'⟩ := hl.s1 (v := .ref x) hm rfl he
  have kk := k p e s m args below meth c s₁ B hml hK hj H locs hP hS ls' h'
  intro T hT Y
  obtain ⟨t, a1, b1⟩ := kk T hT Y
  refine ⟨t, ?_, b1⟩
  have e9 : storeLocals ls i (.ref (X.2.2.2 x)) = some ls' := e'
  have hx := B.exec
  have hb := B.bytes
  jvm_step Y.here [Y.here.top, ↓top_set Y.here.top, hx, hb, hd, e9, sw_cv, List.map_cons]
  exact ⟨rfl, a1⟩
theorem sw_iinc (n : Nat) {i : Nat} {z : Int} {x v : Int32} (hd : decode y.2.1 pc = .ok (.iinc i z, 3)) (hn : pc + 3 = n) (hm : i < y.2.2.1) (hg : sw_lg lc i = some (.int x)) (hv : Int32.ofInt z = v) (he : sw_s1 i (.int (x + v)) lc = lc') (k : sw_wp w X l d y Qc n lc' (st) h) : sw_wp w X l d y Qc pc lc (st) h := by
  subst hn
  subst hv
  intro p e s m args below meth c s₁ B hml hK hj H locs hP hS ls hl
  obtain ⟨ls', e', h'⟩ := hl.s1 (v := .int (x + Int32.ofInt z)) hm rfl he
  have kk := k p e s m args below meth c s₁ B hml hK hj H locs hP hS ls' h'
  have hg2 : ls[i]? = some (.val (.int x)) := hl.at hg
  intro T hT Y
  obtain ⟨t, a1, b1⟩ := kk T hT Y
  refine ⟨t, ?_, b1⟩
  have e9 : storeLocals ls i (.int (x + Int32.ofInt z)) = some ls' := e'
  have hx := B.exec
  have hb := B.bytes
  jvm_step Y.here [Y.here.top, ↓top_set Y.here.top, hx, hb, hd, hg2, e9]
  exact a1
theorem sw_dup (n : Nat) {v : Value} (hd : decode y.2.1 pc = .ok (.dup, 1)) (hn : pc + 1 = n) (hc : v.category = 1) (k : sw_wp w X l d y Qc n lc (v :: v :: st) h) : sw_wp w X l d y Qc pc lc (v :: st) h := by
  subst hn
  intro p e s m args below meth c s₁ B hml hK hi H locs hP hS ls hl
  exact lv_dup B.exec B.bytes hd (by rw [sw_cv_cat]; exact hc) (k p e s m args below meth c s₁ B hml hK hi H locs hP hS ls hl)
theorem sw_pop (n : Nat) {v : Value} (hd : decode y.2.1 pc = .ok (.pop, 1)) (hn : pc + 1 = n) (hc : v.category = 1) (k : sw_wp w X l d y Qc n lc (st) h) : sw_wp w X l d y Qc pc lc (v :: st) h := by
  subst hn
  intro p e s m args below meth c s₁ B hml hK hi H locs hP hS ls hl
  exact lv_pop B.exec B.bytes hd (by rw [sw_cv_cat]; exact hc) (k p e s m args below meth c s₁ B hml hK hi H locs hP hS ls hl)
theorem sw_dup2 (n : Nat) {v u : Value} (hd : decode y.2.1 pc = .ok (.dup2, 1)) (hn : pc + 1 = n) (hc : v.category = 1) (hc2 : u.category = 1) (k : sw_wp w X l d y Qc n lc (v :: u :: v :: u :: st) h) : sw_wp w X l d y Qc pc lc (v :: u :: st) h := by
  subst hn
  intro p e s m args below meth c s₁ B hml hK hi H locs hP hS ls hl
  exact lv_dup2_11 B.exec B.bytes hd (by rw [sw_cv_cat]; exact hc) (by rw [sw_cv_cat]; exact hc2) (k p e s m args below meth c s₁ B hml hK hi H locs hP hS ls hl)
theorem sw_goto (tgt : Nat) {off : Int} (hd : decode y.2.1 pc = .ok (.goto off, 3)) (ht : (pc : Int) + off = (tgt : Int)) (k : sw_wp w X l d y Qc tgt lc (st) h) : sw_wp w X l d y Qc pc lc (st) h := by
  intro p e s m args below meth c s₁ B hml hK hi H locs hP hS ls hl
  exact lv_goto B.exec B.bytes hd ht (k p e s m args below meth c s₁ B hml hK hi H locs hP hS ls hl)
theorem sw_if_eq (tgt n : Nat) {a : Int32} {off : Int} (hd : decode y.2.1 pc = .ok (.ifCond .eq off, 3)) (ht : (pc : Int) + off = (tgt : Int)) (hn : pc + 3 = n) (kt : a = 0 → sw_wp w X l d y Qc tgt lc (st) h) (kf : ¬ a = 0 → sw_wp w X l d y Qc n lc (st) h) : sw_wp w X l d y Qc pc lc (.int a :: st) h := by
  subst hn
  intro p e s m args below meth c s₁ B hml hK hi H locs hP hS ls hl
  exact lv_if_eq B.exec B.bytes hd ht (fun q => kt q p e s m args below meth c s₁ B hml hK hi H locs hP hS ls hl) (fun q => kf q p e s m args below meth c s₁ B hml hK hi H locs hP hS ls hl)
theorem sw_icmp_eq (tgt n : Nat) {a b : Int32} {off : Int} (hd : decode y.2.1 pc = .ok (.if_icmp .eq off, 3)) (ht : (pc : Int) + off = (tgt : Int)) (hn : pc + 3 = n) (kt : a = b → sw_wp w X l d y Qc tgt lc (st) h) (kf : ¬ a = b → sw_wp w X l d y Qc n lc (st) h) : sw_wp w X l d y Qc pc lc (.int b :: .int a :: st) h := by
  subst hn
  intro p e s m args below meth c s₁ B hml hK hi H locs hP hS ls hl
  exact lv_icmp_eq B.exec B.bytes hd ht (fun q => kt q p e s m args below meth c s₁ B hml hK hi H locs hP hS ls hl) (fun q => kf q p e s m args below meth c s₁ B hml hK hi H locs hP hS ls hl)
theorem sw_if_ne (tgt n : Nat) {a : Int32} {off : Int} (hd : decode y.2.1 pc = .ok (.ifCond .ne off, 3)) (ht : (pc : Int) + off = (tgt : Int)) (hn : pc + 3 = n) (kt : ¬ a = 0 → sw_wp w X l d y Qc tgt lc (st) h) (kf : a = 0 → sw_wp w X l d y Qc n lc (st) h) : sw_wp w X l d y Qc pc lc (.int a :: st) h := by
  subst hn
  intro p e s m args below meth c s₁ B hml hK hi H locs hP hS ls hl
  exact lv_if_ne B.exec B.bytes hd ht (fun q => kt q p e s m args below meth c s₁ B hml hK hi H locs hP hS ls hl) (fun q => kf q p e s m args below meth c s₁ B hml hK hi H locs hP hS ls hl)
theorem sw_icmp_ne (tgt n : Nat) {a b : Int32} {off : Int} (hd : decode y.2.1 pc = .ok (.if_icmp .ne off, 3)) (ht : (pc : Int) + off = (tgt : Int)) (hn : pc + 3 = n) (kt : ¬ a = b → sw_wp w X l d y Qc tgt lc (st) h) (kf : a = b → sw_wp w X l d y Qc n lc (st) h) : sw_wp w X l d y Qc pc lc (.int b :: .int a :: st) h := by
  subst hn
  intro p e s m args below meth c s₁ B hml hK hi H locs hP hS ls hl
  exact lv_icmp_ne B.exec B.bytes hd ht (fun q => kt q p e s m args below meth c s₁ B hml hK hi H locs hP hS ls hl) (fun q => kf q p e s m args below meth c s₁ B hml hK hi H locs hP hS ls hl)
theorem sw_if_lt (tgt n : Nat) {a : Int32} {off : Int} (hd : decode y.2.1 pc = .ok (.ifCond .lt off, 3)) (ht : (pc : Int) + off = (tgt : Int)) (hn : pc + 3 = n) (kt : a < 0 → sw_wp w X l d y Qc tgt lc (st) h) (kf : ¬ a < 0 → sw_wp w X l d y Qc n lc (st) h) : sw_wp w X l d y Qc pc lc (.int a :: st) h := by
  subst hn
  intro p e s m args below meth c s₁ B hml hK hi H locs hP hS ls hl
  exact lv_if_lt B.exec B.bytes hd ht (fun q => kt q p e s m args below meth c s₁ B hml hK hi H locs hP hS ls hl) (fun q => kf q p e s m args below meth c s₁ B hml hK hi H locs hP hS ls hl)
theorem sw_icmp_lt (tgt n : Nat) {a b : Int32} {off : Int} (hd : decode y.2.1 pc = .ok (.if_icmp .lt off, 3)) (ht : (pc : Int) + off = (tgt : Int)) (hn : pc + 3 = n) (kt : a < b → sw_wp w X l d y Qc tgt lc (st) h) (kf : ¬ a < b → sw_wp w X l d y Qc n lc (st) h) : sw_wp w X l d y Qc pc lc (.int b :: .int a :: st) h := by
  subst hn
  intro p e s m args below meth c s₁ B hml hK hi H locs hP hS ls hl
  exact lv_icmp_lt B.exec B.bytes hd ht (fun q => kt q p e s m args below meth c s₁ B hml hK hi H locs hP hS ls hl) (fun q => kf q p e s m args below meth c s₁ B hml hK hi H locs hP hS ls hl)
theorem sw_if_ge (tgt n : Nat) {a : Int32} {off : Int} (hd : decode y.2.1 pc = .ok (.ifCond .ge off, 3)) (ht : (pc : Int) + off = (tgt : Int)) (hn : pc + 3 = n) (kt : 0 ≤ a → sw_wp w X l d y Qc tgt lc (st) h) (kf : ¬ 0 ≤ a → sw_wp w X l d y Qc n lc (st) h) : sw_wp w X l d y Qc pc lc (.int a :: st) h := by
  subst hn
  intro p e s m args below meth c s₁ B hml hK hi H locs hP hS ls hl
  exact lv_if_ge B.exec B.bytes hd ht (fun q => kt q p e s m args below meth c s₁ B hml hK hi H locs hP hS ls hl) (fun q => kf q p e s m args below meth c s₁ B hml hK hi H locs hP hS ls hl)
theorem sw_icmp_ge (tgt n : Nat) {a b : Int32} {off : Int} (hd : decode y.2.1 pc = .ok (.if_icmp .ge off, 3)) (ht : (pc : Int) + off = (tgt : Int)) (hn : pc + 3 = n) (kt : b ≤ a → sw_wp w X l d y Qc tgt lc (st) h) (kf : ¬ b ≤ a → sw_wp w X l d y Qc n lc (st) h) : sw_wp w X l d y Qc pc lc (.int b :: .int a :: st) h := by
  subst hn
  intro p e s m args below meth c s₁ B hml hK hi H locs hP hS ls hl
  exact lv_icmp_ge B.exec B.bytes hd ht (fun q => kt q p e s m args below meth c s₁ B hml hK hi H locs hP hS ls hl) (fun q => kf q p e s m args below meth c s₁ B hml hK hi H locs hP hS ls hl)
theorem sw_if_gt (tgt n : Nat) {a : Int32} {off : Int} (hd : decode y.2.1 pc = .ok (.ifCond .gt off, 3)) (ht : (pc : Int) + off = (tgt : Int)) (hn : pc + 3 = n) (kt : 0 < a → sw_wp w X l d y Qc tgt lc (st) h) (kf : ¬ 0 < a → sw_wp w X l d y Qc n lc (st) h) : sw_wp w X l d y Qc pc lc (.int a :: st) h := by
  subst hn
  intro p e s m args below meth c s₁ B hml hK hi H locs hP hS ls hl
  exact lv_if_gt B.exec B.bytes hd ht (fun q => kt q p e s m args below meth c s₁ B hml hK hi H locs hP hS ls hl) (fun q => kf q p e s m args below meth c s₁ B hml hK hi H locs hP hS ls hl)
theorem sw_icmp_gt (tgt n : Nat) {a b : Int32} {off : Int} (hd : decode y.2.1 pc = .ok (.if_icmp .gt off, 3)) (ht : (pc : Int) + off = (tgt : Int)) (hn : pc + 3 = n) (kt : b < a → sw_wp w X l d y Qc tgt lc (st) h) (kf : ¬ b < a → sw_wp w X l d y Qc n lc (st) h) : sw_wp w X l d y Qc pc lc (.int b :: .int a :: st) h := by
  subst hn
  intro p e s m args below meth c s₁ B hml hK hi H locs hP hS ls hl
  exact lv_icmp_gt B.exec B.bytes hd ht (fun q => kt q p e s m args below meth c s₁ B hml hK hi H locs hP hS ls hl) (fun q => kf q p e s m args below meth c s₁ B hml hK hi H locs hP hS ls hl)
theorem sw_if_le (tgt n : Nat) {a : Int32} {off : Int} (hd : decode y.2.1 pc = .ok (.ifCond .le off, 3)) (ht : (pc : Int) + off = (tgt : Int)) (hn : pc + 3 = n) (kt : a ≤ 0 → sw_wp w X l d y Qc tgt lc (st) h) (kf : ¬ a ≤ 0 → sw_wp w X l d y Qc n lc (st) h) : sw_wp w X l d y Qc pc lc (.int a :: st) h := by
  subst hn
  intro p e s m args below meth c s₁ B hml hK hi H locs hP hS ls hl
  exact lv_if_le B.exec B.bytes hd ht (fun q => kt q p e s m args below meth c s₁ B hml hK hi H locs hP hS ls hl) (fun q => kf q p e s m args below meth c s₁ B hml hK hi H locs hP hS ls hl)
theorem sw_icmp_le (tgt n : Nat) {a b : Int32} {off : Int} (hd : decode y.2.1 pc = .ok (.if_icmp .le off, 3)) (ht : (pc : Int) + off = (tgt : Int)) (hn : pc + 3 = n) (kt : a ≤ b → sw_wp w X l d y Qc tgt lc (st) h) (kf : ¬ a ≤ b → sw_wp w X l d y Qc n lc (st) h) : sw_wp w X l d y Qc pc lc (.int b :: .int a :: st) h := by
  subst hn
  intro p e s m args below meth c s₁ B hml hK hi H locs hP hS ls hl
  exact lv_icmp_le B.exec B.bytes hd ht (fun q => kt q p e s m args below meth c s₁ B hml hK hi H locs hP hS ls hl) (fun q => kf q p e s m args below meth c s₁ B hml hK hi H locs hP hS ls hl)
theorem sw_tabIn (tgt : Nat) {dflt lo hi9 : Int} {offs : Array Int} {len : Nat} {a : Int32} {off : Int} (hd : decode y.2.1 pc = .ok (.tableswitch dflt lo hi9 offs, len)) (h1 : ¬ a.toInt < lo) (h2 : ¬ hi9 < a.toInt) (ho : offs[(a.toInt - lo).toNat]? = some off) (ht : (pc : Int) + off = (tgt : Int)) (k : sw_wp w X l d y Qc tgt lc (st) h) : sw_wp w X l d y Qc pc lc (.int a :: st) h := by
  intro p e s m args below meth c s₁ B hml hK hi H locs hP hS ls hl
  exact lv_tableIn B.exec B.bytes hd h1 h2 ho ht (k p e s m args below meth c s₁ B hml hK hi H locs hP hS ls hl)
theorem sw_tabOut (tgt : Nat) {dflt lo hi9 : Int} {offs : Array Int} {len : Nat} {a : Int32} (hd : decode y.2.1 pc = .ok (.tableswitch dflt lo hi9 offs, len)) (h1 : a.toInt < lo ∨ hi9 < a.toInt) (ht : (pc : Int) + dflt = (tgt : Int)) (k : sw_wp w X l d y Qc tgt lc (st) h) : sw_wp w X l d y Qc pc lc (.int a :: st) h := by
  intro p e s m args below meth c s₁ B hml hK hi H locs hP hS ls hl
  exact lv_tableOut B.exec B.bytes hd h1 ht (k p e s m args below meth c s₁ B hml hK hi H locs hP hS ls hl)
theorem sw_topI {a : Int32} (k : ∀ b : Int32, b = a → sw_wp w X l d y Qc pc lc (.int b :: st) h) : sw_wp w X l d y Qc pc lc (.int a :: st) h := k a rfl
theorem sw_topL {a : Int64} (k : ∀ b : Int64, b = a → sw_wp w X l d y Qc pc lc (.long b :: st) h) : sw_wp w X l d y Qc pc lc (.long a :: st) h := k a rfl
end sw_rules
end
section
/-! THE RULES OF THE HEAP, OF RETURNS AND OF CALLS -/
def sw_cf (ci : Nat) (C : String) (T : u_T) (N : Nat) : Prop := sw_cl[ci]? = some (C, T, N) ∧ sw_nf ci = N ∧ (∀ w ∈ u_ws C T N, w ∈ sw_big) ∧ (∀ k, k < N → parseFieldDescriptor (T k).2.2.1 = some (sw_ty ci k)) ∧ (∀ a, a < N → ∀ b, b < N → a ≠ b → (T a).2.1 ≠ (T b).2.1)
/-- the entry idx of own's file is field k of class ci -/
def sw_gf (own : String) (idx ci k : Nat) : Prop := ∃ (C : String) (T : u_T) (N : Nat), sw_cf ci C T N ∧ k < N ∧ Cond.fieldLink own idx (T k).1 (T k).2.1 (T k).2.2.1 ∈ sw_big ∧ ((T k).2.2.2 = false ∨ True)
def sw_pf (own : String) (idx ci k : Nat) : Prop := ∃ (C : String) (T : u_T) (N : Nat), sw_cf ci C T N ∧ k < N ∧ Cond.fieldLink own idx (T k).1 (T k).2.1 (T k).2.2.1 ∈ sw_big ∧ (T k).2.2.2 = false
def sw_mv (own : String) (idx : Nat) (y : sw_M) (ci np : Nat) : Prop := ∃ (T : u_T) (N : Nat), sw_cl[ci]? = some (y.1.cls, T, N) ∧ (Cond.methodLink own idx y.1 ∈ sw_big ∧ Cond.instanceMethod y.1 ∈ sw_big ∧ Cond.selects y.1.cls y.1 y.1 ∈ sw_big ∧ Cond.initialized y.1.cls ∈ sw_big ∧ Cond.code y.1 y.2.1 y.2.2.1 y.2.2.2 ∈ sw_big) ∧ (y.1.cls ≠ "java/lang/invoke/MethodHandle" ∧ y.1.cls ≠ "java/lang/invoke/VarHandle" ∧ (parseMethodDescriptor y.1.desc).map (fun d => d.parameters.length) = some np) ∧ y.2.2.1 ≤ 21
def sw_ms (own : String) (idx : Nat) (y : sw_M) (np : Nat) : Prop := (Cond.methodLink own idx y.1 ∈ sw_big ∧ Cond.static y.1 ∈ sw_big ∧ Cond.initialized y.1.cls ∈ sw_big ∧ Cond.code y.1 y.2.1 y.2.2.1 y.2.2.2 ∈ sw_big) ∧ (y.1.cls ≠ "java/lang/invoke/MethodHandle" ∧ y.1.cls ≠ "java/lang/invoke/VarHandle" ∧ (parseMethodDescriptor y.1.desc).map (fun d => d.parameters.length) = some np) ∧ y.2.2.1 ≤ 21
theorem sw_mem {y : sw_M} {w : Cond} (h : w ∈ sw_big) : w ∈ sw_mw y := List.mem_cons_of_mem _ h
theorem sw_good {y y2 : sw_M} (hc : Cond.code y2.1 y2.2.1 y2.2.2.1 y2.2.2.2 ∈ sw_big) : GoodIn (sw_mw y) (sw_mw y2) := by
  intro u hu
  rcases List.mem_cons.mp hu with rfl | hu
  · exact ⟨sw_mem hc, sw_big_good hc⟩
  · exact ⟨sw_mem hu, sw_big_good hu⟩
theorem sw_good1 {y : sw_M} {u : Cond} (h : u ∈ sw_big) : u ∈ sw_mw y ∧ ((u.onTables && u.keeps) = true ∨ ∃ ty, u = .arrayClass ty) := ⟨sw_mem h, sw_big_good h⟩
section sw_heap
variable {w : sw_W} {X : sw_X} {l : Launch} {d : Nat} {y : sw_M} {Qc : sw_Q} {pc : Nat} {lc lc' : List (Nat × Value)} {st : List Value} {h : sw_H}
theorem sw_get0 {p : Program} {e : Env} {s : State} {m : MethodId} {args : Array Value} {below : List Frame} {meth : Method} {c : Code} {s₁ : State} {Q : State → Prop} {R : Room} {H : Heap} {locs : List Loc} {ls : Array Slot} {idx ci k a : Nat} {rest : List Value}
    (B : BodyLoose p l y.1 (headSpec (sw_mw y) (sw_rm d)) y.2.1 y.2.2.1 y.2.2.2 e s m args below meth c s₁) (hK : va_K (X.1, X.2.1) sw_cl (sw_ts X) s) (hP : va_P (X.1, X.2.1) sw_cl (sw_ws w X h) H) (hd : decode y.2.1 pc = .ok (.getfield idx, 3)) (g : sw_gf y.1.cls idx ci k) (ho : sw_o w a ci)
    (kk : W p l e R s m args below meth c H locs 0 0 Q (F0 m (pc + 3) ls (sw_v X.2.2.2 (sw_ty ci k) (h.1 a k) (h.2 a k) (w.2.2 a k) :: rest))) : W p l e R s m args below meth c H locs 0 0 Q (F0 m pc ls (.ref (X.2.2.2 a) :: rest)) := by
  obtain ⟨C, T, N, ⟨c1, c2, c3, c4, c5⟩, hk, hl, -⟩ := g
  have hts := atoms_spec (ws := sw_mw y) B.pre
  have hown : s.vm.findClass y.1.cls = some m.cls := findClass_of_methodNamed B.named
  have hat := sw_at (w := w) (X := X) (h := h) ho.1
  rw [sw_eO ho] at hat
  exact va_get (ci := ci) (C := C) (T := T) (N := N) B.exec B.bytes hts (fun u hu => sw_mem (c3 u hu)) hown hK hP a hat c1 k hk (hts _ (sw_mem hl)) (fun _ h9 => h9) (sw_fs_at (by rw [c2]; exact hk)) hd kk
theorem sw_getI (n : Nat) {idx ci k a : Nat} (hd : decode y.2.1 pc = .ok (.getfield idx, 3)) (hn : pc + 3 = n) (g : sw_gf y.1.cls idx ci k) (ht : sw_ty ci k = .int) (ho : sw_o w a ci) (kk : sw_wp w X l d y Qc n lc (.int (h.1 a k) :: st) h) : sw_wp w X l d y Qc pc lc (.ref a :: st) h := by
  subst hn
  intro p e s m args below meth c s₁ B hml hK hi H locs hP hS ls hl
  exact sw_get0 B hK hP hd g ho (by rw [ht]; exact kk p e s m args below meth c s₁ B hml hK hi H locs hP hS ls hl)
theorem sw_getZ (n : Nat) {idx ci k a : Nat} (hd : decode y.2.1 pc = .ok (.getfield idx, 3)) (hn : pc + 3 = n) (g : sw_gf y.1.cls idx ci k) (ht : sw_ty ci k = .boolean) (ho : sw_o w a ci) (kk : sw_wp w X l d y Qc n lc (.int (h.1 a k) :: st) h) : sw_wp w X l d y Qc pc lc (.ref a :: st) h := by
  subst hn
  intro p e s m args below meth c s₁ B hml hK hi H locs hP hS ls hl
  exact sw_get0 B hK hP hd g ho (by rw [ht]; exact kk p e s m args below meth c s₁ B hml hK hi H locs hP hS ls hl)
theorem sw_getL (n : Nat) {idx ci k a : Nat} (hd : decode y.2.1 pc = .ok (.getfield idx, 3)) (hn : pc + 3 = n) (g : sw_gf y.1.cls idx ci k) (ht : sw_ty ci k = .long) (ho : sw_o w a ci) (kk : sw_wp w X l d y Qc n lc (.long (h.2 a k) :: st) h) : sw_wp w X l d y Qc pc lc (.ref a :: st) h := by
  subst hn
  intro p e s m args below meth c s₁ B hml hK hi H locs hP hS ls hl
  exact sw_get0 B hK hP hd g ho (by rw [ht]; exact kk p e s m args below meth c s₁ B hml hK hi H locs hP hS ls hl)
theorem sw_getR (n : Nat) {idx ci k a : Nat} (hd : decode y.2.1 pc = .ok (.getfield idx, 3)) (hn : pc + 3 = n) (g : sw_gf y.1.cls idx ci k) (ht : ∀ (σ : Nat → Nat) (i : Int32) (j : Int64) (r : Nat), sw_v σ (sw_ty ci k) i j r = .ref (σ r)) (ho : sw_o w a ci) {b : Nat} (hb : w.2.2 a k = b) (kk : sw_wp w X l d y Qc n lc (.ref b :: st) h) : sw_wp w X l d y Qc pc lc (.ref a :: st) h := by
  subst hn
  subst hb
  intro p e s m args below meth c s₁ B hml hK hi H locs hP hS ls hl
  exact sw_get0 B hK hP hd g ho (by rw [ht]; exact kk p e s m args below meth c s₁ B hml hK hi H locs hP hS ls hl)
theorem sw_putI (n : Nat) {idx ci k a : Nat} {x : Int32} (hd : decode y.2.1 pc = .ok (.putfield idx, 3)) (hn : pc + 3 = n) (g : sw_pf y.1.cls idx ci k) (ht : sw_ty ci k = .int) (ho : sw_o w a ci) (kk : sw_wp w X l d y Qc n lc st (sw_wI h a k x)) : sw_wp w X l d y Qc pc lc (.int x :: .ref a :: st) h := by
  subst hn
  intro p e s m args below meth c s₁ B hml hK hi H locs hP hS ls hl
  obtain ⟨C, T, N, ⟨c1, c2, c3, c4, c5⟩, hk, hl2, hfin⟩ := g
  have hts := atoms_spec (ws := sw_mw y) B.pre
  have hown : s.vm.findClass y.1.cls = some m.cls := findClass_of_methodNamed B.named
  have hat := sw_at (w := w) (X := X) (h := h) ho.1
  rw [sw_eO ho] at hat
  refine va_put (ci := ci) (C := C) (T := T) (N := N) (v := .int x) (ty := .int) B.exec B.bytes hts (fun u hu => sw_mem (c3 u hu)) (sw_ty ci) c4 c5 hown hK hP (sw_D hi) hS a hat c1 k hk (hts _ (sw_mem hl2)) (fun _ h9 => h9) hfin (by rw [c4 k hk, ht]) rfl rfl (by rw [sw_fs_len, c2]; exact hk) hd (fun H1 locs1 hP1 hD1 hS1 => ?_)
  rw [sw_set (w := w) (X := X) (a := a) (h := h) (h' := sw_wI h a k x) (by
    rw [sw_eO ho, sw_fs_set (k := k) (v := .int x) (h := h) (by rw [ht, sw_wI_at]; simp [sw_v, va_up]) (fun j hj => by rw [sw_wI_at]; exact ⟨by simp [va_up, hj], rfl⟩)]) (fun b hb => sw_e_ne (sw_wI_ne hb) rfl)] at hP1
  exact kk p e s m args below meth c s₁ B hml hK hi H1 locs1 hP1 hS1 ls hl
theorem sw_putZ (n : Nat) {idx ci k a : Nat} {x : Int32} (hx : x = 0 ∨ x = 1) (hd : decode y.2.1 pc = .ok (.putfield idx, 3)) (hn : pc + 3 = n) (g : sw_pf y.1.cls idx ci k) (ht : sw_ty ci k = .boolean) (ho : sw_o w a ci) (kk : sw_wp w X l d y Qc n lc st (sw_wI h a k x)) : sw_wp w X l d y Qc pc lc (.int x :: .ref a :: st) h := by
  subst hn
  intro p e s m args below meth c s₁ B hml hK hi H locs hP hS ls hl
  obtain ⟨C, T, N, ⟨c1, c2, c3, c4, c5⟩, hk, hl2, hfin⟩ := g
  have hts := atoms_spec (ws := sw_mw y) B.pre
  have hown : s.vm.findClass y.1.cls = some m.cls := findClass_of_methodNamed B.named
  have hat := sw_at (w := w) (X := X) (h := h) ho.1
  rw [sw_eO ho] at hat
  refine va_put (ci := ci) (C := C) (T := T) (N := N) (v := .int x) (ty := .boolean) B.exec B.bytes hts (fun u hu => sw_mem (c3 u hu)) (sw_ty ci) c4 c5 hown hK hP (sw_D hi) hS a hat c1 k hk (hts _ (sw_mem hl2)) (fun _ h9 => h9) hfin (by rw [c4 k hk, ht]) (by rcases hx with rfl | rfl <;> rfl) (by rcases hx with rfl | rfl <;> rfl) (by rw [sw_fs_len, c2]; exact hk) hd (fun H1 locs1 hP1 hD1 hS1 => ?_)
  rw [sw_set (w := w) (X := X) (a := a) (h := h) (h' := sw_wI h a k x) (by
    rw [sw_eO ho, sw_fs_set (k := k) (v := .int x) (h := h) (by rw [ht, sw_wI_at]; simp [sw_v, va_up]) (fun j hj => by rw [sw_wI_at]; exact ⟨by simp [va_up, hj], rfl⟩)]) (fun b hb => sw_e_ne (sw_wI_ne hb) rfl)] at hP1
  exact kk p e s m args below meth c s₁ B hml hK hi H1 locs1 hP1 hS1 ls hl
theorem sw_putL (n : Nat) {idx ci k a : Nat} {x : Int64} (hd : decode y.2.1 pc = .ok (.putfield idx, 3)) (hn : pc + 3 = n) (g : sw_pf y.1.cls idx ci k) (ht : sw_ty ci k = .long) (ho : sw_o w a ci) (kk : sw_wp w X l d y Qc n lc st (sw_wL h a k x)) : sw_wp w X l d y Qc pc lc (.long x :: .ref a :: st) h := by
  subst hn
  intro p e s m args below meth c s₁ B hml hK hi H locs hP hS ls hl
  obtain ⟨C, T, N, ⟨c1, c2, c3, c4, c5⟩, hk, hl2, hfin⟩ := g
  have hts := atoms_spec (ws := sw_mw y) B.pre
  have hown : s.vm.findClass y.1.cls = some m.cls := findClass_of_methodNamed B.named
  have hat := sw_at (w := w) (X := X) (h := h) ho.1
  rw [sw_eO ho] at hat
  refine va_put (ci := ci) (C := C) (T := T) (N := N) (v := .long x) (ty := .long) B.exec B.bytes hts (fun u hu => sw_mem (c3 u hu)) (sw_ty ci) c4 c5 hown hK hP (sw_D hi) hS a hat c1 k hk (hts _ (sw_mem hl2)) (fun _ h9 => h9) hfin (by rw [c4 k hk, ht]) rfl rfl (by rw [sw_fs_len, c2]; exact hk) hd (fun H1 locs1 hP1 hD1 hS1 => ?_)
  rw [sw_set (w := w) (X := X) (a := a) (h := h) (h' := sw_wL h a k x) (by
    rw [sw_eO ho, sw_fs_set (k := k) (v := .long x) (h := h) (by rw [ht, sw_wL_at]; simp [sw_v, va_up]) (fun j hj => by rw [sw_wL_at]; exact ⟨rfl, by simp [va_up, hj]⟩)]) (fun b hb => sw_e_ne rfl (sw_wL_ne hb))] at hP1
  exact kk p e s m args below meth c s₁ B hml hK hi H1 locs1 hP1 hS1 ls hl
-- arrays
theorem sw_iald (n : Nat) {a z : Nat} {i : Int32} (hd : decode y.2.1 pc = .ok (.iaload, 1)) (hn : pc + 1 = n) (ho : sw_r w a 0 z) (hin : vp_in i z) (kk : sw_wp w X l d y Qc n lc (.int (h.1 a i.toNatClampNeg) :: st) h) : sw_wp w X l d y Qc pc lc (.int i :: .ref a :: st) h := by
  subst hn
  intro p e s m args below meth c s₁ B hml hK hi H locs hP hS ls hl
  have hat := sw_at (w := w) (X := X) (h := h) ho.1
  rw [sw_eR ho] at hat
  exact va_iald B.exec B.bytes hK hP a 0 hat rfl hin hd (kk p e s m args below meth c s₁ B hml hK hi H locs hP hS ls hl)
theorem sw_zald (n : Nat) {a z : Nat} {i : Int32} (hd : decode y.2.1 pc = .ok (.baload, 1)) (hn : pc + 1 = n) (ho : sw_r w a 2 z) (hin : vp_in i z) (kk : sw_wp w X l d y Qc n lc (.int (h.1 a i.toNatClampNeg) :: st) h) : sw_wp w X l d y Qc pc lc (.int i :: .ref a :: st) h := by
  subst hn
  intro p e s m args below meth c s₁ B hml hK hi H locs hP hS ls hl
  have hat := sw_at (w := w) (X := X) (h := h) ho.1
  rw [sw_eR ho] at hat
  exact va_zald B.exec B.bytes hK hP a 2 hat rfl hin hd (kk p e s m args below meth c s₁ B hml hK hi H locs hP hS ls hl)
theorem sw_lald (n : Nat) {a z : Nat} {i : Int32} (hd : decode y.2.1 pc = .ok (.laload, 1)) (hn : pc + 1 = n) (ho : sw_r w a 1 z) (hin : vp_in i z) (kk : sw_wp w X l d y Qc n lc (.long (h.2 a i.toNatClampNeg) :: st) h) : sw_wp w X l d y Qc pc lc (.int i :: .ref a :: st) h := by
  subst hn
  intro p e s m args below meth c s₁ B hml hK hi H locs hP hS ls hl
  have hat := sw_at (w := w) (X := X) (h := h) ho.1
  rw [sw_eR ho] at hat
  exact va_lald B.exec B.bytes hK hP a 1 hat rfl hin hd (kk p e s m args below meth c s₁ B hml hK hi H locs hP hS ls hl)
theorem sw_aald (n : Nat) {a t z b : Nat} {i : Int32} (hd : decode y.2.1 pc = .ok (.aaload, 1)) (hn : pc + 1 = n) (ho : sw_r w a (t + 3) z) (ht : t < 4) (hin : vp_in i z) (hb : w.2.2 a i.toNatClampNeg = b) (kk : sw_wp w X l d y Qc n lc (.ref b :: st) h) : sw_wp w X l d y Qc pc lc (.int i :: .ref a :: st) h := by
  subst hn
  subst hb
  intro p e s m args below meth c s₁ B hml hK hi H locs hP hS ls hl
  have hat := sw_at (w := w) (X := X) (h := h) ho.1
  rw [sw_eR ho] at hat
  have hlt : i.toNatClampNeg < z := Nat.not_le.mp fun q => hin (Or.inr q)
  have fin : ∀ {ty : FieldType}, (sw_ts X)[t + 3]? = some (X.2.2.1 (t + 3), ty) → ty.isReference = true → W p l e (sw_rm d) s m args below meth c H locs 0 0 (MQ below Qc args s 0 0 (sw_A w X)) (F0 m pc ls (List.map (sw_cv X.2.2.2) (.int i :: .ref a :: st))) := by
    intro ty ht1 ht2
    refine W.aald (v := .ref (X.2.2.2 (w.2.2 a i.toNatClampNeg))) (ty := ty) B.exec B.bytes (hP a _ hat) ((hK.2 _ _ ht1).1 z (fun j => .ref (X.2.2.2 (w.2.2 a j)))) ht2 (fun q => by cases q) (by show ¬ (i < 0 ∨ (arrV _ _ _).slots.size ≤ _); rw [arrV_size]; exact hin) (by show (arrV _ _ _).slots[_]? = _; rw [arrV_read _ _ hlt]; rfl) rfl rfl hd (kk p e s m args below meth c s₁ B hml hK hi H locs hP hS ls hl)
  match t, ht with
  | 0, _ => exact fin rfl rfl
  | 1, _ => exact fin rfl rfl
  | 2, _ => exact fin rfl rfl
  | 3, _ => exact fin rfl rfl
theorem sw_upd (f : Nat → Int32) (k : Nat) (x : Int32) : upd f k x = va_up f k x := rfl
theorem sw_updL (f : Nat → Int64) (k : Nat) (x : Int64) : vp_updL f k x = va_up f k x := rfl
theorem sw_iast (n : Nat) {a z : Nat} {i x : Int32} (hd : decode y.2.1 pc = .ok (.iastore, 1)) (hn : pc + 1 = n) (ho : sw_r w a 0 z) (hin : vp_in i z) (kk : sw_wp w X l d y Qc n lc st (sw_wI h a i.toNatClampNeg x)) : sw_wp w X l d y Qc pc lc (.int x :: .int i :: .ref a :: st) h := by
  subst hn
  intro p e s m args below meth c s₁ B hml hK hi H locs hP hS ls hl
  have hat := sw_at (w := w) (X := X) (h := h) ho.1
  rw [sw_eR ho] at hat
  refine va_iast B.exec B.bytes hK hP (sw_D hi) hS a 0 hat rfl hin hd (fun H1 locs1 hP1 hD1 hS1 => ?_)
  rw [sw_set (w := w) (X := X) (a := a) (h := h) (h' := sw_wI h a i.toNatClampNeg x) (by rw [sw_eR ho]; simp only [sw_ar, sw_wI_at, sw_upd]) (fun b hb => sw_e_ne (sw_wI_ne hb) rfl)] at hP1
  exact kk p e s m args below meth c s₁ B hml hK hi H1 locs1 hP1 hS1 ls hl
theorem sw_zast (n : Nat) {a z : Nat} {i x : Int32} (hx : x = 0 ∨ x = 1) (hd : decode y.2.1 pc = .ok (.bastore, 1)) (hn : pc + 1 = n) (ho : sw_r w a 2 z) (hin : vp_in i z) (kk : sw_wp w X l d y Qc n lc st (sw_wI h a i.toNatClampNeg x)) : sw_wp w X l d y Qc pc lc (.int x :: .int i :: .ref a :: st) h := by
  subst hn
  intro p e s m args below meth c s₁ B hml hK hi H locs hP hS ls hl
  have hat := sw_at (w := w) (X := X) (h := h) ho.1
  rw [sw_eR ho] at hat
  have hx2 : vp_nar .boolean x = x := by rcases hx with rfl | rfl <;> rfl
  refine va_zast B.exec B.bytes hK hP (sw_D hi) hS a 2 hat rfl hin hd (fun H1 locs1 hP1 hD1 hS1 => ?_)
  rw [hx2, sw_set (w := w) (X := X) (a := a) (h := h) (h' := sw_wI h a i.toNatClampNeg x) (by rw [sw_eR ho]; simp only [sw_ar, sw_wI_at, sw_upd]) (fun b hb => sw_e_ne (sw_wI_ne hb) rfl)] at hP1
  exact kk p e s m args below meth c s₁ B hml hK hi H1 locs1 hP1 hS1 ls hl
theorem sw_last (n : Nat) {a z : Nat} {i : Int32} {x : Int64} (hd : decode y.2.1 pc = .ok (.lastore, 1)) (hn : pc + 1 = n) (ho : sw_r w a 1 z) (hin : vp_in i z) (kk : sw_wp w X l d y Qc n lc st (sw_wL h a i.toNatClampNeg x)) : sw_wp w X l d y Qc pc lc (.long x :: .int i :: .ref a :: st) h := by
  subst hn
  intro p e s m args below meth c s₁ B hml hK hi H locs hP hS ls hl
  have hat := sw_at (w := w) (X := X) (h := h) ho.1
  rw [sw_eR ho] at hat
  refine va_last B.exec B.bytes hK hP (sw_D hi) hS a 1 hat rfl hin hd (fun H1 locs1 hP1 hD1 hS1 => ?_)
  rw [sw_set (w := w) (X := X) (a := a) (h := h) (h' := sw_wL h a i.toNatClampNeg x) (by rw [sw_eR ho]; simp only [sw_ar, sw_wL_at, sw_updL]) (fun b hb => sw_e_ne rfl (sw_wL_ne hb))] at hP1
  exact kk p e s m args below meth c s₁ B hml hK hi H1 locs1 hP1 hS1 ls hl
theorem sw_alen (n : Nat) {a t z : Nat} (hd : decode y.2.1 pc = .ok (.arraylength, 1)) (hn : pc + 1 = n) (ho : sw_r w a t z) (ht : t < 7) (kk : sw_wp w X l d y Qc n lc (.int (Int32.ofNat z) :: st) h) : sw_wp w X l d y Qc pc lc (.ref a :: st) h := by
  subst hn
  intro p e s m args below meth c s₁ B hml hK hi H locs hP hS ls hl
  have hat := sw_at (w := w) (X := X) (h := h) ho.1
  rw [sw_eR ho] at hat
  have hq : ∃ ty, (sw_ts X)[t]? = some (X.2.2.1 t, ty) := by
    match t, ht with
    | 0, _ => exact ⟨_, rfl⟩
    | 1, _ => exact ⟨_, rfl⟩
    | 2, _ => exact ⟨_, rfl⟩
    | 3, _ => exact ⟨_, rfl⟩
    | 4, _ => exact ⟨_, rfl⟩
    | 5, _ => exact ⟨_, rfl⟩
    | 6, _ => exact ⟨_, rfl⟩
  obtain ⟨ty, hq⟩ := hq
  exact va_alen B.exec B.bytes hK hP a t hat hq rfl hd (kk p e s m args below meth c s₁ B hml hK hi H locs hP hS ls hl)
-- returns
theorem sw_iret {Q : Int32 → sw_H → Prop} {x : Int32} (hd : decode y.2.1 pc = .ok (.ireturn, 1)) (hr : y.2.2.2 = some .int) (hQ : Q x h) : sw_wp w X l d y (sw_qI w X Q) pc lc [.int x] h := by
  intro p e s m args below meth c s₁ B hml hK hi H locs hP hS ls hl
  have hr2 : meth.sig.returnType = some .int := by rw [B.returns, hr]
  exact W.iret (v := x) B.exec B.bytes hr2 (fun t ht hW => ⟨⟨x, h, rfl, hQ, by rw [ht]; exact hP, va_K.moved hW.alike hK, hi⟩, hS.F ht⟩) hS.2.2 hd B.notSynchronized
theorem sw_zret {Q : Int32 → sw_H → Prop} {x : Int32} (hx : x = 0 ∨ x = 1) (hd : decode y.2.1 pc = .ok (.ireturn, 1)) (hr : y.2.2.2 = some .boolean) (hQ : Q x h) : sw_wp w X l d y (sw_qI w X Q) pc lc [.int x] h := by
  intro p e s m args below meth c s₁ B hml hK hi H locs hP hS ls hl
  have hr2 : meth.sig.returnType = some .boolean := by rw [B.returns, hr]
  exact W.zret (v := x) B.exec B.bytes hr2 (by rcases hx with rfl | rfl <;> rfl) (fun t ht hW => ⟨⟨x, h, rfl, hQ, by rw [ht]; exact hP, va_K.moved hW.alike hK, hi⟩, hS.F ht⟩) hS.2.2 hd B.notSynchronized
theorem sw_lret {Q : Int64 → sw_H → Prop} {x : Int64} (hd : decode y.2.1 pc = .ok (.lreturn, 1)) (hr : y.2.2.2 = some .long) (hQ : Q x h) : sw_wp w X l d y (sw_qL w X Q) pc lc [.long x] h := by
  intro p e s m args below meth c s₁ B hml hK hi H locs hP hS ls hl
  have hr2 : meth.sig.returnType = some .long := by rw [B.returns, hr]
  exact W.lret (v := x) B.exec B.bytes hr2 (fun t ht hW => ⟨⟨x, h, rfl, hQ, by rw [ht]; exact hP, va_K.moved hW.alike hK, hi⟩, hS.F ht⟩) hS.2.2 hd B.notSynchronized
theorem sw_vret {Q : sw_H → Prop} (hd : decode y.2.1 pc = .ok (.return_, 1)) (hr : y.2.2.2 = none) (hQ : Q h) : sw_wp w X l d y (sw_qV w X Q) pc lc [] h := by
  intro p e s m args below meth c s₁ B hml hK hi H locs hP hS ls hl
  have hr2 : meth.sig.returnType = none := by rw [B.returns, hr]
  exact W.vret B.exec B.bytes hr2 (fun t ht hW => ⟨⟨h, rfl, hQ, by rw [ht]; exact hP, va_K.moved hW.alike hK, hi⟩, hS.F ht⟩) hS.2.2 hd B.notSynchronized
theorem sw_aret {Q : Nat → sw_H → Prop} {a : Nat} {C : String} (hd : decode y.2.1 pc = .ok (.areturn, 1)) (hr : y.2.2.2 = some (.object C)) (hQ : Q a h) : sw_wp w X l d y (sw_qR w X Q) pc lc [.ref a] h := by
  intro p e s m args below meth c s₁ B hml hK hi H locs hP hS ls hl
  have hr2 : meth.sig.returnType = some (.object C) := by rw [B.returns, hr]
  exact W.aret (v := .ref (X.2.2.2 a)) B.exec B.bytes hr2 (Or.inl ⟨C, rfl⟩) (Or.inr ⟨_, rfl⟩) (fun t ht hW => ⟨⟨(a, h), X.2.2.2 a, rfl, hQ, rfl, by rw [ht]; exact hP, va_K.moved hW.alike hK, hi⟩, hS.F ht⟩) hS.2.2 hd B.notSynchronized
end sw_heap
end
section
/-! THE RULES OF CALLS -/
section sw_calls
variable {w : sw_W} {X : sw_X} {l : Launch} {d : Nat} {y y2 : sw_M} {Qc : sw_Q} {pc : Nat} {lc : List (Nat × Value)} {st stk As : List Value} {h : sw_H}
theorem sw_blind {args : List Value} : FrameBlind (sw_pc w X args h) := by
  intro a U g mk q
  obtain ⟨q0, qP, qK, qi⟩ := q
  exact ⟨q0, qP, va_K.moved (u := U) (U := U.calling g mk a) (Vm.Alike.refl U.vm) qK, qi⟩
theorem sw_words (hw : (st.map fun v => v.category).sum ≤ 8) {m : MethodId} {ls : Array Slot} {rest : List Value} : 2 * (F0 m pc ls rest).monitorRoom + ((st.map (sw_cv X.2.2.2)).map fun v => v.category).sum ≤ 8 := by
  refine lv_room ?_
  rw [List.map_map]
  have e : (Value.category ∘ sw_cv X.2.2.2) = Value.category := funext fun v => sw_cv_cat _ v
  show (List.map (Value.category ∘ sw_cv X.2.2.2) st).sum ≤ 8
  rw [e]
  exact hw
theorem sw_runV {p : Program} {e : Env} {s : State} {m : MethodId} {args : Array Value} {below : List Frame} {meth : Method} {c : Code} {s₁ : State} {H : Heap} {locs : List Loc} {ls : Array Slot} {idx ci np a : Nat} {Q2 : sw_Q}
    (B : BodyLoose p l y.1 (headSpec (sw_mw y) (sw_rm (d + 1))) y.2.1 y.2.2.1 y.2.2.2 e s m args below meth c s₁) (hml : c.maxLocals = y.2.2.1) (hK : va_K (X.1, X.2.1) sw_cl (sw_ts X) s) (hi : sw_inj w X) (hP : va_P (X.1, X.2.1) sw_cl (sw_ws w X h) H) (hl : sw_L X ls y.2.2.1 lc)
    (hd : decode y.2.1 pc = .ok (.invokevirtual idx, 3)) (g : sw_mv y.1.cls idx y2 ci np) (C : sw_ct w X l d y2 (.ref a :: As) h Q2) (ho : sw_o w a ci) (hA : As.length = np) (hst : stk = As.reverse ++ .ref a :: st) (hw : (st.map fun v => v.category).sum ≤ 8) :
    va_Run p l e (sw_rm (d + 1)) s m args below meth c H locs 0 0 0 0 (F0 m pc ls (stk.map (sw_cv X.2.2.2))) (st.map (sw_cv X.2.2.2)) (Q2 (Value.ref (X.2.2.2 a) :: As.map (sw_cv X.2.2.2)).toArray) (sw_A w X) := by
  obtain ⟨T, N, g1, ⟨g2, g3, g4, g5, g6⟩, g7, g8⟩ := g
  have hts := atoms_spec (ws := sw_mw y) B.pre
  have hown : s.vm.findClass y.1.cls = some m.cls := findClass_of_methodNamed B.named
  have hat := sw_at (w := w) (X := X) (h := h) ho.1
  rw [sw_eO ho] at hat
  have hG : GoodIn (sw_mw y) (wsV y.1.cls idx y2.1.cls y2.1 (sw_mw y2)) := by
    intro u hu
    rcases List.mem_append.mp hu with hu | hu
    · simp only [List.mem_cons, List.not_mem_nil, or_false] at hu
      rcases hu with rfl | rfl | rfl | rfl
      · exact sw_good1 g2
      · exact sw_good1 g3
      · exact sw_good1 g4
      · exact sw_good1 g5
    · exact sw_good g6 u hu
  refine va_runV (As := As.map (sw_cv X.2.2.2)) (rest := st.map (sw_cv X.2.2.2)) ⟨B.exec, B.bytes, hml, hown, hts⟩ C (cwV np hts hG rfl rfl rfl ⟨rfl, g7⟩ ⟨Nat.le_refl _, ?_⟩) ⟨sw_blind, ?_, fun U hU hW => ⟨rfl, ?_, va_K.moved hW.alike hK, hi⟩⟩ rfl (by rw [List.length_map]; exact hA) hl.1 ?_ (sw_words hw) hd ⟨Nat.le_refl _, Nat.le_refl _⟩
  · show 8 + (y2.2.2.1 + 11) + d * 40 ≤ (d + 1) * 40
    omega
  · obtain ⟨cell, q1, q2, q3⟩ := va_recv hK hP g1 hat
    exact ⟨cell, q1, q2, q3⟩
  · rw [hU]; exact hP
  · show stk.map (sw_cv X.2.2.2) = _
    rw [hst, List.map_append, List.map_reverse]; rfl
theorem sw_runS {p : Program} {e : Env} {s : State} {m : MethodId} {args : Array Value} {below : List Frame} {meth : Method} {c : Code} {s₁ : State} {H : Heap} {locs : List Loc} {ls : Array Slot} {idx np : Nat} {Q2 : sw_Q}
    (B : BodyLoose p l y.1 (headSpec (sw_mw y) (sw_rm (d + 1))) y.2.1 y.2.2.1 y.2.2.2 e s m args below meth c s₁) (hml : c.maxLocals = y.2.2.1) (hK : va_K (X.1, X.2.1) sw_cl (sw_ts X) s) (hi : sw_inj w X) (hP : va_P (X.1, X.2.1) sw_cl (sw_ws w X h) H) (hl : sw_L X ls y.2.2.1 lc)
    (hd : decode y.2.1 pc = .ok (.invokestatic idx, 3)) (g : sw_ms y.1.cls idx y2 np) (C : sw_ct w X l d y2 As h Q2) (hA : As.length = np) (hst : stk = As.reverse ++ st) (hw : (st.map fun v => v.category).sum ≤ 8) :
    va_Run p l e (sw_rm (d + 1)) s m args below meth c H locs 0 0 0 0 (F0 m pc ls (stk.map (sw_cv X.2.2.2))) (st.map (sw_cv X.2.2.2)) (Q2 (As.map (sw_cv X.2.2.2)).toArray) (sw_A w X) := by
  obtain ⟨⟨g2, g3, g5, g6⟩, g7, g8⟩ := g
  have hts := atoms_spec (ws := sw_mw y) B.pre
  have hown : s.vm.findClass y.1.cls = some m.cls := findClass_of_methodNamed B.named
  have hG : GoodIn (sw_mw y) (va_wsS y.1.cls idx y2.1 (sw_mw y2)) := by
    intro u hu
    rcases List.mem_append.mp hu with hu | hu
    · simp only [List.mem_cons, List.not_mem_nil, or_false] at hu
      rcases hu with rfl | rfl | rfl
      · exact sw_good1 g2
      · exact sw_good1 g3
      · exact sw_good1 g5
    · exact sw_good g6 u hu
  refine va_runS (As := As.map (sw_cv X.2.2.2)) (rest := st.map (sw_cv X.2.2.2)) ⟨B.exec, B.bytes, hml, hown, hts⟩ C (va_cwS np hts hG rfl rfl rfl g7 ⟨Nat.le_refl _, ?_⟩) ⟨sw_blind, fun U hU hW => ⟨rfl, ?_, va_K.moved hW.alike hK, hi⟩⟩ rfl (by rw [List.length_map]; exact hA) hl.1 ?_ (sw_words hw) hd ⟨Nat.le_refl _, Nat.le_refl _⟩
  · show 8 + (y2.2.2.1 + 11) + d * 40 ≤ (d + 1) * 40
    omega
  · rw [hU]; exact hP
  · show stk.map (sw_cv X.2.2.2) = _
    rw [hst, List.map_append, List.map_reverse]
theorem sw_invVI (n : Nat) {idx ci np a : Nat} {Q2 : Int32 → sw_H → Prop} (hd : decode y.2.1 pc = .ok (.invokevirtual idx, 3)) (hn : pc + 3 = n) (g : sw_mv y.1.cls idx y2 ci np) (C : sw_ct w X l d y2 (.ref a :: As) h (sw_qI w X Q2)) (ho : sw_o w a ci) (hA : As.length = np) (hst : stk = As.reverse ++ .ref a :: st) (hw : (st.map fun v => v.category).sum ≤ 8) (k : ∀ (r : Int32) (h2 : sw_H), Q2 r h2 → sw_wp w X l (d + 1) y Qc n lc (.int r :: st) h2) : sw_wp w X l (d + 1) y Qc pc lc stk h := by
  subst hn
  intro p e s m args below meth c s₁ B hml hK hi H locs hP hS ls hl
  refine va_calli (sw_runV B hml hK hi hP hl hd g C ho hA hst hw) hS (fun q _ h9 => h9) (fun q h9 => h9) (fun r u t H1 locs1 ht hvm hq hB hz hk hS1 => ?_)
  obtain ⟨b1, b2, b3⟩ := hB
  rw [ht] at b1
  exact k r u hq p e s m args below meth c s₁ B hml hK hi H1 locs1 b1 hS1 ls hl
theorem sw_invVL (n : Nat) {idx ci np a : Nat} {Q2 : Int64 → sw_H → Prop} (hd : decode y.2.1 pc = .ok (.invokevirtual idx, 3)) (hn : pc + 3 = n) (g : sw_mv y.1.cls idx y2 ci np) (C : sw_ct w X l d y2 (.ref a :: As) h (sw_qL w X Q2)) (ho : sw_o w a ci) (hA : As.length = np) (hst : stk = As.reverse ++ .ref a :: st) (hw : (st.map fun v => v.category).sum ≤ 8) (k : ∀ (r : Int64) (h2 : sw_H), Q2 r h2 → sw_wp w X l (d + 1) y Qc n lc (.long r :: st) h2) : sw_wp w X l (d + 1) y Qc pc lc stk h := by
  subst hn
  intro p e s m args below meth c s₁ B hml hK hi H locs hP hS ls hl
  refine va_calll (sw_runV B hml hK hi hP hl hd g C ho hA hst hw) hS (fun q _ h9 => h9) (fun q h9 => h9) (fun r u t H1 locs1 ht hvm hq hB hz hk hS1 => ?_)
  obtain ⟨b1, b2, b3⟩ := hB
  rw [ht] at b1
  exact k r u hq p e s m args below meth c s₁ B hml hK hi H1 locs1 b1 hS1 ls hl
theorem sw_invVV (n : Nat) {idx ci np a : Nat} {Q2 : sw_H → Prop} (hd : decode y.2.1 pc = .ok (.invokevirtual idx, 3)) (hn : pc + 3 = n) (g : sw_mv y.1.cls idx y2 ci np) (C : sw_ct w X l d y2 (.ref a :: As) h (sw_qV w X Q2)) (ho : sw_o w a ci) (hA : As.length = np) (hst : stk = As.reverse ++ .ref a :: st) (hw : (st.map fun v => v.category).sum ≤ 8) (k : ∀ (h2 : sw_H), Q2 h2 → sw_wp w X l (d + 1) y Qc n lc st h2) : sw_wp w X l (d + 1) y Qc pc lc stk h := by
  subst hn
  intro p e s m args below meth c s₁ B hml hK hi H locs hP hS ls hl
  refine va_callv (sw_runV B hml hK hi hP hl hd g C ho hA hst hw) hS (fun q _ h9 => h9) (fun q h9 => h9) (fun u t H1 locs1 ht hvm hq hB hz hk hS1 => ?_)
  obtain ⟨b1, b2, b3⟩ := hB
  rw [ht] at b1
  exact k u hq p e s m args below meth c s₁ B hml hK hi H1 locs1 b1 hS1 ls hl
theorem sw_invVR (n : Nat) {idx ci np a : Nat} {Q2 : Nat → sw_H → Prop} (hd : decode y.2.1 pc = .ok (.invokevirtual idx, 3)) (hn : pc + 3 = n) (g : sw_mv y.1.cls idx y2 ci np) (C : sw_ct w X l d y2 (.ref a :: As) h (sw_qR w X Q2)) (ho : sw_o w a ci) (hA : As.length = np) (hst : stk = As.reverse ++ .ref a :: st) (hw : (st.map fun v => v.category).sum ≤ 8) (k : ∀ (r : Nat) (h2 : sw_H), Q2 r h2 → sw_wp w X l (d + 1) y Qc n lc (.ref r :: st) h2) : sw_wp w X l (d + 1) y Qc pc lc stk h := by
  subst hn
  intro p e s m args below meth c s₁ B hml hK hi H locs hP hS ls hl
  refine va_callr (sw_runV B hml hK hi hP hl hd g C ho hA hst hw) hS (fun q _ h9 => h9) (fun q h9 => h9) (fun u ra t H1 locs1 ht hvm hq hB hz hk hS1 => ?_)
  obtain ⟨b0, b1, b2, b3⟩ := hB
  rw [ht] at b1
  subst b0
  exact k u.1 u.2 hq p e s m args below meth c s₁ B hml hK hi H1 locs1 b1 hS1 ls hl
theorem sw_invSI (n : Nat) {idx np : Nat} {Q2 : Int32 → sw_H → Prop} (hd : decode y.2.1 pc = .ok (.invokestatic idx, 3)) (hn : pc + 3 = n) (g : sw_ms y.1.cls idx y2 np) (C : sw_ct w X l d y2 As h (sw_qI w X Q2)) (hA : As.length = np) (hst : stk = As.reverse ++ st) (hw : (st.map fun v => v.category).sum ≤ 8) (k : ∀ (r : Int32) (h2 : sw_H), Q2 r h2 → sw_wp w X l (d + 1) y Qc n lc (.int r :: st) h2) : sw_wp w X l (d + 1) y Qc pc lc stk h := by
  subst hn
  intro p e s m args below meth c s₁ B hml hK hi H locs hP hS ls hl
  refine va_calli (sw_runS B hml hK hi hP hl hd g C hA hst hw) hS (fun q _ h9 => h9) (fun q h9 => h9) (fun r u t H1 locs1 ht hvm hq hB hz hk hS1 => ?_)
  obtain ⟨b1, b2, b3⟩ := hB
  rw [ht] at b1
  exact k r u hq p e s m args below meth c s₁ B hml hK hi H1 locs1 b1 hS1 ls hl
theorem sw_invSL (n : Nat) {idx np : Nat} {Q2 : Int64 → sw_H → Prop} (hd : decode y.2.1 pc = .ok (.invokestatic idx, 3)) (hn : pc + 3 = n) (g : sw_ms y.1.cls idx y2 np) (C : sw_ct w X l d y2 As h (sw_qL w X Q2)) (hA : As.length = np) (hst : stk = As.reverse ++ st) (hw : (st.map fun v => v.category).sum ≤ 8) (k : ∀ (r : Int64) (h2 : sw_H), Q2 r h2 → sw_wp w X l (d + 1) y Qc n lc (.long r :: st) h2) : sw_wp w X l (d + 1) y Qc pc lc stk h := by
  subst hn
  intro p e s m args below meth c s₁ B hml hK hi H locs hP hS ls hl
  refine va_calll (sw_runS B hml hK hi hP hl hd g C hA hst hw) hS (fun q _ h9 => h9) (fun q h9 => h9) (fun r u t H1 locs1 ht hvm hq hB hz hk hS1 => ?_)
  obtain ⟨b1, b2, b3⟩ := hB
  rw [ht] at b1
  exact k r u hq p e s m args below meth c s₁ B hml hK hi H1 locs1 b1 hS1 ls hl
theorem sw_invSV (n : Nat) {idx np : Nat} {Q2 : sw_H → Prop} (hd : decode y.2.1 pc = .ok (.invokestatic idx, 3)) (hn : pc + 3 = n) (g : sw_ms y.1.cls idx y2 np) (C : sw_ct w X l d y2 As h (sw_qV w X Q2)) (hA : As.length = np) (hst : stk = As.reverse ++ st) (hw : (st.map fun v => v.category).sum ≤ 8) (k : ∀ (h2 : sw_H), Q2 h2 → sw_wp w X l (d + 1) y Qc n lc st h2) : sw_wp w X l (d + 1) y Qc pc lc stk h := by
  subst hn
  intro p e s m args below meth c s₁ B hml hK hi H locs hP hS ls hl
  refine va_callv (sw_runS B hml hK hi hP hl hd g C hA hst hw) hS (fun q _ h9 => h9) (fun q h9 => h9) (fun u t H1 locs1 ht hvm hq hB hz hk hS1 => ?_)
  obtain ⟨b1, b2, b3⟩ := hB
  rw [ht] at b1
  exact k u hq p e s m args below meth c s₁ B hml hK hi H1 locs1 b1 hS1 ls hl
theorem sw_invSR (n : Nat) {idx np : Nat} {Q2 : Nat → sw_H → Prop} (hd : decode y.2.1 pc = .ok (.invokestatic idx, 3)) (hn : pc + 3 = n) (g : sw_ms y.1.cls idx y2 np) (C : sw_ct w X l d y2 As h (sw_qR w X Q2)) (hA : As.length = np) (hst : stk = As.reverse ++ st) (hw : (st.map fun v => v.category).sum ≤ 8) (k : ∀ (r : Nat) (h2 : sw_H), Q2 r h2 → sw_wp w X l (d + 1) y Qc n lc (.ref r :: st) h2) : sw_wp w X l (d + 1) y Qc pc lc stk h := by
  subst hn
  intro p e s m args below meth c s₁ B hml hK hi H locs hP hS ls hl
  refine va_callr (sw_runS B hml hK hi hP hl hd g C hA hst hw) hS (fun q _ h9 => h9) (fun q h9 => h9) (fun u ra t H1 locs1 ht hvm hq hB hz hk hS1 => ?_)
  obtain ⟨b0, b1, b2, b3⟩ := hB
  rw [ht] at b1
  subst b0
  exact k u.1 u.2 hq p e s m args below meth c s₁ B hml hK hi H1 locs1 b1 hS1 ls hl
/-- constants of the pool -/
theorem sw_ldc (n : Nat) {idx : Nat} {v : Int32} (hd : decode y.2.1 pc = .ok (.ldc idx, 2)) (hn : pc + 2 = n) (hc : Cond.constant y.1.cls idx v ∈ sw_big) (k : sw_wp w X l d y Qc n lc (.int v :: st) h) : sw_wp w X l d y Qc pc lc st h := by
  subst hn
  intro p e s m args below meth c s₁ B hml hK hi H locs hP hS ls hl
  have hts := atoms_spec (ws := sw_mw y) B.pre
  exact lv_ldc B.exec B.bytes (findClass_of_methodNamed B.named) (hts _ (sw_mem hc)) hd (k p e s m args below meth c s₁ B hml hK hi H locs hP hS ls hl)
theorem sw_ldcw (n : Nat) {idx : Nat} {v : Int32} (hd : decode y.2.1 pc = .ok (.ldc_w idx, 3)) (hn : pc + 3 = n) (hc : Cond.constant y.1.cls idx v ∈ sw_big) (k : sw_wp w X l d y Qc n lc (.int v :: st) h) : sw_wp w X l d y Qc pc lc st h := by
  subst hn
  intro p e s m args below meth c s₁ B hml hK hi H locs hP hS ls hl
  have hts := atoms_spec (ws := sw_mw y) B.pre
  exact lv_ldcw B.exec B.bytes (findClass_of_methodNamed B.named) (hts _ (sw_mem hc)) hd (k p e s m args below meth c s₁ B hml hK hi H locs hP hS ls hl)
theorem sw_ldc2 (n : Nat) {idx : Nat} {v : Int64} (hd : decode y.2.1 pc = .ok (.ldc2_w idx, 3)) (hn : pc + 3 = n) (hc : Cond.constantLong y.1.cls idx v ∈ sw_big) (k : sw_wp w X l d y Qc n lc (.long v :: st) h) : sw_wp w X l d y Qc pc lc st h := by
  subst hn
  intro p e s m args below meth c s₁ B hml hK hi H locs hP hS ls hl
  have hts := atoms_spec (ws := sw_mw y) B.pre
  exact lv_ldc2 B.exec B.bytes (findClass_of_methodNamed B.named) (hts _ (sw_mem hc)) hd (k p e s m args below meth c s₁ B hml hK hi H locs hP hS ls hl)
/-- System.arraycopy over ints, over longs -/
def sw_cpI (h : sw_H) (a b sp dp z : Nat) : sw_H := (va_up h.1 b (va_cpy (h.1 a) (h.1 b) sp dp z), h.2)
def sw_cpL (h : sw_H) (a b sp dp z : Nat) : sw_H := (h.1, va_up h.2 b (va_cpy (h.2 a) (h.2 b) sp dp z))
def sw_ac (own : String) (idx : Nat) : Prop := Cond.methodLink own idx arraycopyName ∈ sw_big ∧ Cond.native arraycopyName ∈ sw_big ∧ Cond.static arraycopyName ∈ sw_big ∧ Cond.initialized "java/lang/System" ∈ sw_big
theorem sw_acI (n : Nat) {idx a b za zb : Nat} {sp dp z : Int32} (hd : decode y.2.1 pc = .ok (.invokestatic idx, 3)) (hn : pc + 3 = n) (g : sw_ac y.1.cls idx) (ha : sw_r w a 0 za) (hb : sw_r w b 0 zb) (h1 : ¬ sp < 0) (h2 : ¬ dp < 0) (h3 : ¬ z < 0) (h4 : sp.toNatClampNeg + z.toNatClampNeg ≤ za) (h5 : dp.toNatClampNeg + z.toNatClampNeg ≤ zb) (hw : (st.map fun v => v.category).sum ≤ 8)
    (kk : sw_wp w X l (d + 1) y Qc n lc st (sw_cpI h a b sp.toNatClampNeg dp.toNatClampNeg z.toNatClampNeg)) : sw_wp w X l (d + 1) y Qc pc lc (.int z :: .int dp :: .ref b :: .int sp :: .ref a :: st) h := by
  subst hn
  intro p e s m args below meth c s₁ B hml hK hi H locs hP hS ls hl
  have hts := atoms_spec (ws := sw_mw y) B.pre
  have hata := sw_at (w := w) (X := X) (h := h) ha.1
  rw [sw_eR ha] at hata
  have hatb := sw_at (w := w) (X := X) (h := h) hb.1
  rw [sw_eR hb] at hatb
  refine va_copyi B.exec B.bytes (by rw [hml]; exact hl.1.symm) (findClass_of_methodNamed B.named) (hts _ (sw_mem g.1)) (hts _ (sw_mem g.2.1)) (hts _ (sw_mem g.2.2.1)) (hts _ (sw_mem g.2.2.2)) hK hP (sw_D hi) hS a b 0 0 hata hatb rfl rfl rfl h1 h2 h3 h4 h5 (fun _ _ => rfl) ?_ ?_ hd (fun H1 locs1 hP1 hD1 hS1 => ?_)
  · show 1 ≤ d + 1
    omega
  · have := sw_words (pc := 0) (X := X) (st := st) hw (m := m) (ls := ls) (rest := [])
    have e9 : nativeFrameWords "java/lang/System" "arraycopy" 5 + 11 ≤ 32 := by decide
    show _ ≤ (d + 1) * 40
    omega
  · rw [sw_set (w := w) (X := X) (a := b) (h := h) (h' := sw_cpI h a b sp.toNatClampNeg dp.toNatClampNeg z.toNatClampNeg) (by rw [sw_eR hb]; simp only [sw_ar, sw_cpI, va_up, if_true]) (fun b2 hb2 => sw_e_ne (by simp [sw_cpI, va_up, hb2]) rfl)] at hP1
    exact kk p e s m args below meth c s₁ B hml hK hi H1 locs1 hP1 hS1 ls hl
theorem sw_acL (n : Nat) {idx a b za zb : Nat} {sp dp z : Int32} (hd : decode y.2.1 pc = .ok (.invokestatic idx, 3)) (hn : pc + 3 = n) (g : sw_ac y.1.cls idx) (ha : sw_r w a 1 za) (hb : sw_r w b 1 zb) (h1 : ¬ sp < 0) (h2 : ¬ dp < 0) (h3 : ¬ z < 0) (h4 : sp.toNatClampNeg + z.toNatClampNeg ≤ za) (h5 : dp.toNatClampNeg + z.toNatClampNeg ≤ zb) (hw : (st.map fun v => v.category).sum ≤ 8)
    (kk : sw_wp w X l (d + 1) y Qc n lc st (sw_cpL h a b sp.toNatClampNeg dp.toNatClampNeg z.toNatClampNeg)) : sw_wp w X l (d + 1) y Qc pc lc (.int z :: .int dp :: .ref b :: .int sp :: .ref a :: st) h := by
  subst hn
  intro p e s m args below meth c s₁ B hml hK hi H locs hP hS ls hl
  have hts := atoms_spec (ws := sw_mw y) B.pre
  have hata := sw_at (w := w) (X := X) (h := h) ha.1
  rw [sw_eR ha] at hata
  have hatb := sw_at (w := w) (X := X) (h := h) hb.1
  rw [sw_eR hb] at hatb
  refine va_copyl B.exec B.bytes (by rw [hml]; exact hl.1.symm) (findClass_of_methodNamed B.named) (hts _ (sw_mem g.1)) (hts _ (sw_mem g.2.1)) (hts _ (sw_mem g.2.2.1)) (hts _ (sw_mem g.2.2.2)) hK hP (sw_D hi) hS a b 1 1 hata hatb rfl rfl rfl h1 h2 h3 h4 h5 (fun _ _ => rfl) ?_ ?_ hd (fun H1 locs1 hP1 hD1 hS1 => ?_)
  · show 1 ≤ d + 1
    omega
  · have := sw_words (pc := 0) (X := X) (st := st) hw (m := m) (ls := ls) (rest := [])
    have e9 : nativeFrameWords "java/lang/System" "arraycopy" 5 + 11 ≤ 32 := by decide
    show _ ≤ (d + 1) * 40
    omega
  · rw [sw_set (w := w) (X := X) (a := b) (h := h) (h' := sw_cpL h a b sp.toNatClampNeg dp.toNatClampNeg z.toNatClampNeg) (by rw [sw_eR hb]; simp only [sw_ar, sw_cpL, va_up, if_true]) (fun b2 hb2 => sw_e_ne rfl (by simp [sw_cpL, va_up, hb2]))] at hP1
    exact kk p e s m args below meth c s₁ B hml hK hi H1 locs1 hP1 hS1 ls hl
end sw_calls
end
