def lw_okq (q : MethodName × Nat) : Prop := (q.1.cls ≠ "java/lang/invoke/MethodHandle" ∧ q.1.cls ≠ "java/lang/invoke/VarHandle") ∧ Cond.instantiable q.1.cls q.2 ∈ tables_1 ∧ Cond.privateMethod q.1 ∈ tables_1 ∧ Cond.instanceMethod q.1 ∈ tables_1
theorem lw_p0 : lw_okq (⟨"EggThrow$MeadowReader", "putUsual", "(III)V"⟩, 5) := ⟨⟨by decide +kernel, by decide +kernel⟩, List.mem_of_getElem? (i := 59) (by decide +kernel), List.mem_of_getElem? (i := 348) (by decide +kernel), List.mem_of_getElem? (i := 349) (by decide +kernel)⟩
theorem lw_p1 : lw_okq (⟨"EggThrow$MeadowReader", "keep", "(II)V"⟩, 5) := ⟨⟨by decide +kernel, by decide +kernel⟩, List.mem_of_getElem? (i := 59) (by decide +kernel), List.mem_of_getElem? (i := 354) (by decide +kernel), List.mem_of_getElem? (i := 355) (by decide +kernel)⟩
theorem lw_p2 : lw_okq (⟨"EggThrow$Tape", "settle", "()V"⟩, 5) := ⟨⟨by decide +kernel, by decide +kernel⟩, List.mem_of_getElem? (i := 36) (by decide +kernel), List.mem_of_getElem? (i := 362) (by decide +kernel), List.mem_of_getElem? (i := 363) (by decide +kernel)⟩
theorem lw_p3 : lw_okq (⟨"EggThrow$MeadowReader", "readClause", "()V"⟩, 5) := ⟨⟨by decide +kernel, by decide +kernel⟩, List.mem_of_getElem? (i := 59) (by decide +kernel), List.mem_of_getElem? (i := 366) (by decide +kernel), List.mem_of_getElem? (i := 367) (by decide +kernel)⟩
theorem lw_p4 : lw_okq (⟨"EggThrow$MeadowReader", "readItems", "(III)V"⟩, 5) := ⟨⟨by decide +kernel, by decide +kernel⟩, List.mem_of_getElem? (i := 59) (by decide +kernel), List.mem_of_getElem? (i := 374) (by decide +kernel), List.mem_of_getElem? (i := 375) (by decide +kernel)⟩
theorem lw_p5 : lw_okq (⟨"EggThrow$MeadowReader", "itemUnder", "(II)I"⟩, 5) := ⟨⟨by decide +kernel, by decide +kernel⟩, List.mem_of_getElem? (i := 59) (by decide +kernel), List.mem_of_getElem? (i := 382) (by decide +kernel), List.mem_of_getElem? (i := 383) (by decide +kernel)⟩
theorem lw_p6 : lw_okq (⟨"EggThrow$Tape", "markWrong", "(I)V"⟩, 5) := ⟨⟨by decide +kernel, by decide +kernel⟩, List.mem_of_getElem? (i := 36) (by decide +kernel), List.mem_of_getElem? (i := 400) (by decide +kernel), List.mem_of_getElem? (i := 401) (by decide +kernel)⟩
theorem lw_p7 : lw_okq (⟨"EggThrow$LawReader", "readClause", "()V"⟩, 3) := ⟨⟨by decide +kernel, by decide +kernel⟩, List.mem_of_getElem? (i := 81) (by decide +kernel), List.mem_of_getElem? (i := 421) (by decide +kernel), List.mem_of_getElem? (i := 422) (by decide +kernel)⟩
theorem lw_p8 : lw_okq (⟨"EggThrow$LawReader", "readSum", "(I)V"⟩, 3) := ⟨⟨by decide +kernel, by decide +kernel⟩, List.mem_of_getElem? (i := 81) (by decide +kernel), List.mem_of_getElem? (i := 430) (by decide +kernel), List.mem_of_getElem? (i := 431) (by decide +kernel)⟩
theorem lw_p9 : lw_okq (⟨"EggThrow$LawReader", "readTerm", "(I)V"⟩, 3) := ⟨⟨by decide +kernel, by decide +kernel⟩, List.mem_of_getElem? (i := 81) (by decide +kernel), List.mem_of_getElem? (i := 434) (by decide +kernel), List.mem_of_getElem? (i := 435) (by decide +kernel)⟩
theorem lw_p10 : lw_okq (⟨"EggThrow$LawReader", "readAtom", "(I)V"⟩, 3) := ⟨⟨by decide +kernel, by decide +kernel⟩, List.mem_of_getElem? (i := 81) (by decide +kernel), List.mem_of_getElem? (i := 438) (by decide +kernel), List.mem_of_getElem? (i := 439) (by decide +kernel)⟩
theorem lw_p11 : lw_okq (⟨"EggThrow$LawReader", "emit", "(I)V"⟩, 3) := ⟨⟨by decide +kernel, by decide +kernel⟩, List.mem_of_getElem? (i := 81) (by decide +kernel), List.mem_of_getElem? (i := 448) (by decide +kernel), List.mem_of_getElem? (i := 449) (by decide +kernel)⟩
theorem lw_p12 : lw_okq (⟨"EggThrow$LawReader", "letterUnder", "()I"⟩, 3) := ⟨⟨by decide +kernel, by decide +kernel⟩, List.mem_of_getElem? (i := 81) (by decide +kernel), List.mem_of_getElem? (i := 452) (by decide +kernel), List.mem_of_getElem? (i := 453) (by decide +kernel)⟩
theorem lw_p13 : lw_okq (⟨"EggThrow$LawReader", "comparison", "()I"⟩, 3) := ⟨⟨by decide +kernel, by decide +kernel⟩, List.mem_of_getElem? (i := 81) (by decide +kernel), List.mem_of_getElem? (i := 458) (by decide +kernel), List.mem_of_getElem? (i := 459) (by decide +kernel)⟩
theorem lw_p14 : lw_okq (⟨"EggThrow$LawReader", "readCondition", "(IZ)V"⟩, 3) := ⟨⟨by decide +kernel, by decide +kernel⟩, List.mem_of_getElem? (i := 81) (by decide +kernel), List.mem_of_getElem? (i := 462) (by decide +kernel), List.mem_of_getElem? (i := 463) (by decide +kernel)⟩
theorem lw_p15 : lw_okq (⟨"EggThrow$LawReader", "readTruth", "(IZ)V"⟩, 3) := ⟨⟨by decide +kernel, by decide +kernel⟩, List.mem_of_getElem? (i := 81) (by decide +kernel), List.mem_of_getElem? (i := 466) (by decide +kernel), List.mem_of_getElem? (i := 467) (by decide +kernel)⟩
def lw_privs_1 : List (MethodName × Nat) := [(⟨"EggThrow$MeadowReader", "putUsual", "(III)V"⟩, 5), (⟨"EggThrow$MeadowReader", "keep", "(II)V"⟩, 5), (⟨"EggThrow$Tape", "settle", "()V"⟩, 5), (⟨"EggThrow$MeadowReader", "readClause", "()V"⟩, 5), (⟨"EggThrow$MeadowReader", "readItems", "(III)V"⟩, 5), (⟨"EggThrow$MeadowReader", "itemUnder", "(II)I"⟩, 5), (⟨"EggThrow$Tape", "markWrong", "(I)V"⟩, 5), (⟨"EggThrow$LawReader", "readClause", "()V"⟩, 3), (⟨"EggThrow$LawReader", "readSum", "(I)V"⟩, 3), (⟨"EggThrow$LawReader", "readTerm", "(I)V"⟩, 3), (⟨"EggThrow$LawReader", "readAtom", "(I)V"⟩, 3), (⟨"EggThrow$LawReader", "emit", "(I)V"⟩, 3), (⟨"EggThrow$LawReader", "letterUnder", "()I"⟩, 3), (⟨"EggThrow$LawReader", "comparison", "()I"⟩, 3), (⟨"EggThrow$LawReader", "readCondition", "(IZ)V"⟩, 3), (⟨"EggThrow$LawReader", "readTruth", "(IZ)V"⟩, 3)]
theorem lw_r1 : ∀ q ∈ lw_privs_1, lw_okq q := List.forall_mem_cons.mpr ⟨lw_p0, List.forall_mem_cons.mpr ⟨lw_p1, List.forall_mem_cons.mpr ⟨lw_p2, List.forall_mem_cons.mpr ⟨lw_p3, List.forall_mem_cons.mpr ⟨lw_p4, List.forall_mem_cons.mpr ⟨lw_p5, List.forall_mem_cons.mpr ⟨lw_p6, List.forall_mem_cons.mpr ⟨lw_p7, List.forall_mem_cons.mpr ⟨lw_p8, List.forall_mem_cons.mpr ⟨lw_p9, List.forall_mem_cons.mpr ⟨lw_p10, List.forall_mem_cons.mpr ⟨lw_p11, List.forall_mem_cons.mpr ⟨lw_p12, List.forall_mem_cons.mpr ⟨lw_p13, List.forall_mem_cons.mpr ⟨lw_p14, List.forall_mem_cons.mpr ⟨lw_p15, fun _ h => absurd h List.not_mem_nil⟩⟩⟩⟩⟩⟩⟩⟩⟩⟩⟩⟩⟩⟩⟩⟩
theorem lw_p16 : lw_okq (⟨"EggThrow$LawReader", "readUnit", "(IZ)V"⟩, 3) := ⟨⟨by decide +kernel, by decide +kernel⟩, List.mem_of_getElem? (i := 81) (by decide +kernel), List.mem_of_getElem? (i := 470) (by decide +kernel), List.mem_of_getElem? (i := 471) (by decide +kernel)⟩
theorem lw_p17 : lw_okq (⟨"EggThrow$LawReader", "readNested", "(II)V"⟩, 3) := ⟨⟨by decide +kernel, by decide +kernel⟩, List.mem_of_getElem? (i := 81) (by decide +kernel), List.mem_of_getElem? (i := 474) (by decide +kernel), List.mem_of_getElem? (i := 475) (by decide +kernel)⟩
theorem lw_p18 : lw_okq (⟨"EggThrow", "takeMeadow", "()I"⟩, 19) := ⟨⟨by decide +kernel, by decide +kernel⟩, List.mem_of_getElem? (i := 28) (by decide +kernel), List.mem_of_getElem? (i := 491) (by decide +kernel), List.mem_of_getElem? (i := 492) (by decide +kernel)⟩
theorem lw_p19 : lw_okq (⟨"EggThrow", "holdLaw", "(I)V"⟩, 19) := ⟨⟨by decide +kernel, by decide +kernel⟩, List.mem_of_getElem? (i := 28) (by decide +kernel), List.mem_of_getElem? (i := 515) (by decide +kernel), List.mem_of_getElem? (i := 516) (by decide +kernel)⟩
theorem lw_p20 : lw_okq (⟨"EggThrow", "lawAt", "(I)LEggThrow$Law;"⟩, 19) := ⟨⟨by decide +kernel, by decide +kernel⟩, List.mem_of_getElem? (i := 28) (by decide +kernel), List.mem_of_getElem? (i := 519) (by decide +kernel), List.mem_of_getElem? (i := 520) (by decide +kernel)⟩
theorem lw_p21 : lw_okq (⟨"EggThrow", "takeLaw", "()I"⟩, 19) := ⟨⟨by decide +kernel, by decide +kernel⟩, List.mem_of_getElem? (i := 28) (by decide +kernel), List.mem_of_getElem? (i := 535) (by decide +kernel), List.mem_of_getElem? (i := 536) (by decide +kernel)⟩
theorem lw_p22 : lw_okq (⟨"EggThrow", "takeFilm", "()I"⟩, 19) := ⟨⟨by decide +kernel, by decide +kernel⟩, List.mem_of_getElem? (i := 28) (by decide +kernel), List.mem_of_getElem? (i := 575) (by decide +kernel), List.mem_of_getElem? (i := 576) (by decide +kernel)⟩
theorem lw_p23 : lw_okq (⟨"EggThrow", "isThrow", "(III)Z"⟩, 19) := ⟨⟨by decide +kernel, by decide +kernel⟩, List.mem_of_getElem? (i := 28) (by decide +kernel), List.mem_of_getElem? (i := 684) (by decide +kernel), List.mem_of_getElem? (i := 685) (by decide +kernel)⟩
theorem lw_p24 : lw_okq (⟨"EggThrow", "isCourse", "(II)Z"⟩, 19) := ⟨⟨by decide +kernel, by decide +kernel⟩, List.mem_of_getElem? (i := 28) (by decide +kernel), List.mem_of_getElem? (i := 688) (by decide +kernel), List.mem_of_getElem? (i := 689) (by decide +kernel)⟩
theorem lw_p25 : lw_okq (⟨"EggThrow", "isHow", "(II)Z"⟩, 19) := ⟨⟨by decide +kernel, by decide +kernel⟩, List.mem_of_getElem? (i := 28) (by decide +kernel), List.mem_of_getElem? (i := 700) (by decide +kernel), List.mem_of_getElem? (i := 701) (by decide +kernel)⟩
theorem lw_p26 : lw_okq (⟨"EggThrow", "goodOf", "(II)I"⟩, 19) := ⟨⟨by decide +kernel, by decide +kernel⟩, List.mem_of_getElem? (i := 28) (by decide +kernel), List.mem_of_getElem? (i := 713) (by decide +kernel), List.mem_of_getElem? (i := 714) (by decide +kernel)⟩
theorem lw_p27 : lw_okq (⟨"EggThrow$Bests", "rowOf", "(II)[I"⟩, 4) := ⟨⟨by decide +kernel, by decide +kernel⟩, List.mem_of_getElem? (i := 170) (by decide +kernel), List.mem_of_getElem? (i := 741) (by decide +kernel), List.mem_of_getElem? (i := 742) (by decide +kernel)⟩
theorem lw_p28 : lw_okq (⟨"EggThrow", "isSure", "(III)Z"⟩, 19) := ⟨⟨by decide +kernel, by decide +kernel⟩, List.mem_of_getElem? (i := 28) (by decide +kernel), List.mem_of_getElem? (i := 803) (by decide +kernel), List.mem_of_getElem? (i := 804) (by decide +kernel)⟩
theorem lw_p29 : lw_okq (⟨"EggThrow", "goAlong", "(III)LEggThrow$Course;"⟩, 19) := ⟨⟨by decide +kernel, by decide +kernel⟩, List.mem_of_getElem? (i := 28) (by decide +kernel), List.mem_of_getElem? (i := 846) (by decide +kernel), List.mem_of_getElem? (i := 847) (by decide +kernel)⟩
theorem lw_p30 : lw_okq (⟨"EggThrow", "hopesIn", "(III)J"⟩, 19) := ⟨⟨by decide +kernel, by decide +kernel⟩, List.mem_of_getElem? (i := 28) (by decide +kernel), List.mem_of_getElem? (i := 928) (by decide +kernel), List.mem_of_getElem? (i := 929) (by decide +kernel)⟩
theorem lw_p31 : lw_okq (⟨"EggThrow$Search", "reaches", "(LEggThrow$Meadow;IIII)Z"⟩, 12) := ⟨⟨by decide +kernel, by decide +kernel⟩, List.mem_of_getElem? (i := 214) (by decide +kernel), List.mem_of_getElem? (i := 961) (by decide +kernel), List.mem_of_getElem? (i := 962) (by decide +kernel)⟩
def lw_privs_2 : List (MethodName × Nat) := [(⟨"EggThrow$LawReader", "readUnit", "(IZ)V"⟩, 3), (⟨"EggThrow$LawReader", "readNested", "(II)V"⟩, 3), (⟨"EggThrow", "takeMeadow", "()I"⟩, 19), (⟨"EggThrow", "holdLaw", "(I)V"⟩, 19), (⟨"EggThrow", "lawAt", "(I)LEggThrow$Law;"⟩, 19), (⟨"EggThrow", "takeLaw", "()I"⟩, 19), (⟨"EggThrow", "takeFilm", "()I"⟩, 19), (⟨"EggThrow", "isThrow", "(III)Z"⟩, 19), (⟨"EggThrow", "isCourse", "(II)Z"⟩, 19), (⟨"EggThrow", "isHow", "(II)Z"⟩, 19), (⟨"EggThrow", "goodOf", "(II)I"⟩, 19), (⟨"EggThrow$Bests", "rowOf", "(II)[I"⟩, 4), (⟨"EggThrow", "isSure", "(III)Z"⟩, 19), (⟨"EggThrow", "goAlong", "(III)LEggThrow$Course;"⟩, 19), (⟨"EggThrow", "hopesIn", "(III)J"⟩, 19), (⟨"EggThrow$Search", "reaches", "(LEggThrow$Meadow;IIII)Z"⟩, 12)]
theorem lw_r2 : ∀ q ∈ lw_privs_2, lw_okq q := List.forall_mem_cons.mpr ⟨lw_p16, List.forall_mem_cons.mpr ⟨lw_p17, List.forall_mem_cons.mpr ⟨lw_p18, List.forall_mem_cons.mpr ⟨lw_p19, List.forall_mem_cons.mpr ⟨lw_p20, List.forall_mem_cons.mpr ⟨lw_p21, List.forall_mem_cons.mpr ⟨lw_p22, List.forall_mem_cons.mpr ⟨lw_p23, List.forall_mem_cons.mpr ⟨lw_p24, List.forall_mem_cons.mpr ⟨lw_p25, List.forall_mem_cons.mpr ⟨lw_p26, List.forall_mem_cons.mpr ⟨lw_p27, List.forall_mem_cons.mpr ⟨lw_p28, List.forall_mem_cons.mpr ⟨lw_p29, List.forall_mem_cons.mpr ⟨lw_p30, List.forall_mem_cons.mpr ⟨lw_p31, fun _ h => absurd h List.not_mem_nil⟩⟩⟩⟩⟩⟩⟩⟩⟩⟩⟩⟩⟩⟩⟩⟩
theorem lw_p32 : lw_okq (⟨"EggThrow", "gatherHopes", "(I)V"⟩, 19) := ⟨⟨by decide +kernel, by decide +kernel⟩, List.mem_of_getElem? (i := 28) (by decide +kernel), List.mem_of_getElem? (i := 971) (by decide +kernel), List.mem_of_getElem? (i := 972) (by decide +kernel)⟩
theorem lw_p33 : lw_okq (⟨"EggThrow$Search", "pairUp", "(IJ)V"⟩, 12) := ⟨⟨by decide +kernel, by decide +kernel⟩, List.mem_of_getElem? (i := 214) (by decide +kernel), List.mem_of_getElem? (i := 984) (by decide +kernel), List.mem_of_getElem? (i := 985) (by decide +kernel)⟩
theorem lw_p34 : lw_okq (⟨"EggThrow$Search", "partnerDigits", "()I"⟩, 12) := ⟨⟨by decide +kernel, by decide +kernel⟩, List.mem_of_getElem? (i := 214) (by decide +kernel), List.mem_of_getElem? (i := 988) (by decide +kernel), List.mem_of_getElem? (i := 989) (by decide +kernel)⟩
theorem lw_p35 : lw_okq (⟨"EggThrow$Search", "aheadOf", "(II)I"⟩, 12) := ⟨⟨by decide +kernel, by decide +kernel⟩, List.mem_of_getElem? (i := 214) (by decide +kernel), List.mem_of_getElem? (i := 1008) (by decide +kernel), List.mem_of_getElem? (i := 1009) (by decide +kernel)⟩
theorem lw_p36 : lw_okq (⟨"EggThrow", "areTwoPairs", "(III)Z"⟩, 19) := ⟨⟨by decide +kernel, by decide +kernel⟩, List.mem_of_getElem? (i := 28) (by decide +kernel), List.mem_of_getElem? (i := 1016) (by decide +kernel), List.mem_of_getElem? (i := 1017) (by decide +kernel)⟩
theorem lw_p37 : lw_okq (⟨"EggThrow", "boldest", "(III)I"⟩, 19) := ⟨⟨by decide +kernel, by decide +kernel⟩, List.mem_of_getElem? (i := 28) (by decide +kernel), List.mem_of_getElem? (i := 1020) (by decide +kernel), List.mem_of_getElem? (i := 1021) (by decide +kernel)⟩
theorem lw_p38 : lw_okq (⟨"EggThrow$Search", "readDigits", "(I[II)Z"⟩, 12) := ⟨⟨by decide +kernel, by decide +kernel⟩, List.mem_of_getElem? (i := 214) (by decide +kernel), List.mem_of_getElem? (i := 1046) (by decide +kernel), List.mem_of_getElem? (i := 1047) (by decide +kernel)⟩
theorem lw_p39 : lw_okq (⟨"EggThrow", "throwAll", "(IIII)I"⟩, 19) := ⟨⟨by decide +kernel, by decide +kernel⟩, List.mem_of_getElem? (i := 28) (by decide +kernel), List.mem_of_getElem? (i := 1055) (by decide +kernel), List.mem_of_getElem? (i := 1056) (by decide +kernel)⟩
theorem lw_p40 : lw_okq (⟨"EggThrow", "isCaughtByDraw", "(IIII)Z"⟩, 19) := ⟨⟨by decide +kernel, by decide +kernel⟩, List.mem_of_getElem? (i := 28) (by decide +kernel), List.mem_of_getElem? (i := 1063) (by decide +kernel), List.mem_of_getElem? (i := 1064) (by decide +kernel)⟩
theorem lw_p41 : lw_okq (⟨"EggThrow$Toss", "drawSlip", "()I"⟩, 10) := ⟨⟨by decide +kernel, by decide +kernel⟩, List.mem_of_getElem? (i := 133) (by decide +kernel), List.mem_of_getElem? (i := 1073) (by decide +kernel), List.mem_of_getElem? (i := 1074) (by decide +kernel)⟩
theorem lw_p42 : lw_okq (⟨"EggThrow", "crownOf", "(III)J"⟩, 19) := ⟨⟨by decide +kernel, by decide +kernel⟩, List.mem_of_getElem? (i := 28) (by decide +kernel), List.mem_of_getElem? (i := 1091) (by decide +kernel), List.mem_of_getElem? (i := 1092) (by decide +kernel)⟩
theorem lw_p43 : lw_okq (⟨"EggThrow$Search", "place", "(IIII)V"⟩, 12) := ⟨⟨by decide +kernel, by decide +kernel⟩, List.mem_of_getElem? (i := 214) (by decide +kernel), List.mem_of_getElem? (i := 1108) (by decide +kernel), List.mem_of_getElem? (i := 1109) (by decide +kernel)⟩
theorem lw_p44 : lw_okq (⟨"EggThrow$Search", "share", "(III)I"⟩, 12) := ⟨⟨by decide +kernel, by decide +kernel⟩, List.mem_of_getElem? (i := 214) (by decide +kernel), List.mem_of_getElem? (i := 1112) (by decide +kernel), List.mem_of_getElem? (i := 1113) (by decide +kernel)⟩
theorem lw_p45 : lw_okq (⟨"EggThrow", "couldBear", "(II)Z"⟩, 19) := ⟨⟨by decide +kernel, by decide +kernel⟩, List.mem_of_getElem? (i := 28) (by decide +kernel), List.mem_of_getElem? (i := 1156) (by decide +kernel), List.mem_of_getElem? (i := 1157) (by decide +kernel)⟩
theorem lw_p46 : lw_okq (⟨"EggThrow", "isMeasuredBy", "(LEggThrow$Law;)Z"⟩, 19) := ⟨⟨by decide +kernel, by decide +kernel⟩, List.mem_of_getElem? (i := 28) (by decide +kernel), List.mem_of_getElem? (i := 1172) (by decide +kernel), List.mem_of_getElem? (i := 1173) (by decide +kernel)⟩
theorem lw_p47 : lw_okq (⟨"EggThrow", "filmAt", "(I)LEggThrow$Film;"⟩, 19) := ⟨⟨by decide +kernel, by decide +kernel⟩, List.mem_of_getElem? (i := 28) (by decide +kernel), List.mem_of_getElem? (i := 1180) (by decide +kernel), List.mem_of_getElem? (i := 1181) (by decide +kernel)⟩
def lw_privs_3 : List (MethodName × Nat) := [(⟨"EggThrow", "gatherHopes", "(I)V"⟩, 19), (⟨"EggThrow$Search", "pairUp", "(IJ)V"⟩, 12), (⟨"EggThrow$Search", "partnerDigits", "()I"⟩, 12), (⟨"EggThrow$Search", "aheadOf", "(II)I"⟩, 12), (⟨"EggThrow", "areTwoPairs", "(III)Z"⟩, 19), (⟨"EggThrow", "boldest", "(III)I"⟩, 19), (⟨"EggThrow$Search", "readDigits", "(I[II)Z"⟩, 12), (⟨"EggThrow", "throwAll", "(IIII)I"⟩, 19), (⟨"EggThrow", "isCaughtByDraw", "(IIII)Z"⟩, 19), (⟨"EggThrow$Toss", "drawSlip", "()I"⟩, 10), (⟨"EggThrow", "crownOf", "(III)J"⟩, 19), (⟨"EggThrow$Search", "place", "(IIII)V"⟩, 12), (⟨"EggThrow$Search", "share", "(III)I"⟩, 12), (⟨"EggThrow", "couldBear", "(II)Z"⟩, 19), (⟨"EggThrow", "isMeasuredBy", "(LEggThrow$Law;)Z"⟩, 19), (⟨"EggThrow", "filmAt", "(I)LEggThrow$Film;"⟩, 19)]
theorem lw_r3 : ∀ q ∈ lw_privs_3, lw_okq q := List.forall_mem_cons.mpr ⟨lw_p32, List.forall_mem_cons.mpr ⟨lw_p33, List.forall_mem_cons.mpr ⟨lw_p34, List.forall_mem_cons.mpr ⟨lw_p35, List.forall_mem_cons.mpr ⟨lw_p36, List.forall_mem_cons.mpr ⟨lw_p37, List.forall_mem_cons.mpr ⟨lw_p38, List.forall_mem_cons.mpr ⟨lw_p39, List.forall_mem_cons.mpr ⟨lw_p40, List.forall_mem_cons.mpr ⟨lw_p41, List.forall_mem_cons.mpr ⟨lw_p42, List.forall_mem_cons.mpr ⟨lw_p43, List.forall_mem_cons.mpr ⟨lw_p44, List.forall_mem_cons.mpr ⟨lw_p45, List.forall_mem_cons.mpr ⟨lw_p46, List.forall_mem_cons.mpr ⟨lw_p47, fun _ h => absurd h List.not_mem_nil⟩⟩⟩⟩⟩⟩⟩⟩⟩⟩⟩⟩⟩⟩⟩⟩
theorem lw_p48 : lw_okq (⟨"EggThrow$Film", "heightAfter", "(I)I"⟩, 2) := ⟨⟨by decide +kernel, by decide +kernel⟩, List.mem_of_getElem? (i := 578) (by decide +kernel), List.mem_of_getElem? (i := 1192) (by decide +kernel), List.mem_of_getElem? (i := 1193) (by decide +kernel)⟩
theorem lw_p49 : lw_okq (⟨"java/lang/Throwable", "fillInStackTrace", "(I)Ljava/lang/Throwable;"⟩, 6) := ⟨⟨by decide +kernel, by decide +kernel⟩, List.mem_of_getElem? (i := 1298) (by decide +kernel), List.mem_of_getElem? (i := 1296) (by decide +kernel), List.mem_of_getElem? (i := 1297) (by decide +kernel)⟩
theorem lw_p50 : lw_okq (⟨"EggThrowModel", "put", "(I)V"⟩, 79) := ⟨⟨by decide +kernel, by decide +kernel⟩, List.mem_of_getElem? (i := 1328) (by decide +kernel), List.mem_of_getElem? (i := 1586) (by decide +kernel), List.mem_of_getElem? (i := 1587) (by decide +kernel)⟩
theorem lw_p51 : lw_okq (⟨"EggThrowModel", "readMeadow", "()V"⟩, 79) := ⟨⟨by decide +kernel, by decide +kernel⟩, List.mem_of_getElem? (i := 1328) (by decide +kernel), List.mem_of_getElem? (i := 1602) (by decide +kernel), List.mem_of_getElem? (i := 1603) (by decide +kernel)⟩
theorem lw_p52 : lw_okq (⟨"EggThrowModel", "opens", "([BII)V"⟩, 79) := ⟨⟨by decide +kernel, by decide +kernel⟩, List.mem_of_getElem? (i := 1328) (by decide +kernel), List.mem_of_getElem? (i := 1606) (by decide +kernel), List.mem_of_getElem? (i := 1607) (by decide +kernel)⟩
theorem lw_p53 : lw_okq (⟨"EggThrowModel", "readClause", "()V"⟩, 79) := ⟨⟨by decide +kernel, by decide +kernel⟩, List.mem_of_getElem? (i := 1328) (by decide +kernel), List.mem_of_getElem? (i := 1613) (by decide +kernel), List.mem_of_getElem? (i := 1614) (by decide +kernel)⟩
theorem lw_p54 : lw_okq (⟨"EggThrowModel", "look", "()I"⟩, 79) := ⟨⟨by decide +kernel, by decide +kernel⟩, List.mem_of_getElem? (i := 1328) (by decide +kernel), List.mem_of_getElem? (i := 1617) (by decide +kernel), List.mem_of_getElem? (i := 1618) (by decide +kernel)⟩
theorem lw_p55 : lw_okq (⟨"EggThrowModel", "fails", "()Z"⟩, 79) := ⟨⟨by decide +kernel, by decide +kernel⟩, List.mem_of_getElem? (i := 1328) (by decide +kernel), List.mem_of_getElem? (i := 1621) (by decide +kernel), List.mem_of_getElem? (i := 1622) (by decide +kernel)⟩
theorem lw_p56 : lw_okq (⟨"EggThrowModel", "readItem", "([IIII)V"⟩, 79) := ⟨⟨by decide +kernel, by decide +kernel⟩, List.mem_of_getElem? (i := 1328) (by decide +kernel), List.mem_of_getElem? (i := 1688) (by decide +kernel), List.mem_of_getElem? (i := 1689) (by decide +kernel)⟩
theorem lw_p57 : lw_okq (⟨"EggThrowModel", "isDigit", "()Z"⟩, 79) := ⟨⟨by decide +kernel, by decide +kernel⟩, List.mem_of_getElem? (i := 1328) (by decide +kernel), List.mem_of_getElem? (i := 1692) (by decide +kernel), List.mem_of_getElem? (i := 1693) (by decide +kernel)⟩
theorem lw_p58 : lw_okq (⟨"EggThrowModel", "here", "()I"⟩, 79) := ⟨⟨by decide +kernel, by decide +kernel⟩, List.mem_of_getElem? (i := 1328) (by decide +kernel), List.mem_of_getElem? (i := 1696) (by decide +kernel), List.mem_of_getElem? (i := 1697) (by decide +kernel)⟩
theorem lw_p59 : lw_okq (⟨"EggThrowModel", "goThrough", "([BII)V"⟩, 79) := ⟨⟨by decide +kernel, by decide +kernel⟩, List.mem_of_getElem? (i := 1328) (by decide +kernel), List.mem_of_getElem? (i := 1700) (by decide +kernel), List.mem_of_getElem? (i := 1701) (by decide +kernel)⟩
theorem lw_p60 : lw_okq (⟨"EggThrowModel", "clause", "()V"⟩, 79) := ⟨⟨by decide +kernel, by decide +kernel⟩, List.mem_of_getElem? (i := 1328) (by decide +kernel), List.mem_of_getElem? (i := 1704) (by decide +kernel), List.mem_of_getElem? (i := 1705) (by decide +kernel)⟩
theorem lw_p61 : lw_okq (⟨"EggThrowModel", "takes", "(I)Z"⟩, 79) := ⟨⟨by decide +kernel, by decide +kernel⟩, List.mem_of_getElem? (i := 1328) (by decide +kernel), List.mem_of_getElem? (i := 1711) (by decide +kernel), List.mem_of_getElem? (i := 1712) (by decide +kernel)⟩
theorem lw_p62 : lw_okq (⟨"EggThrowModel", "condition", "(ZI)Z"⟩, 79) := ⟨⟨by decide +kernel, by decide +kernel⟩, List.mem_of_getElem? (i := 1328) (by decide +kernel), List.mem_of_getElem? (i := 1715) (by decide +kernel), List.mem_of_getElem? (i := 1716) (by decide +kernel)⟩
theorem lw_p63 : lw_okq (⟨"EggThrowModel", "part", "(ZI)Z"⟩, 79) := ⟨⟨by decide +kernel, by decide +kernel⟩, List.mem_of_getElem? (i := 1328) (by decide +kernel), List.mem_of_getElem? (i := 1719) (by decide +kernel), List.mem_of_getElem? (i := 1720) (by decide +kernel)⟩
def lw_privs_4 : List (MethodName × Nat) := [(⟨"EggThrow$Film", "heightAfter", "(I)I"⟩, 2), (⟨"java/lang/Throwable", "fillInStackTrace", "(I)Ljava/lang/Throwable;"⟩, 6), (⟨"EggThrowModel", "put", "(I)V"⟩, 79), (⟨"EggThrowModel", "readMeadow", "()V"⟩, 79), (⟨"EggThrowModel", "opens", "([BII)V"⟩, 79), (⟨"EggThrowModel", "readClause", "()V"⟩, 79), (⟨"EggThrowModel", "look", "()I"⟩, 79), (⟨"EggThrowModel", "fails", "()Z"⟩, 79), (⟨"EggThrowModel", "readItem", "([IIII)V"⟩, 79), (⟨"EggThrowModel", "isDigit", "()Z"⟩, 79), (⟨"EggThrowModel", "here", "()I"⟩, 79), (⟨"EggThrowModel", "goThrough", "([BII)V"⟩, 79), (⟨"EggThrowModel", "clause", "()V"⟩, 79), (⟨"EggThrowModel", "takes", "(I)Z"⟩, 79), (⟨"EggThrowModel", "condition", "(ZI)Z"⟩, 79), (⟨"EggThrowModel", "part", "(ZI)Z"⟩, 79)]
theorem lw_r4 : ∀ q ∈ lw_privs_4, lw_okq q := List.forall_mem_cons.mpr ⟨lw_p48, List.forall_mem_cons.mpr ⟨lw_p49, List.forall_mem_cons.mpr ⟨lw_p50, List.forall_mem_cons.mpr ⟨lw_p51, List.forall_mem_cons.mpr ⟨lw_p52, List.forall_mem_cons.mpr ⟨lw_p53, List.forall_mem_cons.mpr ⟨lw_p54, List.forall_mem_cons.mpr ⟨lw_p55, List.forall_mem_cons.mpr ⟨lw_p56, List.forall_mem_cons.mpr ⟨lw_p57, List.forall_mem_cons.mpr ⟨lw_p58, List.forall_mem_cons.mpr ⟨lw_p59, List.forall_mem_cons.mpr ⟨lw_p60, List.forall_mem_cons.mpr ⟨lw_p61, List.forall_mem_cons.mpr ⟨lw_p62, List.forall_mem_cons.mpr ⟨lw_p63, fun _ h => absurd h List.not_mem_nil⟩⟩⟩⟩⟩⟩⟩⟩⟩⟩⟩⟩⟩⟩⟩⟩
theorem lw_p64 : lw_okq (⟨"EggThrowModel", "compares", "(ZI)Z"⟩, 79) := ⟨⟨by decide +kernel, by decide +kernel⟩, List.mem_of_getElem? (i := 1328) (by decide +kernel), List.mem_of_getElem? (i := 1723) (by decide +kernel), List.mem_of_getElem? (i := 1724) (by decide +kernel)⟩
theorem lw_p65 : lw_okq (⟨"EggThrowModel", "sum", "()I"⟩, 79) := ⟨⟨by decide +kernel, by decide +kernel⟩, List.mem_of_getElem? (i := 1328) (by decide +kernel), List.mem_of_getElem? (i := 1727) (by decide +kernel), List.mem_of_getElem? (i := 1728) (by decide +kernel)⟩
theorem lw_p66 : lw_okq (⟨"EggThrowModel", "term", "()I"⟩, 79) := ⟨⟨by decide +kernel, by decide +kernel⟩, List.mem_of_getElem? (i := 1328) (by decide +kernel), List.mem_of_getElem? (i := 1731) (by decide +kernel), List.mem_of_getElem? (i := 1732) (by decide +kernel)⟩
theorem lw_p67 : lw_okq (⟨"EggThrowModel", "atom", "()I"⟩, 79) := ⟨⟨by decide +kernel, by decide +kernel⟩, List.mem_of_getElem? (i := 1328) (by decide +kernel), List.mem_of_getElem? (i := 1735) (by decide +kernel), List.mem_of_getElem? (i := 1736) (by decide +kernel)⟩
theorem lw_p68 : lw_okq (⟨"EggThrowModel", "goesIn", "()Z"⟩, 79) := ⟨⟨by decide +kernel, by decide +kernel⟩, List.mem_of_getElem? (i := 1328) (by decide +kernel), List.mem_of_getElem? (i := 1739) (by decide +kernel), List.mem_of_getElem? (i := 1740) (by decide +kernel)⟩
theorem lw_p69 : lw_okq (⟨"EggThrowModel", "unit", "()Z"⟩, 79) := ⟨⟨by decide +kernel, by decide +kernel⟩, List.mem_of_getElem? (i := 1328) (by decide +kernel), List.mem_of_getElem? (i := 1757) (by decide +kernel), List.mem_of_getElem? (i := 1758) (by decide +kernel)⟩
theorem lw_p70 : lw_okq (⟨"EggThrowModel", "readFilm", "()V"⟩, 79) := ⟨⟨by decide +kernel, by decide +kernel⟩, List.mem_of_getElem? (i := 1328) (by decide +kernel), List.mem_of_getElem? (i := 1761) (by decide +kernel), List.mem_of_getElem? (i := 1762) (by decide +kernel)⟩
theorem lw_p71 : lw_okq (⟨"EggThrowModel", "isPerson", "(I)Z"⟩, 79) := ⟨⟨by decide +kernel, by decide +kernel⟩, List.mem_of_getElem? (i := 1328) (by decide +kernel), List.mem_of_getElem? (i := 1774) (by decide +kernel), List.mem_of_getElem? (i := 1775) (by decide +kernel)⟩
theorem lw_p72 : lw_okq (⟨"EggThrowModel", "isEgg", "(I)Z"⟩, 79) := ⟨⟨by decide +kernel, by decide +kernel⟩, List.mem_of_getElem? (i := 1328) (by decide +kernel), List.mem_of_getElem? (i := 1783) (by decide +kernel), List.mem_of_getElem? (i := 1784) (by decide +kernel)⟩
theorem lw_p73 : lw_okq (⟨"EggThrowModel", "offOf", "(IIII)I"⟩, 79) := ⟨⟨by decide +kernel, by decide +kernel⟩, List.mem_of_getElem? (i := 1328) (by decide +kernel), List.mem_of_getElem? (i := 1802) (by decide +kernel), List.mem_of_getElem? (i := 1803) (by decide +kernel)⟩
theorem lw_p74 : lw_okq (⟨"EggThrowModel", "blows", "(I)I"⟩, 79) := ⟨⟨by decide +kernel, by decide +kernel⟩, List.mem_of_getElem? (i := 1328) (by decide +kernel), List.mem_of_getElem? (i := 1806) (by decide +kernel), List.mem_of_getElem? (i := 1807) (by decide +kernel)⟩
theorem lw_p75 : lw_okq (⟨"EggThrowModel", "forceOf", "(IIIII)I"⟩, 79) := ⟨⟨by decide +kernel, by decide +kernel⟩, List.mem_of_getElem? (i := 1328) (by decide +kernel), List.mem_of_getElem? (i := 1818) (by decide +kernel), List.mem_of_getElem? (i := 1819) (by decide +kernel)⟩
theorem lw_p76 : lw_okq (⟨"EggThrowModel", "isTwo", "(I)Z"⟩, 79) := ⟨⟨by decide +kernel, by decide +kernel⟩, List.mem_of_getElem? (i := 1328) (by decide +kernel), List.mem_of_getElem? (i := 1831) (by decide +kernel), List.mem_of_getElem? (i := 1832) (by decide +kernel)⟩
theorem lw_p77 : lw_okq (⟨"EggThrowModel", "isFrom", "(I)Z"⟩, 79) := ⟨⟨by decide +kernel, by decide +kernel⟩, List.mem_of_getElem? (i := 1328) (by decide +kernel), List.mem_of_getElem? (i := 1835) (by decide +kernel), List.mem_of_getElem? (i := 1836) (by decide +kernel)⟩
theorem lw_p78 : lw_okq (⟨"EggThrowModel", "isHow", "(II)Z"⟩, 79) := ⟨⟨by decide +kernel, by decide +kernel⟩, List.mem_of_getElem? (i := 1328) (by decide +kernel), List.mem_of_getElem? (i := 1839) (by decide +kernel), List.mem_of_getElem? (i := 1840) (by decide +kernel)⟩
theorem lw_p79 : lw_okq (⟨"EggThrowModel", "goodOf", "(IIII)I"⟩, 79) := ⟨⟨by decide +kernel, by decide +kernel⟩, List.mem_of_getElem? (i := 1328) (by decide +kernel), List.mem_of_getElem? (i := 1843) (by decide +kernel), List.mem_of_getElem? (i := 1844) (by decide +kernel)⟩
def lw_privs_5 : List (MethodName × Nat) := [(⟨"EggThrowModel", "compares", "(ZI)Z"⟩, 79), (⟨"EggThrowModel", "sum", "()I"⟩, 79), (⟨"EggThrowModel", "term", "()I"⟩, 79), (⟨"EggThrowModel", "atom", "()I"⟩, 79), (⟨"EggThrowModel", "goesIn", "()Z"⟩, 79), (⟨"EggThrowModel", "unit", "()Z"⟩, 79), (⟨"EggThrowModel", "readFilm", "()V"⟩, 79), (⟨"EggThrowModel", "isPerson", "(I)Z"⟩, 79), (⟨"EggThrowModel", "isEgg", "(I)Z"⟩, 79), (⟨"EggThrowModel", "offOf", "(IIII)I"⟩, 79), (⟨"EggThrowModel", "blows", "(I)I"⟩, 79), (⟨"EggThrowModel", "forceOf", "(IIIII)I"⟩, 79), (⟨"EggThrowModel", "isTwo", "(I)Z"⟩, 79), (⟨"EggThrowModel", "isFrom", "(I)Z"⟩, 79), (⟨"EggThrowModel", "isHow", "(II)Z"⟩, 79), (⟨"EggThrowModel", "goodOf", "(IIII)I"⟩, 79)]
theorem lw_r5 : ∀ q ∈ lw_privs_5, lw_okq q := List.forall_mem_cons.mpr ⟨lw_p64, List.forall_mem_cons.mpr ⟨lw_p65, List.forall_mem_cons.mpr ⟨lw_p66, List.forall_mem_cons.mpr ⟨lw_p67, List.forall_mem_cons.mpr ⟨lw_p68, List.forall_mem_cons.mpr ⟨lw_p69, List.forall_mem_cons.mpr ⟨lw_p70, List.forall_mem_cons.mpr ⟨lw_p71, List.forall_mem_cons.mpr ⟨lw_p72, List.forall_mem_cons.mpr ⟨lw_p73, List.forall_mem_cons.mpr ⟨lw_p74, List.forall_mem_cons.mpr ⟨lw_p75, List.forall_mem_cons.mpr ⟨lw_p76, List.forall_mem_cons.mpr ⟨lw_p77, List.forall_mem_cons.mpr ⟨lw_p78, List.forall_mem_cons.mpr ⟨lw_p79, fun _ h => absurd h List.not_mem_nil⟩⟩⟩⟩⟩⟩⟩⟩⟩⟩⟩⟩⟩⟩⟩⟩
theorem lw_p80 : lw_okq (⟨"EggThrowModel", "layHolds", "(IIII)V"⟩, 79) := ⟨⟨by decide +kernel, by decide +kernel⟩, List.mem_of_getElem? (i := 1328) (by decide +kernel), List.mem_of_getElem? (i := 1847) (by decide +kernel), List.mem_of_getElem? (i := 1848) (by decide +kernel)⟩
theorem lw_p81 : lw_okq (⟨"EggThrowModel", "bears", "(II)Z"⟩, 79) := ⟨⟨by decide +kernel, by decide +kernel⟩, List.mem_of_getElem? (i := 1328) (by decide +kernel), List.mem_of_getElem? (i := 1851) (by decide +kernel), List.mem_of_getElem? (i := 1852) (by decide +kernel)⟩
theorem lw_p82 : lw_okq (⟨"EggThrowModel", "goodBy", "(IIII)I"⟩, 79) := ⟨⟨by decide +kernel, by decide +kernel⟩, List.mem_of_getElem? (i := 1328) (by decide +kernel), List.mem_of_getElem? (i := 1855) (by decide +kernel), List.mem_of_getElem? (i := 1856) (by decide +kernel)⟩
theorem lw_p83 : lw_okq (⟨"EggThrowModel", "isCaught", "(I)Z"⟩, 79) := ⟨⟨by decide +kernel, by decide +kernel⟩, List.mem_of_getElem? (i := 1328) (by decide +kernel), List.mem_of_getElem? (i := 1859) (by decide +kernel), List.mem_of_getElem? (i := 1860) (by decide +kernel)⟩
theorem lw_p84 : lw_okq (⟨"EggThrowModel", "layBest", "(IIII)V"⟩, 79) := ⟨⟨by decide +kernel, by decide +kernel⟩, List.mem_of_getElem? (i := 1328) (by decide +kernel), List.mem_of_getElem? (i := 1867) (by decide +kernel), List.mem_of_getElem? (i := 1868) (by decide +kernel)⟩
theorem lw_p85 : lw_okq (⟨"EggThrowModel", "goPair", "(IIII)I"⟩, 79) := ⟨⟨by decide +kernel, by decide +kernel⟩, List.mem_of_getElem? (i := 1328) (by decide +kernel), List.mem_of_getElem? (i := 1875) (by decide +kernel), List.mem_of_getElem? (i := 1876) (by decide +kernel)⟩
theorem lw_p86 : lw_okq (⟨"EggThrowModel", "hopeOf", "(II)J"⟩, 79) := ⟨⟨by decide +kernel, by decide +kernel⟩, List.mem_of_getElem? (i := 1328) (by decide +kernel), List.mem_of_getElem? (i := 1884) (by decide +kernel), List.mem_of_getElem? (i := 1885) (by decide +kernel)⟩
theorem lw_p87 : lw_okq (⟨"EggThrowModel", "goWhom", "(IJ)V"⟩, 79) := ⟨⟨by decide +kernel, by decide +kernel⟩, List.mem_of_getElem? (i := 1328) (by decide +kernel), List.mem_of_getElem? (i := 1904) (by decide +kernel), List.mem_of_getElem? (i := 1905) (by decide +kernel)⟩
theorem lw_p88 : lw_okq (⟨"EggThrowModel", "gainOf", "(IIII)I"⟩, 79) := ⟨⟨by decide +kernel, by decide +kernel⟩, List.mem_of_getElem? (i := 1328) (by decide +kernel), List.mem_of_getElem? (i := 1931) (by decide +kernel), List.mem_of_getElem? (i := 1932) (by decide +kernel)⟩
theorem lw_p89 : lw_okq (⟨"EggThrowModel", "layComes", "(II[I)V"⟩, 79) := ⟨⟨by decide +kernel, by decide +kernel⟩, List.mem_of_getElem? (i := 1328) (by decide +kernel), List.mem_of_getElem? (i := 1939) (by decide +kernel), List.mem_of_getElem? (i := 1940) (by decide +kernel)⟩
theorem lw_p90 : lw_okq (⟨"EggThrowModel", "isFilm", "(I)Z"⟩, 79) := ⟨⟨by decide +kernel, by decide +kernel⟩, List.mem_of_getElem? (i := 1328) (by decide +kernel), List.mem_of_getElem? (i := 1980) (by decide +kernel), List.mem_of_getElem? (i := 1981) (by decide +kernel)⟩
theorem lw_p91 : lw_okq (⟨"EggThrowModel", "turnsOf", "(I)I"⟩, 79) := ⟨⟨by decide +kernel, by decide +kernel⟩, List.mem_of_getElem? (i := 1328) (by decide +kernel), List.mem_of_getElem? (i := 1984) (by decide +kernel), List.mem_of_getElem? (i := 1985) (by decide +kernel)⟩
theorem lw_p92 : lw_okq (⟨"EggThrowModel", "layPairs", "(I)Z"⟩, 79) := ⟨⟨by decide +kernel, by decide +kernel⟩, List.mem_of_getElem? (i := 1328) (by decide +kernel), List.mem_of_getElem? (i := 2004) (by decide +kernel), List.mem_of_getElem? (i := 2005) (by decide +kernel)⟩
theorem lw_p93 : lw_okq (⟨"EggThrowModel", "isThrownWell", "(IIII)Z"⟩, 79) := ⟨⟨by decide +kernel, by decide +kernel⟩, List.mem_of_getElem? (i := 1328) (by decide +kernel), List.mem_of_getElem? (i := 2009) (by decide +kernel), List.mem_of_getElem? (i := 2010) (by decide +kernel)⟩
theorem lw_p94 : lw_okq (⟨"EggThrowModel", "goCarton", "(IIIII)V"⟩, 79) := ⟨⟨by decide +kernel, by decide +kernel⟩, List.mem_of_getElem? (i := 1328) (by decide +kernel), List.mem_of_getElem? (i := 2023) (by decide +kernel), List.mem_of_getElem? (i := 2024) (by decide +kernel)⟩
theorem lw_p95 : lw_okq (⟨"EggThrowModel", "isAllGood", "(III)Z"⟩, 79) := ⟨⟨by decide +kernel, by decide +kernel⟩, List.mem_of_getElem? (i := 1328) (by decide +kernel), List.mem_of_getElem? (i := 2031) (by decide +kernel), List.mem_of_getElem? (i := 2032) (by decide +kernel)⟩
def lw_privs_6 : List (MethodName × Nat) := [(⟨"EggThrowModel", "layHolds", "(IIII)V"⟩, 79), (⟨"EggThrowModel", "bears", "(II)Z"⟩, 79), (⟨"EggThrowModel", "goodBy", "(IIII)I"⟩, 79), (⟨"EggThrowModel", "isCaught", "(I)Z"⟩, 79), (⟨"EggThrowModel", "layBest", "(IIII)V"⟩, 79), (⟨"EggThrowModel", "goPair", "(IIII)I"⟩, 79), (⟨"EggThrowModel", "hopeOf", "(II)J"⟩, 79), (⟨"EggThrowModel", "goWhom", "(IJ)V"⟩, 79), (⟨"EggThrowModel", "gainOf", "(IIII)I"⟩, 79), (⟨"EggThrowModel", "layComes", "(II[I)V"⟩, 79), (⟨"EggThrowModel", "isFilm", "(I)Z"⟩, 79), (⟨"EggThrowModel", "turnsOf", "(I)I"⟩, 79), (⟨"EggThrowModel", "layPairs", "(I)Z"⟩, 79), (⟨"EggThrowModel", "isThrownWell", "(IIII)Z"⟩, 79), (⟨"EggThrowModel", "goCarton", "(IIIII)V"⟩, 79), (⟨"EggThrowModel", "isAllGood", "(III)Z"⟩, 79)]
theorem lw_r6 : ∀ q ∈ lw_privs_6, lw_okq q := List.forall_mem_cons.mpr ⟨lw_p80, List.forall_mem_cons.mpr ⟨lw_p81, List.forall_mem_cons.mpr ⟨lw_p82, List.forall_mem_cons.mpr ⟨lw_p83, List.forall_mem_cons.mpr ⟨lw_p84, List.forall_mem_cons.mpr ⟨lw_p85, List.forall_mem_cons.mpr ⟨lw_p86, List.forall_mem_cons.mpr ⟨lw_p87, List.forall_mem_cons.mpr ⟨lw_p88, List.forall_mem_cons.mpr ⟨lw_p89, List.forall_mem_cons.mpr ⟨lw_p90, List.forall_mem_cons.mpr ⟨lw_p91, List.forall_mem_cons.mpr ⟨lw_p92, List.forall_mem_cons.mpr ⟨lw_p93, List.forall_mem_cons.mpr ⟨lw_p94, List.forall_mem_cons.mpr ⟨lw_p95, fun _ h => absurd h List.not_mem_nil⟩⟩⟩⟩⟩⟩⟩⟩⟩⟩⟩⟩⟩⟩⟩⟩
theorem lw_p96 : lw_okq (⟨"EggThrowModel", "hopOf", "(IIII)I"⟩, 79) := ⟨⟨by decide +kernel, by decide +kernel⟩, List.mem_of_getElem? (i := 1328) (by decide +kernel), List.mem_of_getElem? (i := 2059) (by decide +kernel), List.mem_of_getElem? (i := 2060) (by decide +kernel)⟩
theorem lw_p97 : lw_okq (⟨"EggThrowModel", "afterHop", "(III)I"⟩, 79) := ⟨⟨by decide +kernel, by decide +kernel⟩, List.mem_of_getElem? (i := 1328) (by decide +kernel), List.mem_of_getElem? (i := 2063) (by decide +kernel), List.mem_of_getElem? (i := 2064) (by decide +kernel)⟩
theorem lw_p98 : lw_okq (⟨"EggThrowModel", "goRow", "(IIII)V"⟩, 79) := ⟨⟨by decide +kernel, by decide +kernel⟩, List.mem_of_getElem? (i := 1328) (by decide +kernel), List.mem_of_getElem? (i := 2071) (by decide +kernel), List.mem_of_getElem? (i := 2072) (by decide +kernel)⟩
def lw_privs_7 : List (MethodName × Nat) := [(⟨"EggThrowModel", "hopOf", "(IIII)I"⟩, 79), (⟨"EggThrowModel", "afterHop", "(III)I"⟩, 79), (⟨"EggThrowModel", "goRow", "(IIII)V"⟩, 79)]
theorem lw_r7 : ∀ q ∈ lw_privs_7, lw_okq q := List.forall_mem_cons.mpr ⟨lw_p96, List.forall_mem_cons.mpr ⟨lw_p97, List.forall_mem_cons.mpr ⟨lw_p98, fun _ h => absurd h List.not_mem_nil⟩⟩⟩
def lw_privs : List (MethodName × Nat) := lw_privs_1 ++ (lw_privs_2 ++ (lw_privs_3 ++ (lw_privs_4 ++ (lw_privs_5 ++ (lw_privs_6 ++ (lw_privs_7))))))
def lw_tbl : List Cond := k2_sels lw_privs ++ tables_1
theorem lw_privs_ok : ∀ q ∈ lw_privs, lw_okq q := by
  show ∀ q ∈ lw_privs_1 ++ (lw_privs_2 ++ (lw_privs_3 ++ (lw_privs_4 ++ (lw_privs_5 ++ (lw_privs_6 ++ (lw_privs_7)))))), lw_okq q
  exact List.forall_mem_append.mpr ⟨lw_r1, List.forall_mem_append.mpr ⟨lw_r2, List.forall_mem_append.mpr ⟨lw_r3, List.forall_mem_append.mpr ⟨lw_r4, List.forall_mem_append.mpr ⟨lw_r5, List.forall_mem_append.mpr ⟨lw_r6, lw_r7⟩⟩⟩⟩⟩⟩
def RX0 : String := "EggThrow$Bests"
def TX0 : u_T := fun k => match k with
  | 0 => ("EggThrow$Bests", "meadow", "LEggThrow$Meadow;", true)
  | 1 => ("EggThrow$Bests", "toss", "LEggThrow$Toss;", true)
  | 2 => ("EggThrow$Bests", "known", "[LEggThrow$Known;", true)
  | _ => ("EggThrow$Bests", "era", "I", false)
def tyX0 : Nat → FieldType := fun k => match k with
  | 0 => .object "EggThrow$Meadow"
  | 1 => .object "EggThrow$Toss"
  | 2 => .array (.object "EggThrow$Known")
  | _ => .int
theorem nmX0 : ∀ a, a < 4 → ∀ b, b < 4 → a ≠ b → (TX0 a).2.1 ≠ (TX0 b).2.1 := by decide +kernel
theorem tyX0_ok : ∀ k, k < 4 → parseFieldDescriptor (TX0 k).2.2.1 = some (tyX0 k) := by decide +kernel
def RX1 : String := "EggThrow$Book"
def TX1 : u_T := fun k => match k with
  | 0 => ("EggThrow$Book", "cells", "[I", true)
  | 1 => ("EggThrow$Book", "most", "I", true)
  | _ => ("EggThrow$Book", "size", "I", false)
def tyX1 : Nat → FieldType := fun k => match k with
  | 0 => .array .int
  | 1 => .int
  | _ => .int
theorem nmX1 : ∀ a, a < 3 → ∀ b, b < 3 → a ≠ b → (TX1 a).2.1 ≠ (TX1 b).2.1 := by decide +kernel
theorem tyX1_ok : ∀ k, k < 3 → parseFieldDescriptor (TX1 k).2.2.1 = some (tyX1 k) := by decide +kernel
def RX2 : String := "EggThrow$Course"
def TX2 : u_T := fun k => match k with
  | 0 => ("EggThrow$Course", "meadow", "LEggThrow$Meadow;", true)
  | 1 => ("EggThrow$Course", "comes", "[I", true)
  | 2 => ("EggThrow$Course", "reach", "I", false)
  | 3 => ("EggThrow$Course", "step", "I", false)
  | _ => ("EggThrow$Course", "hopes", "J", false)
def tyX2 : Nat → FieldType := fun k => match k with
  | 0 => .object "EggThrow$Meadow"
  | 1 => .array .int
  | 2 => .int
  | 3 => .int
  | _ => .long
theorem nmX2 : ∀ a, a < 5 → ∀ b, b < 5 → a ≠ b → (TX2 a).2.1 ≠ (TX2 b).2.1 := by decide +kernel
theorem tyX2_ok : ∀ k, k < 5 → parseFieldDescriptor (TX2 k).2.2.1 = some (tyX2 k) := by decide +kernel
def RX3 : String := "EggThrow$Film"
def TX3 : u_T := fun k => match k with
  | 0 => ("EggThrow$Film", "heights", "[I", true)
  | _ => ("EggThrow$Film", "length", "I", true)
def tyX3 : Nat → FieldType := fun k => match k with
  | 0 => .array .int
  | _ => .int
theorem nmX3 : ∀ a, a < 2 → ∀ b, b < 2 → a ≠ b → (TX3 a).2.1 ≠ (TX3 b).2.1 := by decide +kernel
theorem tyX3_ok : ∀ k, k < 2 → parseFieldDescriptor (TX3 k).2.2.1 = some (tyX3 k) := by decide +kernel
def RX4 : String := "EggThrow$Known"
def TX4 : u_T := fun k => match k with
  | 0 => ("EggThrow$Known", "bests", "[I", true)
  | _ => ("EggThrow$Known", "era", "I", false)
def tyX4 : Nat → FieldType := fun k => match k with
  | 0 => .array .int
  | _ => .int
theorem nmX4 : ∀ a, a < 2 → ∀ b, b < 2 → a ≠ b → (TX4 a).2.1 ≠ (TX4 b).2.1 := by decide +kernel
theorem tyX4_ok : ∀ k, k < 2 → parseFieldDescriptor (TX4 k).2.2.1 = some (tyX4 k) := by decide +kernel
def RX5 : String := "EggThrow$Law"
def TX5 : u_T := fun k => match k with
  | 0 => ("EggThrow$Law", "code", "[I", true)
  | 1 => ("EggThrow$Law", "stack", "[I", true)
  | _ => ("EggThrow$Law", "letters", "[I", true)
def tyX5 : Nat → FieldType := fun k => match k with
  | 0 => .array .int
  | 1 => .array .int
  | _ => .array .int
theorem nmX5 : ∀ a, a < 3 → ∀ b, b < 3 → a ≠ b → (TX5 a).2.1 ≠ (TX5 b).2.1 := by decide +kernel
theorem tyX5_ok : ∀ k, k < 3 → parseFieldDescriptor (TX5 k).2.2.1 = some (tyX5 k) := by decide +kernel
def RX6 : String := "EggThrow$LawReader"
def TX6 : u_T := fun k => match k with
  | 0 => ("EggThrow$LawReader", "tape", "LEggThrow$Tape;", true)
  | 1 => ("EggThrow$LawReader", "code", "[I", true)
  | _ => ("EggThrow$LawReader", "length", "I", false)
def tyX6 : Nat → FieldType := fun k => match k with
  | 0 => .object "EggThrow$Tape"
  | 1 => .array .int
  | _ => .int
theorem nmX6 : ∀ a, a < 3 → ∀ b, b < 3 → a ≠ b → (TX6 a).2.1 ≠ (TX6 b).2.1 := by decide +kernel
theorem tyX6_ok : ∀ k, k < 3 → parseFieldDescriptor (TX6 k).2.2.1 = some (tyX6 k) := by decide +kernel
def RX7 : String := "EggThrow$Meadow"
def TX7 : u_T := fun k => match k with
  | 0 => ("EggThrow$Meadow", "values", "[I", true)
  | 1 => ("EggThrow$Meadow", "persons", "I", false)
  | _ => ("EggThrow$Meadow", "eggs", "I", false)
def tyX7 : Nat → FieldType := fun k => match k with
  | 0 => .array .int
  | 1 => .int
  | _ => .int
theorem nmX7 : ∀ a, a < 3 → ∀ b, b < 3 → a ≠ b → (TX7 a).2.1 ≠ (TX7 b).2.1 := by decide +kernel
theorem tyX7_ok : ∀ k, k < 3 → parseFieldDescriptor (TX7 k).2.2.1 = some (tyX7 k) := by decide +kernel
def RX8 : String := "EggThrow$MeadowReader"
def TX8 : u_T := fun k => match k with
  | 0 => ("EggThrow$MeadowReader", "tape", "LEggThrow$Tape;", true)
  | 1 => ("EggThrow$MeadowReader", "values", "[I", true)
  | 2 => ("EggThrow$MeadowReader", "persons", "I", false)
  | 3 => ("EggThrow$MeadowReader", "eggs", "I", false)
  | _ => ("EggThrow$MeadowReader", "hasMeadow", "Z", false)
def tyX8 : Nat → FieldType := fun k => match k with
  | 0 => .object "EggThrow$Tape"
  | 1 => .array .int
  | 2 => .int
  | 3 => .int
  | _ => .boolean
theorem nmX8 : ∀ a, a < 5 → ∀ b, b < 5 → a ≠ b → (TX8 a).2.1 ≠ (TX8 b).2.1 := by decide +kernel
theorem tyX8_ok : ∀ k, k < 5 → parseFieldDescriptor (TX8 k).2.2.1 = some (tyX8 k) := by decide +kernel
def RX9 : String := "EggThrow$Search"
def TX9 : u_T := fun k => match k with
  | 0 => ("EggThrow$Search", "hopes", "[J", true)
  | 1 => ("EggThrow$Search", "partners", "[I", true)
  | 2 => ("EggThrow$Search", "lowers", "[I", true)
  | 3 => ("EggThrow$Search", "goods", "[I", true)
  | 4 => ("EggThrow$Search", "slips", "[I", true)
  | 5 => ("EggThrow$Search", "climbs", "[I", true)
  | 6 => ("EggThrow$Search", "places", "I", false)
  | 7 => ("EggThrow$Search", "choices", "I", false)
  | 8 => ("EggThrow$Search", "isLinked", "Z", false)
  | 9 => ("EggThrow$Search", "digits", "I", false)
  | 10 => ("EggThrow$Search", "parts", "I", false)
  | _ => ("EggThrow$Search", "hopesTogether", "J", false)
def tyX9 : Nat → FieldType := fun k => match k with
  | 0 => .array .long
  | 1 => .array .int
  | 2 => .array .int
  | 3 => .array .int
  | 4 => .array .int
  | 5 => .array .int
  | 6 => .int
  | 7 => .int
  | 8 => .boolean
  | 9 => .int
  | 10 => .int
  | _ => .long
theorem nmX9 : ∀ a, a < 12 → ∀ b, b < 12 → a ≠ b → (TX9 a).2.1 ≠ (TX9 b).2.1 := by decide +kernel
theorem tyX9_ok : ∀ k, k < 12 → parseFieldDescriptor (TX9 k).2.2.1 = some (tyX9 k) := by decide +kernel
def RX10 : String := "EggThrow$Tape"
def TX10 : u_T := fun k => match k with
  | 0 => ("EggThrow$Tape", "bytes", "[I", true)
  | 1 => ("EggThrow$Tape", "length", "I", false)
  | 2 => ("EggThrow$Tape", "at", "I", false)
  | 3 => ("EggThrow$Tape", "sign", "I", false)
  | _ => ("EggThrow$Tape", "wrongAt", "I", false)
def tyX10 : Nat → FieldType := fun k => match k with
  | 0 => .array .int
  | 1 => .int
  | 2 => .int
  | 3 => .int
  | _ => .int
theorem nmX10 : ∀ a, a < 5 → ∀ b, b < 5 → a ≠ b → (TX10 a).2.1 ≠ (TX10 b).2.1 := by decide +kernel
theorem tyX10_ok : ∀ k, k < 5 → parseFieldDescriptor (TX10 k).2.2.1 = some (tyX10 k) := by decide +kernel
def RX11 : String := "EggThrow$Toss"
def TX11 : u_T := fun k => match k with
  | 0 => ("EggThrow$Toss", "meadow", "LEggThrow$Meadow;", true)
  | 1 => ("EggThrow$Toss", "climb", "[I", true)
  | 2 => ("EggThrow$Toss", "law", "LEggThrow$Law;", false)
  | 3 => ("EggThrow$Toss", "slip", "I", false)
  | 4 => ("EggThrow$Toss", "highest", "I", false)
  | 5 => ("EggThrow$Toss", "arm", "I", false)
  | 6 => ("EggThrow$Toss", "run", "I", false)
  | 7 => ("EggThrow$Toss", "blows", "I", false)
  | 8 => ("EggThrow$Toss", "limit", "I", false)
  | _ => ("EggThrow$Toss", "drawn", "J", false)
def tyX11 : Nat → FieldType := fun k => match k with
  | 0 => .object "EggThrow$Meadow"
  | 1 => .array .int
  | 2 => .object "EggThrow$Law"
  | 3 => .int
  | 4 => .int
  | 5 => .int
  | 6 => .int
  | 7 => .int
  | 8 => .int
  | _ => .long
theorem nmX11 : ∀ a, a < 10 → ∀ b, b < 10 → a ≠ b → (TX11 a).2.1 ≠ (TX11 b).2.1 := by decide +kernel
theorem tyX11_ok : ∀ k, k < 10 → parseFieldDescriptor (TX11 k).2.2.1 = some (tyX11 k) := by decide +kernel
def RX12 : String := "EggThrow"
def TX12 : u_T := fun k => match k with
  | 0 => ("EggThrow", "tape", "LEggThrow$Tape;", true)
  | 1 => ("EggThrow", "meadowReader", "LEggThrow$MeadowReader;", true)
  | 2 => ("EggThrow", "lawReader", "LEggThrow$LawReader;", true)
  | 3 => ("EggThrow", "meadow", "LEggThrow$Meadow;", true)
  | 4 => ("EggThrow", "laws", "[LEggThrow$Law;", true)
  | 5 => ("EggThrow", "lawCount", "I", false)
  | 6 => ("EggThrow", "lawHeld", "I", false)
  | 7 => ("EggThrow", "films", "[LEggThrow$Film;", true)
  | 8 => ("EggThrow", "filmCount", "I", false)
  | 9 => ("EggThrow", "witnessed", "LEggThrow$Book;", true)
  | 10 => ("EggThrow", "measured", "LEggThrow$Book;", true)
  | 11 => ("EggThrow", "games", "LEggThrow$Book;", true)
  | 12 => ("EggThrow", "imageGames", "LEggThrow$Book;", true)
  | 13 => ("EggThrow", "imageTold", "[I", true)
  | 14 => ("EggThrow", "hasImage", "Z", false)
  | 15 => ("EggThrow", "toss", "LEggThrow$Toss;", true)
  | 16 => ("EggThrow", "bests", "LEggThrow$Bests;", true)
  | 17 => ("EggThrow", "courses", "[LEggThrow$Course;", true)
  | _ => ("EggThrow", "search", "LEggThrow$Search;", true)
def tyX12 : Nat → FieldType := fun k => match k with
  | 0 => .object "EggThrow$Tape"
  | 1 => .object "EggThrow$MeadowReader"
  | 2 => .object "EggThrow$LawReader"
  | 3 => .object "EggThrow$Meadow"
  | 4 => .array (.object "EggThrow$Law")
  | 5 => .int
  | 6 => .int
  | 7 => .array (.object "EggThrow$Film")
  | 8 => .int
  | 9 => .object "EggThrow$Book"
  | 10 => .object "EggThrow$Book"
  | 11 => .object "EggThrow$Book"
  | 12 => .object "EggThrow$Book"
  | 13 => .array .int
  | 14 => .boolean
  | 15 => .object "EggThrow$Toss"
  | 16 => .object "EggThrow$Bests"
  | 17 => .array (.object "EggThrow$Course")
  | _ => .object "EggThrow$Search"
theorem nmX12 : ∀ a, a < 19 → ∀ b, b < 19 → a ≠ b → (TX12 a).2.1 ≠ (TX12 b).2.1 := by decide +kernel
theorem tyX12_ok : ∀ k, k < 19 → parseFieldDescriptor (TX12 k).2.2.1 = some (tyX12 k) := by decide +kernel
def RX13 : String := "EggThrowModel"
def TX13 : u_T := fun k => match k with
  | 0 => ("EggThrowModel", "thrown", "I", false)
  | 1 => ("EggThrowModel", "tape", "[B", true)
  | 2 => ("EggThrowModel", "texts", "[B", true)
  | 3 => ("EggThrowModel", "textLong", "[I", true)
  | 4 => ("EggThrowModel", "letters", "[I", true)
  | 5 => ("EggThrowModel", "text", "[B", false)
  | 6 => ("EggThrowModel", "length", "I", false)
  | 7 => ("EggThrowModel", "lawMany", "I", false)
  | 8 => ("EggThrowModel", "begins", "I", false)
  | 9 => ("EggThrowModel", "ends", "I", false)
  | 10 => ("EggThrowModel", "at", "I", false)
  | 11 => ("EggThrowModel", "fault", "I", false)
  | 12 => ("EggThrowModel", "deep", "I", false)
  | 13 => ("EggThrowModel", "label", "I", false)
  | 14 => ("EggThrowModel", "found", "I", false)
  | 15 => ("EggThrowModel", "labels", "Ljava/lang/String;", true)
  | 16 => ("EggThrowModel", "allowed", "Ljava/lang/String;", true)
  | 17 => ("EggThrowModel", "hasFound", "Z", false)
  | 18 => ("EggThrowModel", "mea", "[I", true)
  | 19 => ("EggThrowModel", "meaRead", "[I", true)
  | 20 => ("EggThrowModel", "per", "[I", true)
  | 21 => ("EggThrowModel", "perRead", "[I", true)
  | 22 => ("EggThrowModel", "egg", "[I", true)
  | 23 => ("EggThrowModel", "eggRead", "[I", true)
  | 24 => ("EggThrowModel", "persons", "I", false)
  | 25 => ("EggThrowModel", "personsRead", "I", false)
  | 26 => ("EggThrowModel", "eggs", "I", false)
  | 27 => ("EggThrowModel", "eggsRead", "I", false)
  | 28 => ("EggThrowModel", "hasMeadow", "Z", false)
  | 29 => ("EggThrowModel", "film", "[I", true)
  | 30 => ("EggThrowModel", "filmRead", "[I", true)
  | 31 => ("EggThrowModel", "filmLong", "[I", true)
  | 32 => ("EggThrowModel", "films", "I", false)
  | 33 => ("EggThrowModel", "filmReadLong", "I", false)
  | 34 => ("EggThrowModel", "law", "I", false)
  | 35 => ("EggThrowModel", "holds", "[Z", true)
  | 36 => ("EggThrowModel", "bestBow", "I", false)
  | 37 => ("EggThrowModel", "bestAim", "I", false)
  | 38 => ("EggThrowModel", "bestGood", "I", false)
  | 39 => ("EggThrowModel", "comesNow", "[I", true)
  | 40 => ("EggThrowModel", "farNow", "I", false)
  | 41 => ("EggThrowModel", "hopeNow", "J", false)
  | 42 => ("EggThrowModel", "hopes", "[J", true)
  | 43 => ("EggThrowModel", "with", "[I", true)
  | 44 => ("EggThrowModel", "whomDigits", "J", false)
  | 45 => ("EggThrowModel", "whomMuch", "J", false)
  | 46 => ("EggThrowModel", "seenEgg", "[I", true)
  | 47 => ("EggThrowModel", "seenForce", "[I", true)
  | 48 => ("EggThrowModel", "seenBore", "[Z", true)
  | 49 => ("EggThrowModel", "seen", "I", false)
  | 50 => ("EggThrowModel", "comesOne", "[I", true)
  | 51 => ("EggThrowModel", "comesOther", "[I", true)
  | 52 => ("EggThrowModel", "rankTwo", "[I", true)
  | 53 => ("EggThrowModel", "pairLow", "[I", true)
  | 54 => ("EggThrowModel", "pairs", "I", false)
  | 55 => ("EggThrowModel", "fetex", "J", false)
  | 56 => ("EggThrowModel", "comesAll", "[I", true)
  | 57 => ("EggThrowModel", "goods", "[I", true)
  | 58 => ("EggThrowModel", "slips", "[I", true)
  | 59 => ("EggThrowModel", "cartonDigits", "I", false)
  | 60 => ("EggThrowModel", "cartonParts", "I", false)
  | 61 => ("EggThrowModel", "meaTo", "[I", true)
  | 62 => ("EggThrowModel", "meaHow", "[I", true)
  | 63 => ("EggThrowModel", "meaOff", "[I", true)
  | 64 => ("EggThrowModel", "meaForce", "[I", true)
  | 65 => ("EggThrowModel", "measured", "I", false)
  | 66 => ("EggThrowModel", "hops", "[I", true)
  | 67 => ("EggThrowModel", "rowDigits", "I", false)
  | 68 => ("EggThrowModel", "rowParts", "I", false)
  | 69 => ("EggThrowModel", "gameTwo", "[I", true)
  | 70 => ("EggThrowModel", "gameFrom", "[I", true)
  | 71 => ("EggThrowModel", "gameFar", "[I", true)
  | 72 => ("EggThrowModel", "games", "I", false)
  | 73 => ("EggThrowModel", "imageMea", "[I", true)
  | 74 => ("EggThrowModel", "imageTwo", "[I", true)
  | 75 => ("EggThrowModel", "imageFrom", "[I", true)
  | 76 => ("EggThrowModel", "imageFar", "[I", true)
  | 77 => ("EggThrowModel", "imageGames", "I", false)
  | _ => ("EggThrowModel", "hasImage", "Z", false)
def tyX13 : Nat → FieldType := fun k => match k with
  | 0 => .int
  | 1 => .array .byte
  | 2 => .array .byte
  | 3 => .array .int
  | 4 => .array .int
  | 5 => .array .byte
  | 6 => .int
  | 7 => .int
  | 8 => .int
  | 9 => .int
  | 10 => .int
  | 11 => .int
  | 12 => .int
  | 13 => .int
  | 14 => .int
  | 15 => .object "java/lang/String"
  | 16 => .object "java/lang/String"
  | 17 => .boolean
  | 18 => .array .int
  | 19 => .array .int
  | 20 => .array .int
  | 21 => .array .int
  | 22 => .array .int
  | 23 => .array .int
  | 24 => .int
  | 25 => .int
  | 26 => .int
  | 27 => .int
  | 28 => .boolean
  | 29 => .array .int
  | 30 => .array .int
  | 31 => .array .int
  | 32 => .int
  | 33 => .int
  | 34 => .int
  | 35 => .array .boolean
  | 36 => .int
  | 37 => .int
  | 38 => .int
  | 39 => .array .int
  | 40 => .int
  | 41 => .long
  | 42 => .array .long
  | 43 => .array .int
  | 44 => .long
  | 45 => .long
  | 46 => .array .int
  | 47 => .array .int
  | 48 => .array .boolean
  | 49 => .int
  | 50 => .array .int
  | 51 => .array .int
  | 52 => .array .int
  | 53 => .array .int
  | 54 => .int
  | 55 => .long
  | 56 => .array .int
  | 57 => .array .int
  | 58 => .array .int
  | 59 => .int
  | 60 => .int
  | 61 => .array .int
  | 62 => .array .int
  | 63 => .array .int
  | 64 => .array .int
  | 65 => .int
  | 66 => .array .int
  | 67 => .int
  | 68 => .int
  | 69 => .array .int
  | 70 => .array .int
  | 71 => .array .int
  | 72 => .int
  | 73 => .array .int
  | 74 => .array .int
  | 75 => .array .int
  | 76 => .array .int
  | 77 => .int
  | _ => .boolean
theorem nmX13 : ∀ a, a < 79 → ∀ b, b < 79 → a ≠ b → (TX13 a).2.1 ≠ (TX13 b).2.1 := by decide +kernel
theorem tyX13_ok : ∀ k, k < 79 → parseFieldDescriptor (TX13 k).2.2.1 = some (tyX13 k) := by decide +kernel
abbrev eg_cl : List vw_C := [(RX0, TX0, 4), (RX1, TX1, 3), (RX2, TX2, 5), (RX3, TX3, 2), (RX4, TX4, 2), (RX5, TX5, 3), (RX6, TX6, 3), (RX7, TX7, 3), (RX8, TX8, 5), (RX9, TX9, 12), (RX10, TX10, 5), (RX11, TX11, 10), (RX12, TX12, 19), (RX13, TX13, 79)]
