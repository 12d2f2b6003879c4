section
-- ===== PART A: goes FIRST, ahead of the names: the tables' words, and 'selects' of the private methods out of them =====
/-- a private method of a class that the tables say can be made, by its rows of tables_1 -/
def lw_okq (q : MethodName × Nat) : Prop := (q.1.cls ≠ "java/lang/invoke/MethodHandle" ∧ q.1.cls ≠ "java/lang/invoke/VarHandle") ∧ Cond.instantiable q.1.cls q.2 ∈ tables_1 ∧ Cond.privateMethod q.1 ∈ tables_1 ∧ Cond.instanceMethod q.1 ∈ tables_1
theorem lw_p0 : lw_okq (⟨"PayScales", "feedNumber", "(I)V"⟩, 18) := ⟨⟨by decide +kernel, by decide +kernel⟩, List.mem_of_getElem? (i := 24) (by decide +kernel), List.mem_of_getElem? (i := 289) (by decide +kernel), List.mem_of_getElem? (i := 290) (by decide +kernel)⟩
theorem lw_p1 : lw_okq (⟨"PayScales$Reader", "begin", "(I)V"⟩, 8) := ⟨⟨by decide +kernel, by decide +kernel⟩, List.mem_of_getElem? (i := 32) (by decide +kernel), List.mem_of_getElem? (i := 310) (by decide +kernel), List.mem_of_getElem? (i := 311) (by decide +kernel)⟩
theorem lw_p2 : lw_okq (⟨"PayScales$Reader", "advance", "()V"⟩, 8) := ⟨⟨by decide +kernel, by decide +kernel⟩, List.mem_of_getElem? (i := 32) (by decide +kernel), List.mem_of_getElem? (i := 314) (by decide +kernel), List.mem_of_getElem? (i := 315) (by decide +kernel)⟩
theorem lw_p3 : lw_okq (⟨"PayScales$Reader", "kindAt", "(I)I"⟩, 8) := ⟨⟨by decide +kernel, by decide +kernel⟩, List.mem_of_getElem? (i := 32) (by decide +kernel), List.mem_of_getElem? (i := 318) (by decide +kernel), List.mem_of_getElem? (i := 319) (by decide +kernel)⟩
theorem lw_p4 : lw_okq (⟨"PayScales$Reader", "byteAt", "(I)I"⟩, 8) := ⟨⟨by decide +kernel, by decide +kernel⟩, List.mem_of_getElem? (i := 32) (by decide +kernel), List.mem_of_getElem? (i := 322) (by decide +kernel), List.mem_of_getElem? (i := 323) (by decide +kernel)⟩
theorem lw_p5 : lw_okq (⟨"PayScales$Reader", "takeFirstWord", "(I)I"⟩, 8) := ⟨⟨by decide +kernel, by decide +kernel⟩, List.mem_of_getElem? (i := 32) (by decide +kernel), List.mem_of_getElem? (i := 327) (by decide +kernel), List.mem_of_getElem? (i := 328) (by decide +kernel)⟩
theorem lw_p6 : lw_okq (⟨"PayScales$Reader", "wordOfToken", "()I"⟩, 8) := ⟨⟨by decide +kernel, by decide +kernel⟩, List.mem_of_getElem? (i := 32) (by decide +kernel), List.mem_of_getElem? (i := 331) (by decide +kernel), List.mem_of_getElem? (i := 332) (by decide +kernel)⟩
theorem lw_p7 : lw_okq (⟨"PayScales$Reader", "tokenIs", "(Ljava/lang/String;)Z"⟩, 8) := ⟨⟨by decide +kernel, by decide +kernel⟩, List.mem_of_getElem? (i := 32) (by decide +kernel), List.mem_of_getElem? (i := 345) (by decide +kernel), List.mem_of_getElem? (i := 346) (by decide +kernel)⟩
theorem lw_p8 : lw_okq (⟨"PayScales$Reader", "refuse", "(II)V"⟩, 8) := ⟨⟨by decide +kernel, by decide +kernel⟩, List.mem_of_getElem? (i := 32) (by decide +kernel), List.mem_of_getElem? (i := 397) (by decide +kernel), List.mem_of_getElem? (i := 398) (by decide +kernel)⟩
theorem lw_p9 : lw_okq (⟨"PayScales$Reader", "readEnd", "()LPayScales$Line;"⟩, 8) := ⟨⟨by decide +kernel, by decide +kernel⟩, List.mem_of_getElem? (i := 32) (by decide +kernel), List.mem_of_getElem? (i := 401) (by decide +kernel), List.mem_of_getElem? (i := 402) (by decide +kernel)⟩
theorem lw_p10 : lw_okq (⟨"PayScales$Reader", "takeLetter", "(II)I"⟩, 8) := ⟨⟨by decide +kernel, by decide +kernel⟩, List.mem_of_getElem? (i := 32) (by decide +kernel), List.mem_of_getElem? (i := 453) (by decide +kernel), List.mem_of_getElem? (i := 454) (by decide +kernel)⟩
theorem lw_p11 : lw_okq (⟨"PayScales$Reader", "readBody", "(I)LPayScales$Line;"⟩, 8) := ⟨⟨by decide +kernel, by decide +kernel⟩, List.mem_of_getElem? (i := 32) (by decide +kernel), List.mem_of_getElem? (i := 457) (by decide +kernel), List.mem_of_getElem? (i := 458) (by decide +kernel)⟩
theorem lw_p12 : lw_okq (⟨"PayScales$Reader", "readCondition", "(LPayScales$Line;)V"⟩, 8) := ⟨⟨by decide +kernel, by decide +kernel⟩, List.mem_of_getElem? (i := 32) (by decide +kernel), List.mem_of_getElem? (i := 461) (by decide +kernel), List.mem_of_getElem? (i := 462) (by decide +kernel)⟩
theorem lw_p13 : lw_okq (⟨"PayScales$Reader", "takeRelation", "()I"⟩, 8) := ⟨⟨by decide +kernel, by decide +kernel⟩, List.mem_of_getElem? (i := 32) (by decide +kernel), List.mem_of_getElem? (i := 465) (by decide +kernel), List.mem_of_getElem? (i := 466) (by decide +kernel)⟩
theorem lw_p14 : lw_okq (⟨"PayScales$Reader", "takeNumber", "()I"⟩, 8) := ⟨⟨by decide +kernel, by decide +kernel⟩, List.mem_of_getElem? (i := 32) (by decide +kernel), List.mem_of_getElem? (i := 469) (by decide +kernel), List.mem_of_getElem? (i := 470) (by decide +kernel)⟩
theorem lw_p15 : lw_okq (⟨"PayScales$Reader", "numberOfToken", "()I"⟩, 8) := ⟨⟨by decide +kernel, by decide +kernel⟩, List.mem_of_getElem? (i := 32) (by decide +kernel), List.mem_of_getElem? (i := 473) (by decide +kernel), List.mem_of_getElem? (i := 474) (by decide +kernel)⟩
def lw_privs_1 : List (MethodName × Nat) := [(⟨"PayScales", "feedNumber", "(I)V"⟩, 18), (⟨"PayScales$Reader", "begin", "(I)V"⟩, 8), (⟨"PayScales$Reader", "advance", "()V"⟩, 8), (⟨"PayScales$Reader", "kindAt", "(I)I"⟩, 8), (⟨"PayScales$Reader", "byteAt", "(I)I"⟩, 8), (⟨"PayScales$Reader", "takeFirstWord", "(I)I"⟩, 8), (⟨"PayScales$Reader", "wordOfToken", "()I"⟩, 8), (⟨"PayScales$Reader", "tokenIs", "(Ljava/lang/String;)Z"⟩, 8), (⟨"PayScales$Reader", "refuse", "(II)V"⟩, 8), (⟨"PayScales$Reader", "readEnd", "()LPayScales$Line;"⟩, 8), (⟨"PayScales$Reader", "takeLetter", "(II)I"⟩, 8), (⟨"PayScales$Reader", "readBody", "(I)LPayScales$Line;"⟩, 8), (⟨"PayScales$Reader", "readCondition", "(LPayScales$Line;)V"⟩, 8), (⟨"PayScales$Reader", "takeRelation", "()I"⟩, 8), (⟨"PayScales$Reader", "takeNumber", "()I"⟩, 8), (⟨"PayScales$Reader", "numberOfToken", "()I"⟩, 8)]
theorem lw_r1 : ∀ q ∈ lw_privs_1, lw_okq q := List.forall_mem_cons.mpr ⟨lw_p0, List.forall_mem_cons.mpr ⟨lw_p1, List.forall_mem_cons.mpr ⟨lw_p2, List.forall_mem_cons.mpr ⟨lw_p3, List.forall_mem_cons.mpr ⟨lw_p4, List.forall_mem_cons.mpr ⟨lw_p5, List.forall_mem_cons.mpr ⟨lw_p6, List.forall_mem_cons.mpr ⟨lw_p7, List.forall_mem_cons.mpr ⟨lw_p8, List.forall_mem_cons.mpr ⟨lw_p9, List.forall_mem_cons.mpr ⟨lw_p10, List.forall_mem_cons.mpr ⟨lw_p11, List.forall_mem_cons.mpr ⟨lw_p12, List.forall_mem_cons.mpr ⟨lw_p13, List.forall_mem_cons.mpr ⟨lw_p14, List.forall_mem_cons.mpr ⟨lw_p15, fun _ h => absurd h List.not_mem_nil⟩⟩⟩⟩⟩⟩⟩⟩⟩⟩⟩⟩⟩⟩⟩⟩
theorem lw_p16 : lw_okq (⟨"PayScales$Reader", "takeSign", "(I)V"⟩, 8) := ⟨⟨by decide +kernel, by decide +kernel⟩, List.mem_of_getElem? (i := 32) (by decide +kernel), List.mem_of_getElem? (i := 480) (by decide +kernel), List.mem_of_getElem? (i := 481) (by decide +kernel)⟩
theorem lw_p17 : lw_okq (⟨"PayScales$Reader", "takeFrom", "()V"⟩, 8) := ⟨⟨by decide +kernel, by decide +kernel⟩, List.mem_of_getElem? (i := 32) (by decide +kernel), List.mem_of_getElem? (i := 484) (by decide +kernel), List.mem_of_getElem? (i := 485) (by decide +kernel)⟩
theorem lw_p18 : lw_okq (⟨"PayScales$Reader", "readScale", "(LPayScales$Line;)V"⟩, 8) := ⟨⟨by decide +kernel, by decide +kernel⟩, List.mem_of_getElem? (i := 32) (by decide +kernel), List.mem_of_getElem? (i := 489) (by decide +kernel), List.mem_of_getElem? (i := 490) (by decide +kernel)⟩
theorem lw_p19 : lw_okq (⟨"PayScales$Reader", "readStepDays", "(LPayScales$Line;)V"⟩, 8) := ⟨⟨by decide +kernel, by decide +kernel⟩, List.mem_of_getElem? (i := 32) (by decide +kernel), List.mem_of_getElem? (i := 497) (by decide +kernel), List.mem_of_getElem? (i := 498) (by decide +kernel)⟩
theorem lw_p20 : lw_okq (⟨"PayScales$Reader", "readPlusNumber", "(LPayScales$Line;)V"⟩, 8) := ⟨⟨by decide +kernel, by decide +kernel⟩, List.mem_of_getElem? (i := 32) (by decide +kernel), List.mem_of_getElem? (i := 501) (by decide +kernel), List.mem_of_getElem? (i := 502) (by decide +kernel)⟩
theorem lw_p21 : lw_okq (⟨"PayScales$Reader", "checkKey", "(II)V"⟩, 8) := ⟨⟨by decide +kernel, by decide +kernel⟩, List.mem_of_getElem? (i := 32) (by decide +kernel), List.mem_of_getElem? (i := 509) (by decide +kernel), List.mem_of_getElem? (i := 510) (by decide +kernel)⟩
theorem lw_p22 : lw_okq (⟨"java/util/ArrayList", "add", "(Ljava/lang/Object;[Ljava/lang/Object;I)V"⟩, 3) := ⟨⟨by decide +kernel, by decide +kernel⟩, List.mem_of_getElem? (i := 67) (by decide +kernel), List.mem_of_getElem? (i := 517) (by decide +kernel), List.mem_of_getElem? (i := 518) (by decide +kernel)⟩
theorem lw_p23 : lw_okq (⟨"java/util/ArrayList", "grow", "()[Ljava/lang/Object;"⟩, 3) := ⟨⟨by decide +kernel, by decide +kernel⟩, List.mem_of_getElem? (i := 67) (by decide +kernel), List.mem_of_getElem? (i := 521) (by decide +kernel), List.mem_of_getElem? (i := 522) (by decide +kernel)⟩
theorem lw_p24 : lw_okq (⟨"java/util/ArrayList", "grow", "(I)[Ljava/lang/Object;"⟩, 3) := ⟨⟨by decide +kernel, by decide +kernel⟩, List.mem_of_getElem? (i := 67) (by decide +kernel), List.mem_of_getElem? (i := 525) (by decide +kernel), List.mem_of_getElem? (i := 526) (by decide +kernel)⟩
theorem lw_p25 : lw_okq (⟨"PayScales", "placeOfAgreement", "(I)I"⟩, 18) := ⟨⟨by decide +kernel, by decide +kernel⟩, List.mem_of_getElem? (i := 24) (by decide +kernel), List.mem_of_getElem? (i := 593) (by decide +kernel), List.mem_of_getElem? (i := 594) (by decide +kernel)⟩
theorem lw_p26 : lw_okq (⟨"java/util/ArrayList", "rangeCheckForAdd", "(I)V"⟩, 3) := ⟨⟨by decide +kernel, by decide +kernel⟩, List.mem_of_getElem? (i := 67) (by decide +kernel), List.mem_of_getElem? (i := 613) (by decide +kernel), List.mem_of_getElem? (i := 614) (by decide +kernel)⟩
theorem lw_p27 : lw_okq (⟨"PayScales", "isPost", "(I)Z"⟩, 18) := ⟨⟨by decide +kernel, by decide +kernel⟩, List.mem_of_getElem? (i := 24) (by decide +kernel), List.mem_of_getElem? (i := 634) (by decide +kernel), List.mem_of_getElem? (i := 635) (by decide +kernel)⟩
theorem lw_p28 : lw_okq (⟨"PayScales", "placeOfNote", "(I)I"⟩, 18) := ⟨⟨by decide +kernel, by decide +kernel⟩, List.mem_of_getElem? (i := 24) (by decide +kernel), List.mem_of_getElem? (i := 644) (by decide +kernel), List.mem_of_getElem? (i := 645) (by decide +kernel)⟩
theorem lw_p29 : lw_okq (⟨"PayScales", "isKnown", "(I)Z"⟩, 18) := ⟨⟨by decide +kernel, by decide +kernel⟩, List.mem_of_getElem? (i := 24) (by decide +kernel), List.mem_of_getElem? (i := 680) (by decide +kernel), List.mem_of_getElem? (i := 681) (by decide +kernel)⟩
theorem lw_p30 : lw_okq (⟨"PayScales$Walk", "openDay", "()V"⟩, 18) := ⟨⟨by decide +kernel, by decide +kernel⟩, List.mem_of_getElem? (i := 112) (by decide +kernel), List.mem_of_getElem? (i := 697) (by decide +kernel), List.mem_of_getElem? (i := 698) (by decide +kernel)⟩
theorem lw_p31 : lw_okq (⟨"PayScales$Walk", "takeAgreements", "()V"⟩, 18) := ⟨⟨by decide +kernel, by decide +kernel⟩, List.mem_of_getElem? (i := 112) (by decide +kernel), List.mem_of_getElem? (i := 701) (by decide +kernel), List.mem_of_getElem? (i := 702) (by decide +kernel)⟩
def lw_privs_2 : List (MethodName × Nat) := [(⟨"PayScales$Reader", "takeSign", "(I)V"⟩, 8), (⟨"PayScales$Reader", "takeFrom", "()V"⟩, 8), (⟨"PayScales$Reader", "readScale", "(LPayScales$Line;)V"⟩, 8), (⟨"PayScales$Reader", "readStepDays", "(LPayScales$Line;)V"⟩, 8), (⟨"PayScales$Reader", "readPlusNumber", "(LPayScales$Line;)V"⟩, 8), (⟨"PayScales$Reader", "checkKey", "(II)V"⟩, 8), (⟨"java/util/ArrayList", "add", "(Ljava/lang/Object;[Ljava/lang/Object;I)V"⟩, 3), (⟨"java/util/ArrayList", "grow", "()[Ljava/lang/Object;"⟩, 3), (⟨"java/util/ArrayList", "grow", "(I)[Ljava/lang/Object;"⟩, 3), (⟨"PayScales", "placeOfAgreement", "(I)I"⟩, 18), (⟨"java/util/ArrayList", "rangeCheckForAdd", "(I)V"⟩, 3), (⟨"PayScales", "isPost", "(I)Z"⟩, 18), (⟨"PayScales", "placeOfNote", "(I)I"⟩, 18), (⟨"PayScales", "isKnown", "(I)Z"⟩, 18), (⟨"PayScales$Walk", "openDay", "()V"⟩, 18), (⟨"PayScales$Walk", "takeAgreements", "()V"⟩, 18)]
theorem lw_r2 : ∀ q ∈ lw_privs_2, lw_okq q := List.forall_mem_cons.mpr ⟨lw_p16, List.forall_mem_cons.mpr ⟨lw_p17, List.forall_mem_cons.mpr ⟨lw_p18, List.forall_mem_cons.mpr ⟨lw_p19, List.forall_mem_cons.mpr ⟨lw_p20, List.forall_mem_cons.mpr ⟨lw_p21, List.forall_mem_cons.mpr ⟨lw_p22, List.forall_mem_cons.mpr ⟨lw_p23, List.forall_mem_cons.mpr ⟨lw_p24, List.forall_mem_cons.mpr ⟨lw_p25, List.forall_mem_cons.mpr ⟨lw_p26, List.forall_mem_cons.mpr ⟨lw_p27, List.forall_mem_cons.mpr ⟨lw_p28, List.forall_mem_cons.mpr ⟨lw_p29, List.forall_mem_cons.mpr ⟨lw_p30, List.forall_mem_cons.mpr ⟨lw_p31, fun _ h => absurd h List.not_mem_nil⟩⟩⟩⟩⟩⟩⟩⟩⟩⟩⟩⟩⟩⟩⟩⟩
theorem lw_p32 : lw_okq (⟨"PayScales$Walk", "takeNotes", "()V"⟩, 18) := ⟨⟨by decide +kernel, by decide +kernel⟩, List.mem_of_getElem? (i := 112) (by decide +kernel), List.mem_of_getElem? (i := 715) (by decide +kernel), List.mem_of_getElem? (i := 716) (by decide +kernel)⟩
theorem lw_p33 : lw_okq (⟨"PayScales$Walk", "takeNote", "(LPayScales$Note;)V"⟩, 18) := ⟨⟨by decide +kernel, by decide +kernel⟩, List.mem_of_getElem? (i := 112) (by decide +kernel), List.mem_of_getElem? (i := 720) (by decide +kernel), List.mem_of_getElem? (i := 721) (by decide +kernel)⟩
theorem lw_p34 : lw_okq (⟨"PayScales$Appraisal", "stepAfter", "(I)I"⟩, 7) := ⟨⟨by decide +kernel, by decide +kernel⟩, List.mem_of_getElem? (i := 118) (by decide +kernel), List.mem_of_getElem? (i := 749) (by decide +kernel), List.mem_of_getElem? (i := 750) (by decide +kernel)⟩
theorem lw_p35 : lw_okq (⟨"PayScales$Appraisal", "moveStep", "(LPayScales$Rules;[II)V"⟩, 7) := ⟨⟨by decide +kernel, by decide +kernel⟩, List.mem_of_getElem? (i := 118) (by decide +kernel), List.mem_of_getElem? (i := 754) (by decide +kernel), List.mem_of_getElem? (i := 755) (by decide +kernel)⟩
theorem lw_p36 : lw_okq (⟨"PayScales$Walk", "give", "()V"⟩, 18) := ⟨⟨by decide +kernel, by decide +kernel⟩, List.mem_of_getElem? (i := 112) (by decide +kernel), List.mem_of_getElem? (i := 770) (by decide +kernel), List.mem_of_getElem? (i := 771) (by decide +kernel)⟩
theorem lw_p37 : lw_okq (⟨"PayScales$Walk", "daysAlike", "(I)I"⟩, 18) := ⟨⟨by decide +kernel, by decide +kernel⟩, List.mem_of_getElem? (i := 112) (by decide +kernel), List.mem_of_getElem? (i := 782) (by decide +kernel), List.mem_of_getElem? (i := 783) (by decide +kernel)⟩
theorem lw_p38 : lw_okq (⟨"PayScales$Walk", "passDays", "(I)V"⟩, 18) := ⟨⟨by decide +kernel, by decide +kernel⟩, List.mem_of_getElem? (i := 112) (by decide +kernel), List.mem_of_getElem? (i := 792) (by decide +kernel), List.mem_of_getElem? (i := 793) (by decide +kernel)⟩
theorem lw_p39 : lw_okq (⟨"PayScales$Walk", "isServing", "()Z"⟩, 18) := ⟨⟨by decide +kernel, by decide +kernel⟩, List.mem_of_getElem? (i := 112) (by decide +kernel), List.mem_of_getElem? (i := 796) (by decide +kernel), List.mem_of_getElem? (i := 797) (by decide +kernel)⟩
theorem lw_p40 : lw_okq (⟨"PayScales", "dueOfMonths", "(IIII)J"⟩, 18) := ⟨⟨by decide +kernel, by decide +kernel⟩, List.mem_of_getElem? (i := 24) (by decide +kernel), List.mem_of_getElem? (i := 822) (by decide +kernel), List.mem_of_getElem? (i := 823) (by decide +kernel)⟩
theorem lw_p41 : lw_okq (⟨"PayScales", "settle", "(IIJ)V"⟩, 18) := ⟨⟨by decide +kernel, by decide +kernel⟩, List.mem_of_getElem? (i := 24) (by decide +kernel), List.mem_of_getElem? (i := 839) (by decide +kernel), List.mem_of_getElem? (i := 840) (by decide +kernel)⟩
theorem lw_p42 : lw_okq (⟨"PayScales$Rows", "put", "(IJ)V"⟩, 3) := ⟨⟨by decide +kernel, by decide +kernel⟩, List.mem_of_getElem? (i := 209) (by decide +kernel), List.mem_of_getElem? (i := 847) (by decide +kernel), List.mem_of_getElem? (i := 848) (by decide +kernel)⟩
theorem lw_p43 : lw_okq (⟨"PayScales", "areLike", "(III)Z"⟩, 18) := ⟨⟨by decide +kernel, by decide +kernel⟩, List.mem_of_getElem? (i := 24) (by decide +kernel), List.mem_of_getElem? (i := 874) (by decide +kernel), List.mem_of_getElem? (i := 875) (by decide +kernel)⟩
theorem lw_p44 : lw_okq (⟨"PayScales", "addPair", "(II)V"⟩, 18) := ⟨⟨by decide +kernel, by decide +kernel⟩, List.mem_of_getElem? (i := 24) (by decide +kernel), List.mem_of_getElem? (i := 881) (by decide +kernel), List.mem_of_getElem? (i := 882) (by decide +kernel)⟩
theorem lw_p45 : lw_okq (⟨"PayScalesModel", "parses", "()V"⟩, 60) := ⟨⟨by decide +kernel, by decide +kernel⟩, List.mem_of_getElem? (i := 918) (by decide +kernel), List.mem_of_getElem? (i := 1113) (by decide +kernel), List.mem_of_getElem? (i := 1114) (by decide +kernel)⟩
theorem lw_p46 : lw_okq (⟨"PayScalesModel", "next", "()V"⟩, 60) := ⟨⟨by decide +kernel, by decide +kernel⟩, List.mem_of_getElem? (i := 918) (by decide +kernel), List.mem_of_getElem? (i := 1117) (by decide +kernel), List.mem_of_getElem? (i := 1118) (by decide +kernel)⟩
theorem lw_p47 : lw_okq (⟨"PayScalesModel", "here", "()I"⟩, 60) := ⟨⟨by decide +kernel, by decide +kernel⟩, List.mem_of_getElem? (i := 918) (by decide +kernel), List.mem_of_getElem? (i := 1121) (by decide +kernel), List.mem_of_getElem? (i := 1122) (by decide +kernel)⟩
def lw_privs_3 : List (MethodName × Nat) := [(⟨"PayScales$Walk", "takeNotes", "()V"⟩, 18), (⟨"PayScales$Walk", "takeNote", "(LPayScales$Note;)V"⟩, 18), (⟨"PayScales$Appraisal", "stepAfter", "(I)I"⟩, 7), (⟨"PayScales$Appraisal", "moveStep", "(LPayScales$Rules;[II)V"⟩, 7), (⟨"PayScales$Walk", "give", "()V"⟩, 18), (⟨"PayScales$Walk", "daysAlike", "(I)I"⟩, 18), (⟨"PayScales$Walk", "passDays", "(I)V"⟩, 18), (⟨"PayScales$Walk", "isServing", "()Z"⟩, 18), (⟨"PayScales", "dueOfMonths", "(IIII)J"⟩, 18), (⟨"PayScales", "settle", "(IIJ)V"⟩, 18), (⟨"PayScales$Rows", "put", "(IJ)V"⟩, 3), (⟨"PayScales", "areLike", "(III)Z"⟩, 18), (⟨"PayScales", "addPair", "(II)V"⟩, 18), (⟨"PayScalesModel", "parses", "()V"⟩, 60), (⟨"PayScalesModel", "next", "()V"⟩, 60), (⟨"PayScalesModel", "here", "()I"⟩, 60)]
theorem lw_r3 : ∀ q ∈ lw_privs_3, lw_okq q := List.forall_mem_cons.mpr ⟨lw_p32, List.forall_mem_cons.mpr ⟨lw_p33, List.forall_mem_cons.mpr ⟨lw_p34, List.forall_mem_cons.mpr ⟨lw_p35, List.forall_mem_cons.mpr ⟨lw_p36, List.forall_mem_cons.mpr ⟨lw_p37, List.forall_mem_cons.mpr ⟨lw_p38, List.forall_mem_cons.mpr ⟨lw_p39, List.forall_mem_cons.mpr ⟨lw_p40, List.forall_mem_cons.mpr ⟨lw_p41, List.forall_mem_cons.mpr ⟨lw_p42, List.forall_mem_cons.mpr ⟨lw_p43, List.forall_mem_cons.mpr ⟨lw_p44, List.forall_mem_cons.mpr ⟨lw_p45, List.forall_mem_cons.mpr ⟨lw_p46, List.forall_mem_cons.mpr ⟨lw_p47, fun _ h => absurd h List.not_mem_nil⟩⟩⟩⟩⟩⟩⟩⟩⟩⟩⟩⟩⟩⟩⟩⟩
theorem lw_p48 : lw_okq (⟨"PayScalesModel", "word", "(I)V"⟩, 60) := ⟨⟨by decide +kernel, by decide +kernel⟩, List.mem_of_getElem? (i := 918) (by decide +kernel), List.mem_of_getElem? (i := 1128) (by decide +kernel), List.mem_of_getElem? (i := 1129) (by decide +kernel)⟩
theorem lw_p49 : lw_okq (⟨"PayScalesModel", "line", "(I)V"⟩, 60) := ⟨⟨by decide +kernel, by decide +kernel⟩, List.mem_of_getElem? (i := 918) (by decide +kernel), List.mem_of_getElem? (i := 1138) (by decide +kernel), List.mem_of_getElem? (i := 1139) (by decide +kernel)⟩
theorem lw_p50 : lw_okq (⟨"PayScalesModel", "wrong", "(II)V"⟩, 60) := ⟨⟨by decide +kernel, by decide +kernel⟩, List.mem_of_getElem? (i := 918) (by decide +kernel), List.mem_of_getElem? (i := 1142) (by decide +kernel), List.mem_of_getElem? (i := 1143) (by decide +kernel)⟩
theorem lw_p51 : lw_okq (⟨"PayScalesModel", "takes", "(I)I"⟩, 60) := ⟨⟨by decide +kernel, by decide +kernel⟩, List.mem_of_getElem? (i := 918) (by decide +kernel), List.mem_of_getElem? (i := 1146) (by decide +kernel), List.mem_of_getElem? (i := 1147) (by decide +kernel)⟩
theorem lw_p52 : lw_okq (⟨"PayScalesModel", "named", "(II)V"⟩, 60) := ⟨⟨by decide +kernel, by decide +kernel⟩, List.mem_of_getElem? (i := 918) (by decide +kernel), List.mem_of_getElem? (i := 1150) (by decide +kernel), List.mem_of_getElem? (i := 1151) (by decide +kernel)⟩
theorem lw_p53 : lw_okq (⟨"PayScalesModel", "wants", "(I)V"⟩, 60) := ⟨⟨by decide +kernel, by decide +kernel⟩, List.mem_of_getElem? (i := 918) (by decide +kernel), List.mem_of_getElem? (i := 1154) (by decide +kernel), List.mem_of_getElem? (i := 1155) (by decide +kernel)⟩
theorem lw_p54 : lw_okq (⟨"PayScalesModel", "isSign", "(I)Z"⟩, 60) := ⟨⟨by decide +kernel, by decide +kernel⟩, List.mem_of_getElem? (i := 918) (by decide +kernel), List.mem_of_getElem? (i := 1158) (by decide +kernel), List.mem_of_getElem? (i := 1159) (by decide +kernel)⟩
theorem lw_p55 : lw_okq (⟨"PayScalesModel", "scaleNumber", "(I)V"⟩, 60) := ⟨⟨by decide +kernel, by decide +kernel⟩, List.mem_of_getElem? (i := 918) (by decide +kernel), List.mem_of_getElem? (i := 1162) (by decide +kernel), List.mem_of_getElem? (i := 1163) (by decide +kernel)⟩
theorem lw_p56 : lw_okq (⟨"PayScalesModel", "factOf", "(I)V"⟩, 60) := ⟨⟨by decide +kernel, by decide +kernel⟩, List.mem_of_getElem? (i := 918) (by decide +kernel), List.mem_of_getElem? (i := 1166) (by decide +kernel), List.mem_of_getElem? (i := 1167) (by decide +kernel)⟩
theorem lw_p57 : lw_okq (⟨"PayScalesModel", "isPost", "(I)Z"⟩, 60) := ⟨⟨by decide +kernel, by decide +kernel⟩, List.mem_of_getElem? (i := 918) (by decide +kernel), List.mem_of_getElem? (i := 1193) (by decide +kernel), List.mem_of_getElem? (i := 1194) (by decide +kernel)⟩
theorem lw_p58 : lw_okq (⟨"PayScalesModel", "isDay", "(I)Z"⟩, 60) := ⟨⟨by decide +kernel, by decide +kernel⟩, List.mem_of_getElem? (i := 918) (by decide +kernel), List.mem_of_getElem? (i := 1197) (by decide +kernel), List.mem_of_getElem? (i := 1198) (by decide +kernel)⟩
theorem lw_p59 : lw_okq (⟨"PayScalesModel", "isKnown", "(I)Z"⟩, 60) := ⟨⟨by decide +kernel, by decide +kernel⟩, List.mem_of_getElem? (i := 918) (by decide +kernel), List.mem_of_getElem? (i := 1201) (by decide +kernel), List.mem_of_getElem? (i := 1202) (by decide +kernel)⟩
theorem lw_p60 : lw_okq (⟨"PayScalesModel", "passes", "(II)V"⟩, 60) := ⟨⟨by decide +kernel, by decide +kernel⟩, List.mem_of_getElem? (i := 918) (by decide +kernel), List.mem_of_getElem? (i := 1206) (by decide +kernel), List.mem_of_getElem? (i := 1207) (by decide +kernel)⟩
theorem lw_p61 : lw_okq (⟨"PayScalesModel", "serves", "()V"⟩, 60) := ⟨⟨by decide +kernel, by decide +kernel⟩, List.mem_of_getElem? (i := 918) (by decide +kernel), List.mem_of_getElem? (i := 1210) (by decide +kernel), List.mem_of_getElem? (i := 1211) (by decide +kernel)⟩
theorem lw_p62 : lw_okq (⟨"PayScalesModel", "numberOf", "(II)I"⟩, 60) := ⟨⟨by decide +kernel, by decide +kernel⟩, List.mem_of_getElem? (i := 918) (by decide +kernel), List.mem_of_getElem? (i := 1214) (by decide +kernel), List.mem_of_getElem? (i := 1215) (by decide +kernel)⟩
theorem lw_p63 : lw_okq (⟨"PayScalesModel", "isBeginning", "(I)Z"⟩, 60) := ⟨⟨by decide +kernel, by decide +kernel⟩, List.mem_of_getElem? (i := 918) (by decide +kernel), List.mem_of_getElem? (i := 1218) (by decide +kernel), List.mem_of_getElem? (i := 1219) (by decide +kernel)⟩
def lw_privs_4 : List (MethodName × Nat) := [(⟨"PayScalesModel", "word", "(I)V"⟩, 60), (⟨"PayScalesModel", "line", "(I)V"⟩, 60), (⟨"PayScalesModel", "wrong", "(II)V"⟩, 60), (⟨"PayScalesModel", "takes", "(I)I"⟩, 60), (⟨"PayScalesModel", "named", "(II)V"⟩, 60), (⟨"PayScalesModel", "wants", "(I)V"⟩, 60), (⟨"PayScalesModel", "isSign", "(I)Z"⟩, 60), (⟨"PayScalesModel", "scaleNumber", "(I)V"⟩, 60), (⟨"PayScalesModel", "factOf", "(I)V"⟩, 60), (⟨"PayScalesModel", "isPost", "(I)Z"⟩, 60), (⟨"PayScalesModel", "isDay", "(I)Z"⟩, 60), (⟨"PayScalesModel", "isKnown", "(I)Z"⟩, 60), (⟨"PayScalesModel", "passes", "(II)V"⟩, 60), (⟨"PayScalesModel", "serves", "()V"⟩, 60), (⟨"PayScalesModel", "numberOf", "(II)I"⟩, 60), (⟨"PayScalesModel", "isBeginning", "(I)Z"⟩, 60)]
theorem lw_r4 : ∀ q ∈ lw_privs_4, lw_okq q := List.forall_mem_cons.mpr ⟨lw_p48, List.forall_mem_cons.mpr ⟨lw_p49, List.forall_mem_cons.mpr ⟨lw_p50, List.forall_mem_cons.mpr ⟨lw_p51, List.forall_mem_cons.mpr ⟨lw_p52, List.forall_mem_cons.mpr ⟨lw_p53, List.forall_mem_cons.mpr ⟨lw_p54, List.forall_mem_cons.mpr ⟨lw_p55, List.forall_mem_cons.mpr ⟨lw_p56, List.forall_mem_cons.mpr ⟨lw_p57, List.forall_mem_cons.mpr ⟨lw_p58, List.forall_mem_cons.mpr ⟨lw_p59, List.forall_mem_cons.mpr ⟨lw_p60, List.forall_mem_cons.mpr ⟨lw_p61, List.forall_mem_cons.mpr ⟨lw_p62, List.forall_mem_cons.mpr ⟨lw_p63, fun _ h => absurd h List.not_mem_nil⟩⟩⟩⟩⟩⟩⟩⟩⟩⟩⟩⟩⟩⟩⟩⟩
theorem lw_p64 : lw_okq (⟨"PayScalesModel", "lawsOf", "(II)V"⟩, 60) := ⟨⟨by decide +kernel, by decide +kernel⟩, List.mem_of_getElem? (i := 918) (by decide +kernel), List.mem_of_getElem? (i := 1222) (by decide +kernel), List.mem_of_getElem? (i := 1223) (by decide +kernel)⟩
theorem lw_p65 : lw_okq (⟨"PayScalesModel", "notesOf", "(II)V"⟩, 60) := ⟨⟨by decide +kernel, by decide +kernel⟩, List.mem_of_getElem? (i := 918) (by decide +kernel), List.mem_of_getElem? (i := 1226) (by decide +kernel), List.mem_of_getElem? (i := 1227) (by decide +kernel)⟩
theorem lw_p66 : lw_okq (⟨"PayScalesModel", "stands", "(I)V"⟩, 60) := ⟨⟨by decide +kernel, by decide +kernel⟩, List.mem_of_getElem? (i := 918) (by decide +kernel), List.mem_of_getElem? (i := 1230) (by decide +kernel), List.mem_of_getElem? (i := 1231) (by decide +kernel)⟩
theorem lw_p67 : lw_okq (⟨"PayScalesModel", "holds", "(II)Z"⟩, 60) := ⟨⟨by decide +kernel, by decide +kernel⟩, List.mem_of_getElem? (i := 918) (by decide +kernel), List.mem_of_getElem? (i := 1234) (by decide +kernel), List.mem_of_getElem? (i := 1235) (by decide +kernel)⟩
theorem lw_p68 : lw_okq (⟨"PayScalesModel", "gives", "(I)V"⟩, 60) := ⟨⟨by decide +kernel, by decide +kernel⟩, List.mem_of_getElem? (i := 918) (by decide +kernel), List.mem_of_getElem? (i := 1239) (by decide +kernel), List.mem_of_getElem? (i := 1240) (by decide +kernel)⟩
def lw_privs_5 : List (MethodName × Nat) := [(⟨"PayScalesModel", "lawsOf", "(II)V"⟩, 60), (⟨"PayScalesModel", "notesOf", "(II)V"⟩, 60), (⟨"PayScalesModel", "stands", "(I)V"⟩, 60), (⟨"PayScalesModel", "holds", "(II)Z"⟩, 60), (⟨"PayScalesModel", "gives", "(I)V"⟩, 60)]
theorem lw_r5 : ∀ q ∈ lw_privs_5, lw_okq q := List.forall_mem_cons.mpr ⟨lw_p64, List.forall_mem_cons.mpr ⟨lw_p65, List.forall_mem_cons.mpr ⟨lw_p66, List.forall_mem_cons.mpr ⟨lw_p67, List.forall_mem_cons.mpr ⟨lw_p68, fun _ h => absurd h List.not_mem_nil⟩⟩⟩⟩⟩
def lw_privs : List (MethodName × Nat) := lw_privs_1 ++ (lw_privs_2 ++ (lw_privs_3 ++ (lw_privs_4 ++ (lw_privs_5))))
def lw_tbl : List Cond := k2_sels lw_privs ++ tables_1
theorem lw_privs_ok : ∀ q ∈ lw_privs, lw_okq q := by
  show ∀ q ∈ lw_privs_1 ++ (lw_privs_2 ++ (lw_privs_3 ++ (lw_privs_4 ++ (lw_privs_5)))), lw_okq q
  exact List.forall_mem_append.mpr ⟨lw_r1, List.forall_mem_append.mpr ⟨lw_r2, List.forall_mem_append.mpr ⟨lw_r3, List.forall_mem_append.mpr ⟨lw_r4, lw_r5⟩⟩⟩⟩
end
section
theorem goodIn_r {big : List Cond} (ws : List Cond) (ps : List Nat) (hp : ws = ps.filterMap (fun i => big[i]?)) (h : ws.all goodWord = true) : GoodIn big ws := by
  intro w hw
  have h1 := List.all_eq_true.mp h w hw
  rw [hp] at hw
  obtain ⟨i, -, hi⟩ := List.mem_filterMap.mp hw
  have hm : w ∈ big := by first | exact List.mem_of_getElem? hi | exact List.getElem?_mem hi
  exact ⟨hm, good_of_word h1⟩
theorem goodIn_app {big a b : List Cond} (ha : GoodIn big a) (hb : GoodIn big b) : GoodIn big (a ++ b) := fun w h => (List.mem_append.mp h).elim (ha w) (hb w)
theorem goodIn_ca {big a b : List Cond} {c : Cond} (ha : GoodIn big (c :: a)) (hb : GoodIn big b) : GoodIn big (c :: (a ++ b)) := fun w h => (List.mem_cons.mp h).elim (fun e => ha w (List.mem_cons.mpr (Or.inl e))) (fun h => (List.mem_append.mp h).elim (fun h => ha w (List.mem_cons.mpr (Or.inr h))) (hb w))
theorem goodIn_sub {big ws : List Cond} (hm : ∀ w ∈ ws, w ∈ big) (h : ws.all goodWord = true) : GoodIn big ws := fun w hw => ⟨hm w hw, good_of_word (List.all_eq_true.mp h w hw)⟩
def RX0 : String := "PayScales$Agreement"
def TX0 : u_T := fun k => match k with
  | 0 => ("PayScales$Agreement", "number", "I", true)
  | 1 => ("PayScales$Agreement", "from", "I", true)
  | 2 => ("PayScales$Agreement", "told", "I", true)
  | _ => ("PayScales$Agreement", "lines", "Ljava/util/ArrayList;", true)
def tyX0 : Nat → FieldType := fun k => match k with
  | 0 => .int
  | 1 => .int
  | 2 => .int
  | _ => .object "java/util/ArrayList"
abbrev wsX00 : List Cond := u_ws RX0 TX0 4
theorem nmX0 : ∀ a, a < 4 → ∀ b, b < 4 → a ≠ b → (TX0 a).2.1 ≠ (TX0 b).2.1 := by decide +kernel
theorem tyX0_ok : ∀ k, k < 4 → parseFieldDescriptor (TX0 k).2.2.1 = some (tyX0 k) := by decide +kernel
abbrev cX0_init : ByteArray := prog_2_method_1_code
def yX0_init : MethodName := ⟨RX0, "<init>", "(IIILjava/util/ArrayList;)V"⟩
def RX1 : String := "PayScales$Appraisal"
def TX1 : u_T := fun k => match k with
  | 0 => ("PayScales$Appraisal", "scale", "LPayScales$Line;", false)
  | 1 => ("PayScales$Appraisal", "stepDays", "I", false)
  | 2 => ("PayScales$Appraisal", "points", "I", false)
  | 3 => ("PayScales$Appraisal", "grade", "I", false)
  | 4 => ("PayScales$Appraisal", "step", "I", false)
  | 5 => ("PayScales$Appraisal", "base", "I", false)
  | _ => ("PayScales$Appraisal", "amount", "I", false)
def tyX1 : Nat → FieldType := fun k => match k with
  | 0 => .object "PayScales$Line"
  | 1 => .int
  | 2 => .int
  | 3 => .int
  | 4 => .int
  | 5 => .int
  | _ => .int
abbrev wsX10 : List Cond := u_ws RX1 TX1 7
theorem nmX1 : ∀ a, a < 7 → ∀ b, b < 7 → a ≠ b → (TX1 a).2.1 ≠ (TX1 b).2.1 := by decide +kernel
theorem tyX1_ok : ∀ k, k < 7 → parseFieldDescriptor (TX1 k).2.2.1 = some (tyX1 k) := by decide +kernel
abbrev cX1_init : ByteArray := prog_3_method_1_code
def yX1_init : MethodName := ⟨RX1, "<init>", "()V"⟩
abbrev cX1_renew : ByteArray := prog_3_method_2_code
def yX1_renew : MethodName := ⟨RX1, "renew", "(LPayScales$Rules;[II)V"⟩
abbrev cX1_follow : ByteArray := prog_3_method_3_code
def yX1_follow : MethodName := ⟨RX1, "follow", "(LPayScales$Rules;[II)V"⟩
abbrev cX1_daysToNextStep : ByteArray := prog_3_method_4_code
def yX1_daysToNextStep : MethodName := ⟨RX1, "daysToNextStep", "(I)I"⟩
abbrev cX1_stepAfter : ByteArray := prog_3_method_5_code
def yX1_stepAfter : MethodName := ⟨RX1, "stepAfter", "(I)I"⟩
abbrev cX1_moveStep : ByteArray := prog_3_method_6_code
def yX1_moveStep : MethodName := ⟨RX1, "moveStep", "(LPayScales$Rules;[II)V"⟩
def RX2 : String := "PayScales$Line"
def TX2 : u_T := fun k => match k with
  | 0 => ("PayScales$Line", "sort", "I", true)
  | 1 => ("PayScales$Line", "ends", "Z", true)
  | 2 => ("PayScales$Line", "scaleNumbers", "[I", true)
  | 3 => ("PayScales$Line", "scaleLength", "I", false)
  | 4 => ("PayScales$Line", "name", "I", false)
  | 5 => ("PayScales$Line", "fact", "I", false)
  | 6 => ("PayScales$Line", "sign", "I", false)
  | 7 => ("PayScales$Line", "bound", "I", false)
  | 8 => ("PayScales$Line", "number", "I", false)
  | _ => ("PayScales$Line", "percent", "Z", false)
def tyX2 : Nat → FieldType := fun k => match k with
  | 0 => .int
  | 1 => .boolean
  | 2 => .array .int
  | 3 => .int
  | 4 => .int
  | 5 => .int
  | 6 => .int
  | 7 => .int
  | 8 => .int
  | _ => .boolean
abbrev wsX20 : List Cond := u_ws RX2 TX2 10
theorem nmX2 : ∀ a, a < 10 → ∀ b, b < 10 → a ≠ b → (TX2 a).2.1 ≠ (TX2 b).2.1 := by decide +kernel
theorem tyX2_ok : ∀ k, k < 10 → parseFieldDescriptor (TX2 k).2.2.1 = some (tyX2 k) := by decide +kernel
abbrev cX2_init : ByteArray := prog_4_method_1_code
def yX2_init : MethodName := ⟨RX2, "<init>", "(IZ)V"⟩
abbrev cX2_key : ByteArray := prog_4_method_2_code
def yX2_key : MethodName := ⟨RX2, "key", "()I"⟩
abbrev cX2_holds : ByteArray := prog_4_method_3_code
def yX2_holds : MethodName := ⟨RX2, "holds", "([I)Z"⟩
abbrev cX2_addToScale : ByteArray := prog_4_method_4_code
def yX2_addToScale : MethodName := ⟨RX2, "addToScale", "(I)V"⟩
abbrev cX2_scaleNumber : ByteArray := prog_4_method_5_code
def yX2_scaleNumber : MethodName := ⟨RX2, "scaleNumber", "(I)I"⟩
def RX3 : String := "PayScales$Note"
def TX3 : u_T := fun k => match k with
  | 0 => ("PayScales$Note", "post", "I", true)
  | 1 => ("PayScales$Note", "what", "I", true)
  | 2 => ("PayScales$Note", "from", "I", true)
  | 3 => ("PayScales$Note", "told", "I", true)
  | _ => ("PayScales$Note", "value", "I", true)
def tyX3 : Nat → FieldType := fun k => match k with
  | 0 => .int
  | 1 => .int
  | 2 => .int
  | 3 => .int
  | _ => .int
abbrev wsX30 : List Cond := u_ws RX3 TX3 5
theorem nmX3 : ∀ a, a < 5 → ∀ b, b < 5 → a ≠ b → (TX3 a).2.1 ≠ (TX3 b).2.1 := by decide +kernel
theorem tyX3_ok : ∀ k, k < 5 → parseFieldDescriptor (TX3 k).2.2.1 = some (tyX3 k) := by decide +kernel
abbrev cX3_init : ByteArray := prog_5_method_1_code
def yX3_init : MethodName := ⟨RX3, "<init>", "(IIIII)V"⟩
def RX4 : String := "PayScales$Reader"
def TX4 : u_T := fun k => match k with
  | 0 => ("PayScales$Reader", "text", "[B", true)
  | 1 => ("PayScales$Reader", "seenKeys", "[Z", true)
  | 2 => ("PayScales$Reader", "length", "I", false)
  | 3 => ("PayScales$Reader", "start", "I", false)
  | 4 => ("PayScales$Reader", "behind", "I", false)
  | 5 => ("PayScales$Reader", "kind", "I", false)
  | 6 => ("PayScales$Reader", "fault", "I", false)
  | _ => ("PayScales$Reader", "place", "I", false)
def tyX4 : Nat → FieldType := fun k => match k with
  | 0 => .array .byte
  | 1 => .array .boolean
  | 2 => .int
  | 3 => .int
  | 4 => .int
  | 5 => .int
  | 6 => .int
  | _ => .int
abbrev wsX40 : List Cond := u_ws RX4 TX4 8
theorem nmX4 : ∀ a, a < 8 → ∀ b, b < 8 → a ≠ b → (TX4 a).2.1 ≠ (TX4 b).2.1 := by decide +kernel
theorem tyX4_ok : ∀ k, k < 8 → parseFieldDescriptor (TX4 k).2.2.1 = some (tyX4 k) := by decide +kernel
abbrev cX4_init : ByteArray := prog_6_method_1_code
def yX4_init : MethodName := ⟨RX4, "<init>", "([B)V"⟩
abbrev cX4_read : ByteArray := prog_6_method_2_code
def yX4_read : MethodName := ⟨RX4, "read", "(I)Ljava/util/ArrayList;"⟩
abbrev cX4_begin : ByteArray := prog_6_method_3_code
def yX4_begin : MethodName := ⟨RX4, "begin", "(I)V"⟩
abbrev cX4_takeFirstWord : ByteArray := prog_6_method_4_code
def yX4_takeFirstWord : MethodName := ⟨RX4, "takeFirstWord", "(I)I"⟩
abbrev cX4_readEnd : ByteArray := prog_6_method_5_code
def yX4_readEnd : MethodName := ⟨RX4, "readEnd", "()LPayScales$Line;"⟩
abbrev cX4_readBody : ByteArray := prog_6_method_6_code
def yX4_readBody : MethodName := ⟨RX4, "readBody", "(I)LPayScales$Line;"⟩
abbrev cX4_readCondition : ByteArray := prog_6_method_7_code
def yX4_readCondition : MethodName := ⟨RX4, "readCondition", "(LPayScales$Line;)V"⟩
abbrev cX4_readScale : ByteArray := prog_6_method_8_code
def yX4_readScale : MethodName := ⟨RX4, "readScale", "(LPayScales$Line;)V"⟩
abbrev cX4_readStepDays : ByteArray := prog_6_method_9_code
def yX4_readStepDays : MethodName := ⟨RX4, "readStepDays", "(LPayScales$Line;)V"⟩
abbrev cX4_readPlusNumber : ByteArray := prog_6_method_10_code
def yX4_readPlusNumber : MethodName := ⟨RX4, "readPlusNumber", "(LPayScales$Line;)V"⟩
abbrev cX4_checkKey : ByteArray := prog_6_method_11_code
def yX4_checkKey : MethodName := ⟨RX4, "checkKey", "(II)V"⟩
abbrev cX4_refuse : ByteArray := prog_6_method_12_code
def yX4_refuse : MethodName := ⟨RX4, "refuse", "(II)V"⟩
abbrev cX4_takeLetter : ByteArray := prog_6_method_13_code
def yX4_takeLetter : MethodName := ⟨RX4, "takeLetter", "(II)I"⟩
abbrev cX4_takeRelation : ByteArray := prog_6_method_14_code
def yX4_takeRelation : MethodName := ⟨RX4, "takeRelation", "()I"⟩
abbrev cX4_takeNumber : ByteArray := prog_6_method_15_code
def yX4_takeNumber : MethodName := ⟨RX4, "takeNumber", "()I"⟩
abbrev cX4_takeSign : ByteArray := prog_6_method_16_code
def yX4_takeSign : MethodName := ⟨RX4, "takeSign", "(I)V"⟩
abbrev cX4_takeFrom : ByteArray := prog_6_method_17_code
def yX4_takeFrom : MethodName := ⟨RX4, "takeFrom", "()V"⟩
abbrev cX4_wordOfToken : ByteArray := prog_6_method_18_code
def yX4_wordOfToken : MethodName := ⟨RX4, "wordOfToken", "()I"⟩
abbrev cX4_spelling : ByteArray := prog_6_method_19_code
def yX4_spelling : MethodName := ⟨RX4, "spelling", "(I)Ljava/lang/String;"⟩
abbrev cX4_tokenIs : ByteArray := prog_6_method_20_code
def yX4_tokenIs : MethodName := ⟨RX4, "tokenIs", "(Ljava/lang/String;)Z"⟩
abbrev cX4_numberOfToken : ByteArray := prog_6_method_21_code
def yX4_numberOfToken : MethodName := ⟨RX4, "numberOfToken", "()I"⟩
abbrev cX4_advance : ByteArray := prog_6_method_22_code
def yX4_advance : MethodName := ⟨RX4, "advance", "()V"⟩
abbrev cX4_kindAt : ByteArray := prog_6_method_23_code
def yX4_kindAt : MethodName := ⟨RX4, "kindAt", "(I)I"⟩
abbrev cX4_byteAt : ByteArray := prog_6_method_24_code
def yX4_byteAt : MethodName := ⟨RX4, "byteAt", "(I)I"⟩
def RX5 : String := "PayScales$Rows"
def TX5 : u_T := fun k => match k with
  | 0 => ("PayScales$Rows", "width", "I", true)
  | 1 => ("PayScales$Rows", "cells", "[J", true)
  | _ => ("PayScales$Rows", "size", "I", false)
def tyX5 : Nat → FieldType := fun k => match k with
  | 0 => .int
  | 1 => .array .long
  | _ => .int
abbrev wsX50 : List Cond := u_ws RX5 TX5 3
theorem nmX5 : ∀ a, a < 3 → ∀ b, b < 3 → a ≠ b → (TX5 a).2.1 ≠ (TX5 b).2.1 := by decide +kernel
theorem tyX5_ok : ∀ k, k < 3 → parseFieldDescriptor (TX5 k).2.2.1 = some (tyX5 k) := by decide +kernel
abbrev cX5_init : ByteArray := prog_7_method_1_code
def yX5_init : MethodName := ⟨RX5, "<init>", "(II)V"⟩
abbrev cX5_clear : ByteArray := prog_7_method_2_code
def yX5_clear : MethodName := ⟨RX5, "clear", "()V"⟩
abbrev cX5_add : ByteArray := prog_7_method_3_code
def yX5_add : MethodName := ⟨RX5, "add", "(JJJJ)V"⟩
abbrev cX5_cell : ByteArray := prog_7_method_4_code
def yX5_cell : MethodName := ⟨RX5, "cell", "(II)J"⟩
abbrev cX5_put : ByteArray := prog_7_method_5_code
def yX5_put : MethodName := ⟨RX5, "put", "(IJ)V"⟩
def RX6 : String := "PayScales$Rules"
def TX6 : u_T := fun k => match k with
  | 0 => ("PayScales$Rules", "winners", "[LPayScales$Line;", true)
  | 1 => ("PayScales$Rules", "winnerAgreements", "[I", true)
  | _ => ("PayScales$Rules", "lineCounts", "[I", true)
def tyX6 : Nat → FieldType := fun k => match k with
  | 0 => .array (.object "PayScales$Line")
  | 1 => .array .int
  | _ => .array .int
abbrev wsX60 : List Cond := u_ws RX6 TX6 3
theorem nmX6 : ∀ a, a < 3 → ∀ b, b < 3 → a ≠ b → (TX6 a).2.1 ≠ (TX6 b).2.1 := by decide +kernel
theorem tyX6_ok : ∀ k, k < 3 → parseFieldDescriptor (TX6 k).2.2.1 = some (tyX6 k) := by decide +kernel
abbrev cX6_init : ByteArray := prog_8_method_1_code
def yX6_init : MethodName := ⟨RX6, "<init>", "()V"⟩
abbrev cX6_clear : ByteArray := prog_8_method_2_code
def yX6_clear : MethodName := ⟨RX6, "clear", "()V"⟩
abbrev cX6_take : ByteArray := prog_8_method_3_code
def yX6_take : MethodName := ⟨RX6, "take", "(LPayScales$Agreement;)V"⟩
abbrev cX6_winnerOf : ByteArray := prog_8_method_4_code
def yX6_winnerOf : MethodName := ⟨RX6, "winnerOf", "(I)LPayScales$Line;"⟩
abbrev cX6_agreementOf : ByteArray := prog_8_method_5_code
def yX6_agreementOf : MethodName := ⟨RX6, "agreementOf", "(I)I"⟩
abbrev cX6_linesOf : ByteArray := prog_8_method_6_code
def yX6_linesOf : MethodName := ⟨RX6, "linesOf", "(I)I"⟩
abbrev cX6_lineOf : ByteArray := prog_8_method_7_code
def yX6_lineOf : MethodName := ⟨RX6, "lineOf", "(II)LPayScales$Line;"⟩
abbrev cX6_numberOf : ByteArray := prog_8_method_8_code
def yX6_numberOf : MethodName := ⟨RX6, "numberOf", "(II)I"⟩
abbrev cX6_pointsBy : ByteArray := prog_8_method_9_code
def yX6_pointsBy : MethodName := ⟨RX6, "pointsBy", "([I)I"⟩
abbrev cX6_gradeBy : ByteArray := prog_8_method_10_code
def yX6_gradeBy : MethodName := ⟨RX6, "gradeBy", "(I)I"⟩
abbrev cX6_amountBy : ByteArray := prog_8_method_11_code
def yX6_amountBy : MethodName := ⟨RX6, "amountBy", "(I[I)I"⟩
def RX7 : String := "PayScales$Walk"
def TX7 : u_T := fun k => match k with
  | 0 => ("PayScales$Walk", "agreements", "Ljava/util/ArrayList;", true)
  | 1 => ("PayScales$Walk", "notes", "Ljava/util/ArrayList;", true)
  | 2 => ("PayScales$Walk", "persons", "[I", true)
  | 3 => ("PayScales$Walk", "rules", "LPayScales$Rules;", true)
  | 4 => ("PayScales$Walk", "appraisal", "LPayScales$Appraisal;", true)
  | 5 => ("PayScales$Walk", "values", "[I", true)
  | 6 => ("PayScales$Walk", "heldPosts", "[I", true)
  | 7 => ("PayScales$Walk", "post", "I", false)
  | 8 => ("PayScales$Walk", "known", "I", false)
  | 9 => ("PayScales$Walk", "day", "I", false)
  | 10 => ("PayScales$Walk", "agreementsPassed", "I", false)
  | 11 => ("PayScales$Walk", "notesPassed", "I", false)
  | 12 => ("PayScales$Walk", "changed", "Z", false)
  | 13 => ("PayScales$Walk", "protectBegins", "Z", false)
  | 14 => ("PayScales$Walk", "service", "I", false)
  | 15 => ("PayScales$Walk", "daysWithout", "I", false)
  | 16 => ("PayScales$Walk", "floor", "I", false)
  | _ => ("PayScales$Walk", "given", "I", false)
def tyX7 : Nat → FieldType := fun k => match k with
  | 0 => .object "java/util/ArrayList"
  | 1 => .object "java/util/ArrayList"
  | 2 => .array .int
  | 3 => .object "PayScales$Rules"
  | 4 => .object "PayScales$Appraisal"
  | 5 => .array .int
  | 6 => .array .int
  | 7 => .int
  | 8 => .int
  | 9 => .int
  | 10 => .int
  | 11 => .int
  | 12 => .boolean
  | 13 => .boolean
  | 14 => .int
  | 15 => .int
  | 16 => .int
  | _ => .int
abbrev wsX70 : List Cond := u_ws RX7 TX7 18
theorem nmX7 : ∀ a, a < 18 → ∀ b, b < 18 → a ≠ b → (TX7 a).2.1 ≠ (TX7 b).2.1 := by decide +kernel
theorem tyX7_ok : ∀ k, k < 18 → parseFieldDescriptor (TX7 k).2.2.1 = some (tyX7 k) := by decide +kernel
abbrev cX7_init : ByteArray := prog_9_method_1_code
def yX7_init : MethodName := ⟨RX7, "<init>", "(Ljava/util/ArrayList;Ljava/util/ArrayList;[ILPayScales$Rules;)V"⟩
abbrev cX7_begin : ByteArray := prog_9_method_2_code
def yX7_begin : MethodName := ⟨RX7, "begin", "(II)V"⟩
abbrev cX7_goTo : ByteArray := prog_9_method_3_code
def yX7_goTo : MethodName := ⟨RX7, "goTo", "(I)V"⟩
abbrev cX7_payOfDays : ByteArray := prog_9_method_4_code
def yX7_payOfDays : MethodName := ⟨RX7, "payOfDays", "(I)J"⟩
abbrev cX7_payOfDay : ByteArray := prog_9_method_5_code
def yX7_payOfDay : MethodName := ⟨RX7, "payOfDay", "()J"⟩
abbrev cX7_isHeld : ByteArray := prog_9_method_6_code
def yX7_isHeld : MethodName := ⟨RX7, "isHeld", "()Z"⟩
abbrev cX7_tell : ByteArray := prog_9_method_7_code
def yX7_tell : MethodName := ⟨RX7, "tell", "(I)I"⟩
abbrev cX7_daysAlike : ByteArray := prog_9_method_8_code
def yX7_daysAlike : MethodName := ⟨RX7, "daysAlike", "(I)I"⟩
abbrev cX7_passDays : ByteArray := prog_9_method_9_code
def yX7_passDays : MethodName := ⟨RX7, "passDays", "(I)V"⟩
abbrev cX7_isServing : ByteArray := prog_9_method_10_code
def yX7_isServing : MethodName := ⟨RX7, "isServing", "()Z"⟩
abbrev cX7_openDay : ByteArray := prog_9_method_11_code
def yX7_openDay : MethodName := ⟨RX7, "openDay", "()V"⟩
abbrev cX7_takeAgreements : ByteArray := prog_9_method_12_code
def yX7_takeAgreements : MethodName := ⟨RX7, "takeAgreements", "()V"⟩
abbrev cX7_takeNotes : ByteArray := prog_9_method_13_code
def yX7_takeNotes : MethodName := ⟨RX7, "takeNotes", "()V"⟩
abbrev cX7_takeNote : ByteArray := prog_9_method_14_code
def yX7_takeNote : MethodName := ⟨RX7, "takeNote", "(LPayScales$Note;)V"⟩
abbrev cX7_give : ByteArray := prog_9_method_15_code
def yX7_give : MethodName := ⟨RX7, "give", "()V"⟩
def RX8 : String := "PayScales"
def TX8 : u_T := fun k => match k with
  | 0 => ("PayScales", "tape", "[B", true)
  | 1 => ("PayScales", "reader", "LPayScales$Reader;", true)
  | 2 => ("PayScales", "agreements", "Ljava/util/ArrayList;", true)
  | 3 => ("PayScales", "notes", "Ljava/util/ArrayList;", true)
  | 4 => ("PayScales", "persons", "[I", true)
  | 5 => ("PayScales", "rules", "LPayScales$Rules;", true)
  | 6 => ("PayScales", "walk", "LPayScales$Walk;", true)
  | 7 => ("PayScales", "paidSums", "[J", true)
  | 8 => ("PayScales", "payments", "LPayScales$Rows;", true)
  | 9 => ("PayScales", "pairs", "LPayScales$Rows;", true)
  | 10 => ("PayScales", "meetings", "LPayScales$Rows;", true)
  | 11 => ("PayScales", "pointsOfPosts", "[I", true)
  | 12 => ("PayScales", "amountsOfPosts", "[I", true)
  | 13 => ("PayScales", "today", "I", false)
  | 14 => ("PayScales", "tapeLength", "I", false)
  | 15 => ("PayScales", "lineCount", "I", false)
  | 16 => ("PayScales", "postCount", "I", false)
  | _ => ("PayScales", "runCount", "I", false)
def tyX8 : Nat → FieldType := fun k => match k with
  | 0 => .array .byte
  | 1 => .object "PayScales$Reader"
  | 2 => .object "java/util/ArrayList"
  | 3 => .object "java/util/ArrayList"
  | 4 => .array .int
  | 5 => .object "PayScales$Rules"
  | 6 => .object "PayScales$Walk"
  | 7 => .array .long
  | 8 => .object "PayScales$Rows"
  | 9 => .object "PayScales$Rows"
  | 10 => .object "PayScales$Rows"
  | 11 => .array .int
  | 12 => .array .int
  | 13 => .int
  | 14 => .int
  | 15 => .int
  | 16 => .int
  | _ => .int
abbrev wsX80 : List Cond := u_ws RX8 TX8 18
theorem nmX8 : ∀ a, a < 18 → ∀ b, b < 18 → a ≠ b → (TX8 a).2.1 ≠ (TX8 b).2.1 := by decide +kernel
theorem tyX8_ok : ∀ k, k < 18 → parseFieldDescriptor (TX8 k).2.2.1 = some (tyX8 k) := by decide +kernel
abbrev cX8_init : ByteArray := prog_1_method_1_code
def yX8_init : MethodName := ⟨RX8, "<init>", "()V"⟩
abbrev cX8_feed : ByteArray := prog_1_method_2_code
def yX8_feed : MethodName := ⟨RX8, "feed", "(IIIII)I"⟩
abbrev cX8_agree : ByteArray := prog_1_method_3_code
def yX8_agree : MethodName := ⟨RX8, "agree", "(II)I"⟩
abbrev cX8_fault : ByteArray := prog_1_method_4_code
def yX8_fault : MethodName := ⟨RX8, "fault", "(I)I"⟩
abbrev cX8_pass : ByteArray := prog_1_method_5_code
def yX8_pass : MethodName := ⟨RX8, "pass", "(I)I"⟩
abbrev cX8_post : ByteArray := prog_1_method_6_code
def yX8_post : MethodName := ⟨RX8, "post", "(I)I"⟩
abbrev cX8_note : ByteArray := prog_1_method_7_code
def yX8_note : MethodName := ⟨RX8, "note", "(IIII)I"⟩
abbrev cX8_look : ByteArray := prog_1_method_8_code
def yX8_look : MethodName := ⟨RX8, "look", "(IIII)I"⟩
abbrev cX8_pay : ByteArray := prog_1_method_9_code
def yX8_pay : MethodName := ⟨RX8, "pay", "(III)J"⟩
abbrev cX8_due : ByteArray := prog_1_method_10_code
def yX8_due : MethodName := ⟨RX8, "due", "(III)J"⟩
abbrev cX8_run : ByteArray := prog_1_method_11_code
def yX8_run : MethodName := ⟨RX8, "run", "()I"⟩
abbrev cX8_payment : ByteArray := prog_1_method_12_code
def yX8_payment : MethodName := ⟨RX8, "payment", "(II)J"⟩
abbrev cX8_paid : ByteArray := prog_1_method_13_code
def yX8_paid : MethodName := ⟨RX8, "paid", "(II)J"⟩
abbrev cX8_cost : ByteArray := prog_1_method_14_code
def yX8_cost : MethodName := ⟨RX8, "cost", "(III)J"⟩
abbrev cX8_like : ByteArray := prog_1_method_15_code
def yX8_like : MethodName := ⟨RX8, "like", "(III)I"⟩
abbrev cX8_pair : ByteArray := prog_1_method_16_code
def yX8_pair : MethodName := ⟨RX8, "pair", "(II)I"⟩
abbrev cX8_meet : ByteArray := prog_1_method_17_code
def yX8_meet : MethodName := ⟨RX8, "meet", "(II)I"⟩
abbrev cX8_met : ByteArray := prog_1_method_18_code
def yX8_met : MethodName := ⟨RX8, "met", "(II)I"⟩
abbrev cX8_count : ByteArray := prog_1_method_19_code
def yX8_count : MethodName := ⟨RX8, "count", "(I)I"⟩
abbrev cX8_isPost : ByteArray := prog_1_method_20_code
def yX8_isPost : MethodName := ⟨RX8, "isPost", "(I)Z"⟩
abbrev cX8_isDay : ByteArray := prog_1_method_21_code
def yX8_isDay : MethodName := ⟨RX8, "isDay", "(I)Z"⟩
abbrev cX8_isMonth : ByteArray := prog_1_method_22_code
def yX8_isMonth : MethodName := ⟨RX8, "isMonth", "(I)Z"⟩
abbrev cX8_isKnown : ByteArray := prog_1_method_23_code
def yX8_isKnown : MethodName := ⟨RX8, "isKnown", "(I)Z"⟩
abbrev cX8_feedNumber : ByteArray := prog_1_method_24_code
def yX8_feedNumber : MethodName := ⟨RX8, "feedNumber", "(I)V"⟩
abbrev cX8_canBecome : ByteArray := prog_1_method_25_code
def yX8_canBecome : MethodName := ⟨RX8, "canBecome", "(II)Z"⟩
abbrev cX8_isPart : ByteArray := prog_1_method_26_code
def yX8_isPart : MethodName := ⟨RX8, "isPart", "(I)Z"⟩
abbrev cX8_placeOfAgreement : ByteArray := prog_1_method_27_code
def yX8_placeOfAgreement : MethodName := ⟨RX8, "placeOfAgreement", "(I)I"⟩
abbrev cX8_placeOfNote : ByteArray := prog_1_method_28_code
def yX8_placeOfNote : MethodName := ⟨RX8, "placeOfNote", "(I)I"⟩
abbrev cX8_dueOfMonths : ByteArray := prog_1_method_29_code
def yX8_dueOfMonths : MethodName := ⟨RX8, "dueOfMonths", "(IIII)J"⟩
abbrev cX8_settle : ByteArray := prog_1_method_30_code
def yX8_settle : MethodName := ⟨RX8, "settle", "(IIJ)V"⟩
abbrev cX8_areLike : ByteArray := prog_1_method_31_code
def yX8_areLike : MethodName := ⟨RX8, "areLike", "(III)Z"⟩
abbrev cX8_addPair : ByteArray := prog_1_method_32_code
def yX8_addPair : MethodName := ⟨RX8, "addPair", "(II)V"⟩
abbrev cX8_commonDivisor : ByteArray := prog_1_method_33_code
def yX8_commonDivisor : MethodName := ⟨RX8, "commonDivisor", "(II)I"⟩
def RX9 : String := "PayScalesModel"
def TX9 : u_T := fun k => match k with
  | 0 => ("PayScalesModel", "thrown", "I", false)
  | 1 => ("PayScalesModel", "tape", "[I", true)
  | 2 => ("PayScalesModel", "taped", "I", false)
  | 3 => ("PayScalesModel", "today", "I", false)
  | 4 => ("PayScalesModel", "toldOn", "[I", true)
  | 5 => ("PayScalesModel", "fromDay", "[I", true)
  | 6 => ("PayScalesModel", "firstLine", "[I", true)
  | 7 => ("PayScalesModel", "agreements", "I", false)
  | 8 => ("PayScalesModel", "lineKey", "[I", true)
  | 9 => ("PayScalesModel", "isEnd", "[Z", true)
  | 10 => ("PayScalesModel", "lineFact", "[I", true)
  | 11 => ("PayScalesModel", "lineSign", "[I", true)
  | 12 => ("PayScalesModel", "lineBy", "[I", true)
  | 13 => ("PayScalesModel", "lineNumber", "[I", true)
  | 14 => ("PayScalesModel", "isShare", "[Z", true)
  | 15 => ("PayScalesModel", "scales", "[I", true)
  | 16 => ("PayScalesModel", "scaleMany", "[I", true)
  | 17 => ("PayScalesModel", "size", "I", false)
  | 18 => ("PayScalesModel", "at", "I", false)
  | 19 => ("PayScalesModel", "place", "I", false)
  | 20 => ("PayScalesModel", "sort", "I", false)
  | 21 => ("PayScalesModel", "value", "I", false)
  | 22 => ("PayScalesModel", "fault", "I", false)
  | 23 => ("PayScalesModel", "faultPlace", "I", false)
  | 24 => ("PayScalesModel", "lastFault", "I", false)
  | 25 => ("PayScalesModel", "lastPlace", "I", false)
  | 26 => ("PayScalesModel", "lines", "I", false)
  | 27 => ("PayScalesModel", "personOf", "[I", true)
  | 28 => ("PayScalesModel", "posts", "I", false)
  | 29 => ("PayScalesModel", "notePost", "[I", true)
  | 30 => ("PayScalesModel", "noteWhat", "[I", true)
  | 31 => ("PayScalesModel", "noteFrom", "[I", true)
  | 32 => ("PayScalesModel", "noteTold", "[I", true)
  | 33 => ("PayScalesModel", "noteValue", "[I", true)
  | 34 => ("PayScalesModel", "notes", "I", false)
  | 35 => ("PayScalesModel", "wins", "[I", true)
  | 36 => ("PayScalesModel", "winner", "[I", true)
  | 37 => ("PayScalesModel", "meets", "[I", true)
  | 38 => ("PayScalesModel", "now", "[I", true)
  | 39 => ("PayScalesModel", "service", "[I", true)
  | 40 => ("PayScalesModel", "away", "[I", true)
  | 41 => ("PayScalesModel", "points", "[I", true)
  | 42 => ("PayScalesModel", "grade", "[I", true)
  | 43 => ("PayScalesModel", "step", "[I", true)
  | 44 => ("PayScalesModel", "basePay", "[I", true)
  | 45 => ("PayScalesModel", "amount", "[I", true)
  | 46 => ("PayScalesModel", "given", "[I", true)
  | 47 => ("PayScalesModel", "floor", "[I", true)
  | 48 => ("PayScalesModel", "hasFloor", "[Z", true)
  | 49 => ("PayScalesModel", "dues", "[J", true)
  | 50 => ("PayScalesModel", "paid", "[J", true)
  | 51 => ("PayScalesModel", "paymentPost", "[I", true)
  | 52 => ("PayScalesModel", "paymentMonth", "[I", true)
  | 53 => ("PayScalesModel", "payments", "[J", true)
  | 54 => ("PayScalesModel", "paymentMany", "I", false)
  | 55 => ("PayScalesModel", "runs", "I", false)
  | 56 => ("PayScalesModel", "pairs", "[I", true)
  | 57 => ("PayScalesModel", "pairMany", "I", false)
  | 58 => ("PayScalesModel", "mets", "[I", true)
  | _ => ("PayScalesModel", "metMany", "I", false)
def tyX9 : Nat → FieldType := fun k => match k with
  | 0 => .int
  | 1 => .array .int
  | 2 => .int
  | 3 => .int
  | 4 => .array .int
  | 5 => .array .int
  | 6 => .array .int
  | 7 => .int
  | 8 => .array .int
  | 9 => .array .boolean
  | 10 => .array .int
  | 11 => .array .int
  | 12 => .array .int
  | 13 => .array .int
  | 14 => .array .boolean
  | 15 => .array .int
  | 16 => .array .int
  | 17 => .int
  | 18 => .int
  | 19 => .int
  | 20 => .int
  | 21 => .int
  | 22 => .int
  | 23 => .int
  | 24 => .int
  | 25 => .int
  | 26 => .int
  | 27 => .array .int
  | 28 => .int
  | 29 => .array .int
  | 30 => .array .int
  | 31 => .array .int
  | 32 => .array .int
  | 33 => .array .int
  | 34 => .int
  | 35 => .array .int
  | 36 => .array .int
  | 37 => .array .int
  | 38 => .array .int
  | 39 => .array .int
  | 40 => .array .int
  | 41 => .array .int
  | 42 => .array .int
  | 43 => .array .int
  | 44 => .array .int
  | 45 => .array .int
  | 46 => .array .int
  | 47 => .array .int
  | 48 => .array .boolean
  | 49 => .array .long
  | 50 => .array .long
  | 51 => .array .int
  | 52 => .array .int
  | 53 => .array .long
  | 54 => .int
  | 55 => .int
  | 56 => .array .int
  | 57 => .int
  | 58 => .array .int
  | _ => .int
abbrev wsX90 : List Cond := u_ws RX9 TX9 60
theorem nmX9 : ∀ a, a < 60 → ∀ b, b < 60 → a ≠ b → (TX9 a).2.1 ≠ (TX9 b).2.1 := by decide +kernel
theorem tyX9_ok : ∀ k, k < 60 → parseFieldDescriptor (TX9 k).2.2.1 = some (tyX9 k) := by decide +kernel
abbrev cX9_init : ByteArray := prog_11_method_1_code
def yX9_init : MethodName := ⟨RX9, "<init>", "()V"⟩
abbrev cX9_feed : ByteArray := prog_11_method_3_code
def yX9_feed : MethodName := ⟨RX9, "feed", "(IIIII)I"⟩
abbrev cX9_here : ByteArray := prog_11_method_4_code
def yX9_here : MethodName := ⟨RX9, "here", "()I"⟩
abbrev cX9_isLetter : ByteArray := prog_11_method_5_code
def yX9_isLetter : MethodName := ⟨RX9, "isLetter", "(I)Z"⟩
abbrev cX9_isDigit : ByteArray := prog_11_method_6_code
def yX9_isDigit : MethodName := ⟨RX9, "isDigit", "(I)Z"⟩
abbrev cX9_next : ByteArray := prog_11_method_7_code
def yX9_next : MethodName := ⟨RX9, "next", "()V"⟩
abbrev cX9_word : ByteArray := prog_11_method_8_code
def yX9_word : MethodName := ⟨RX9, "word", "(I)V"⟩
abbrev cX9_wrong : ByteArray := prog_11_method_9_code
def yX9_wrong : MethodName := ⟨RX9, "wrong", "(II)V"⟩
abbrev cX9_takes : ByteArray := prog_11_method_10_code
def yX9_takes : MethodName := ⟨RX9, "takes", "(I)I"⟩
abbrev cX9_isSign : ByteArray := prog_11_method_11_code
def yX9_isSign : MethodName := ⟨RX9, "isSign", "(I)Z"⟩
abbrev cX9_wants : ByteArray := prog_11_method_12_code
def yX9_wants : MethodName := ⟨RX9, "wants", "(I)V"⟩
abbrev cX9_parses : ByteArray := prog_11_method_13_code
def yX9_parses : MethodName := ⟨RX9, "parses", "()V"⟩
abbrev cX9_line : ByteArray := prog_11_method_14_code
def yX9_line : MethodName := ⟨RX9, "line", "(I)V"⟩
abbrev cX9_named : ByteArray := prog_11_method_15_code
def yX9_named : MethodName := ⟨RX9, "named", "(II)V"⟩
abbrev cX9_scaleNumber : ByteArray := prog_11_method_16_code
def yX9_scaleNumber : MethodName := ⟨RX9, "scaleNumber", "(I)V"⟩
abbrev cX9_factOf : ByteArray := prog_11_method_17_code
def yX9_factOf : MethodName := ⟨RX9, "factOf", "(I)V"⟩
abbrev cX9_agree : ByteArray := prog_11_method_18_code
def yX9_agree : MethodName := ⟨RX9, "agree", "(II)I"⟩
abbrev cX9_fault : ByteArray := prog_11_method_19_code
def yX9_fault : MethodName := ⟨RX9, "fault", "(I)I"⟩
abbrev cX9_pass : ByteArray := prog_11_method_20_code
def yX9_pass : MethodName := ⟨RX9, "pass", "(I)I"⟩
abbrev cX9_post : ByteArray := prog_11_method_21_code
def yX9_post : MethodName := ⟨RX9, "post", "(I)I"⟩
abbrev cX9_isValue : ByteArray := prog_11_method_22_code
def yX9_isValue : MethodName := ⟨RX9, "isValue", "(II)Z"⟩
abbrev cX9_note : ByteArray := prog_11_method_23_code
def yX9_note : MethodName := ⟨RX9, "note", "(IIII)I"⟩
abbrev cX9_lawsOf : ByteArray := prog_11_method_24_code
def yX9_lawsOf : MethodName := ⟨RX9, "lawsOf", "(II)V"⟩
abbrev cX9_isBeginning : ByteArray := prog_11_method_25_code
def yX9_isBeginning : MethodName := ⟨RX9, "isBeginning", "(I)Z"⟩
abbrev cX9_numberOf : ByteArray := prog_11_method_26_code
def yX9_numberOf : MethodName := ⟨RX9, "numberOf", "(II)I"⟩
abbrev cX9_holds : ByteArray := prog_11_method_27_code
def yX9_holds : MethodName := ⟨RX9, "holds", "(II)Z"⟩
abbrev cX9_passes : ByteArray := prog_11_method_28_code
def yX9_passes : MethodName := ⟨RX9, "passes", "(II)V"⟩
abbrev cX9_serves : ByteArray := prog_11_method_29_code
def yX9_serves : MethodName := ⟨RX9, "serves", "()V"⟩
abbrev cX9_notesOf : ByteArray := prog_11_method_30_code
def yX9_notesOf : MethodName := ⟨RX9, "notesOf", "(II)V"⟩
abbrev cX9_stands : ByteArray := prog_11_method_31_code
def yX9_stands : MethodName := ⟨RX9, "stands", "(I)V"⟩
abbrev cX9_gives : ByteArray := prog_11_method_32_code
def yX9_gives : MethodName := ⟨RX9, "gives", "(I)V"⟩
abbrev cX9_isDay : ByteArray := prog_11_method_33_code
def yX9_isDay : MethodName := ⟨RX9, "isDay", "(I)Z"⟩
abbrev cX9_isKnown : ByteArray := prog_11_method_34_code
def yX9_isKnown : MethodName := ⟨RX9, "isKnown", "(I)Z"⟩
abbrev cX9_isPost : ByteArray := prog_11_method_35_code
def yX9_isPost : MethodName := ⟨RX9, "isPost", "(I)Z"⟩
abbrev cX9_look : ByteArray := prog_11_method_36_code
def yX9_look : MethodName := ⟨RX9, "look", "(IIII)I"⟩
abbrev cX9_pay : ByteArray := prog_11_method_37_code
def yX9_pay : MethodName := ⟨RX9, "pay", "(III)J"⟩
abbrev cX9_due : ByteArray := prog_11_method_38_code
def yX9_due : MethodName := ⟨RX9, "due", "(III)J"⟩
abbrev cX9_run : ByteArray := prog_11_method_39_code
def yX9_run : MethodName := ⟨RX9, "run", "()I"⟩
abbrev cX9_payment : ByteArray := prog_11_method_40_code
def yX9_payment : MethodName := ⟨RX9, "payment", "(II)J"⟩
abbrev cX9_paid : ByteArray := prog_11_method_41_code
def yX9_paid : MethodName := ⟨RX9, "paid", "(II)J"⟩
abbrev cX9_cost : ByteArray := prog_11_method_42_code
def yX9_cost : MethodName := ⟨RX9, "cost", "(III)J"⟩
abbrev cX9_common : ByteArray := prog_11_method_43_code
def yX9_common : MethodName := ⟨RX9, "common", "(II)I"⟩
abbrev cX9_like : ByteArray := prog_11_method_44_code
def yX9_like : MethodName := ⟨RX9, "like", "(III)I"⟩
abbrev cX9_pair : ByteArray := prog_11_method_45_code
def yX9_pair : MethodName := ⟨RX9, "pair", "(II)I"⟩
abbrev cX9_meet : ByteArray := prog_11_method_46_code
def yX9_meet : MethodName := ⟨RX9, "meet", "(II)I"⟩
abbrev cX9_met : ByteArray := prog_11_method_47_code
def yX9_met : MethodName := ⟨RX9, "met", "(II)I"⟩
abbrev cX9_count : ByteArray := prog_11_method_48_code
def yX9_count : MethodName := ⟨RX9, "count", "(I)I"⟩
def RJx145de : String := "java/io/Serializable"
def TJx145de : u_T := fun k => match k with
  | _ => ("", "", "", false)
def tyJx145de : Nat → FieldType := fun k => match k with
  | _ => .int
abbrev wsJx145de0 : List Cond := u_ws RJx145de TJx145de 0
theorem nmJx145de : ∀ a, a < 0 → ∀ b, b < 0 → a ≠ b → (TJx145de a).2.1 ≠ (TJx145de b).2.1 := by decide +kernel
theorem tyJx145de_ok : ∀ k, k < 0 → parseFieldDescriptor (TJx145de k).2.2.1 = some (tyJx145de k) := by decide +kernel
def RJx8e188 : String := "java/lang/Cloneable"
def TJx8e188 : u_T := fun k => match k with
  | _ => ("", "", "", false)
def tyJx8e188 : Nat → FieldType := fun k => match k with
  | _ => .int
abbrev wsJx8e1880 : List Cond := u_ws RJx8e188 TJx8e188 0
theorem nmJx8e188 : ∀ a, a < 0 → ∀ b, b < 0 → a ≠ b → (TJx8e188 a).2.1 ≠ (TJx8e188 b).2.1 := by decide +kernel
theorem tyJx8e188_ok : ∀ k, k < 0 → parseFieldDescriptor (TJx8e188 k).2.2.1 = some (tyJx8e188 k) := by decide +kernel
def RJxab1ab : String := "java/lang/Iterable"
def TJxab1ab : u_T := fun k => match k with
  | _ => ("", "", "", false)
def tyJxab1ab : Nat → FieldType := fun k => match k with
  | _ => .int
abbrev wsJxab1ab0 : List Cond := u_ws RJxab1ab TJxab1ab 0
theorem nmJxab1ab : ∀ a, a < 0 → ∀ b, b < 0 → a ≠ b → (TJxab1ab a).2.1 ≠ (TJxab1ab b).2.1 := by decide +kernel
theorem tyJxab1ab_ok : ∀ k, k < 0 → parseFieldDescriptor (TJxab1ab k).2.2.1 = some (tyJxab1ab k) := by decide +kernel
def RJ9 : String := "java/lang/Math"
def TJ9 : u_T := fun k => match k with
  | _ => ("", "", "", false)
def tyJ9 : Nat → FieldType := fun k => match k with
  | _ => .int
abbrev wsJ90 : List Cond := u_ws RJ9 TJ9 0
theorem nmJ9 : ∀ a, a < 0 → ∀ b, b < 0 → a ≠ b → (TJ9 a).2.1 ≠ (TJ9 b).2.1 := by decide +kernel
theorem tyJ9_ok : ∀ k, k < 0 → parseFieldDescriptor (TJ9 k).2.2.1 = some (tyJ9 k) := by decide +kernel
abbrev cJ9_abs_0f7a4 : ByteArray := prog_15_method_59_code
def yJ9_abs_0f7a4 : MethodName := ⟨RJ9, "abs", "(I)I"⟩
abbrev cJ9_max_7cf53 : ByteArray := prog_15_method_65_code
def yJ9_max_7cf53 : MethodName := ⟨RJ9, "max", "(II)I"⟩
abbrev cJ9_min_7cf53 : ByteArray := prog_15_method_69_code
def yJ9_min_7cf53 : MethodName := ⟨RJ9, "min", "(II)I"⟩
def RJ0 : String := "java/lang/String"
def TJ0 : u_T := fun k => match k with
  | _ => ("", "", "", false)
def tyJ0 : Nat → FieldType := fun k => match k with
  | _ => .int
abbrev wsJ00 : List Cond := u_ws RJ0 TJ0 0
theorem nmJ0 : ∀ a, a < 0 → ∀ b, b < 0 → a ≠ b → (TJ0 a).2.1 ≠ (TJ0 b).2.1 := by decide +kernel
theorem tyJ0_ok : ∀ k, k < 0 → parseFieldDescriptor (TJ0 k).2.2.1 = some (tyJ0 k) := by decide +kernel
abbrev cJ0_length_8abf5 : ByteArray := prog_16_method_54_code
def yJ0_length_8abf5 : MethodName := ⟨RJ0, "length", "()I"⟩
abbrev cJ0_charAt_5068e : ByteArray := prog_16_method_56_code
def yJ0_charAt_5068e : MethodName := ⟨RJ0, "charAt", "(I)C"⟩
abbrev cJ0_coder_7d493 : ByteArray := prog_16_method_152_code
def yJ0_coder_7d493 : MethodName := ⟨RJ0, "coder", "()B"⟩
abbrev cJ0_isLatin1_aae02 : ByteArray := prog_16_method_154_code
def yJ0_isLatin1_aae02 : MethodName := ⟨RJ0, "isLatin1", "()Z"⟩
abbrev cJ0_checkIndex_df160 : ByteArray := prog_16_method_155_code
def yJ0_checkIndex_df160 : MethodName := ⟨RJ0, "checkIndex", "(II)V"⟩
def RJ1 : String := "java/lang/StringLatin1"
def TJ1 : u_T := fun k => match k with
  | _ => ("", "", "", false)
def tyJ1 : Nat → FieldType := fun k => match k with
  | _ => .int
abbrev wsJ10 : List Cond := u_ws RJ1 TJ1 0
theorem nmJ1 : ∀ a, a < 0 → ∀ b, b < 0 → a ≠ b → (TJ1 a).2.1 ≠ (TJ1 b).2.1 := by decide +kernel
theorem tyJ1_ok : ∀ k, k < 0 → parseFieldDescriptor (TJ1 k).2.2.1 = some (tyJ1 k) := by decide +kernel
abbrev cJ1_charAt_3b067 : ByteArray := prog_17_method_2_code
def yJ1_charAt_3b067 : MethodName := ⟨RJ1, "charAt", "([BI)C"⟩
def RJ2 : String := "java/lang/StringUTF16"
def TJ2 : u_T := fun k => match k with
  | _ => ("", "", "", false)
def tyJ2 : Nat → FieldType := fun k => match k with
  | _ => .int
abbrev wsJ20 : List Cond := u_ws RJ2 TJ2 0
theorem nmJ2 : ∀ a, a < 0 → ∀ b, b < 0 → a ≠ b → (TJ2 a).2.1 ≠ (TJ2 b).2.1 := by decide +kernel
theorem tyJ2_ok : ∀ k, k < 0 → parseFieldDescriptor (TJ2 k).2.2.1 = some (tyJ2 k) := by decide +kernel
abbrev cJ2_getChar_3b067 : ByteArray := prog_18_method_5_code
def yJ2_getChar_3b067 : MethodName := ⟨RJ2, "getChar", "([BI)C"⟩
abbrev cJ2_length_9d52b : ByteArray := prog_18_method_6_code
def yJ2_length_9d52b : MethodName := ⟨RJ2, "length", "([B)I"⟩
abbrev cJ2_charAt_3b067 : ByteArray := prog_18_method_83_code
def yJ2_charAt_3b067 : MethodName := ⟨RJ2, "charAt", "([BI)C"⟩
abbrev cJ2_checkIndex_2214a : ByteArray := prog_18_method_91_code
def yJ2_checkIndex_2214a : MethodName := ⟨RJ2, "checkIndex", "(I[B)V"⟩
def RJ10 : String := "java/lang/System"
def TJ10 : u_T := fun k => match k with
  | _ => ("", "", "", false)
def tyJ10 : Nat → FieldType := fun k => match k with
  | _ => .int
abbrev wsJ100 : List Cond := u_ws RJ10 TJ10 0
theorem nmJ10 : ∀ a, a < 0 → ∀ b, b < 0 → a ≠ b → (TJ10 a).2.1 ≠ (TJ10 b).2.1 := by decide +kernel
theorem tyJ10_ok : ∀ k, k < 0 → parseFieldDescriptor (TJ10 k).2.2.1 = some (tyJ10 k) := by decide +kernel
def RJxa1e45 : String := "java/util/AbstractCollection"
def TJxa1e45 : u_T := fun k => match k with
  | _ => ("", "", "", false)
def tyJxa1e45 : Nat → FieldType := fun k => match k with
  | _ => .int
abbrev wsJxa1e450 : List Cond := u_ws RJxa1e45 TJxa1e45 0
theorem nmJxa1e45 : ∀ a, a < 0 → ∀ b, b < 0 → a ≠ b → (TJxa1e45 a).2.1 ≠ (TJxa1e45 b).2.1 := by decide +kernel
theorem tyJxa1e45_ok : ∀ k, k < 0 → parseFieldDescriptor (TJxa1e45 k).2.2.1 = some (tyJxa1e45 k) := by decide +kernel
abbrev cJxa1e45_init_da8c8 : ByteArray := prog_20_method_1_code
def yJxa1e45_init_da8c8 : MethodName := ⟨RJxa1e45, "<init>", "()V"⟩
def RJxc12de : String := "java/util/AbstractList"
def TJxc12de : u_T := fun k => match k with
  | _ => ("", "", "", false)
def tyJxc12de : Nat → FieldType := fun k => match k with
  | _ => .int
abbrev wsJxc12de0 : List Cond := u_ws RJxc12de TJxc12de 0
theorem nmJxc12de : ∀ a, a < 0 → ∀ b, b < 0 → a ≠ b → (TJxc12de a).2.1 ≠ (TJxc12de b).2.1 := by decide +kernel
theorem tyJxc12de_ok : ∀ k, k < 0 → parseFieldDescriptor (TJxc12de k).2.2.1 = some (tyJxc12de k) := by decide +kernel
abbrev cJxc12de_init_da8c8 : ByteArray := prog_21_method_1_code
def yJxc12de_init_da8c8 : MethodName := ⟨RJxc12de, "<init>", "()V"⟩
def RJx4a65c : String := "java/util/ArrayList"
def TJx4a65c : u_T := fun k => match k with
  | 0 => ("java/util/AbstractList", "modCount", "I", false)
  | 1 => ("java/util/ArrayList", "elementData", "[Ljava/lang/Object;", false)
  | _ => ("java/util/ArrayList", "size", "I", false)
def tyJx4a65c : Nat → FieldType := fun k => match k with
  | 0 => .int
  | 1 => .array (.object "java/lang/Object")
  | _ => .int
abbrev wsJx4a65c0 : List Cond := u_ws RJx4a65c TJx4a65c 3
theorem nmJx4a65c : ∀ a, a < 3 → ∀ b, b < 3 → a ≠ b → (TJx4a65c a).2.1 ≠ (TJx4a65c b).2.1 := by decide +kernel
theorem tyJx4a65c_ok : ∀ k, k < 3 → parseFieldDescriptor (TJx4a65c k).2.2.1 = some (tyJx4a65c k) := by decide +kernel
abbrev cJx4a65c_init_da8c8 : ByteArray := prog_22_method_2_code
def yJx4a65c_init_da8c8 : MethodName := ⟨RJx4a65c, "<init>", "()V"⟩
abbrev cJx4a65c_grow_92f84 : ByteArray := prog_22_method_6_code
def yJx4a65c_grow_92f84 : MethodName := ⟨RJx4a65c, "grow", "(I)[Ljava/lang/Object;"⟩
abbrev cJx4a65c_grow_d5877 : ByteArray := prog_22_method_7_code
def yJx4a65c_grow_d5877 : MethodName := ⟨RJx4a65c, "grow", "()[Ljava/lang/Object;"⟩
abbrev cJx4a65c_size_8abf5 : ByteArray := prog_22_method_8_code
def yJx4a65c_size_8abf5 : MethodName := ⟨RJx4a65c, "size", "()I"⟩
abbrev cJx4a65c_elementData_915e3 : ByteArray := prog_22_method_18_code
def yJx4a65c_elementData_915e3 : MethodName := ⟨RJx4a65c, "elementData", "(I)Ljava/lang/Object;"⟩
abbrev cJx4a65c_get_915e3 : ByteArray := prog_22_method_20_code
def yJx4a65c_get_915e3 : MethodName := ⟨RJx4a65c, "get", "(I)Ljava/lang/Object;"⟩
abbrev cJx4a65c_add_72be8 : ByteArray := prog_22_method_24_code
def yJx4a65c_add_72be8 : MethodName := ⟨RJx4a65c, "add", "(Ljava/lang/Object;[Ljava/lang/Object;I)V"⟩
abbrev cJx4a65c_add_9ea2d : ByteArray := prog_22_method_25_code
def yJx4a65c_add_9ea2d : MethodName := ⟨RJx4a65c, "add", "(Ljava/lang/Object;)Z"⟩
abbrev cJx4a65c_add_7a177 : ByteArray := prog_22_method_26_code
def yJx4a65c_add_7a177 : MethodName := ⟨RJx4a65c, "add", "(ILjava/lang/Object;)V"⟩
abbrev cJx4a65c_rangeCheckForAdd_d00df : ByteArray := prog_22_method_45_code
def yJx4a65c_rangeCheckForAdd_d00df : MethodName := ⟨RJx4a65c, "rangeCheckForAdd", "(I)V"⟩
def RJ7 : String := "java/util/Arrays"
def TJ7 : u_T := fun k => match k with
  | _ => ("", "", "", false)
def tyJ7 : Nat → FieldType := fun k => match k with
  | _ => .int
abbrev wsJ70 : List Cond := u_ws RJ7 TJ7 0
theorem nmJ7 : ∀ a, a < 0 → ∀ b, b < 0 → a ≠ b → (TJ7 a).2.1 ≠ (TJ7 b).2.1 := by decide +kernel
theorem tyJ7_ok : ∀ k, k < 0 → parseFieldDescriptor (TJ7 k).2.2.1 = some (tyJ7 k) := by decide +kernel
abbrev cJ7_fill_53178 : ByteArray := prog_23_method_103_code
def yJ7_fill_53178 : MethodName := ⟨RJ7, "fill", "([II)V"⟩
abbrev cJ7_copyOf_1904c : ByteArray := prog_23_method_119_code
def yJ7_copyOf_1904c : MethodName := ⟨RJ7, "copyOf", "([Ljava/lang/Object;I)[Ljava/lang/Object;"⟩
abbrev cJ7_copyOf_6403c : ByteArray := prog_23_method_120_code
def yJ7_copyOf_6403c : MethodName := ⟨RJ7, "copyOf", "([Ljava/lang/Object;ILjava/lang/Class;)[Ljava/lang/Object;"⟩
def RJx5ef63 : String := "java/util/Collection"
def TJx5ef63 : u_T := fun k => match k with
  | _ => ("", "", "", false)
def tyJx5ef63 : Nat → FieldType := fun k => match k with
  | _ => .int
abbrev wsJx5ef630 : List Cond := u_ws RJx5ef63 TJx5ef63 0
theorem nmJx5ef63 : ∀ a, a < 0 → ∀ b, b < 0 → a ≠ b → (TJx5ef63 a).2.1 ≠ (TJx5ef63 b).2.1 := by decide +kernel
theorem tyJx5ef63_ok : ∀ k, k < 0 → parseFieldDescriptor (TJx5ef63 k).2.2.1 = some (tyJx5ef63 k) := by decide +kernel
def RJxbd725 : String := "java/util/List"
def TJxbd725 : u_T := fun k => match k with
  | _ => ("", "", "", false)
def tyJxbd725 : Nat → FieldType := fun k => match k with
  | _ => .int
abbrev wsJxbd7250 : List Cond := u_ws RJxbd725 TJxbd725 0
theorem nmJxbd725 : ∀ a, a < 0 → ∀ b, b < 0 → a ≠ b → (TJxbd725 a).2.1 ≠ (TJxbd725 b).2.1 := by decide +kernel
theorem tyJxbd725_ok : ∀ k, k < 0 → parseFieldDescriptor (TJxbd725 k).2.2.1 = some (tyJxbd725 k) := by decide +kernel
def RJ15 : String := "java/util/Objects"
def TJ15 : u_T := fun k => match k with
  | _ => ("", "", "", false)
def tyJ15 : Nat → FieldType := fun k => match k with
  | _ => .int
abbrev wsJ150 : List Cond := u_ws RJ15 TJ15 0
theorem nmJ15 : ∀ a, a < 0 → ∀ b, b < 0 → a ≠ b → (TJ15 a).2.1 ≠ (TJ15 b).2.1 := by decide +kernel
theorem tyJ15_ok : ∀ k, k < 0 → parseFieldDescriptor (TJ15 k).2.2.1 = some (tyJ15 k) := by decide +kernel
abbrev cJ15_checkIndex_7cf53 : ByteArray := prog_26_method_17_code
def yJ15_checkIndex_7cf53 : MethodName := ⟨RJ15, "checkIndex", "(II)I"⟩
def RJxf0a74 : String := "java/util/RandomAccess"
def TJxf0a74 : u_T := fun k => match k with
  | _ => ("", "", "", false)
def tyJxf0a74 : Nat → FieldType := fun k => match k with
  | _ => .int
abbrev wsJxf0a740 : List Cond := u_ws RJxf0a74 TJxf0a74 0
theorem nmJxf0a74 : ∀ a, a < 0 → ∀ b, b < 0 → a ≠ b → (TJxf0a74 a).2.1 ≠ (TJxf0a74 b).2.1 := by decide +kernel
theorem tyJxf0a74_ok : ∀ k, k < 0 → parseFieldDescriptor (TJxf0a74 k).2.2.1 = some (tyJxf0a74 k) := by decide +kernel
def RJxa66e6 : String := "java/util/SequencedCollection"
def TJxa66e6 : u_T := fun k => match k with
  | _ => ("", "", "", false)
def tyJxa66e6 : Nat → FieldType := fun k => match k with
  | _ => .int
abbrev wsJxa66e60 : List Cond := u_ws RJxa66e6 TJxa66e6 0
theorem nmJxa66e6 : ∀ a, a < 0 → ∀ b, b < 0 → a ≠ b → (TJxa66e6 a).2.1 ≠ (TJxa66e6 b).2.1 := by decide +kernel
theorem tyJxa66e6_ok : ∀ k, k < 0 → parseFieldDescriptor (TJxa66e6 k).2.2.1 = some (tyJxa66e6 k) := by decide +kernel
def RJ8 : String := "jdk/internal/util/ArraysSupport"
def TJ8 : u_T := fun k => match k with
  | _ => ("", "", "", false)
def tyJ8 : Nat → FieldType := fun k => match k with
  | _ => .int
abbrev wsJ80 : List Cond := u_ws RJ8 TJ8 0
theorem nmJ8 : ∀ a, a < 0 → ∀ b, b < 0 → a ≠ b → (TJ8 a).2.1 ≠ (TJ8 b).2.1 := by decide +kernel
theorem tyJ8_ok : ∀ k, k < 0 → parseFieldDescriptor (TJ8 k).2.2.1 = some (tyJ8 k) := by decide +kernel
abbrev cJ8_newLength_cabcc : ByteArray := prog_29_method_27_code
def yJ8_newLength_cabcc : MethodName := ⟨RJ8, "newLength", "(III)I"⟩
abbrev cJ8_hugeLength_7cf53 : ByteArray := prog_29_method_28_code
def yJ8_hugeLength_7cf53 : MethodName := ⟨RJ8, "hugeLength", "(II)I"⟩
def RJ3 : String := "jdk/internal/util/Preconditions"
def TJ3 : u_T := fun k => match k with
  | _ => ("", "", "", false)
def tyJ3 : Nat → FieldType := fun k => match k with
  | _ => .int
abbrev wsJ30 : List Cond := u_ws RJ3 TJ3 0
theorem nmJ3 : ∀ a, a < 0 → ∀ b, b < 0 → a ≠ b → (TJ3 a).2.1 ≠ (TJ3 b).2.1 := by decide +kernel
theorem tyJ3_ok : ∀ k, k < 0 → parseFieldDescriptor (TJ3 k).2.2.1 = some (tyJ3 k) := by decide +kernel
abbrev cJ3_checkIndex_8e157 : ByteArray := prog_30_method_11_code
def yJ3_checkIndex_8e157 : MethodName := ⟨RJ3, "checkIndex", "(IILjava/util/function/BiFunction;)I"⟩
def RL : String := "PayScalesLaw"
abbrev cL_law : ByteArray := code
def yL_law : MethodName := ⟨RL, "law", "([I)Z"⟩
def wsJ0_checkIndex_df160 : List Cond := .code yJ0_checkIndex_df160 cJ0_checkIndex_df160 2 none :: ([.fieldLink RJ0 1053 "jdk/internal/util/Preconditions" "SIOOBE_FORMATTER" "Ljava/util/function/BiFunction;", .methodLink RJ0 1059 yJ3_checkIndex_8e157, .static yJ3_checkIndex_8e157, .initialized RJ3, .code yJ3_checkIndex_8e157 cJ3_checkIndex_8e157 3 (some .int)])
end
section
def wsL_law_r1 : List Cond := [Cond.classLink RL 7 RX8, Cond.instantiable RX8 18, Cond.initialized RX8, Cond.classLink RL 10 RX9, Cond.instantiable RX9 60, Cond.initialized RX9, Cond.methodLink RL 9 yX8_init, Cond.instanceMethod yX8_init, Cond.code yX8_init cX8_init 1 none, Cond.methodLink RX8 3 objectInit, Cond.instanceMethod objectInit, Cond.code objectInit ⟨#[0xb1]⟩ 1 none, Cond.arrayClass .byte, Cond.fieldLink RX8 9 "PayScales" "tape" "[B", Cond.classLink RX8 13 RX4, Cond.instantiable RX4 8, Cond.initialized RX4, Cond.fieldLink RX8 18 "PayScales" "reader" "LPayScales$Reader;", Cond.classLink RX8 22 RJx4a65c, Cond.instantiable RJx4a65c 3, Cond.initialized RJx4a65c, Cond.fieldLink RX8 25 "PayScales" "agreements" "Ljava/util/ArrayList;", Cond.fieldLink RX8 29 "PayScales" "notes" "Ljava/util/ArrayList;", Cond.arrayClass .int]
def wsL_law_r2 : List Cond := [Cond.fieldLink RX8 32 "PayScales" "persons" "[I", Cond.classLink RX8 36 RX6, Cond.instantiable RX6 3, Cond.initialized RX6, Cond.fieldLink RX8 39 "PayScales" "rules" "LPayScales$Rules;", Cond.classLink RX8 43 RX7, Cond.instantiable RX7 18, Cond.initialized RX7, Cond.fieldLink RX8 48 "PayScales" "walk" "LPayScales$Walk;", Cond.arrayClass .long, Cond.fieldLink RX8 52 "PayScales" "paidSums" "[J", Cond.classLink RX8 56 RX5, Cond.instantiable RX5 3, Cond.initialized RX5, Cond.fieldLink RX8 61 "PayScales" "payments" "LPayScales$Rows;", Cond.fieldLink RX8 65 "PayScales" "pairs" "LPayScales$Rows;", Cond.fieldLink RX8 68 "PayScales" "meetings" "LPayScales$Rows;", Cond.fieldLink RX8 71 "PayScales" "pointsOfPosts" "[I", Cond.fieldLink RX8 74 "PayScales" "amountsOfPosts" "[I", Cond.methodLink RX8 15 yX4_init, Cond.instanceMethod yX4_init, Cond.code yX4_init cX4_init 2 none, Cond.methodLink RX4 3 objectInit, Cond.arrayClass .boolean]
def wsL_law_r3 : List Cond := [Cond.fieldLink RX4 9 "PayScales$Reader" "seenKeys" "[Z", Cond.fieldLink RX4 15 "PayScales$Reader" "place" "I", Cond.fieldLink RX4 19 "PayScales$Reader" "text" "[B", Cond.methodLink RX8 24 yJx4a65c_init_da8c8, Cond.instanceMethod yJx4a65c_init_da8c8, Cond.code yJx4a65c_init_da8c8 cJx4a65c_init_da8c8 1 none, Cond.fieldLink RJx4a65c 39 "java/util/ArrayList" "DEFAULTCAPACITY_EMPTY_ELEMENTDATA" "[Ljava/lang/Object;", Cond.fieldLink RJx4a65c 9 "java/util/ArrayList" "elementData" "[Ljava/lang/Object;", Cond.methodLink RJx4a65c 1 yJxc12de_init_da8c8, Cond.instanceMethod yJxc12de_init_da8c8, Cond.initialized RJxc12de, Cond.code yJxc12de_init_da8c8 cJxc12de_init_da8c8 1 none, Cond.fieldLink RJxc12de 7 "java/util/AbstractList" "modCount" "I", Cond.methodLink RJxc12de 1 yJxa1e45_init_da8c8, Cond.instanceMethod yJxa1e45_init_da8c8, Cond.initialized RJxa1e45, Cond.code yJxa1e45_init_da8c8 cJxa1e45_init_da8c8 1 none, Cond.methodLink RJxa1e45 1 objectInit, Cond.instanceMethod yX6_init, Cond.code yX6_init cX6_init 1 none, Cond.methodLink RX6 3 objectInit, Cond.classLink RX6 9 RX2, Cond.fieldLink RX6 11 "PayScales$Rules" "winners" "[LPayScales$Line;", Cond.fieldLink RX6 17 "PayScales$Rules" "winnerAgreements" "[I"]
def wsL_law_r4 : List Cond := [Cond.fieldLink RX6 21 "PayScales$Rules" "lineCounts" "[I", Cond.methodLink RX8 45 yX7_init, Cond.instanceMethod yX7_init, Cond.code yX7_init cX7_init 5 none, Cond.methodLink RX7 3 objectInit, Cond.classLink RX7 9 RX1, Cond.instantiable RX1 7, Cond.initialized RX1, Cond.fieldLink RX7 12 "PayScales$Walk" "appraisal" "LPayScales$Appraisal;", Cond.fieldLink RX7 18 "PayScales$Walk" "values" "[I", Cond.fieldLink RX7 22 "PayScales$Walk" "heldPosts" "[I", Cond.fieldLink RX7 25 "PayScales$Walk" "agreements" "Ljava/util/ArrayList;", Cond.fieldLink RX7 29 "PayScales$Walk" "notes" "Ljava/util/ArrayList;", Cond.fieldLink RX7 32 "PayScales$Walk" "persons" "[I", Cond.fieldLink RX7 35 "PayScales$Walk" "rules" "LPayScales$Rules;", Cond.instanceMethod yX1_init, Cond.code yX1_init cX1_init 1 none, Cond.methodLink RX1 3 objectInit, Cond.methodLink RX8 58 yX5_init, Cond.instanceMethod yX5_init, Cond.code yX5_init cX5_init 3 none, Cond.methodLink RX5 3 objectInit, Cond.fieldLink RX5 9 "PayScales$Rows" "width" "I", Cond.methodLink RX5 15 Lib.Math.max.name]
def wsL_law_r5 : List Cond := [Cond.static Lib.Math.max.name, Cond.initialized "java/lang/Math", Cond.code Lib.Math.max.name Lib.Math.max.code 2 (some .int), Cond.fieldLink RX5 21 "PayScales$Rows" "cells" "[J", Cond.methodLink RL 12 yX9_init, Cond.instanceMethod yX9_init, Cond.code yX9_init cX9_init 1 none, Cond.methodLink RX9 1 objectInit, Cond.fieldLink RX9 7 "PayScalesModel" "tape" "[I", Cond.fieldLink RX9 13 "PayScalesModel" "toldOn" "[I", Cond.fieldLink RX9 16 "PayScalesModel" "fromDay" "[I", Cond.fieldLink RX9 19 "PayScalesModel" "firstLine" "[I", Cond.fieldLink RX9 22 "PayScalesModel" "lineKey" "[I", Cond.fieldLink RX9 25 "PayScalesModel" "isEnd" "[Z", Cond.fieldLink RX9 29 "PayScalesModel" "lineFact" "[I", Cond.fieldLink RX9 32 "PayScalesModel" "lineSign" "[I", Cond.fieldLink RX9 35 "PayScalesModel" "lineBy" "[I", Cond.fieldLink RX9 38 "PayScalesModel" "lineNumber" "[I", Cond.fieldLink RX9 41 "PayScalesModel" "isShare" "[Z", Cond.fieldLink RX9 44 "PayScalesModel" "scales" "[I", Cond.fieldLink RX9 47 "PayScalesModel" "scaleMany" "[I", Cond.fieldLink RX9 50 "PayScalesModel" "lastPlace" "I", Cond.fieldLink RX9 54 "PayScalesModel" "personOf" "[I", Cond.fieldLink RX9 57 "PayScalesModel" "notePost" "[I"]
def wsL_law_r6 : List Cond := [Cond.fieldLink RX9 60 "PayScalesModel" "noteWhat" "[I", Cond.fieldLink RX9 63 "PayScalesModel" "noteFrom" "[I", Cond.fieldLink RX9 66 "PayScalesModel" "noteTold" "[I", Cond.fieldLink RX9 69 "PayScalesModel" "noteValue" "[I", Cond.fieldLink RX9 72 "PayScalesModel" "wins" "[I", Cond.fieldLink RX9 75 "PayScalesModel" "winner" "[I", Cond.fieldLink RX9 78 "PayScalesModel" "meets" "[I", Cond.fieldLink RX9 81 "PayScalesModel" "now" "[I", Cond.fieldLink RX9 84 "PayScalesModel" "service" "[I", Cond.fieldLink RX9 87 "PayScalesModel" "away" "[I", Cond.fieldLink RX9 90 "PayScalesModel" "points" "[I", Cond.fieldLink RX9 93 "PayScalesModel" "grade" "[I", Cond.fieldLink RX9 96 "PayScalesModel" "step" "[I", Cond.fieldLink RX9 99 "PayScalesModel" "basePay" "[I", Cond.fieldLink RX9 102 "PayScalesModel" "amount" "[I", Cond.fieldLink RX9 105 "PayScalesModel" "given" "[I", Cond.fieldLink RX9 108 "PayScalesModel" "floor" "[I", Cond.fieldLink RX9 111 "PayScalesModel" "hasFloor" "[Z", Cond.fieldLink RX9 114 "PayScalesModel" "dues" "[J", Cond.fieldLink RX9 118 "PayScalesModel" "paid" "[J", Cond.fieldLink RX9 121 "PayScalesModel" "paymentPost" "[I", Cond.fieldLink RX9 124 "PayScalesModel" "paymentMonth" "[I", Cond.fieldLink RX9 127 "PayScalesModel" "payments" "[J", Cond.fieldLink RX9 130 "PayScalesModel" "pairs" "[I"]
def wsL_law_r7 : List Cond := [Cond.fieldLink RX9 133 "PayScalesModel" "mets" "[I", Cond.methodLink RL 13 yX8_feed, Cond.instanceMethod yX8_feed, Cond.selects RX8 yX8_feed yX8_feed, Cond.code yX8_feed cX8_feed 6 (some .int), Cond.fieldLink RX8 77 "PayScales" "tapeLength" "I", Cond.methodLink RX8 81 yX8_feedNumber, Cond.instanceMethod yX8_feedNumber, Cond.selects RX8 yX8_feedNumber yX8_feedNumber, Cond.code yX8_feedNumber cX8_feedNumber 3 none, Cond.methodLink RL 17 yX9_feed, Cond.instanceMethod yX9_feed, Cond.selects RX9 yX9_feed yX9_feed, Cond.code yX9_feed cX9_feed 8 (some .int), Cond.fieldLink RX9 136 "PayScalesModel" "thrown" "I", Cond.fieldLink RX9 139 "PayScalesModel" "taped" "I", Cond.methodLink RL 18 yX8_agree, Cond.instanceMethod yX8_agree, Cond.selects RX8 yX8_agree yX8_agree, Cond.code yX8_agree cX8_agree 5 (some .int), Cond.fieldLink RX8 97 "PayScales$Reader" "fault" "I", Cond.classLink RX8 100 RX0, Cond.instantiable RX0 4, Cond.initialized RX0]
def wsL_law_r8 : List Cond := [Cond.fieldLink RX8 102 "PayScales" "today" "I", Cond.fieldLink RX8 116 "PayScales" "lineCount" "I", Cond.fieldLink RX8 119 "PayScales$Agreement" "number" "I", Cond.methodLink RX8 85 yX8_isDay, Cond.static yX8_isDay, Cond.code yX8_isDay cX8_isDay 1 (some .boolean), Cond.methodLink RX8 89 yJx4a65c_size_8abf5, Cond.instanceMethod yJx4a65c_size_8abf5, Cond.selects RJx4a65c yJx4a65c_size_8abf5 yJx4a65c_size_8abf5, Cond.code yJx4a65c_size_8abf5 cJx4a65c_size_8abf5 1 (some .int), Cond.fieldLink RJx4a65c 48 "java/util/ArrayList" "size" "I", Cond.methodLink RX8 93 yX4_read, Cond.instanceMethod yX4_read, Cond.selects RX4 yX4_read yX4_read, Cond.code yX4_read cX4_read 7 (some (.object "java/util/ArrayList")), Cond.classLink RX4 23 RJx4a65c, Cond.fieldLink RX4 30 "PayScales$Reader" "fault" "I", Cond.fieldLink RX4 33 "PayScales$Reader" "kind" "I", Cond.fieldLink RX4 36 "PayScales$Reader" "start" "I", Cond.methodLink RX4 25 yJx4a65c_init_da8c8, Cond.methodLink RX4 26 yX4_begin, Cond.instanceMethod yX4_begin, Cond.selects RX4 yX4_begin yX4_begin, Cond.code yX4_begin cX4_begin 3 none]
def wsL_law_r9 : List Cond := [Cond.fieldLink RX4 71 "PayScales$Reader" "length" "I", Cond.fieldLink RX4 74 "PayScales$Reader" "behind" "I", Cond.methodLink RX4 77 yX4_advance, Cond.instanceMethod yX4_advance, Cond.selects RX4 yX4_advance yX4_advance, Cond.code yX4_advance cX4_advance 2 none, Cond.methodLink RX4 183 yX4_kindAt, Cond.instanceMethod yX4_kindAt, Cond.selects RX4 yX4_kindAt yX4_kindAt, Cond.code yX4_kindAt cX4_kindAt 3 (some .int), Cond.methodLink RX4 140 yX4_byteAt, Cond.instanceMethod yX4_byteAt, Cond.selects RX4 yX4_byteAt yX4_byteAt, Cond.code yX4_byteAt cX4_byteAt 2 (some .int), Cond.methodLink RX4 39 yJx4a65c_size_8abf5, Cond.methodLink RX4 43 yX4_takeFirstWord, Cond.instanceMethod yX4_takeFirstWord, Cond.selects RX4 yX4_takeFirstWord yX4_takeFirstWord, Cond.code yX4_takeFirstWord cX4_takeFirstWord 3 (some .int), Cond.methodLink RX4 80 yX4_wordOfToken, Cond.instanceMethod yX4_wordOfToken, Cond.selects RX4 yX4_wordOfToken yX4_wordOfToken, Cond.code yX4_wordOfToken cX4_wordOfToken 2 (some .int), Cond.methodLink RX4 152 yX4_spelling]
def wsL_law_r10 : List Cond := [Cond.static yX4_spelling, Cond.code yX4_spelling cX4_spelling 1 (some (.object "java/lang/String")), Cond.methodLink RX4 148 yX4_tokenIs, Cond.instanceMethod yX4_tokenIs, Cond.selects RX4 yX4_tokenIs yX4_tokenIs, Cond.code yX4_tokenIs cX4_tokenIs 3 (some .boolean), Cond.methodLink RX4 170 yJ0_length_8abf5, Cond.instanceMethod yJ0_length_8abf5, Cond.selects RJ0 yJ0_length_8abf5 yJ0_length_8abf5, Cond.initialized RJ0, Cond.code yJ0_length_8abf5 cJ0_length_8abf5 1 (some .int), Cond.fieldLink RJ0 9 "java/lang/String" "value" "[B", Cond.methodLink RJ0 335 yJ0_coder_7d493, Cond.instanceMethod yJ0_coder_7d493, Cond.selects RJ0 yJ0_coder_7d493 yJ0_coder_7d493, Cond.code yJ0_coder_7d493 cJ0_coder_7d493 1 (some .byte), Cond.fieldLink RJ0 38 "java/lang/String" "COMPACT_STRINGS" "Z", Cond.fieldLink RJ0 15 "java/lang/String" "coder" "B", Cond.methodLink RX4 174 yJ0_charAt_5068e, Cond.instanceMethod yJ0_charAt_5068e, Cond.selects RJ0 yJ0_charAt_5068e yJ0_charAt_5068e, Cond.code yJ0_charAt_5068e cJ0_charAt_5068e 2 (some .char), Cond.methodLink RJ0 492 yJ0_isLatin1_aae02, Cond.instanceMethod yJ0_isLatin1_aae02]
def wsL_law_r11 : List Cond := [Cond.selects RJ0 yJ0_isLatin1_aae02 yJ0_isLatin1_aae02, Cond.code yJ0_isLatin1_aae02 cJ0_isLatin1_aae02 1 (some .boolean), Cond.methodLink RJ0 495 yJ1_charAt_3b067, Cond.static yJ1_charAt_3b067, Cond.initialized RJ1, Cond.code yJ1_charAt_3b067 cJ1_charAt_3b067 2 (some .char), Cond.methodLink RJ1 9 yJ0_checkIndex_df160, Cond.static yJ0_checkIndex_df160, Cond.code yJ0_checkIndex_df160 cJ0_checkIndex_df160 2 none, Cond.fieldLink RJ0 1053 "jdk/internal/util/Preconditions" "SIOOBE_FORMATTER" "Ljava/util/function/BiFunction;", Cond.methodLink RJ0 1059 yJ3_checkIndex_8e157, Cond.static yJ3_checkIndex_8e157, Cond.initialized RJ3, Cond.code yJ3_checkIndex_8e157 cJ3_checkIndex_8e157 3 (some .int), Cond.methodLink RJ0 498 yJ2_charAt_3b067, Cond.static yJ2_charAt_3b067, Cond.initialized RJ2, Cond.code yJ2_charAt_3b067 cJ2_charAt_3b067 2 (some .char), Cond.methodLink RJ2 67 yJ2_checkIndex_2214a, Cond.static yJ2_checkIndex_2214a, Cond.code yJ2_checkIndex_2214a cJ2_checkIndex_2214a 2 none, Cond.methodLink RJ2 48 yJ2_length_9d52b, Cond.static yJ2_length_9d52b, Cond.code yJ2_length_9d52b cJ2_length_9d52b 1 (some .int)]
def wsL_law_r12 : List Cond := [Cond.methodLink RJ2 414 yJ0_checkIndex_df160, Cond.methodLink RJ2 71 yJ2_getChar_3b067, Cond.static yJ2_getChar_3b067, Cond.code yJ2_getChar_3b067 cJ2_getChar_3b067 2 (some .char), Cond.fieldLink RJ2 44 "java/lang/StringUTF16" "$assertionsDisabled" "Z", Cond.fieldLink RJ2 59 "java/lang/StringUTF16" "HI_BYTE_SHIFT" "I", Cond.fieldLink RJ2 63 "java/lang/StringUTF16" "LO_BYTE_SHIFT" "I", Cond.methodLink RX4 83 yX4_refuse, Cond.instanceMethod yX4_refuse, Cond.selects RX4 yX4_refuse yX4_refuse, Cond.code yX4_refuse cX4_refuse 3 none, Cond.methodLink RX4 47 yX4_readEnd, Cond.instanceMethod yX4_readEnd, Cond.selects RX4 yX4_readEnd yX4_readEnd, Cond.code yX4_readEnd cX4_readEnd 3 (some (.object "PayScales$Line")), Cond.classLink RX4 56 RX2, Cond.instantiable RX2 10, Cond.initialized RX2, Cond.fieldLink RX4 93 "PayScales$Line" "name" "I", Cond.methodLink RX4 86 yX2_init, Cond.instanceMethod yX2_init, Cond.code yX2_init cX2_init 3 none, Cond.methodLink RX2 3 objectInit, Cond.fieldLink RX2 9 "PayScales$Line" "fact" "I"]
def wsL_law_r13 : List Cond := [Cond.fieldLink RX2 15 "PayScales$Line" "sort" "I", Cond.fieldLink RX2 18 "PayScales$Line" "ends" "Z", Cond.fieldLink RX2 22 "PayScales$Line" "scaleNumbers" "[I", Cond.methodLink RX4 89 yX4_takeLetter, Cond.instanceMethod yX4_takeLetter, Cond.selects RX4 yX4_takeLetter yX4_takeLetter, Cond.code yX4_takeLetter cX4_takeLetter 4 (some .int), Cond.methodLink RX4 51 yX4_readBody, Cond.instanceMethod yX4_readBody, Cond.selects RX4 yX4_readBody yX4_readBody, Cond.code yX4_readBody cX4_readBody 3 (some (.object "PayScales$Line")), Cond.fieldLink RX4 103 "PayScales$Line" "number" "I", Cond.methodLink RX4 96 yX4_readCondition, Cond.instanceMethod yX4_readCondition, Cond.selects RX4 yX4_readCondition yX4_readCondition, Cond.code yX4_readCondition cX4_readCondition 2 none, Cond.fieldLink RX4 118 "PayScales$Line" "fact" "I", Cond.fieldLink RX4 124 "PayScales$Line" "sign" "I", Cond.fieldLink RX4 127 "PayScales$Line" "bound" "I", Cond.methodLink RX4 121 yX4_takeRelation, Cond.instanceMethod yX4_takeRelation, Cond.selects RX4 yX4_takeRelation yX4_takeRelation, Cond.code yX4_takeRelation cX4_takeRelation 2 (some .int), Cond.methodLink RX4 100 yX4_takeNumber]
def wsL_law_r14 : List Cond := [Cond.instanceMethod yX4_takeNumber, Cond.selects RX4 yX4_takeNumber yX4_takeNumber, Cond.code yX4_takeNumber cX4_takeNumber 2 (some .int), Cond.methodLink RX4 143 yX4_numberOfToken, Cond.instanceMethod yX4_numberOfToken, Cond.selects RX4 yX4_numberOfToken yX4_numberOfToken, Cond.code yX4_numberOfToken cX4_numberOfToken 3 (some .int), Cond.methodLink RX4 178 Lib.Math.min.name, Cond.static Lib.Math.min.name, Cond.code Lib.Math.min.name Lib.Math.min.code 2 (some .int), Cond.methodLink RX4 64 yX4_takeSign, Cond.instanceMethod yX4_takeSign, Cond.selects RX4 yX4_takeSign yX4_takeSign, Cond.code yX4_takeSign cX4_takeSign 2 none, Cond.methodLink RX4 106 yX4_takeFrom, Cond.instanceMethod yX4_takeFrom, Cond.selects RX4 yX4_takeFrom yX4_takeFrom, Cond.code yX4_takeFrom cX4_takeFrom 1 none, Cond.methodLink RX4 109 yX4_readScale, Cond.instanceMethod yX4_readScale, Cond.selects RX4 yX4_readScale yX4_readScale, Cond.code yX4_readScale cX4_readScale 4 none, Cond.fieldLink RX4 130 "PayScales$Line" "scaleLength" "I", Cond.methodLink RX4 133 yX2_addToScale]
def wsL_law_r15 : List Cond := [Cond.instanceMethod yX2_addToScale, Cond.selects RX2 yX2_addToScale yX2_addToScale, Cond.code yX2_addToScale cX2_addToScale 2 none, Cond.fieldLink RX2 35 "PayScales$Line" "scaleLength" "I", Cond.methodLink RX4 112 yX4_readStepDays, Cond.instanceMethod yX4_readStepDays, Cond.selects RX4 yX4_readStepDays yX4_readStepDays, Cond.code yX4_readStepDays cX4_readStepDays 3 none, Cond.methodLink RX4 115 yX4_readPlusNumber, Cond.instanceMethod yX4_readPlusNumber, Cond.selects RX4 yX4_readPlusNumber yX4_readPlusNumber, Cond.code yX4_readPlusNumber cX4_readPlusNumber 2 none, Cond.fieldLink RX4 136 "PayScales$Line" "percent" "Z", Cond.methodLink RX4 55 yX2_key, Cond.instanceMethod yX2_key, Cond.selects RX2 yX2_key yX2_key, Cond.code yX2_key cX2_key 1 (some .int), Cond.fieldLink RX2 26 "PayScales$Line" "name" "I", Cond.methodLink RX4 60 yX4_checkKey, Cond.instanceMethod yX4_checkKey, Cond.selects RX4 yX4_checkKey yX4_checkKey, Cond.code yX4_checkKey cX4_checkKey 3 none, Cond.methodLink RX4 67 yJx4a65c_add_9ea2d, Cond.instanceMethod yJx4a65c_add_9ea2d]
def wsL_law_r16 : List Cond := [Cond.selects RJx4a65c yJx4a65c_add_9ea2d yJx4a65c_add_9ea2d, Cond.code yJx4a65c_add_9ea2d cJx4a65c_add_9ea2d 2 (some .boolean), Cond.fieldLink RJx4a65c 63 "java/util/ArrayList" "modCount" "I", Cond.sameField "java/util/ArrayList" "java/util/AbstractList" "modCount" "I", Cond.methodLink RJx4a65c 131 yJx4a65c_add_72be8, Cond.instanceMethod yJx4a65c_add_72be8, Cond.selects RJx4a65c yJx4a65c_add_72be8 yJx4a65c_add_72be8, Cond.code yJx4a65c_add_72be8 cJx4a65c_add_72be8 4 none, Cond.methodLink RJx4a65c 129 yJx4a65c_grow_d5877, Cond.instanceMethod yJx4a65c_grow_d5877, Cond.selects RJx4a65c yJx4a65c_grow_d5877 yJx4a65c_grow_d5877, Cond.code yJx4a65c_grow_d5877 cJx4a65c_grow_d5877 1 (some (.array (.object "java/lang/Object"))), Cond.methodLink RJx4a65c 69 yJx4a65c_grow_92f84, Cond.instanceMethod yJx4a65c_grow_92f84, Cond.selects RJx4a65c yJx4a65c_grow_92f84 yJx4a65c_grow_92f84, Cond.code yJx4a65c_grow_92f84 cJx4a65c_grow_92f84 4 (some (.array (.object "java/lang/Object"))), Cond.methodLink RJx4a65c 79 Lib.Math.max.name, Cond.classLink RJx4a65c 7 "java/lang/Object", Cond.methodLink RJx4a65c 73 yJ8_newLength_cabcc, Cond.static yJ8_newLength_cabcc, Cond.initialized RJ8, Cond.code yJ8_newLength_cabcc cJ8_newLength_cabcc 4 (some .int), Cond.methodLink RJ8 194 Lib.Math.max.name, Cond.constant RJ8 200 (2147483639)]
def wsL_law_r17 : List Cond := [Cond.methodLink RJ8 201 yJ8_hugeLength_7cf53, Cond.static yJ8_hugeLength_7cf53, Cond.code yJ8_hugeLength_7cf53 cJ8_hugeLength_7cf53 3 (some .int), Cond.methodLink RJx4a65c 66 yJ7_copyOf_1904c, Cond.static yJ7_copyOf_1904c, Cond.initialized RJ7, Cond.code yJ7_copyOf_1904c cJ7_copyOf_1904c 2 (some (.array (.object "java/lang/Object"))), Cond.methodLink RJ7 86 ⟨"java/lang/Object", "getClass", "()Ljava/lang/Class;"⟩, Cond.selects "[Ljava/lang/Object;" ⟨"java/lang/Object", "getClass", "()Ljava/lang/Class;"⟩ ⟨"java/lang/Object", "getClass", "()Ljava/lang/Class;"⟩, Cond.instanceMethod ⟨"java/lang/Object", "getClass", "()Ljava/lang/Class;"⟩, Cond.native ⟨"java/lang/Object", "getClass", "()Ljava/lang/Class;"⟩, Cond.methodLink RJ7 300 yJ7_copyOf_6403c, Cond.static yJ7_copyOf_6403c, Cond.code yJ7_copyOf_6403c cJ7_copyOf_6403c 4 (some (.array (.object "java/lang/Object"))), Cond.classLink RJ7 110 "[Ljava/lang/Object;", Cond.classLink RJ7 2 "java/lang/Object", Cond.methodLink RJ7 304 Lib.Math.min.name, Cond.methodLink RJ7 150 arraycopyName, Cond.native arraycopyName, Cond.static arraycopyName, Cond.initialized "java/lang/System", Cond.methodLink RX8 105 yX0_init, Cond.instanceMethod yX0_init, Cond.code yX0_init cX0_init 5 none]
def wsL_law_r18 : List Cond := [Cond.methodLink RX0 1 objectInit, Cond.fieldLink RX0 7 "PayScales$Agreement" "number" "I", Cond.fieldLink RX0 13 "PayScales$Agreement" "from" "I", Cond.fieldLink RX0 16 "PayScales$Agreement" "told" "I", Cond.fieldLink RX0 19 "PayScales$Agreement" "lines" "Ljava/util/ArrayList;", Cond.methodLink RX8 108 yX8_placeOfAgreement, Cond.instanceMethod yX8_placeOfAgreement, Cond.selects RX8 yX8_placeOfAgreement yX8_placeOfAgreement, Cond.code yX8_placeOfAgreement cX8_placeOfAgreement 3 (some .int), Cond.classLink RX8 100 "PayScales$Agreement", Cond.fieldLink RX8 220 "PayScales$Agreement" "from" "I", Cond.methodLink RX8 216 yJx4a65c_get_915e3, Cond.instanceMethod yJx4a65c_get_915e3, Cond.selects RJx4a65c yJx4a65c_get_915e3 yJx4a65c_get_915e3, Cond.code yJx4a65c_get_915e3 cJx4a65c_get_915e3 2 (some (.object "java/lang/Object")), Cond.methodLink RJx4a65c 118 yJ15_checkIndex_7cf53, Cond.static yJ15_checkIndex_7cf53, Cond.initialized RJ15, Cond.code yJ15_checkIndex_7cf53 cJ15_checkIndex_7cf53 2 (some .int), Cond.methodLink RJ15 105 yJ3_checkIndex_8e157, Cond.methodLink RJx4a65c 123 yJx4a65c_elementData_915e3, Cond.instanceMethod yJx4a65c_elementData_915e3, Cond.selects RJx4a65c yJx4a65c_elementData_915e3 yJx4a65c_elementData_915e3, Cond.code yJx4a65c_elementData_915e3 cJx4a65c_elementData_915e3 2 (some (.object "java/lang/Object"))]
def wsL_law_r19 : List Cond := [Cond.methodLink RX8 112 yJx4a65c_add_7a177, Cond.instanceMethod yJx4a65c_add_7a177, Cond.selects RJx4a65c yJx4a65c_add_7a177 yJx4a65c_add_7a177, Cond.code yJx4a65c_add_7a177 cJx4a65c_add_7a177 5 none, Cond.methodLink RJx4a65c 112 arraycopyName, Cond.methodLink RJx4a65c 135 yJx4a65c_rangeCheckForAdd_d00df, Cond.instanceMethod yJx4a65c_rangeCheckForAdd_d00df, Cond.selects RJx4a65c yJx4a65c_rangeCheckForAdd_d00df yJx4a65c_rangeCheckForAdd_d00df, Cond.code yJx4a65c_rangeCheckForAdd_d00df cJx4a65c_rangeCheckForAdd_d00df 2 none, Cond.methodLink RL 22 yX9_agree, Cond.instanceMethod yX9_agree, Cond.selects RX9 yX9_agree yX9_agree, Cond.code yX9_agree cX9_agree 3 (some .int), Cond.fieldLink RX9 199 "PayScalesModel" "agreements" "I", Cond.fieldLink RX9 145 "PayScalesModel" "size" "I", Cond.fieldLink RX9 183 "PayScalesModel" "fault" "I", Cond.fieldLink RX9 227 "PayScalesModel" "lastFault" "I", Cond.fieldLink RX9 186 "PayScalesModel" "faultPlace" "I", Cond.fieldLink RX9 230 "PayScalesModel" "today" "I", Cond.fieldLink RX9 202 "PayScalesModel" "lines" "I", Cond.methodLink RX9 224 yX9_parses, Cond.instanceMethod yX9_parses, Cond.selects RX9 yX9_parses yX9_parses, Cond.code yX9_parses cX9_parses 2 none]
def wsL_law_r20 : List Cond := [Cond.fieldLink RX9 142 "PayScalesModel" "at" "I", Cond.fieldLink RX9 155 "PayScalesModel" "sort" "I", Cond.methodLink RX9 193 yX9_next, Cond.instanceMethod yX9_next, Cond.selects RX9 yX9_next yX9_next, Cond.code yX9_next cX9_next 2 none, Cond.fieldLink RX9 152 "PayScalesModel" "place" "I", Cond.fieldLink RX9 169 "PayScalesModel" "value" "I", Cond.methodLink RX9 148 yX9_here, Cond.instanceMethod yX9_here, Cond.selects RX9 yX9_here yX9_here, Cond.code yX9_here cX9_here 1 (some .int), Cond.methodLink RX9 158 yX9_isLetter, Cond.static yX9_isLetter, Cond.code yX9_isLetter cX9_isLetter 1 (some .boolean), Cond.methodLink RX9 162 yX9_word, Cond.instanceMethod yX9_word, Cond.selects RX9 yX9_word yX9_word, Cond.code yX9_word cX9_word 5 none, Cond.methodLink RX9 174 yJ0_length_8abf5, Cond.methodLink RX9 179 yJ0_charAt_5068e, Cond.methodLink RX9 166 yX9_isDigit, Cond.static yX9_isDigit, Cond.code yX9_isDigit cX9_isDigit 1 (some .boolean)]
def wsL_law_r21 : List Cond := [Cond.methodLink RX9 205 yX9_line, Cond.instanceMethod yX9_line, Cond.selects RX9 yX9_line yX9_line, Cond.code yX9_line cX9_line 6 none, Cond.methodLink RX9 189 yX9_wrong, Cond.instanceMethod yX9_wrong, Cond.selects RX9 yX9_wrong yX9_wrong, Cond.code yX9_wrong cX9_wrong 3 none, Cond.methodLink RX9 211 yX9_takes, Cond.instanceMethod yX9_takes, Cond.selects RX9 yX9_takes yX9_takes, Cond.code yX9_takes cX9_takes 3 (some .int), Cond.methodLink RX9 215 yX9_named, Cond.instanceMethod yX9_named, Cond.selects RX9 yX9_named yX9_named, Cond.code yX9_named cX9_named 3 none, Cond.methodLink RX9 208 yX9_wants, Cond.instanceMethod yX9_wants, Cond.selects RX9 yX9_wants yX9_wants, Cond.code yX9_wants cX9_wants 2 none, Cond.methodLink RX9 196 yX9_isSign, Cond.instanceMethod yX9_isSign, Cond.selects RX9 yX9_isSign yX9_isSign, Cond.code yX9_isSign cX9_isSign 2 (some .boolean)]
def wsL_law_r22 : List Cond := [Cond.methodLink RX9 218 yX9_scaleNumber, Cond.instanceMethod yX9_scaleNumber, Cond.selects RX9 yX9_scaleNumber yX9_scaleNumber, Cond.code yX9_scaleNumber cX9_scaleNumber 3 none, Cond.methodLink RX9 221 yX9_factOf, Cond.instanceMethod yX9_factOf, Cond.selects RX9 yX9_factOf yX9_factOf, Cond.code yX9_factOf cX9_factOf 2 none, Cond.methodLink RL 23 yX8_fault, Cond.instanceMethod yX8_fault, Cond.selects RX8 yX8_fault yX8_fault, Cond.code yX8_fault cX8_fault 2 (some .int), Cond.fieldLink RX8 122 "PayScales$Reader" "place" "I", Cond.methodLink RL 27 yX9_fault, Cond.instanceMethod yX9_fault, Cond.selects RX9 yX9_fault yX9_fault, Cond.code yX9_fault cX9_fault 2 (some .int), Cond.methodLink RL 28 yX8_pass, Cond.instanceMethod yX8_pass, Cond.selects RX8 yX8_pass yX8_pass, Cond.code yX8_pass cX8_pass 2 (some .int), Cond.methodLink RL 31 yX9_pass, Cond.instanceMethod yX9_pass, Cond.selects RX9 yX9_pass yX9_pass]
def wsL_law_r23 : List Cond := [Cond.code yX9_pass cX9_pass 2 (some .int), Cond.methodLink RL 32 yX8_post, Cond.instanceMethod yX8_post, Cond.selects RX8 yX8_post yX8_post, Cond.code yX8_post cX8_post 2 (some .int), Cond.fieldLink RX8 125 "PayScales" "postCount" "I", Cond.methodLink RL 35 yX9_post, Cond.instanceMethod yX9_post, Cond.selects RX9 yX9_post yX9_post, Cond.code yX9_post cX9_post 2 (some .int), Cond.fieldLink RX9 233 "PayScalesModel" "posts" "I", Cond.methodLink RL 36 yX8_note, Cond.instanceMethod yX8_note, Cond.selects RX8 yX8_note yX8_note, Cond.code yX8_note cX8_note 5 (some .int), Cond.classLink RX8 138 RX3, Cond.instantiable RX3 5, Cond.initialized RX3, Cond.methodLink RX8 128 yX8_isPost, Cond.instanceMethod yX8_isPost, Cond.selects RX8 yX8_isPost yX8_isPost, Cond.code yX8_isPost cX8_isPost 2 (some .boolean), Cond.methodLink RX8 131 yX8_canBecome, Cond.static yX8_canBecome]
def wsL_law_r24 : List Cond := [Cond.code yX8_canBecome cX8_canBecome 2 (some .boolean), Cond.methodLink RX8 251 yX8_isPart, Cond.static yX8_isPart, Cond.code yX8_isPart cX8_isPart 3 (some .boolean), Cond.methodLink RX8 135 yX8_placeOfNote, Cond.instanceMethod yX8_placeOfNote, Cond.selects RX8 yX8_placeOfNote yX8_placeOfNote, Cond.code yX8_placeOfNote cX8_placeOfNote 3 (some .int), Cond.classLink RX8 138 "PayScales$Note", Cond.fieldLink RX8 254 "PayScales$Note" "from" "I", Cond.methodLink RX8 140 yX3_init, Cond.instanceMethod yX3_init, Cond.code yX3_init cX3_init 6 none, Cond.methodLink RX3 1 objectInit, Cond.fieldLink RX3 7 "PayScales$Note" "post" "I", Cond.fieldLink RX3 13 "PayScales$Note" "what" "I", Cond.fieldLink RX3 16 "PayScales$Note" "from" "I", Cond.fieldLink RX3 19 "PayScales$Note" "told" "I", Cond.fieldLink RX3 22 "PayScales$Note" "value" "I", Cond.methodLink RL 40 yX9_note, Cond.instanceMethod yX9_note, Cond.selects RX9 yX9_note yX9_note, Cond.code yX9_note cX9_note 5 (some .int), Cond.fieldLink RX9 240 "PayScalesModel" "notes" "I"]
def wsL_law_r25 : List Cond := [Cond.methodLink RX9 236 yX9_isValue, Cond.static yX9_isValue, Cond.code yX9_isValue cX9_isValue 2 (some .boolean), Cond.methodLink RL 41 yX8_look, Cond.instanceMethod yX8_look, Cond.selects RX8 yX8_look yX8_look, Cond.code yX8_look cX8_look 5 (some .int), Cond.constant RX8 148 (-2147483648), Cond.methodLink RX8 143 yX8_isKnown, Cond.instanceMethod yX8_isKnown, Cond.selects RX8 yX8_isKnown yX8_isKnown, Cond.code yX8_isKnown cX8_isKnown 2 (some .boolean), Cond.methodLink RX8 149 yX7_begin, Cond.instanceMethod yX7_begin, Cond.selects RX7 yX7_begin yX7_begin, Cond.code yX7_begin cX7_begin 3 none, Cond.fieldLink RX7 39 "PayScales$Walk" "post" "I", Cond.fieldLink RX7 43 "PayScales$Walk" "known" "I", Cond.fieldLink RX7 46 "PayScales$Walk" "day" "I", Cond.fieldLink RX7 49 "PayScales$Walk" "agreementsPassed" "I", Cond.fieldLink RX7 52 "PayScales$Walk" "notesPassed" "I", Cond.fieldLink RX7 55 "PayScales$Walk" "service" "I", Cond.fieldLink RX7 58 "PayScales$Walk" "daysWithout" "I", Cond.fieldLink RX7 61 "PayScales$Walk" "floor" "I"]
def wsL_law_r26 : List Cond := [Cond.fieldLink RX7 64 "PayScales$Walk" "given" "I", Cond.fieldLink RX7 78 "PayScales$Walk" "changed" "Z", Cond.methodLink RX7 67 yX6_clear, Cond.instanceMethod yX6_clear, Cond.selects RX6 yX6_clear yX6_clear, Cond.code yX6_clear cX6_clear 2 none, Cond.methodLink RX6 24 yJ7_fill_53178, Cond.static yJ7_fill_53178, Cond.code yJ7_fill_53178 cJ7_fill_53178 4 none, Cond.methodLink RX7 72 yJ7_fill_53178, Cond.methodLink RX7 82 yX7_openDay, Cond.instanceMethod yX7_openDay, Cond.selects RX7 yX7_openDay yX7_openDay, Cond.code yX7_openDay cX7_openDay 1 none, Cond.methodLink RX7 151 yX7_takeAgreements, Cond.instanceMethod yX7_takeAgreements, Cond.selects RX7 yX7_takeAgreements yX7_takeAgreements, Cond.code yX7_takeAgreements cX7_takeAgreements 3 none, Cond.classLink RX7 124 "PayScales$Agreement", Cond.fieldLink RX7 126 "PayScales$Agreement" "from" "I", Cond.fieldLink RX7 167 "PayScales$Agreement" "told" "I", Cond.methodLink RX7 114 yJx4a65c_size_8abf5, Cond.methodLink RX7 120 yJx4a65c_get_915e3, Cond.methodLink RX7 170 yX6_take]
def wsL_law_r27 : List Cond := [Cond.instanceMethod yX6_take, Cond.selects RX6 yX6_take yX6_take, Cond.code yX6_take cX6_take 5 none, Cond.fieldLink RX6 30 "PayScales$Agreement" "lines" "Ljava/util/ArrayList;", Cond.classLink RX6 9 "PayScales$Line", Cond.fieldLink RX6 49 "PayScales$Agreement" "number" "I", Cond.methodLink RX6 36 yJx4a65c_size_8abf5, Cond.methodLink RX6 42 yJx4a65c_get_915e3, Cond.methodLink RX6 46 yX2_key, Cond.methodLink RX7 154 yX7_takeNotes, Cond.instanceMethod yX7_takeNotes, Cond.selects RX7 yX7_takeNotes yX7_takeNotes, Cond.code yX7_takeNotes cX7_takeNotes 3 none, Cond.fieldLink RX7 174 "PayScales$Walk" "protectBegins" "Z", Cond.classLink RX7 135 "PayScales$Note", Cond.fieldLink RX7 137 "PayScales$Note" "from" "I", Cond.fieldLink RX7 177 "PayScales$Note" "told" "I", Cond.methodLink RX7 178 yX7_takeNote, Cond.instanceMethod yX7_takeNote, Cond.selects RX7 yX7_takeNote yX7_takeNote, Cond.code yX7_takeNote cX7_takeNote 2 none, Cond.fieldLink RX7 182 "PayScales$Note" "what" "I", Cond.fieldLink RX7 185 "PayScales$Note" "post" "I", Cond.fieldLink RX7 186 "PayScales$Note" "value" "I"]
def wsL_law_r28 : List Cond := [Cond.methodLink RX7 157 yX1_renew, Cond.instanceMethod yX1_renew, Cond.selects RX1 yX1_renew yX1_renew, Cond.code yX1_renew cX1_renew 4 none, Cond.fieldLink RX1 15 "PayScales$Appraisal" "points" "I", Cond.fieldLink RX1 25 "PayScales$Appraisal" "grade" "I", Cond.fieldLink RX1 32 "PayScales$Appraisal" "scale" "LPayScales$Line;", Cond.fieldLink RX1 40 "PayScales$Appraisal" "stepDays" "I", Cond.methodLink RX1 9 yX6_pointsBy, Cond.instanceMethod yX6_pointsBy, Cond.selects RX6 yX6_pointsBy yX6_pointsBy, Cond.code yX6_pointsBy cX6_pointsBy 5 (some .int), Cond.fieldLink RX6 61 "PayScales$Line" "number" "I", Cond.methodLink RX6 57 yX6_lineOf, Cond.instanceMethod yX6_lineOf, Cond.selects RX6 yX6_lineOf yX6_lineOf, Cond.code yX6_lineOf cX6_lineOf 5 (some (.object "PayScales$Line")), Cond.fieldLink RX6 53 "PayScales$Line" "ends" "Z", Cond.methodLink RX6 62 yX2_holds, Cond.instanceMethod yX2_holds, Cond.selects RX2 yX2_holds yX2_holds, Cond.code yX2_holds cX2_holds 3 (some .boolean), Cond.fieldLink RX2 29 "PayScales$Line" "sign" "I", Cond.fieldLink RX2 32 "PayScales$Line" "bound" "I"]
def wsL_law_r29 : List Cond := [Cond.methodLink RX1 21 yX6_gradeBy, Cond.instanceMethod yX6_gradeBy, Cond.selects RX6 yX6_gradeBy yX6_gradeBy, Cond.code yX6_gradeBy cX6_gradeBy 6 (some .int), Cond.methodLink RX1 28 yX6_lineOf, Cond.methodLink RX1 36 yX6_numberOf, Cond.instanceMethod yX6_numberOf, Cond.selects RX6 yX6_numberOf yX6_numberOf, Cond.code yX6_numberOf cX6_numberOf 4 (some .int), Cond.methodLink RX1 43 yX1_stepAfter, Cond.instanceMethod yX1_stepAfter, Cond.selects RX1 yX1_stepAfter yX1_stepAfter, Cond.code yX1_stepAfter cX1_stepAfter 2 (some .int), Cond.fieldLink RX1 53 "PayScales$Line" "scaleLength" "I", Cond.methodLink RX1 58 Lib.Math.min.name, Cond.methodLink RX1 46 yX1_moveStep, Cond.instanceMethod yX1_moveStep, Cond.selects RX1 yX1_moveStep yX1_moveStep, Cond.code yX1_moveStep cX1_moveStep 4 none, Cond.fieldLink RX1 50 "PayScales$Appraisal" "step" "I", Cond.fieldLink RX1 66 "PayScales$Appraisal" "base" "I", Cond.fieldLink RX1 73 "PayScales$Appraisal" "amount" "I", Cond.methodLink RX1 63 yX2_scaleNumber, Cond.instanceMethod yX2_scaleNumber]
def wsL_law_r30 : List Cond := [Cond.selects RX2 yX2_scaleNumber yX2_scaleNumber, Cond.code yX2_scaleNumber cX2_scaleNumber 2 (some .int), Cond.methodLink RX1 69 yX6_amountBy, Cond.instanceMethod yX6_amountBy, Cond.selects RX6 yX6_amountBy yX6_amountBy, Cond.code yX6_amountBy cX6_amountBy 6 (some .int), Cond.fieldLink RX6 66 "PayScales$Line" "percent" "Z", Cond.methodLink RX7 161 yX1_follow, Cond.instanceMethod yX1_follow, Cond.selects RX1 yX1_follow yX1_follow, Cond.code yX1_follow cX1_follow 5 none, Cond.methodLink RX7 164 yX7_give, Cond.instanceMethod yX7_give, Cond.selects RX7 yX7_give yX7_give, Cond.code yX7_give cX7_give 1 none, Cond.fieldLink RX7 111 "PayScales$Appraisal" "amount" "I", Cond.methodLink RX7 189 yX7_isHeld, Cond.instanceMethod yX7_isHeld, Cond.selects RX7 yX7_isHeld yX7_isHeld, Cond.code yX7_isHeld cX7_isHeld 1 (some .boolean), Cond.methodLink RX8 152 yX7_goTo, Cond.instanceMethod yX7_goTo, Cond.selects RX7 yX7_goTo yX7_goTo, Cond.code yX7_goTo cX7_goTo 3 none]
def wsL_law_r31 : List Cond := [Cond.methodLink RX7 85 yX7_daysAlike, Cond.instanceMethod yX7_daysAlike, Cond.selects RX7 yX7_daysAlike yX7_daysAlike, Cond.code yX7_daysAlike cX7_daysAlike 3 (some .int), Cond.methodLink RX7 129 Lib.Math.min.name, Cond.methodLink RX7 141 Lib.Math.max.name, Cond.methodLink RX7 138 yX1_daysToNextStep, Cond.instanceMethod yX1_daysToNextStep, Cond.selects RX1 yX1_daysToNextStep yX1_daysToNextStep, Cond.code yX1_daysToNextStep cX1_daysToNextStep 3 (some .int), Cond.methodLink RX7 89 yX7_passDays, Cond.instanceMethod yX7_passDays, Cond.selects RX7 yX7_passDays yX7_passDays, Cond.code yX7_passDays cX7_passDays 2 none, Cond.methodLink RX7 144 yX7_isServing, Cond.instanceMethod yX7_isServing, Cond.selects RX7 yX7_isServing yX7_isServing, Cond.code yX7_isServing cX7_isServing 3 (some .boolean), Cond.methodLink RX7 148 yX6_numberOf, Cond.methodLink RX8 155 yX7_tell, Cond.instanceMethod yX7_tell, Cond.selects RX7 yX7_tell yX7_tell, Cond.code yX7_tell cX7_tell 2 (some .int), Cond.fieldLink RX7 99 "PayScales$Appraisal" "points" "I"]
def wsL_law_r32 : List Cond := [Cond.fieldLink RX7 102 "PayScales$Appraisal" "grade" "I", Cond.fieldLink RX7 105 "PayScales$Appraisal" "step" "I", Cond.fieldLink RX7 108 "PayScales$Appraisal" "base" "I", Cond.methodLink RL 44 yX9_look, Cond.instanceMethod yX9_look, Cond.selects RX9 yX9_look yX9_look, Cond.code yX9_look cX9_look 5 (some .int), Cond.constant RX9 284 (-2147483648), Cond.methodLink RX9 275 yX9_isPost, Cond.instanceMethod yX9_isPost, Cond.selects RX9 yX9_isPost yX9_isPost, Cond.code yX9_isPost cX9_isPost 2 (some .boolean), Cond.methodLink RX9 278 yX9_isDay, Cond.instanceMethod yX9_isDay, Cond.selects RX9 yX9_isDay yX9_isDay, Cond.code yX9_isDay cX9_isDay 2 (some .boolean), Cond.methodLink RX9 281 yX9_isKnown, Cond.instanceMethod yX9_isKnown, Cond.selects RX9 yX9_isKnown yX9_isKnown, Cond.code yX9_isKnown cX9_isKnown 2 (some .boolean), Cond.methodLink RX9 285 yX9_passes, Cond.instanceMethod yX9_passes, Cond.selects RX9 yX9_passes yX9_passes, Cond.code yX9_passes cX9_passes 6 none]
def wsL_law_r33 : List Cond := [Cond.constantLong RX9 261 (840), Cond.methodLink RX9 243 yX9_serves, Cond.instanceMethod yX9_serves, Cond.selects RX9 yX9_serves yX9_serves, Cond.code yX9_serves cX9_serves 5 none, Cond.methodLink RX9 263 yX9_numberOf, Cond.instanceMethod yX9_numberOf, Cond.selects RX9 yX9_numberOf yX9_numberOf, Cond.code yX9_numberOf cX9_numberOf 4 (some .int), Cond.methodLink RX9 246 yX9_isBeginning, Cond.instanceMethod yX9_isBeginning, Cond.selects RX9 yX9_isBeginning yX9_isBeginning, Cond.code yX9_isBeginning cX9_isBeginning 4 (some .boolean), Cond.methodLink RX9 249 yX9_lawsOf, Cond.instanceMethod yX9_lawsOf, Cond.selects RX9 yX9_lawsOf yX9_lawsOf, Cond.code yX9_lawsOf cX9_lawsOf 6 none, Cond.methodLink RX9 252 yX9_notesOf, Cond.instanceMethod yX9_notesOf, Cond.selects RX9 yX9_notesOf yX9_notesOf, Cond.code yX9_notesOf cX9_notesOf 4 none, Cond.methodLink RX9 255 yX9_stands, Cond.instanceMethod yX9_stands, Cond.selects RX9 yX9_stands yX9_stands]
def wsL_law_r34 : List Cond := [Cond.code yX9_stands cX9_stands 5 none, Cond.methodLink RX9 270 Lib.Math.min.name, Cond.methodLink RX9 267 yX9_holds, Cond.instanceMethod yX9_holds, Cond.selects RX9 yX9_holds yX9_holds, Cond.code yX9_holds cX9_holds 4 (some .boolean), Cond.methodLink RX9 258 yX9_gives, Cond.instanceMethod yX9_gives, Cond.selects RX9 yX9_gives yX9_gives, Cond.code yX9_gives cX9_gives 2 none, Cond.methodLink RL 45 yX8_pay, Cond.instanceMethod yX8_pay, Cond.selects RX8 yX8_pay yX8_pay, Cond.code yX8_pay cX8_pay 4 (some .long), Cond.constantLong RX8 158 (-1), Cond.methodLink RX8 160 yX7_payOfDay, Cond.instanceMethod yX7_payOfDay, Cond.selects RX7 yX7_payOfDay yX7_payOfDay, Cond.code yX7_payOfDay cX7_payOfDay 3 (some .long), Cond.constantLong RX7 97 (840), Cond.methodLink RL 49 yX9_pay, Cond.instanceMethod yX9_pay, Cond.selects RX9 yX9_pay yX9_pay, Cond.code yX9_pay cX9_pay 5 (some .long)]
def wsL_law_r35 : List Cond := [Cond.constantLong RX9 288 (-1), Cond.methodLink RL 50 yX8_due, Cond.instanceMethod yX8_due, Cond.selects RX8 yX8_due yX8_due, Cond.code yX8_due cX8_due 4 (some .long), Cond.methodLink RX8 164 yX8_isMonth, Cond.static yX8_isMonth, Cond.code yX8_isMonth cX8_isMonth 1 (some .boolean), Cond.methodLink RX8 167 yX8_dueOfMonths, Cond.instanceMethod yX8_dueOfMonths, Cond.selects RX8 yX8_dueOfMonths yX8_dueOfMonths, Cond.code yX8_dueOfMonths cX8_dueOfMonths 5 (some .long), Cond.methodLink RX8 174 yX7_payOfDays, Cond.instanceMethod yX7_payOfDays, Cond.selects RX7 yX7_payOfDays yX7_payOfDays, Cond.code yX7_payOfDays cX7_payOfDays 7 (some .long), Cond.methodLink RX7 93 yX7_payOfDay, Cond.methodLink RL 53 yX9_due, Cond.instanceMethod yX9_due, Cond.selects RX9 yX9_due yX9_due, Cond.code yX9_due cX9_due 4 (some .long), Cond.methodLink RL 54 yX8_run, Cond.instanceMethod yX8_run, Cond.selects RX8 yX8_run yX8_run]
def wsL_law_r36 : List Cond := [Cond.code yX8_run cX8_run 4 (some .int), Cond.fieldLink RX8 182 "PayScales" "runCount" "I", Cond.fieldLink RX8 185 "PayScales$Rows" "size" "I", Cond.methodLink RX8 171 yX5_clear, Cond.instanceMethod yX5_clear, Cond.selects RX5 yX5_clear yX5_clear, Cond.code yX5_clear cX5_clear 1 none, Cond.fieldLink RX5 25 "PayScales$Rows" "size" "I", Cond.methodLink RX8 178 yX8_settle, Cond.instanceMethod yX8_settle, Cond.selects RX8 yX8_settle yX8_settle, Cond.code yX8_settle cX8_settle 8 none, Cond.methodLink RX8 248 yX5_add, Cond.instanceMethod yX5_add, Cond.selects RX5 yX5_add yX5_add, Cond.code yX5_add cX5_add 9 none, Cond.methodLink RX5 28 yX5_put, Cond.instanceMethod yX5_put, Cond.selects RX5 yX5_put yX5_put, Cond.code yX5_put cX5_put 5 none, Cond.methodLink RL 58 yX9_run, Cond.instanceMethod yX9_run, Cond.selects RX9 yX9_run yX9_run, Cond.code yX9_run cX9_run 5 (some .int)]
def wsL_law_r37 : List Cond := [Cond.fieldLink RX9 290 "PayScalesModel" "runs" "I", Cond.fieldLink RX9 293 "PayScalesModel" "paymentMany" "I", Cond.methodLink RL 59 yX8_payment, Cond.instanceMethod yX8_payment, Cond.selects RX8 yX8_payment yX8_payment, Cond.code yX8_payment cX8_payment 3 (some .long), Cond.methodLink RX8 187 yX5_cell, Cond.instanceMethod yX5_cell, Cond.selects RX5 yX5_cell yX5_cell, Cond.code yX5_cell cX5_cell 4 (some .long), Cond.constantLong RX5 32 (-1), Cond.methodLink RL 63 yX9_payment, Cond.instanceMethod yX9_payment, Cond.selects RX9 yX9_payment yX9_payment, Cond.code yX9_payment cX9_payment 3 (some .long), Cond.methodLink RL 64 yX8_paid, Cond.instanceMethod yX8_paid, Cond.selects RX8 yX8_paid yX8_paid, Cond.code yX8_paid cX8_paid 3 (some .long), Cond.methodLink RL 67 yX9_paid, Cond.instanceMethod yX9_paid, Cond.selects RX9 yX9_paid yX9_paid, Cond.code yX9_paid cX9_paid 3 (some .long), Cond.methodLink RL 68 yX8_cost]
def wsL_law_r38 : List Cond := [Cond.instanceMethod yX8_cost, Cond.selects RX8 yX8_cost yX8_cost, Cond.code yX8_cost cX8_cost 7 (some .long), Cond.methodLink RL 71 yX9_cost, Cond.instanceMethod yX9_cost, Cond.selects RX9 yX9_cost yX9_cost, Cond.code yX9_cost cX9_cost 8 (some .long), Cond.methodLink RL 72 yX8_like, Cond.instanceMethod yX8_like, Cond.selects RX8 yX8_like yX8_like, Cond.code yX8_like cX8_like 6 (some .int), Cond.constant RX8 191 (99999), Cond.fieldLink RX8 196 "PayScales$Walk" "appraisal" "LPayScales$Appraisal;", Cond.fieldLink RX8 200 "PayScales$Appraisal" "points" "I", Cond.fieldLink RX8 205 "PayScales$Appraisal" "amount" "I", Cond.methodLink RX8 192 yX7_isHeld, Cond.methodLink RX8 208 yX8_areLike, Cond.instanceMethod yX8_areLike, Cond.selects RX8 yX8_areLike yX8_areLike, Cond.code yX8_areLike cX8_areLike 7 (some .boolean), Cond.methodLink RX8 255 Lib.Math.abs.name, Cond.static Lib.Math.abs.name, Cond.code Lib.Math.abs.name Lib.Math.abs.code 1 (some .int), Cond.methodLink RX8 212 yX8_addPair]
def wsL_law_r39 : List Cond := [Cond.instanceMethod yX8_addPair, Cond.selects RX8 yX8_addPair yX8_addPair, Cond.code yX8_addPair cX8_addPair 6 none, Cond.methodLink RX8 260 yX8_commonDivisor, Cond.static yX8_commonDivisor, Cond.code yX8_commonDivisor cX8_commonDivisor 6 (some .int), Cond.methodLink RL 76 yX9_like, Cond.instanceMethod yX9_like, Cond.selects RX9 yX9_like yX9_like, Cond.code yX9_like cX9_like 8 (some .int), Cond.constant RX9 296 (99999), Cond.fieldLink RX9 297 "PayScalesModel" "pairMany" "I", Cond.methodLink RX9 300 Lib.Math.abs.name, Cond.methodLink RX9 303 yX9_common, Cond.static yX9_common, Cond.code yX9_common cX9_common 5 (some .int), Cond.methodLink RL 77 yX8_pair, Cond.instanceMethod yX8_pair, Cond.selects RX8 yX8_pair yX8_pair, Cond.code yX8_pair cX8_pair 3 (some .int), Cond.methodLink RL 80 yX9_pair, Cond.instanceMethod yX9_pair, Cond.selects RX9 yX9_pair yX9_pair, Cond.code yX9_pair cX9_pair 3 (some .int)]
def wsL_law_r40 : List Cond := [Cond.methodLink RL 81 yX8_meet, Cond.instanceMethod yX8_meet, Cond.selects RX8 yX8_meet yX8_meet, Cond.code yX8_meet cX8_meet 6 (some .int), Cond.fieldLink RX8 223 "PayScales$Agreement" "told" "I", Cond.fieldLink RX8 237 "PayScales$Line" "sort" "I", Cond.fieldLink RX8 242 "PayScales$Line" "name" "I", Cond.methodLink RX8 215 yX6_clear, Cond.methodLink RX8 226 yX6_take, Cond.methodLink RX8 230 yX6_winnerOf, Cond.instanceMethod yX6_winnerOf, Cond.selects RX6 yX6_winnerOf yX6_winnerOf, Cond.code yX6_winnerOf cX6_winnerOf 2 (some (.object "PayScales$Line")), Cond.methodLink RX8 234 yX6_linesOf, Cond.instanceMethod yX6_linesOf, Cond.selects RX6 yX6_linesOf yX6_linesOf, Cond.code yX6_linesOf cX6_linesOf 2 (some .int), Cond.methodLink RX8 245 yX6_agreementOf, Cond.instanceMethod yX6_agreementOf, Cond.selects RX6 yX6_agreementOf yX6_agreementOf, Cond.code yX6_agreementOf cX6_agreementOf 2 (some .int), Cond.methodLink RL 84 yX9_meet, Cond.instanceMethod yX9_meet, Cond.selects RX9 yX9_meet yX9_meet]
def wsL_law_r41 : List Cond := [Cond.code yX9_meet cX9_meet 4 (some .int), Cond.fieldLink RX9 306 "PayScalesModel" "metMany" "I", Cond.methodLink RL 85 yX8_met, Cond.instanceMethod yX8_met, Cond.selects RX8 yX8_met yX8_met, Cond.code yX8_met cX8_met 3 (some .int), Cond.methodLink RL 88 yX9_met, Cond.instanceMethod yX9_met, Cond.selects RX9 yX9_met yX9_met, Cond.code yX9_met cX9_met 3 (some .int), Cond.methodLink RL 89 yX8_count, Cond.instanceMethod yX8_count, Cond.selects RX8 yX8_count yX8_count, Cond.code yX8_count cX8_count 2 (some .int), Cond.methodLink RL 92 yX9_count, Cond.instanceMethod yX9_count, Cond.selects RX9 yX9_count yX9_count, Cond.code yX9_count cX9_count 2 (some .int)]
def wsL_law : List Cond := (wsL_law_r1 ++ (wsL_law_r2 ++ (wsL_law_r3 ++ (wsL_law_r4 ++ (wsL_law_r5 ++ (wsL_law_r6 ++ (wsL_law_r7 ++ (wsL_law_r8 ++ (wsL_law_r9 ++ (wsL_law_r10 ++ (wsL_law_r11 ++ (wsL_law_r12 ++ (wsL_law_r13 ++ (wsL_law_r14 ++ (wsL_law_r15 ++ (wsL_law_r16 ++ (wsL_law_r17 ++ (wsL_law_r18 ++ (wsL_law_r19 ++ (wsL_law_r20 ++ (wsL_law_r21 ++ (wsL_law_r22 ++ (wsL_law_r23 ++ (wsL_law_r24 ++ (wsL_law_r25 ++ (wsL_law_r26 ++ (wsL_law_r27 ++ (wsL_law_r28 ++ (wsL_law_r29 ++ (wsL_law_r30 ++ (wsL_law_r31 ++ (wsL_law_r32 ++ (wsL_law_r33 ++ (wsL_law_r34 ++ (wsL_law_r35 ++ (wsL_law_r36 ++ (wsL_law_r37 ++ (wsL_law_r38 ++ (wsL_law_r39 ++ (wsL_law_r40 ++ wsL_law_r41)))))))))))))))))))))))))))))))))))))))) ++ wsX80 ++ wsX90 ++ wsX40 ++ wsJx4a65c0 ++ wsX60 ++ wsX70 ++ wsX50 ++ wsX10 ++ wsX00 ++ wsX20 ++ wsX30 ++ ([] : List Cond)
theorem inlX0 : ∀ w ∈ wsX00, w ∈ wsL_law := fun _ h => List.mem_append_left _ (List.mem_append_left _ (List.mem_append_left _ (List.mem_append_right _ h)))
theorem inlX1 : ∀ w ∈ wsX10, w ∈ wsL_law := fun _ h => List.mem_append_left _ (List.mem_append_left _ (List.mem_append_left _ (List.mem_append_left _ (List.mem_append_right _ h))))
theorem inlX2 : ∀ w ∈ wsX20, w ∈ wsL_law := fun _ h => List.mem_append_left _ (List.mem_append_left _ (List.mem_append_right _ h))
theorem inlX3 : ∀ w ∈ wsX30, w ∈ wsL_law := fun _ h => List.mem_append_left _ (List.mem_append_right _ h)
theorem inlX4 : ∀ w ∈ wsX40, w ∈ wsL_law := fun _ h => List.mem_append_left _ (List.mem_append_left _ (List.mem_append_left _ (List.mem_append_left _ (List.mem_append_left _ (List.mem_append_left _ (List.mem_append_left _ (List.mem_append_left _ (List.mem_append_left _ (List.mem_append_right _ h)))))))))
theorem inlX5 : ∀ w ∈ wsX50, w ∈ wsL_law := fun _ h => List.mem_append_left _ (List.mem_append_left _ (List.mem_append_left _ (List.mem_append_left _ (List.mem_append_left _ (List.mem_append_right _ h)))))
theorem inlX6 : ∀ w ∈ wsX60, w ∈ wsL_law := fun _ h => List.mem_append_left _ (List.mem_append_left _ (List.mem_append_left _ (List.mem_append_left _ (List.mem_append_left _ (List.mem_append_left _ (List.mem_append_left _ (List.mem_append_right _ h)))))))
theorem inlX7 : ∀ w ∈ wsX70, w ∈ wsL_law := fun _ h => List.mem_append_left _ (List.mem_append_left _ (List.mem_append_left _ (List.mem_append_left _ (List.mem_append_left _ (List.mem_append_left _ (List.mem_append_right _ h))))))
theorem inlX8 : ∀ w ∈ wsX80, w ∈ wsL_law := fun _ h => List.mem_append_left _ (List.mem_append_left _ (List.mem_append_left _ (List.mem_append_left _ (List.mem_append_left _ (List.mem_append_left _ (List.mem_append_left _ (List.mem_append_left _ (List.mem_append_left _ (List.mem_append_left _ (List.mem_append_left _ (List.mem_append_right _ h)))))))))))
theorem inlX9 : ∀ w ∈ wsX90, w ∈ wsL_law := fun _ h => List.mem_append_left _ (List.mem_append_left _ (List.mem_append_left _ (List.mem_append_left _ (List.mem_append_left _ (List.mem_append_left _ (List.mem_append_left _ (List.mem_append_left _ (List.mem_append_left _ (List.mem_append_left _ (List.mem_append_right _ h))))))))))
theorem inlJx4a65c : ∀ w ∈ wsJx4a65c0, w ∈ wsL_law := fun _ h => List.mem_append_left _ (List.mem_append_left _ (List.mem_append_left _ (List.mem_append_left _ (List.mem_append_left _ (List.mem_append_left _ (List.mem_append_left _ (List.mem_append_left _ (List.mem_append_right _ h))))))))
abbrev vwCl : List vw_C := [(RJx4a65c, TJx4a65c, 3), (RX0, TX0, 4), (RX1, TX1, 7), (RX2, TX2, 10), (RX3, TX3, 5), (RX4, TX4, 8), (RX5, TX5, 3), (RX6, TX6, 3), (RX7, TX7, 18), (RX8, TX8, 18), (RX9, TX9, 60)]
end
section
theorem twr_1 : ∀ w ∈ wsL_law_r1, w ∈ wsL_law := fun _ h => (List.mem_append_left _ (List.mem_append_left _ (List.mem_append_left _ (List.mem_append_left _ (List.mem_append_left _ (List.mem_append_left _ (List.mem_append_left _ (List.mem_append_left _ (List.mem_append_left _ (List.mem_append_left _ (List.mem_append_left _ (List.mem_append_left _ (List.mem_append_left _ h)))))))))))))
theorem twr_2 : ∀ w ∈ wsL_law_r2, w ∈ wsL_law := fun _ h => (List.mem_append_left _ (List.mem_append_left _ (List.mem_append_left _ (List.mem_append_left _ (List.mem_append_left _ (List.mem_append_left _ (List.mem_append_left _ (List.mem_append_left _ (List.mem_append_left _ (List.mem_append_left _ (List.mem_append_left _ (List.mem_append_left _ (List.mem_append_right _ (List.mem_append_left _ h))))))))))))))
theorem twr_3 : ∀ w ∈ wsL_law_r3, w ∈ wsL_law := fun _ h => (List.mem_append_left _ (List.mem_append_left _ (List.mem_append_left _ (List.mem_append_left _ (List.mem_append_left _ (List.mem_append_left _ (List.mem_append_left _ (List.mem_append_left _ (List.mem_append_left _ (List.mem_append_left _ (List.mem_append_left _ (List.mem_append_left _ (List.mem_append_right _ (List.mem_append_right _ (List.mem_append_left _ h)))))))))))))))
theorem twr_4 : ∀ w ∈ wsL_law_r4, w ∈ wsL_law := fun _ h => (List.mem_append_left _ (List.mem_append_left _ (List.mem_append_left _ (List.mem_append_left _ (List.mem_append_left _ (List.mem_append_left _ (List.mem_append_left _ (List.mem_append_left _ (List.mem_append_left _ (List.mem_append_left _ (List.mem_append_left _ (List.mem_append_left _ (List.mem_append_right _ (List.mem_append_right _ (List.mem_append_right _ (List.mem_append_left _ h))))))))))))))))
theorem twr_5 : ∀ w ∈ wsL_law_r5, w ∈ wsL_law := fun _ h => (List.mem_append_left _ (List.mem_append_left _ (List.mem_append_left _ (List.mem_append_left _ (List.mem_append_left _ (List.mem_append_left _ (List.mem_append_left _ (List.mem_append_left _ (List.mem_append_left _ (List.mem_append_left _ (List.mem_append_left _ (List.mem_append_left _ (List.mem_append_right _ (List.mem_append_right _ (List.mem_append_right _ (List.mem_append_right _ (List.mem_append_left _ h)))))))))))))))))
theorem twr_6 : ∀ w ∈ wsL_law_r6, w ∈ wsL_law := fun _ h => (List.mem_append_left _ (List.mem_append_left _ (List.mem_append_left _ (List.mem_append_left _ (List.mem_append_left _ (List.mem_append_left _ (List.mem_append_left _ (List.mem_append_left _ (List.mem_append_left _ (List.mem_append_left _ (List.mem_append_left _ (List.mem_append_left _ (List.mem_append_right _ (List.mem_append_right _ (List.mem_append_right _ (List.mem_append_right _ (List.mem_append_right _ (List.mem_append_left _ h))))))))))))))))))
theorem twr_7 : ∀ w ∈ wsL_law_r7, w ∈ wsL_law := fun _ h => (List.mem_append_left _ (List.mem_append_left _ (List.mem_append_left _ (List.mem_append_left _ (List.mem_append_left _ (List.mem_append_left _ (List.mem_append_left _ (List.mem_append_left _ (List.mem_append_left _ (List.mem_append_left _ (List.mem_append_left _ (List.mem_append_left _ (List.mem_append_right _ (List.mem_append_right _ (List.mem_append_right _ (List.mem_append_right _ (List.mem_append_right _ (List.mem_append_right _ (List.mem_append_left _ h)))))))))))))))))))
theorem twr_8 : ∀ w ∈ wsL_law_r8, w ∈ wsL_law := fun _ h => (List.mem_append_left _ (List.mem_append_left _ (List.mem_append_left _ (List.mem_append_left _ (List.mem_append_left _ (List.mem_append_left _ (List.mem_append_left _ (List.mem_append_left _ (List.mem_append_left _ (List.mem_append_left _ (List.mem_append_left _ (List.mem_append_left _ (List.mem_append_right _ (List.mem_append_right _ (List.mem_append_right _ (List.mem_append_right _ (List.mem_append_right _ (List.mem_append_right _ (List.mem_append_right _ (List.mem_append_left _ h))))))))))))))))))))
theorem twr_9 : ∀ w ∈ wsL_law_r9, w ∈ wsL_law := fun _ h => (List.mem_append_left _ (List.mem_append_left _ (List.mem_append_left _ (List.mem_append_left _ (List.mem_append_left _ (List.mem_append_left _ (List.mem_append_left _ (List.mem_append_left _ (List.mem_append_left _ (List.mem_append_left _ (List.mem_append_left _ (List.mem_append_left _ (List.mem_append_right _ (List.mem_append_right _ (List.mem_append_right _ (List.mem_append_right _ (List.mem_append_right _ (List.mem_append_right _ (List.mem_append_right _ (List.mem_append_right _ (List.mem_append_left _ h)))))))))))))))))))))
theorem twr_10 : ∀ w ∈ wsL_law_r10, w ∈ wsL_law := fun _ h => (List.mem_append_left _ (List.mem_append_left _ (List.mem_append_left _ (List.mem_append_left _ (List.mem_append_left _ (List.mem_append_left _ (List.mem_append_left _ (List.mem_append_left _ (List.mem_append_left _ (List.mem_append_left _ (List.mem_append_left _ (List.mem_append_left _ (List.mem_append_right _ (List.mem_append_right _ (List.mem_append_right _ (List.mem_append_right _ (List.mem_append_right _ (List.mem_append_right _ (List.mem_append_right _ (List.mem_append_right _ (List.mem_append_right _ (List.mem_append_left _ h))))))))))))))))))))))
theorem twr_11 : ∀ w ∈ wsL_law_r11, w ∈ wsL_law := fun _ h => (List.mem_append_left _ (List.mem_append_left _ (List.mem_append_left _ (List.mem_append_left _ (List.mem_append_left _ (List.mem_append_left _ (List.mem_append_left _ (List.mem_append_left _ (List.mem_append_left _ (List.mem_append_left _ (List.mem_append_left _ (List.mem_append_left _ (List.mem_append_right _ (List.mem_append_right _ (List.mem_append_right _ (List.mem_append_right _ (List.mem_append_right _ (List.mem_append_right _ (List.mem_append_right _ (List.mem_append_right _ (List.mem_append_right _ (List.mem_append_right _ (List.mem_append_left _ h)))))))))))))))))))))))
theorem twr_12 : ∀ w ∈ wsL_law_r12, w ∈ wsL_law := fun _ h => (List.mem_append_left _ (List.mem_append_left _ (List.mem_append_left _ (List.mem_append_left _ (List.mem_append_left _ (List.mem_append_left _ (List.mem_append_left _ (List.mem_append_left _ (List.mem_append_left _ (List.mem_append_left _ (List.mem_append_left _ (List.mem_append_left _ (List.mem_append_right _ (List.mem_append_right _ (List.mem_append_right _ (List.mem_append_right _ (List.mem_append_right _ (List.mem_append_right _ (List.mem_append_right _ (List.mem_append_right _ (List.mem_append_right _ (List.mem_append_right _ (List.mem_append_right _ (List.mem_append_left _ h))))))))))))))))))))))))
theorem twr_13 : ∀ w ∈ wsL_law_r13, w ∈ wsL_law := fun _ h => (List.mem_append_left _ (List.mem_append_left _ (List.mem_append_left _ (List.mem_append_left _ (List.mem_append_left _ (List.mem_append_left _ (List.mem_append_left _ (List.mem_append_left _ (List.mem_append_left _ (List.mem_append_left _ (List.mem_append_left _ (List.mem_append_left _ (List.mem_append_right _ (List.mem_append_right _ (List.mem_append_right _ (List.mem_append_right _ (List.mem_append_right _ (List.mem_append_right _ (List.mem_append_right _ (List.mem_append_right _ (List.mem_append_right _ (List.mem_append_right _ (List.mem_append_right _ (List.mem_append_right _ (List.mem_append_left _ h)))))))))))))))))))))))))
theorem twr_14 : ∀ w ∈ wsL_law_r14, w ∈ wsL_law := fun _ h => (List.mem_append_left _ (List.mem_append_left _ (List.mem_append_left _ (List.mem_append_left _ (List.mem_append_left _ (List.mem_append_left _ (List.mem_append_left _ (List.mem_append_left _ (List.mem_append_left _ (List.mem_append_left _ (List.mem_append_left _ (List.mem_append_left _ (List.mem_append_right _ (List.mem_append_right _ (List.mem_append_right _ (List.mem_append_right _ (List.mem_append_right _ (List.mem_append_right _ (List.mem_append_right _ (List.mem_append_right _ (List.mem_append_right _ (List.mem_append_right _ (List.mem_append_right _ (List.mem_append_right _ (List.mem_append_right _ (List.mem_append_left _ h))))))))))))))))))))))))))
theorem twr_15 : ∀ w ∈ wsL_law_r15, w ∈ wsL_law := fun _ h => (List.mem_append_left _ (List.mem_append_left _ (List.mem_append_left _ (List.mem_append_left _ (List.mem_append_left _ (List.mem_append_left _ (List.mem_append_left _ (List.mem_append_left _ (List.mem_append_left _ (List.mem_append_left _ (List.mem_append_left _ (List.mem_append_left _ (List.mem_append_right _ (List.mem_append_right _ (List.mem_append_right _ (List.mem_append_right _ (List.mem_append_right _ (List.mem_append_right _ (List.mem_append_right _ (List.mem_append_right _ (List.mem_append_right _ (List.mem_append_right _ (List.mem_append_right _ (List.mem_append_right _ (List.mem_append_right _ (List.mem_append_right _ (List.mem_append_left _ h)))))))))))))))))))))))))))
theorem twr_16 : ∀ w ∈ wsL_law_r16, w ∈ wsL_law := fun _ h => (List.mem_append_left _ (List.mem_append_left _ (List.mem_append_left _ (List.mem_append_left _ (List.mem_append_left _ (List.mem_append_left _ (List.mem_append_left _ (List.mem_append_left _ (List.mem_append_left _ (List.mem_append_left _ (List.mem_append_left _ (List.mem_append_left _ (List.mem_append_right _ (List.mem_append_right _ (List.mem_append_right _ (List.mem_append_right _ (List.mem_append_right _ (List.mem_append_right _ (List.mem_append_right _ (List.mem_append_right _ (List.mem_append_right _ (List.mem_append_right _ (List.mem_append_right _ (List.mem_append_right _ (List.mem_append_right _ (List.mem_append_right _ (List.mem_append_right _ (List.mem_append_left _ h))))))))))))))))))))))))))))
theorem twr_17 : ∀ w ∈ wsL_law_r17, w ∈ wsL_law := fun _ h => (List.mem_append_left _ (List.mem_append_left _ (List.mem_append_left _ (List.mem_append_left _ (List.mem_append_left _ (List.mem_append_left _ (List.mem_append_left _ (List.mem_append_left _ (List.mem_append_left _ (List.mem_append_left _ (List.mem_append_left _ (List.mem_append_left _ (List.mem_append_right _ (List.mem_append_right _ (List.mem_append_right _ (List.mem_append_right _ (List.mem_append_right _ (List.mem_append_right _ (List.mem_append_right _ (List.mem_append_right _ (List.mem_append_right _ (List.mem_append_right _ (List.mem_append_right _ (List.mem_append_right _ (List.mem_append_right _ (List.mem_append_right _ (List.mem_append_right _ (List.mem_append_right _ (List.mem_append_left _ h)))))))))))))))))))))))))))))
theorem twr_18 : ∀ w ∈ wsL_law_r18, w ∈ wsL_law := fun _ h => (List.mem_append_left _ (List.mem_append_left _ (List.mem_append_left _ (List.mem_append_left _ (List.mem_append_left _ (List.mem_append_left _ (List.mem_append_left _ (List.mem_append_left _ (List.mem_append_left _ (List.mem_append_left _ (List.mem_append_left _ (List.mem_append_left _ (List.mem_append_right _ (List.mem_append_right _ (List.mem_append_right _ (List.mem_append_right _ (List.mem_append_right _ (List.mem_append_right _ (List.mem_append_right _ (List.mem_append_right _ (List.mem_append_right _ (List.mem_append_right _ (List.mem_append_right _ (List.mem_append_right _ (List.mem_append_right _ (List.mem_append_right _ (List.mem_append_right _ (List.mem_append_right _ (List.mem_append_right _ (List.mem_append_left _ h))))))))))))))))))))))))))))))
theorem twr_19 : ∀ w ∈ wsL_law_r19, w ∈ wsL_law := fun _ h => (List.mem_append_left _ (List.mem_append_left _ (List.mem_append_left _ (List.mem_append_left _ (List.mem_append_left _ (List.mem_append_left _ (List.mem_append_left _ (List.mem_append_left _ (List.mem_append_left _ (List.mem_append_left _ (List.mem_append_left _ (List.mem_append_left _ (List.mem_append_right _ (List.mem_append_right _ (List.mem_append_right _ (List.mem_append_right _ (List.mem_append_right _ (List.mem_append_right _ (List.mem_append_right _ (List.mem_append_right _ (List.mem_append_right _ (List.mem_append_right _ (List.mem_append_right _ (List.mem_append_right _ (List.mem_append_right _ (List.mem_append_right _ (List.mem_append_right _ (List.mem_append_right _ (List.mem_append_right _ (List.mem_append_right _ (List.mem_append_left _ h)))))))))))))))))))))))))))))))
theorem twr_20 : ∀ w ∈ wsL_law_r20, w ∈ wsL_law := fun _ h => (List.mem_append_left _ (List.mem_append_left _ (List.mem_append_left _ (List.mem_append_left _ (List.mem_append_left _ (List.mem_append_left _ (List.mem_append_left _ (List.mem_append_left _ (List.mem_append_left _ (List.mem_append_left _ (List.mem_append_left _ (List.mem_append_left _ (List.mem_append_right _ (List.mem_append_right _ (List.mem_append_right _ (List.mem_append_right _ (List.mem_append_right _ (List.mem_append_right _ (List.mem_append_right _ (List.mem_append_right _ (List.mem_append_right _ (List.mem_append_right _ (List.mem_append_right _ (List.mem_append_right _ (List.mem_append_right _ (List.mem_append_right _ (List.mem_append_right _ (List.mem_append_right _ (List.mem_append_right _ (List.mem_append_right _ (List.mem_append_right _ (List.mem_append_left _ h))))))))))))))))))))))))))))))))
theorem twr_21 : ∀ w ∈ wsL_law_r21, w ∈ wsL_law := fun _ h => (List.mem_append_left _ (List.mem_append_left _ (List.mem_append_left _ (List.mem_append_left _ (List.mem_append_left _ (List.mem_append_left _ (List.mem_append_left _ (List.mem_append_left _ (List.mem_append_left _ (List.mem_append_left _ (List.mem_append_left _ (List.mem_append_left _ (List.mem_append_right _ (List.mem_append_right _ (List.mem_append_right _ (List.mem_append_right _ (List.mem_append_right _ (List.mem_append_right _ (List.mem_append_right _ (List.mem_append_right _ (List.mem_append_right _ (List.mem_append_right _ (List.mem_append_right _ (List.mem_append_right _ (List.mem_append_right _ (List.mem_append_right _ (List.mem_append_right _ (List.mem_append_right _ (List.mem_append_right _ (List.mem_append_right _ (List.mem_append_right _ (List.mem_append_right _ (List.mem_append_left _ h)))))))))))))))))))))))))))))))))
theorem twr_22 : ∀ w ∈ wsL_law_r22, w ∈ wsL_law := fun _ h => (List.mem_append_left _ (List.mem_append_left _ (List.mem_append_left _ (List.mem_append_left _ (List.mem_append_left _ (List.mem_append_left _ (List.mem_append_left _ (List.mem_append_left _ (List.mem_append_left _ (List.mem_append_left _ (List.mem_append_left _ (List.mem_append_left _ (List.mem_append_right _ (List.mem_append_right _ (List.mem_append_right _ (List.mem_append_right _ (List.mem_append_right _ (List.mem_append_right _ (List.mem_append_right _ (List.mem_append_right _ (List.mem_append_right _ (List.mem_append_right _ (List.mem_append_right _ (List.mem_append_right _ (List.mem_append_right _ (List.mem_append_right _ (List.mem_append_right _ (List.mem_append_right _ (List.mem_append_right _ (List.mem_append_right _ (List.mem_append_right _ (List.mem_append_right _ (List.mem_append_right _ (List.mem_append_left _ h))))))))))))))))))))))))))))))))))
theorem twr_23 : ∀ w ∈ wsL_law_r23, w ∈ wsL_law := fun _ h => (List.mem_append_left _ (List.mem_append_left _ (List.mem_append_left _ (List.mem_append_left _ (List.mem_append_left _ (List.mem_append_left _ (List.mem_append_left _ (List.mem_append_left _ (List.mem_append_left _ (List.mem_append_left _ (List.mem_append_left _ (List.mem_append_left _ (List.mem_append_right _ (List.mem_append_right _ (List.mem_append_right _ (List.mem_append_right _ (List.mem_append_right _ (List.mem_append_right _ (List.mem_append_right _ (List.mem_append_right _ (List.mem_append_right _ (List.mem_append_right _ (List.mem_append_right _ (List.mem_append_right _ (List.mem_append_right _ (List.mem_append_right _ (List.mem_append_right _ (List.mem_append_right _ (List.mem_append_right _ (List.mem_append_right _ (List.mem_append_right _ (List.mem_append_right _ (List.mem_append_right _ (List.mem_append_right _ (List.mem_append_left _ h)))))))))))))))))))))))))))))))))))
theorem twr_24 : ∀ w ∈ wsL_law_r24, w ∈ wsL_law := fun _ h => (List.mem_append_left _ (List.mem_append_left _ (List.mem_append_left _ (List.mem_append_left _ (List.mem_append_left _ (List.mem_append_left _ (List.mem_append_left _ (List.mem_append_left _ (List.mem_append_left _ (List.mem_append_left _ (List.mem_append_left _ (List.mem_append_left _ (List.mem_append_right _ (List.mem_append_right _ (List.mem_append_right _ (List.mem_append_right _ (List.mem_append_right _ (List.mem_append_right _ (List.mem_append_right _ (List.mem_append_right _ (List.mem_append_right _ (List.mem_append_right _ (List.mem_append_right _ (List.mem_append_right _ (List.mem_append_right _ (List.mem_append_right _ (List.mem_append_right _ (List.mem_append_right _ (List.mem_append_right _ (List.mem_append_right _ (List.mem_append_right _ (List.mem_append_right _ (List.mem_append_right _ (List.mem_append_right _ (List.mem_append_right _ (List.mem_append_left _ h))))))))))))))))))))))))))))))))))))
theorem twr_25 : ∀ w ∈ wsL_law_r25, w ∈ wsL_law := fun _ h => (List.mem_append_left _ (List.mem_append_left _ (List.mem_append_left _ (List.mem_append_left _ (List.mem_append_left _ (List.mem_append_left _ (List.mem_append_left _ (List.mem_append_left _ (List.mem_append_left _ (List.mem_append_left _ (List.mem_append_left _ (List.mem_append_left _ (List.mem_append_right _ (List.mem_append_right _ (List.mem_append_right _ (List.mem_append_right _ (List.mem_append_right _ (List.mem_append_right _ (List.mem_append_right _ (List.mem_append_right _ (List.mem_append_right _ (List.mem_append_right _ (List.mem_append_right _ (List.mem_append_right _ (List.mem_append_right _ (List.mem_append_right _ (List.mem_append_right _ (List.mem_append_right _ (List.mem_append_right _ (List.mem_append_right _ (List.mem_append_right _ (List.mem_append_right _ (List.mem_append_right _ (List.mem_append_right _ (List.mem_append_right _ (List.mem_append_right _ (List.mem_append_left _ h)))))))))))))))))))))))))))))))))))))
theorem twr_26 : ∀ w ∈ wsL_law_r26, w ∈ wsL_law := fun _ h => (List.mem_append_left _ (List.mem_append_left _ (List.mem_append_left _ (List.mem_append_left _ (List.mem_append_left _ (List.mem_append_left _ (List.mem_append_left _ (List.mem_append_left _ (List.mem_append_left _ (List.mem_append_left _ (List.mem_append_left _ (List.mem_append_left _ (List.mem_append_right _ (List.mem_append_right _ (List.mem_append_right _ (List.mem_append_right _ (List.mem_append_right _ (List.mem_append_right _ (List.mem_append_right _ (List.mem_append_right _ (List.mem_append_right _ (List.mem_append_right _ (List.mem_append_right _ (List.mem_append_right _ (List.mem_append_right _ (List.mem_append_right _ (List.mem_append_right _ (List.mem_append_right _ (List.mem_append_right _ (List.mem_append_right _ (List.mem_append_right _ (List.mem_append_right _ (List.mem_append_right _ (List.mem_append_right _ (List.mem_append_right _ (List.mem_append_right _ (List.mem_append_right _ (List.mem_append_left _ h))))))))))))))))))))))))))))))))))))))
theorem twr_27 : ∀ w ∈ wsL_law_r27, w ∈ wsL_law := fun _ h => (List.mem_append_left _ (List.mem_append_left _ (List.mem_append_left _ (List.mem_append_left _ (List.mem_append_left _ (List.mem_append_left _ (List.mem_append_left _ (List.mem_append_left _ (List.mem_append_left _ (List.mem_append_left _ (List.mem_append_left _ (List.mem_append_left _ (List.mem_append_right _ (List.mem_append_right _ (List.mem_append_right _ (List.mem_append_right _ (List.mem_append_right _ (List.mem_append_right _ (List.mem_append_right _ (List.mem_append_right _ (List.mem_append_right _ (List.mem_append_right _ (List.mem_append_right _ (List.mem_append_right _ (List.mem_append_right _ (List.mem_append_right _ (List.mem_append_right _ (List.mem_append_right _ (List.mem_append_right _ (List.mem_append_right _ (List.mem_append_right _ (List.mem_append_right _ (List.mem_append_right _ (List.mem_append_right _ (List.mem_append_right _ (List.mem_append_right _ (List.mem_append_right _ (List.mem_append_right _ (List.mem_append_left _ h)))))))))))))))))))))))))))))))))))))))
theorem twr_28 : ∀ w ∈ wsL_law_r28, w ∈ wsL_law := fun _ h => (List.mem_append_left _ (List.mem_append_left _ (List.mem_append_left _ (List.mem_append_left _ (List.mem_append_left _ (List.mem_append_left _ (List.mem_append_left _ (List.mem_append_left _ (List.mem_append_left _ (List.mem_append_left _ (List.mem_append_left _ (List.mem_append_left _ (List.mem_append_right _ (List.mem_append_right _ (List.mem_append_right _ (List.mem_append_right _ (List.mem_append_right _ (List.mem_append_right _ (List.mem_append_right _ (List.mem_append_right _ (List.mem_append_right _ (List.mem_append_right _ (List.mem_append_right _ (List.mem_append_right _ (List.mem_append_right _ (List.mem_append_right _ (List.mem_append_right _ (List.mem_append_right _ (List.mem_append_right _ (List.mem_append_right _ (List.mem_append_right _ (List.mem_append_right _ (List.mem_append_right _ (List.mem_append_right _ (List.mem_append_right _ (List.mem_append_right _ (List.mem_append_right _ (List.mem_append_right _ (List.mem_append_right _ (List.mem_append_left _ h))))))))))))))))))))))))))))))))))))))))
theorem twr_29 : ∀ w ∈ wsL_law_r29, w ∈ wsL_law := fun _ h => (List.mem_append_left _ (List.mem_append_left _ (List.mem_append_left _ (List.mem_append_left _ (List.mem_append_left _ (List.mem_append_left _ (List.mem_append_left _ (List.mem_append_left _ (List.mem_append_left _ (List.mem_append_left _ (List.mem_append_left _ (List.mem_append_left _ (List.mem_append_right _ (List.mem_append_right _ (List.mem_append_right _ (List.mem_append_right _ (List.mem_append_right _ (List.mem_append_right _ (List.mem_append_right _ (List.mem_append_right _ (List.mem_append_right _ (List.mem_append_right _ (List.mem_append_right _ (List.mem_append_right _ (List.mem_append_right _ (List.mem_append_right _ (List.mem_append_right _ (List.mem_append_right _ (List.mem_append_right _ (List.mem_append_right _ (List.mem_append_right _ (List.mem_append_right _ (List.mem_append_right _ (List.mem_append_right _ (List.mem_append_right _ (List.mem_append_right _ (List.mem_append_right _ (List.mem_append_right _ (List.mem_append_right _ (List.mem_append_right _ (List.mem_append_left _ h)))))))))))))))))))))))))))))))))))))))))
theorem twr_30 : ∀ w ∈ wsL_law_r30, w ∈ wsL_law := fun _ h => (List.mem_append_left _ (List.mem_append_left _ (List.mem_append_left _ (List.mem_append_left _ (List.mem_append_left _ (List.mem_append_left _ (List.mem_append_left _ (List.mem_append_left _ (List.mem_append_left _ (List.mem_append_left _ (List.mem_append_left _ (List.mem_append_left _ (List.mem_append_right _ (List.mem_append_right _ (List.mem_append_right _ (List.mem_append_right _ (List.mem_append_right _ (List.mem_append_right _ (List.mem_append_right _ (List.mem_append_right _ (List.mem_append_right _ (List.mem_append_right _ (List.mem_append_right _ (List.mem_append_right _ (List.mem_append_right _ (List.mem_append_right _ (List.mem_append_right _ (List.mem_append_right _ (List.mem_append_right _ (List.mem_append_right _ (List.mem_append_right _ (List.mem_append_right _ (List.mem_append_right _ (List.mem_append_right _ (List.mem_append_right _ (List.mem_append_right _ (List.mem_append_right _ (List.mem_append_right _ (List.mem_append_right _ (List.mem_append_right _ (List.mem_append_right _ (List.mem_append_left _ h))))))))))))))))))))))))))))))))))))))))))
theorem twr_31 : ∀ w ∈ wsL_law_r31, w ∈ wsL_law := fun _ h => (List.mem_append_left _ (List.mem_append_left _ (List.mem_append_left _ (List.mem_append_left _ (List.mem_append_left _ (List.mem_append_left _ (List.mem_append_left _ (List.mem_append_left _ (List.mem_append_left _ (List.mem_append_left _ (List.mem_append_left _ (List.mem_append_left _ (List.mem_append_right _ (List.mem_append_right _ (List.mem_append_right _ (List.mem_append_right _ (List.mem_append_right _ (List.mem_append_right _ (List.mem_append_right _ (List.mem_append_right _ (List.mem_append_right _ (List.mem_append_right _ (List.mem_append_right _ (List.mem_append_right _ (List.mem_append_right _ (List.mem_append_right _ (List.mem_append_right _ (List.mem_append_right _ (List.mem_append_right _ (List.mem_append_right _ (List.mem_append_right _ (List.mem_append_right _ (List.mem_append_right _ (List.mem_append_right _ (List.mem_append_right _ (List.mem_append_right _ (List.mem_append_right _ (List.mem_append_right _ (List.mem_append_right _ (List.mem_append_right _ (List.mem_append_right _ (List.mem_append_right _ (List.mem_append_left _ h)))))))))))))))))))))))))))))))))))))))))))
theorem twr_32 : ∀ w ∈ wsL_law_r32, w ∈ wsL_law := fun _ h => (List.mem_append_left _ (List.mem_append_left _ (List.mem_append_left _ (List.mem_append_left _ (List.mem_append_left _ (List.mem_append_left _ (List.mem_append_left _ (List.mem_append_left _ (List.mem_append_left _ (List.mem_append_left _ (List.mem_append_left _ (List.mem_append_left _ (List.mem_append_right _ (List.mem_append_right _ (List.mem_append_right _ (List.mem_append_right _ (List.mem_append_right _ (List.mem_append_right _ (List.mem_append_right _ (List.mem_append_right _ (List.mem_append_right _ (List.mem_append_right _ (List.mem_append_right _ (List.mem_append_right _ (List.mem_append_right _ (List.mem_append_right _ (List.mem_append_right _ (List.mem_append_right _ (List.mem_append_right _ (List.mem_append_right _ (List.mem_append_right _ (List.mem_append_right _ (List.mem_append_right _ (List.mem_append_right _ (List.mem_append_right _ (List.mem_append_right _ (List.mem_append_right _ (List.mem_append_right _ (List.mem_append_right _ (List.mem_append_right _ (List.mem_append_right _ (List.mem_append_right _ (List.mem_append_right _ (List.mem_append_left _ h))))))))))))))))))))))))))))))))))))))))))))
theorem twr_33 : ∀ w ∈ wsL_law_r33, w ∈ wsL_law := fun _ h => (List.mem_append_left _ (List.mem_append_left _ (List.mem_append_left _ (List.mem_append_left _ (List.mem_append_left _ (List.mem_append_left _ (List.mem_append_left _ (List.mem_append_left _ (List.mem_append_left _ (List.mem_append_left _ (List.mem_append_left _ (List.mem_append_left _ (List.mem_append_right _ (List.mem_append_right _ (List.mem_append_right _ (List.mem_append_right _ (List.mem_append_right _ (List.mem_append_right _ (List.mem_append_right _ (List.mem_append_right _ (List.mem_append_right _ (List.mem_append_right _ (List.mem_append_right _ (List.mem_append_right _ (List.mem_append_right _ (List.mem_append_right _ (List.mem_append_right _ (List.mem_append_right _ (List.mem_append_right _ (List.mem_append_right _ (List.mem_append_right _ (List.mem_append_right _ (List.mem_append_right _ (List.mem_append_right _ (List.mem_append_right _ (List.mem_append_right _ (List.mem_append_right _ (List.mem_append_right _ (List.mem_append_right _ (List.mem_append_right _ (List.mem_append_right _ (List.mem_append_right _ (List.mem_append_right _ (List.mem_append_right _ (List.mem_append_left _ h)))))))))))))))))))))))))))))))))))))))))))))
theorem twr_34 : ∀ w ∈ wsL_law_r34, w ∈ wsL_law := fun _ h => (List.mem_append_left _ (List.mem_append_left _ (List.mem_append_left _ (List.mem_append_left _ (List.mem_append_left _ (List.mem_append_left _ (List.mem_append_left _ (List.mem_append_left _ (List.mem_append_left _ (List.mem_append_left _ (List.mem_append_left _ (List.mem_append_left _ (List.mem_append_right _ (List.mem_append_right _ (List.mem_append_right _ (List.mem_append_right _ (List.mem_append_right _ (List.mem_append_right _ (List.mem_append_right _ (List.mem_append_right _ (List.mem_append_right _ (List.mem_append_right _ (List.mem_append_right _ (List.mem_append_right _ (List.mem_append_right _ (List.mem_append_right _ (List.mem_append_right _ (List.mem_append_right _ (List.mem_append_right _ (List.mem_append_right _ (List.mem_append_right _ (List.mem_append_right _ (List.mem_append_right _ (List.mem_append_right _ (List.mem_append_right _ (List.mem_append_right _ (List.mem_append_right _ (List.mem_append_right _ (List.mem_append_right _ (List.mem_append_right _ (List.mem_append_right _ (List.mem_append_right _ (List.mem_append_right _ (List.mem_append_right _ (List.mem_append_right _ (List.mem_append_left _ h))))))))))))))))))))))))))))))))))))))))))))))
theorem twr_35 : ∀ w ∈ wsL_law_r35, w ∈ wsL_law := fun _ h => (List.mem_append_left _ (List.mem_append_left _ (List.mem_append_left _ (List.mem_append_left _ (List.mem_append_left _ (List.mem_append_left _ (List.mem_append_left _ (List.mem_append_left _ (List.mem_append_left _ (List.mem_append_left _ (List.mem_append_left _ (List.mem_append_left _ (List.mem_append_right _ (List.mem_append_right _ (List.mem_append_right _ (List.mem_append_right _ (List.mem_append_right _ (List.mem_append_right _ (List.mem_append_right _ (List.mem_append_right _ (List.mem_append_right _ (List.mem_append_right _ (List.mem_append_right _ (List.mem_append_right _ (List.mem_append_right _ (List.mem_append_right _ (List.mem_append_right _ (List.mem_append_right _ (List.mem_append_right _ (List.mem_append_right _ (List.mem_append_right _ (List.mem_append_right _ (List.mem_append_right _ (List.mem_append_right _ (List.mem_append_right _ (List.mem_append_right _ (List.mem_append_right _ (List.mem_append_right _ (List.mem_append_right _ (List.mem_append_right _ (List.mem_append_right _ (List.mem_append_right _ (List.mem_append_right _ (List.mem_append_right _ (List.mem_append_right _ (List.mem_append_right _ (List.mem_append_left _ h)))))))))))))))))))))))))))))))))))))))))))))))
theorem twr_36 : ∀ w ∈ wsL_law_r36, w ∈ wsL_law := fun _ h => (List.mem_append_left _ (List.mem_append_left _ (List.mem_append_left _ (List.mem_append_left _ (List.mem_append_left _ (List.mem_append_left _ (List.mem_append_left _ (List.mem_append_left _ (List.mem_append_left _ (List.mem_append_left _ (List.mem_append_left _ (List.mem_append_left _ (List.mem_append_right _ (List.mem_append_right _ (List.mem_append_right _ (List.mem_append_right _ (List.mem_append_right _ (List.mem_append_right _ (List.mem_append_right _ (List.mem_append_right _ (List.mem_append_right _ (List.mem_append_right _ (List.mem_append_right _ (List.mem_append_right _ (List.mem_append_right _ (List.mem_append_right _ (List.mem_append_right _ (List.mem_append_right _ (List.mem_append_right _ (List.mem_append_right _ (List.mem_append_right _ (List.mem_append_right _ (List.mem_append_right _ (List.mem_append_right _ (List.mem_append_right _ (List.mem_append_right _ (List.mem_append_right _ (List.mem_append_right _ (List.mem_append_right _ (List.mem_append_right _ (List.mem_append_right _ (List.mem_append_right _ (List.mem_append_right _ (List.mem_append_right _ (List.mem_append_right _ (List.mem_append_right _ (List.mem_append_right _ (List.mem_append_left _ h))))))))))))))))))))))))))))))))))))))))))))))))
theorem twr_37 : ∀ w ∈ wsL_law_r37, w ∈ wsL_law := fun _ h => (List.mem_append_left _ (List.mem_append_left _ (List.mem_append_left _ (List.mem_append_left _ (List.mem_append_left _ (List.mem_append_left _ (List.mem_append_left _ (List.mem_append_left _ (List.mem_append_left _ (List.mem_append_left _ (List.mem_append_left _ (List.mem_append_left _ (List.mem_append_right _ (List.mem_append_right _ (List.mem_append_right _ (List.mem_append_right _ (List.mem_append_right _ (List.mem_append_right _ (List.mem_append_right _ (List.mem_append_right _ (List.mem_append_right _ (List.mem_append_right _ (List.mem_append_right _ (List.mem_append_right _ (List.mem_append_right _ (List.mem_append_right _ (List.mem_append_right _ (List.mem_append_right _ (List.mem_append_right _ (List.mem_append_right _ (List.mem_append_right _ (List.mem_append_right _ (List.mem_append_right _ (List.mem_append_right _ (List.mem_append_right _ (List.mem_append_right _ (List.mem_append_right _ (List.mem_append_right _ (List.mem_append_right _ (List.mem_append_right _ (List.mem_append_right _ (List.mem_append_right _ (List.mem_append_right _ (List.mem_append_right _ (List.mem_append_right _ (List.mem_append_right _ (List.mem_append_right _ (List.mem_append_right _ (List.mem_append_left _ h)))))))))))))))))))))))))))))))))))))))))))))))))
theorem twr_38 : ∀ w ∈ wsL_law_r38, w ∈ wsL_law := fun _ h => (List.mem_append_left _ (List.mem_append_left _ (List.mem_append_left _ (List.mem_append_left _ (List.mem_append_left _ (List.mem_append_left _ (List.mem_append_left _ (List.mem_append_left _ (List.mem_append_left _ (List.mem_append_left _ (List.mem_append_left _ (List.mem_append_left _ (List.mem_append_right _ (List.mem_append_right _ (List.mem_append_right _ (List.mem_append_right _ (List.mem_append_right _ (List.mem_append_right _ (List.mem_append_right _ (List.mem_append_right _ (List.mem_append_right _ (List.mem_append_right _ (List.mem_append_right _ (List.mem_append_right _ (List.mem_append_right _ (List.mem_append_right _ (List.mem_append_right _ (List.mem_append_right _ (List.mem_append_right _ (List.mem_append_right _ (List.mem_append_right _ (List.mem_append_right _ (List.mem_append_right _ (List.mem_append_right _ (List.mem_append_right _ (List.mem_append_right _ (List.mem_append_right _ (List.mem_append_right _ (List.mem_append_right _ (List.mem_append_right _ (List.mem_append_right _ (List.mem_append_right _ (List.mem_append_right _ (List.mem_append_right _ (List.mem_append_right _ (List.mem_append_right _ (List.mem_append_right _ (List.mem_append_right _ (List.mem_append_right _ (List.mem_append_left _ h))))))))))))))))))))))))))))))))))))))))))))))))))
theorem twr_39 : ∀ w ∈ wsL_law_r39, w ∈ wsL_law := fun _ h => (List.mem_append_left _ (List.mem_append_left _ (List.mem_append_left _ (List.mem_append_left _ (List.mem_append_left _ (List.mem_append_left _ (List.mem_append_left _ (List.mem_append_left _ (List.mem_append_left _ (List.mem_append_left _ (List.mem_append_left _ (List.mem_append_left _ (List.mem_append_right _ (List.mem_append_right _ (List.mem_append_right _ (List.mem_append_right _ (List.mem_append_right _ (List.mem_append_right _ (List.mem_append_right _ (List.mem_append_right _ (List.mem_append_right _ (List.mem_append_right _ (List.mem_append_right _ (List.mem_append_right _ (List.mem_append_right _ (List.mem_append_right _ (List.mem_append_right _ (List.mem_append_right _ (List.mem_append_right _ (List.mem_append_right _ (List.mem_append_right _ (List.mem_append_right _ (List.mem_append_right _ (List.mem_append_right _ (List.mem_append_right _ (List.mem_append_right _ (List.mem_append_right _ (List.mem_append_right _ (List.mem_append_right _ (List.mem_append_right _ (List.mem_append_right _ (List.mem_append_right _ (List.mem_append_right _ (List.mem_append_right _ (List.mem_append_right _ (List.mem_append_right _ (List.mem_append_right _ (List.mem_append_right _ (List.mem_append_right _ (List.mem_append_right _ (List.mem_append_left _ h)))))))))))))))))))))))))))))))))))))))))))))))))))
theorem twr_40 : ∀ w ∈ wsL_law_r40, w ∈ wsL_law := fun _ h => (List.mem_append_left _ (List.mem_append_left _ (List.mem_append_left _ (List.mem_append_left _ (List.mem_append_left _ (List.mem_append_left _ (List.mem_append_left _ (List.mem_append_left _ (List.mem_append_left _ (List.mem_append_left _ (List.mem_append_left _ (List.mem_append_left _ (List.mem_append_right _ (List.mem_append_right _ (List.mem_append_right _ (List.mem_append_right _ (List.mem_append_right _ (List.mem_append_right _ (List.mem_append_right _ (List.mem_append_right _ (List.mem_append_right _ (List.mem_append_right _ (List.mem_append_right _ (List.mem_append_right _ (List.mem_append_right _ (List.mem_append_right _ (List.mem_append_right _ (List.mem_append_right _ (List.mem_append_right _ (List.mem_append_right _ (List.mem_append_right _ (List.mem_append_right _ (List.mem_append_right _ (List.mem_append_right _ (List.mem_append_right _ (List.mem_append_right _ (List.mem_append_right _ (List.mem_append_right _ (List.mem_append_right _ (List.mem_append_right _ (List.mem_append_right _ (List.mem_append_right _ (List.mem_append_right _ (List.mem_append_right _ (List.mem_append_right _ (List.mem_append_right _ (List.mem_append_right _ (List.mem_append_right _ (List.mem_append_right _ (List.mem_append_right _ (List.mem_append_right _ (List.mem_append_left _ h))))))))))))))))))))))))))))))))))))))))))))))))))))
theorem twr_41 : ∀ w ∈ wsL_law_r41, w ∈ wsL_law := fun _ h => (List.mem_append_left _ (List.mem_append_left _ (List.mem_append_left _ (List.mem_append_left _ (List.mem_append_left _ (List.mem_append_left _ (List.mem_append_left _ (List.mem_append_left _ (List.mem_append_left _ (List.mem_append_left _ (List.mem_append_left _ (List.mem_append_left _ (List.mem_append_right _ (List.mem_append_right _ (List.mem_append_right _ (List.mem_append_right _ (List.mem_append_right _ (List.mem_append_right _ (List.mem_append_right _ (List.mem_append_right _ (List.mem_append_right _ (List.mem_append_right _ (List.mem_append_right _ (List.mem_append_right _ (List.mem_append_right _ (List.mem_append_right _ (List.mem_append_right _ (List.mem_append_right _ (List.mem_append_right _ (List.mem_append_right _ (List.mem_append_right _ (List.mem_append_right _ (List.mem_append_right _ (List.mem_append_right _ (List.mem_append_right _ (List.mem_append_right _ (List.mem_append_right _ (List.mem_append_right _ (List.mem_append_right _ (List.mem_append_right _ (List.mem_append_right _ (List.mem_append_right _ (List.mem_append_right _ (List.mem_append_right _ (List.mem_append_right _ (List.mem_append_right _ (List.mem_append_right _ (List.mem_append_right _ (List.mem_append_right _ (List.mem_append_right _ (List.mem_append_right _ (List.mem_append_right _ h))))))))))))))))))))))))))))))))))))))))))))))))))))
theorem tw_0 : Cond.classLink RL 7 RX8 ∈ wsL_law := twr_1 _ (List.mem_of_getElem? (i := 0) rfl)
theorem tw_1 : Cond.instantiable RX8 18 ∈ wsL_law := twr_1 _ (List.mem_of_getElem? (i := 1) rfl)
theorem tw_2 : Cond.initialized RX8 ∈ wsL_law := twr_1 _ (List.mem_of_getElem? (i := 2) rfl)
theorem tw_3 : Cond.classLink RL 10 RX9 ∈ wsL_law := twr_1 _ (List.mem_of_getElem? (i := 3) rfl)
theorem tw_4 : Cond.instantiable RX9 60 ∈ wsL_law := twr_1 _ (List.mem_of_getElem? (i := 4) rfl)
theorem tw_5 : Cond.initialized RX9 ∈ wsL_law := twr_1 _ (List.mem_of_getElem? (i := 5) rfl)
theorem tw_6 : Cond.methodLink RL 9 yX8_init ∈ wsL_law := twr_1 _ (List.mem_of_getElem? (i := 6) rfl)
theorem tw_7 : Cond.instanceMethod yX8_init ∈ wsL_law := twr_1 _ (List.mem_of_getElem? (i := 7) rfl)
theorem tw_8 : Cond.code yX8_init cX8_init 1 none ∈ wsL_law := twr_1 _ (List.mem_of_getElem? (i := 8) rfl)
theorem tw_9 : Cond.methodLink RX8 3 objectInit ∈ wsL_law := twr_1 _ (List.mem_of_getElem? (i := 9) rfl)
theorem tw_10 : Cond.instanceMethod objectInit ∈ wsL_law := twr_1 _ (List.mem_of_getElem? (i := 10) rfl)
theorem tw_11 : Cond.code objectInit ⟨#[0xb1]⟩ 1 none ∈ wsL_law := twr_1 _ (List.mem_of_getElem? (i := 11) rfl)
theorem tw_12 : Cond.arrayClass .byte ∈ wsL_law := twr_1 _ (List.mem_of_getElem? (i := 12) rfl)
theorem tw_13 : Cond.fieldLink RX8 9 "PayScales" "tape" "[B" ∈ wsL_law := twr_1 _ (List.mem_of_getElem? (i := 13) rfl)
theorem tw_14 : Cond.classLink RX8 13 RX4 ∈ wsL_law := twr_1 _ (List.mem_of_getElem? (i := 14) rfl)
theorem tw_15 : Cond.instantiable RX4 8 ∈ wsL_law := twr_1 _ (List.mem_of_getElem? (i := 15) rfl)
theorem tw_16 : Cond.initialized RX4 ∈ wsL_law := twr_1 _ (List.mem_of_getElem? (i := 16) rfl)
theorem tw_17 : Cond.fieldLink RX8 18 "PayScales" "reader" "LPayScales$Reader;" ∈ wsL_law := twr_1 _ (List.mem_of_getElem? (i := 17) rfl)
theorem tw_18 : Cond.classLink RX8 22 RJx4a65c ∈ wsL_law := twr_1 _ (List.mem_of_getElem? (i := 18) rfl)
theorem tw_19 : Cond.instantiable RJx4a65c 3 ∈ wsL_law := twr_1 _ (List.mem_of_getElem? (i := 19) rfl)
theorem tw_20 : Cond.initialized RJx4a65c ∈ wsL_law := twr_1 _ (List.mem_of_getElem? (i := 20) rfl)
theorem tw_21 : Cond.fieldLink RX8 25 "PayScales" "agreements" "Ljava/util/ArrayList;" ∈ wsL_law := twr_1 _ (List.mem_of_getElem? (i := 21) rfl)
theorem tw_22 : Cond.fieldLink RX8 29 "PayScales" "notes" "Ljava/util/ArrayList;" ∈ wsL_law := twr_1 _ (List.mem_of_getElem? (i := 22) rfl)
theorem tw_23 : Cond.arrayClass .int ∈ wsL_law := twr_1 _ (List.mem_of_getElem? (i := 23) rfl)
theorem tw_24 : Cond.fieldLink RX8 32 "PayScales" "persons" "[I" ∈ wsL_law := twr_2 _ (List.mem_of_getElem? (i := 0) rfl)
theorem tw_25 : Cond.classLink RX8 36 RX6 ∈ wsL_law := twr_2 _ (List.mem_of_getElem? (i := 1) rfl)
theorem tw_26 : Cond.instantiable RX6 3 ∈ wsL_law := twr_2 _ (List.mem_of_getElem? (i := 2) rfl)
theorem tw_27 : Cond.initialized RX6 ∈ wsL_law := twr_2 _ (List.mem_of_getElem? (i := 3) rfl)
theorem tw_28 : Cond.fieldLink RX8 39 "PayScales" "rules" "LPayScales$Rules;" ∈ wsL_law := twr_2 _ (List.mem_of_getElem? (i := 4) rfl)
theorem tw_29 : Cond.classLink RX8 43 RX7 ∈ wsL_law := twr_2 _ (List.mem_of_getElem? (i := 5) rfl)
theorem tw_30 : Cond.instantiable RX7 18 ∈ wsL_law := twr_2 _ (List.mem_of_getElem? (i := 6) rfl)
theorem tw_31 : Cond.initialized RX7 ∈ wsL_law := twr_2 _ (List.mem_of_getElem? (i := 7) rfl)
theorem tw_32 : Cond.fieldLink RX8 48 "PayScales" "walk" "LPayScales$Walk;" ∈ wsL_law := twr_2 _ (List.mem_of_getElem? (i := 8) rfl)
theorem tw_33 : Cond.arrayClass .long ∈ wsL_law := twr_2 _ (List.mem_of_getElem? (i := 9) rfl)
theorem tw_34 : Cond.fieldLink RX8 52 "PayScales" "paidSums" "[J" ∈ wsL_law := twr_2 _ (List.mem_of_getElem? (i := 10) rfl)
theorem tw_35 : Cond.classLink RX8 56 RX5 ∈ wsL_law := twr_2 _ (List.mem_of_getElem? (i := 11) rfl)
theorem tw_36 : Cond.instantiable RX5 3 ∈ wsL_law := twr_2 _ (List.mem_of_getElem? (i := 12) rfl)
theorem tw_37 : Cond.initialized RX5 ∈ wsL_law := twr_2 _ (List.mem_of_getElem? (i := 13) rfl)
theorem tw_38 : Cond.fieldLink RX8 61 "PayScales" "payments" "LPayScales$Rows;" ∈ wsL_law := twr_2 _ (List.mem_of_getElem? (i := 14) rfl)
theorem tw_39 : Cond.fieldLink RX8 65 "PayScales" "pairs" "LPayScales$Rows;" ∈ wsL_law := twr_2 _ (List.mem_of_getElem? (i := 15) rfl)
theorem tw_40 : Cond.fieldLink RX8 68 "PayScales" "meetings" "LPayScales$Rows;" ∈ wsL_law := twr_2 _ (List.mem_of_getElem? (i := 16) rfl)
theorem tw_41 : Cond.fieldLink RX8 71 "PayScales" "pointsOfPosts" "[I" ∈ wsL_law := twr_2 _ (List.mem_of_getElem? (i := 17) rfl)
theorem tw_42 : Cond.fieldLink RX8 74 "PayScales" "amountsOfPosts" "[I" ∈ wsL_law := twr_2 _ (List.mem_of_getElem? (i := 18) rfl)
theorem tw_43 : Cond.methodLink RX8 15 yX4_init ∈ wsL_law := twr_2 _ (List.mem_of_getElem? (i := 19) rfl)
theorem tw_44 : Cond.instanceMethod yX4_init ∈ wsL_law := twr_2 _ (List.mem_of_getElem? (i := 20) rfl)
theorem tw_45 : Cond.code yX4_init cX4_init 2 none ∈ wsL_law := twr_2 _ (List.mem_of_getElem? (i := 21) rfl)
theorem tw_46 : Cond.methodLink RX4 3 objectInit ∈ wsL_law := twr_2 _ (List.mem_of_getElem? (i := 22) rfl)
theorem tw_47 : Cond.arrayClass .boolean ∈ wsL_law := twr_2 _ (List.mem_of_getElem? (i := 23) rfl)
theorem tw_48 : Cond.fieldLink RX4 9 "PayScales$Reader" "seenKeys" "[Z" ∈ wsL_law := twr_3 _ (List.mem_of_getElem? (i := 0) rfl)
theorem tw_49 : Cond.fieldLink RX4 15 "PayScales$Reader" "place" "I" ∈ wsL_law := twr_3 _ (List.mem_of_getElem? (i := 1) rfl)
theorem tw_50 : Cond.fieldLink RX4 19 "PayScales$Reader" "text" "[B" ∈ wsL_law := twr_3 _ (List.mem_of_getElem? (i := 2) rfl)
theorem tw_51 : Cond.methodLink RX8 24 yJx4a65c_init_da8c8 ∈ wsL_law := twr_3 _ (List.mem_of_getElem? (i := 3) rfl)
theorem tw_52 : Cond.instanceMethod yJx4a65c_init_da8c8 ∈ wsL_law := twr_3 _ (List.mem_of_getElem? (i := 4) rfl)
theorem tw_53 : Cond.code yJx4a65c_init_da8c8 cJx4a65c_init_da8c8 1 none ∈ wsL_law := twr_3 _ (List.mem_of_getElem? (i := 5) rfl)
theorem tw_54 : Cond.fieldLink RJx4a65c 39 "java/util/ArrayList" "DEFAULTCAPACITY_EMPTY_ELEMENTDATA" "[Ljava/lang/Object;" ∈ wsL_law := twr_3 _ (List.mem_of_getElem? (i := 6) rfl)
theorem tw_55 : Cond.fieldLink RJx4a65c 9 "java/util/ArrayList" "elementData" "[Ljava/lang/Object;" ∈ wsL_law := twr_3 _ (List.mem_of_getElem? (i := 7) rfl)
theorem tw_56 : Cond.methodLink RJx4a65c 1 yJxc12de_init_da8c8 ∈ wsL_law := twr_3 _ (List.mem_of_getElem? (i := 8) rfl)
theorem tw_57 : Cond.instanceMethod yJxc12de_init_da8c8 ∈ wsL_law := twr_3 _ (List.mem_of_getElem? (i := 9) rfl)
theorem tw_58 : Cond.initialized RJxc12de ∈ wsL_law := twr_3 _ (List.mem_of_getElem? (i := 10) rfl)
theorem tw_59 : Cond.code yJxc12de_init_da8c8 cJxc12de_init_da8c8 1 none ∈ wsL_law := twr_3 _ (List.mem_of_getElem? (i := 11) rfl)
theorem tw_60 : Cond.fieldLink RJxc12de 7 "java/util/AbstractList" "modCount" "I" ∈ wsL_law := twr_3 _ (List.mem_of_getElem? (i := 12) rfl)
theorem tw_61 : Cond.methodLink RJxc12de 1 yJxa1e45_init_da8c8 ∈ wsL_law := twr_3 _ (List.mem_of_getElem? (i := 13) rfl)
theorem tw_62 : Cond.instanceMethod yJxa1e45_init_da8c8 ∈ wsL_law := twr_3 _ (List.mem_of_getElem? (i := 14) rfl)
theorem tw_63 : Cond.initialized RJxa1e45 ∈ wsL_law := twr_3 _ (List.mem_of_getElem? (i := 15) rfl)
theorem tw_64 : Cond.code yJxa1e45_init_da8c8 cJxa1e45_init_da8c8 1 none ∈ wsL_law := twr_3 _ (List.mem_of_getElem? (i := 16) rfl)
theorem tw_65 : Cond.methodLink RJxa1e45 1 objectInit ∈ wsL_law := twr_3 _ (List.mem_of_getElem? (i := 17) rfl)
theorem tw_66 : Cond.instanceMethod yX6_init ∈ wsL_law := twr_3 _ (List.mem_of_getElem? (i := 18) rfl)
theorem tw_67 : Cond.code yX6_init cX6_init 1 none ∈ wsL_law := twr_3 _ (List.mem_of_getElem? (i := 19) rfl)
theorem tw_68 : Cond.methodLink RX6 3 objectInit ∈ wsL_law := twr_3 _ (List.mem_of_getElem? (i := 20) rfl)
theorem tw_69 : Cond.classLink RX6 9 RX2 ∈ wsL_law := twr_3 _ (List.mem_of_getElem? (i := 21) rfl)
theorem tw_70 : Cond.fieldLink RX6 11 "PayScales$Rules" "winners" "[LPayScales$Line;" ∈ wsL_law := twr_3 _ (List.mem_of_getElem? (i := 22) rfl)
theorem tw_71 : Cond.fieldLink RX6 17 "PayScales$Rules" "winnerAgreements" "[I" ∈ wsL_law := twr_3 _ (List.mem_of_getElem? (i := 23) rfl)
theorem tw_72 : Cond.fieldLink RX6 21 "PayScales$Rules" "lineCounts" "[I" ∈ wsL_law := twr_4 _ (List.mem_of_getElem? (i := 0) rfl)
theorem tw_73 : Cond.methodLink RX8 45 yX7_init ∈ wsL_law := twr_4 _ (List.mem_of_getElem? (i := 1) rfl)
theorem tw_74 : Cond.instanceMethod yX7_init ∈ wsL_law := twr_4 _ (List.mem_of_getElem? (i := 2) rfl)
theorem tw_75 : Cond.code yX7_init cX7_init 5 none ∈ wsL_law := twr_4 _ (List.mem_of_getElem? (i := 3) rfl)
theorem tw_76 : Cond.methodLink RX7 3 objectInit ∈ wsL_law := twr_4 _ (List.mem_of_getElem? (i := 4) rfl)
theorem tw_77 : Cond.classLink RX7 9 RX1 ∈ wsL_law := twr_4 _ (List.mem_of_getElem? (i := 5) rfl)
theorem tw_78 : Cond.instantiable RX1 7 ∈ wsL_law := twr_4 _ (List.mem_of_getElem? (i := 6) rfl)
theorem tw_79 : Cond.initialized RX1 ∈ wsL_law := twr_4 _ (List.mem_of_getElem? (i := 7) rfl)
theorem tw_80 : Cond.fieldLink RX7 12 "PayScales$Walk" "appraisal" "LPayScales$Appraisal;" ∈ wsL_law := twr_4 _ (List.mem_of_getElem? (i := 8) rfl)
theorem tw_81 : Cond.fieldLink RX7 18 "PayScales$Walk" "values" "[I" ∈ wsL_law := twr_4 _ (List.mem_of_getElem? (i := 9) rfl)
theorem tw_82 : Cond.fieldLink RX7 22 "PayScales$Walk" "heldPosts" "[I" ∈ wsL_law := twr_4 _ (List.mem_of_getElem? (i := 10) rfl)
theorem tw_83 : Cond.fieldLink RX7 25 "PayScales$Walk" "agreements" "Ljava/util/ArrayList;" ∈ wsL_law := twr_4 _ (List.mem_of_getElem? (i := 11) rfl)
theorem tw_84 : Cond.fieldLink RX7 29 "PayScales$Walk" "notes" "Ljava/util/ArrayList;" ∈ wsL_law := twr_4 _ (List.mem_of_getElem? (i := 12) rfl)
theorem tw_85 : Cond.fieldLink RX7 32 "PayScales$Walk" "persons" "[I" ∈ wsL_law := twr_4 _ (List.mem_of_getElem? (i := 13) rfl)
theorem tw_86 : Cond.fieldLink RX7 35 "PayScales$Walk" "rules" "LPayScales$Rules;" ∈ wsL_law := twr_4 _ (List.mem_of_getElem? (i := 14) rfl)
theorem tw_87 : Cond.instanceMethod yX1_init ∈ wsL_law := twr_4 _ (List.mem_of_getElem? (i := 15) rfl)
theorem tw_88 : Cond.code yX1_init cX1_init 1 none ∈ wsL_law := twr_4 _ (List.mem_of_getElem? (i := 16) rfl)
theorem tw_89 : Cond.methodLink RX1 3 objectInit ∈ wsL_law := twr_4 _ (List.mem_of_getElem? (i := 17) rfl)
theorem tw_90 : Cond.methodLink RX8 58 yX5_init ∈ wsL_law := twr_4 _ (List.mem_of_getElem? (i := 18) rfl)
theorem tw_91 : Cond.instanceMethod yX5_init ∈ wsL_law := twr_4 _ (List.mem_of_getElem? (i := 19) rfl)
theorem tw_92 : Cond.code yX5_init cX5_init 3 none ∈ wsL_law := twr_4 _ (List.mem_of_getElem? (i := 20) rfl)
theorem tw_93 : Cond.methodLink RX5 3 objectInit ∈ wsL_law := twr_4 _ (List.mem_of_getElem? (i := 21) rfl)
theorem tw_94 : Cond.fieldLink RX5 9 "PayScales$Rows" "width" "I" ∈ wsL_law := twr_4 _ (List.mem_of_getElem? (i := 22) rfl)
theorem tw_95 : Cond.methodLink RX5 15 Lib.Math.max.name ∈ wsL_law := twr_4 _ (List.mem_of_getElem? (i := 23) rfl)
theorem tw_96 : Cond.static Lib.Math.max.name ∈ wsL_law := twr_5 _ (List.mem_of_getElem? (i := 0) rfl)
theorem tw_97 : Cond.initialized "java/lang/Math" ∈ wsL_law := twr_5 _ (List.mem_of_getElem? (i := 1) rfl)
theorem tw_98 : Cond.code Lib.Math.max.name Lib.Math.max.code 2 (some .int) ∈ wsL_law := twr_5 _ (List.mem_of_getElem? (i := 2) rfl)
theorem tw_99 : Cond.fieldLink RX5 21 "PayScales$Rows" "cells" "[J" ∈ wsL_law := twr_5 _ (List.mem_of_getElem? (i := 3) rfl)
theorem tw_100 : Cond.methodLink RL 12 yX9_init ∈ wsL_law := twr_5 _ (List.mem_of_getElem? (i := 4) rfl)
theorem tw_101 : Cond.instanceMethod yX9_init ∈ wsL_law := twr_5 _ (List.mem_of_getElem? (i := 5) rfl)
theorem tw_102 : Cond.code yX9_init cX9_init 1 none ∈ wsL_law := twr_5 _ (List.mem_of_getElem? (i := 6) rfl)
theorem tw_103 : Cond.methodLink RX9 1 objectInit ∈ wsL_law := twr_5 _ (List.mem_of_getElem? (i := 7) rfl)
theorem tw_104 : Cond.fieldLink RX9 7 "PayScalesModel" "tape" "[I" ∈ wsL_law := twr_5 _ (List.mem_of_getElem? (i := 8) rfl)
theorem tw_105 : Cond.fieldLink RX9 13 "PayScalesModel" "toldOn" "[I" ∈ wsL_law := twr_5 _ (List.mem_of_getElem? (i := 9) rfl)
theorem tw_106 : Cond.fieldLink RX9 16 "PayScalesModel" "fromDay" "[I" ∈ wsL_law := twr_5 _ (List.mem_of_getElem? (i := 10) rfl)
theorem tw_107 : Cond.fieldLink RX9 19 "PayScalesModel" "firstLine" "[I" ∈ wsL_law := twr_5 _ (List.mem_of_getElem? (i := 11) rfl)
theorem tw_108 : Cond.fieldLink RX9 22 "PayScalesModel" "lineKey" "[I" ∈ wsL_law := twr_5 _ (List.mem_of_getElem? (i := 12) rfl)
theorem tw_109 : Cond.fieldLink RX9 25 "PayScalesModel" "isEnd" "[Z" ∈ wsL_law := twr_5 _ (List.mem_of_getElem? (i := 13) rfl)
theorem tw_110 : Cond.fieldLink RX9 29 "PayScalesModel" "lineFact" "[I" ∈ wsL_law := twr_5 _ (List.mem_of_getElem? (i := 14) rfl)
theorem tw_111 : Cond.fieldLink RX9 32 "PayScalesModel" "lineSign" "[I" ∈ wsL_law := twr_5 _ (List.mem_of_getElem? (i := 15) rfl)
theorem tw_112 : Cond.fieldLink RX9 35 "PayScalesModel" "lineBy" "[I" ∈ wsL_law := twr_5 _ (List.mem_of_getElem? (i := 16) rfl)
theorem tw_113 : Cond.fieldLink RX9 38 "PayScalesModel" "lineNumber" "[I" ∈ wsL_law := twr_5 _ (List.mem_of_getElem? (i := 17) rfl)
theorem tw_114 : Cond.fieldLink RX9 41 "PayScalesModel" "isShare" "[Z" ∈ wsL_law := twr_5 _ (List.mem_of_getElem? (i := 18) rfl)
theorem tw_115 : Cond.fieldLink RX9 44 "PayScalesModel" "scales" "[I" ∈ wsL_law := twr_5 _ (List.mem_of_getElem? (i := 19) rfl)
theorem tw_116 : Cond.fieldLink RX9 47 "PayScalesModel" "scaleMany" "[I" ∈ wsL_law := twr_5 _ (List.mem_of_getElem? (i := 20) rfl)
theorem tw_117 : Cond.fieldLink RX9 50 "PayScalesModel" "lastPlace" "I" ∈ wsL_law := twr_5 _ (List.mem_of_getElem? (i := 21) rfl)
theorem tw_118 : Cond.fieldLink RX9 54 "PayScalesModel" "personOf" "[I" ∈ wsL_law := twr_5 _ (List.mem_of_getElem? (i := 22) rfl)
theorem tw_119 : Cond.fieldLink RX9 57 "PayScalesModel" "notePost" "[I" ∈ wsL_law := twr_5 _ (List.mem_of_getElem? (i := 23) rfl)
theorem tw_120 : Cond.fieldLink RX9 60 "PayScalesModel" "noteWhat" "[I" ∈ wsL_law := twr_6 _ (List.mem_of_getElem? (i := 0) rfl)
theorem tw_121 : Cond.fieldLink RX9 63 "PayScalesModel" "noteFrom" "[I" ∈ wsL_law := twr_6 _ (List.mem_of_getElem? (i := 1) rfl)
theorem tw_122 : Cond.fieldLink RX9 66 "PayScalesModel" "noteTold" "[I" ∈ wsL_law := twr_6 _ (List.mem_of_getElem? (i := 2) rfl)
theorem tw_123 : Cond.fieldLink RX9 69 "PayScalesModel" "noteValue" "[I" ∈ wsL_law := twr_6 _ (List.mem_of_getElem? (i := 3) rfl)
theorem tw_124 : Cond.fieldLink RX9 72 "PayScalesModel" "wins" "[I" ∈ wsL_law := twr_6 _ (List.mem_of_getElem? (i := 4) rfl)
theorem tw_125 : Cond.fieldLink RX9 75 "PayScalesModel" "winner" "[I" ∈ wsL_law := twr_6 _ (List.mem_of_getElem? (i := 5) rfl)
theorem tw_126 : Cond.fieldLink RX9 78 "PayScalesModel" "meets" "[I" ∈ wsL_law := twr_6 _ (List.mem_of_getElem? (i := 6) rfl)
theorem tw_127 : Cond.fieldLink RX9 81 "PayScalesModel" "now" "[I" ∈ wsL_law := twr_6 _ (List.mem_of_getElem? (i := 7) rfl)
theorem tw_128 : Cond.fieldLink RX9 84 "PayScalesModel" "service" "[I" ∈ wsL_law := twr_6 _ (List.mem_of_getElem? (i := 8) rfl)
theorem tw_129 : Cond.fieldLink RX9 87 "PayScalesModel" "away" "[I" ∈ wsL_law := twr_6 _ (List.mem_of_getElem? (i := 9) rfl)
theorem tw_130 : Cond.fieldLink RX9 90 "PayScalesModel" "points" "[I" ∈ wsL_law := twr_6 _ (List.mem_of_getElem? (i := 10) rfl)
theorem tw_131 : Cond.fieldLink RX9 93 "PayScalesModel" "grade" "[I" ∈ wsL_law := twr_6 _ (List.mem_of_getElem? (i := 11) rfl)
theorem tw_132 : Cond.fieldLink RX9 96 "PayScalesModel" "step" "[I" ∈ wsL_law := twr_6 _ (List.mem_of_getElem? (i := 12) rfl)
theorem tw_133 : Cond.fieldLink RX9 99 "PayScalesModel" "basePay" "[I" ∈ wsL_law := twr_6 _ (List.mem_of_getElem? (i := 13) rfl)
theorem tw_134 : Cond.fieldLink RX9 102 "PayScalesModel" "amount" "[I" ∈ wsL_law := twr_6 _ (List.mem_of_getElem? (i := 14) rfl)
theorem tw_135 : Cond.fieldLink RX9 105 "PayScalesModel" "given" "[I" ∈ wsL_law := twr_6 _ (List.mem_of_getElem? (i := 15) rfl)
theorem tw_136 : Cond.fieldLink RX9 108 "PayScalesModel" "floor" "[I" ∈ wsL_law := twr_6 _ (List.mem_of_getElem? (i := 16) rfl)
theorem tw_137 : Cond.fieldLink RX9 111 "PayScalesModel" "hasFloor" "[Z" ∈ wsL_law := twr_6 _ (List.mem_of_getElem? (i := 17) rfl)
theorem tw_138 : Cond.fieldLink RX9 114 "PayScalesModel" "dues" "[J" ∈ wsL_law := twr_6 _ (List.mem_of_getElem? (i := 18) rfl)
theorem tw_139 : Cond.fieldLink RX9 118 "PayScalesModel" "paid" "[J" ∈ wsL_law := twr_6 _ (List.mem_of_getElem? (i := 19) rfl)
theorem tw_140 : Cond.fieldLink RX9 121 "PayScalesModel" "paymentPost" "[I" ∈ wsL_law := twr_6 _ (List.mem_of_getElem? (i := 20) rfl)
theorem tw_141 : Cond.fieldLink RX9 124 "PayScalesModel" "paymentMonth" "[I" ∈ wsL_law := twr_6 _ (List.mem_of_getElem? (i := 21) rfl)
theorem tw_142 : Cond.fieldLink RX9 127 "PayScalesModel" "payments" "[J" ∈ wsL_law := twr_6 _ (List.mem_of_getElem? (i := 22) rfl)
theorem tw_143 : Cond.fieldLink RX9 130 "PayScalesModel" "pairs" "[I" ∈ wsL_law := twr_6 _ (List.mem_of_getElem? (i := 23) rfl)
theorem tw_144 : Cond.fieldLink RX9 133 "PayScalesModel" "mets" "[I" ∈ wsL_law := twr_7 _ (List.mem_of_getElem? (i := 0) rfl)
theorem tw_145 : Cond.methodLink RL 13 yX8_feed ∈ wsL_law := twr_7 _ (List.mem_of_getElem? (i := 1) rfl)
theorem tw_146 : Cond.instanceMethod yX8_feed ∈ wsL_law := twr_7 _ (List.mem_of_getElem? (i := 2) rfl)
theorem tw_147 : Cond.selects RX8 yX8_feed yX8_feed ∈ wsL_law := twr_7 _ (List.mem_of_getElem? (i := 3) rfl)
theorem tw_148 : Cond.code yX8_feed cX8_feed 6 (some .int) ∈ wsL_law := twr_7 _ (List.mem_of_getElem? (i := 4) rfl)
theorem tw_149 : Cond.fieldLink RX8 77 "PayScales" "tapeLength" "I" ∈ wsL_law := twr_7 _ (List.mem_of_getElem? (i := 5) rfl)
theorem tw_150 : Cond.methodLink RX8 81 yX8_feedNumber ∈ wsL_law := twr_7 _ (List.mem_of_getElem? (i := 6) rfl)
theorem tw_151 : Cond.instanceMethod yX8_feedNumber ∈ wsL_law := twr_7 _ (List.mem_of_getElem? (i := 7) rfl)
theorem tw_152 : Cond.selects RX8 yX8_feedNumber yX8_feedNumber ∈ wsL_law := twr_7 _ (List.mem_of_getElem? (i := 8) rfl)
theorem tw_153 : Cond.code yX8_feedNumber cX8_feedNumber 3 none ∈ wsL_law := twr_7 _ (List.mem_of_getElem? (i := 9) rfl)
theorem tw_154 : Cond.methodLink RL 17 yX9_feed ∈ wsL_law := twr_7 _ (List.mem_of_getElem? (i := 10) rfl)
theorem tw_155 : Cond.instanceMethod yX9_feed ∈ wsL_law := twr_7 _ (List.mem_of_getElem? (i := 11) rfl)
theorem tw_156 : Cond.selects RX9 yX9_feed yX9_feed ∈ wsL_law := twr_7 _ (List.mem_of_getElem? (i := 12) rfl)
theorem tw_157 : Cond.code yX9_feed cX9_feed 8 (some .int) ∈ wsL_law := twr_7 _ (List.mem_of_getElem? (i := 13) rfl)
theorem tw_158 : Cond.fieldLink RX9 136 "PayScalesModel" "thrown" "I" ∈ wsL_law := twr_7 _ (List.mem_of_getElem? (i := 14) rfl)
theorem tw_159 : Cond.fieldLink RX9 139 "PayScalesModel" "taped" "I" ∈ wsL_law := twr_7 _ (List.mem_of_getElem? (i := 15) rfl)
theorem tw_160 : Cond.methodLink RL 18 yX8_agree ∈ wsL_law := twr_7 _ (List.mem_of_getElem? (i := 16) rfl)
theorem tw_161 : Cond.instanceMethod yX8_agree ∈ wsL_law := twr_7 _ (List.mem_of_getElem? (i := 17) rfl)
theorem tw_162 : Cond.selects RX8 yX8_agree yX8_agree ∈ wsL_law := twr_7 _ (List.mem_of_getElem? (i := 18) rfl)
theorem tw_163 : Cond.code yX8_agree cX8_agree 5 (some .int) ∈ wsL_law := twr_7 _ (List.mem_of_getElem? (i := 19) rfl)
theorem tw_164 : Cond.fieldLink RX8 97 "PayScales$Reader" "fault" "I" ∈ wsL_law := twr_7 _ (List.mem_of_getElem? (i := 20) rfl)
theorem tw_165 : Cond.classLink RX8 100 RX0 ∈ wsL_law := twr_7 _ (List.mem_of_getElem? (i := 21) rfl)
theorem tw_166 : Cond.instantiable RX0 4 ∈ wsL_law := twr_7 _ (List.mem_of_getElem? (i := 22) rfl)
theorem tw_167 : Cond.initialized RX0 ∈ wsL_law := twr_7 _ (List.mem_of_getElem? (i := 23) rfl)
theorem tw_168 : Cond.fieldLink RX8 102 "PayScales" "today" "I" ∈ wsL_law := twr_8 _ (List.mem_of_getElem? (i := 0) rfl)
theorem tw_169 : Cond.fieldLink RX8 116 "PayScales" "lineCount" "I" ∈ wsL_law := twr_8 _ (List.mem_of_getElem? (i := 1) rfl)
theorem tw_170 : Cond.fieldLink RX8 119 "PayScales$Agreement" "number" "I" ∈ wsL_law := twr_8 _ (List.mem_of_getElem? (i := 2) rfl)
theorem tw_171 : Cond.methodLink RX8 85 yX8_isDay ∈ wsL_law := twr_8 _ (List.mem_of_getElem? (i := 3) rfl)
theorem tw_172 : Cond.static yX8_isDay ∈ wsL_law := twr_8 _ (List.mem_of_getElem? (i := 4) rfl)
theorem tw_173 : Cond.code yX8_isDay cX8_isDay 1 (some .boolean) ∈ wsL_law := twr_8 _ (List.mem_of_getElem? (i := 5) rfl)
theorem tw_174 : Cond.methodLink RX8 89 yJx4a65c_size_8abf5 ∈ wsL_law := twr_8 _ (List.mem_of_getElem? (i := 6) rfl)
theorem tw_175 : Cond.instanceMethod yJx4a65c_size_8abf5 ∈ wsL_law := twr_8 _ (List.mem_of_getElem? (i := 7) rfl)
theorem tw_176 : Cond.selects RJx4a65c yJx4a65c_size_8abf5 yJx4a65c_size_8abf5 ∈ wsL_law := twr_8 _ (List.mem_of_getElem? (i := 8) rfl)
theorem tw_177 : Cond.code yJx4a65c_size_8abf5 cJx4a65c_size_8abf5 1 (some .int) ∈ wsL_law := twr_8 _ (List.mem_of_getElem? (i := 9) rfl)
theorem tw_178 : Cond.fieldLink RJx4a65c 48 "java/util/ArrayList" "size" "I" ∈ wsL_law := twr_8 _ (List.mem_of_getElem? (i := 10) rfl)
theorem tw_179 : Cond.methodLink RX8 93 yX4_read ∈ wsL_law := twr_8 _ (List.mem_of_getElem? (i := 11) rfl)
theorem tw_180 : Cond.instanceMethod yX4_read ∈ wsL_law := twr_8 _ (List.mem_of_getElem? (i := 12) rfl)
theorem tw_181 : Cond.selects RX4 yX4_read yX4_read ∈ wsL_law := twr_8 _ (List.mem_of_getElem? (i := 13) rfl)
theorem tw_182 : Cond.code yX4_read cX4_read 7 (some (.object "java/util/ArrayList")) ∈ wsL_law := twr_8 _ (List.mem_of_getElem? (i := 14) rfl)
theorem tw_183 : Cond.classLink RX4 23 RJx4a65c ∈ wsL_law := twr_8 _ (List.mem_of_getElem? (i := 15) rfl)
theorem tw_184 : Cond.fieldLink RX4 30 "PayScales$Reader" "fault" "I" ∈ wsL_law := twr_8 _ (List.mem_of_getElem? (i := 16) rfl)
theorem tw_185 : Cond.fieldLink RX4 33 "PayScales$Reader" "kind" "I" ∈ wsL_law := twr_8 _ (List.mem_of_getElem? (i := 17) rfl)
theorem tw_186 : Cond.fieldLink RX4 36 "PayScales$Reader" "start" "I" ∈ wsL_law := twr_8 _ (List.mem_of_getElem? (i := 18) rfl)
theorem tw_187 : Cond.methodLink RX4 25 yJx4a65c_init_da8c8 ∈ wsL_law := twr_8 _ (List.mem_of_getElem? (i := 19) rfl)
theorem tw_188 : Cond.methodLink RX4 26 yX4_begin ∈ wsL_law := twr_8 _ (List.mem_of_getElem? (i := 20) rfl)
theorem tw_189 : Cond.instanceMethod yX4_begin ∈ wsL_law := twr_8 _ (List.mem_of_getElem? (i := 21) rfl)
theorem tw_190 : Cond.selects RX4 yX4_begin yX4_begin ∈ wsL_law := twr_8 _ (List.mem_of_getElem? (i := 22) rfl)
theorem tw_191 : Cond.code yX4_begin cX4_begin 3 none ∈ wsL_law := twr_8 _ (List.mem_of_getElem? (i := 23) rfl)
theorem tw_192 : Cond.fieldLink RX4 71 "PayScales$Reader" "length" "I" ∈ wsL_law := twr_9 _ (List.mem_of_getElem? (i := 0) rfl)
theorem tw_193 : Cond.fieldLink RX4 74 "PayScales$Reader" "behind" "I" ∈ wsL_law := twr_9 _ (List.mem_of_getElem? (i := 1) rfl)
theorem tw_194 : Cond.methodLink RX4 77 yX4_advance ∈ wsL_law := twr_9 _ (List.mem_of_getElem? (i := 2) rfl)
theorem tw_195 : Cond.instanceMethod yX4_advance ∈ wsL_law := twr_9 _ (List.mem_of_getElem? (i := 3) rfl)
theorem tw_196 : Cond.selects RX4 yX4_advance yX4_advance ∈ wsL_law := twr_9 _ (List.mem_of_getElem? (i := 4) rfl)
theorem tw_197 : Cond.code yX4_advance cX4_advance 2 none ∈ wsL_law := twr_9 _ (List.mem_of_getElem? (i := 5) rfl)
theorem tw_198 : Cond.methodLink RX4 183 yX4_kindAt ∈ wsL_law := twr_9 _ (List.mem_of_getElem? (i := 6) rfl)
theorem tw_199 : Cond.instanceMethod yX4_kindAt ∈ wsL_law := twr_9 _ (List.mem_of_getElem? (i := 7) rfl)
theorem tw_200 : Cond.selects RX4 yX4_kindAt yX4_kindAt ∈ wsL_law := twr_9 _ (List.mem_of_getElem? (i := 8) rfl)
theorem tw_201 : Cond.code yX4_kindAt cX4_kindAt 3 (some .int) ∈ wsL_law := twr_9 _ (List.mem_of_getElem? (i := 9) rfl)
theorem tw_202 : Cond.methodLink RX4 140 yX4_byteAt ∈ wsL_law := twr_9 _ (List.mem_of_getElem? (i := 10) rfl)
theorem tw_203 : Cond.instanceMethod yX4_byteAt ∈ wsL_law := twr_9 _ (List.mem_of_getElem? (i := 11) rfl)
theorem tw_204 : Cond.selects RX4 yX4_byteAt yX4_byteAt ∈ wsL_law := twr_9 _ (List.mem_of_getElem? (i := 12) rfl)
theorem tw_205 : Cond.code yX4_byteAt cX4_byteAt 2 (some .int) ∈ wsL_law := twr_9 _ (List.mem_of_getElem? (i := 13) rfl)
theorem tw_206 : Cond.methodLink RX4 39 yJx4a65c_size_8abf5 ∈ wsL_law := twr_9 _ (List.mem_of_getElem? (i := 14) rfl)
theorem tw_207 : Cond.methodLink RX4 43 yX4_takeFirstWord ∈ wsL_law := twr_9 _ (List.mem_of_getElem? (i := 15) rfl)
theorem tw_208 : Cond.instanceMethod yX4_takeFirstWord ∈ wsL_law := twr_9 _ (List.mem_of_getElem? (i := 16) rfl)
theorem tw_209 : Cond.selects RX4 yX4_takeFirstWord yX4_takeFirstWord ∈ wsL_law := twr_9 _ (List.mem_of_getElem? (i := 17) rfl)
theorem tw_210 : Cond.code yX4_takeFirstWord cX4_takeFirstWord 3 (some .int) ∈ wsL_law := twr_9 _ (List.mem_of_getElem? (i := 18) rfl)
theorem tw_211 : Cond.methodLink RX4 80 yX4_wordOfToken ∈ wsL_law := twr_9 _ (List.mem_of_getElem? (i := 19) rfl)
theorem tw_212 : Cond.instanceMethod yX4_wordOfToken ∈ wsL_law := twr_9 _ (List.mem_of_getElem? (i := 20) rfl)
theorem tw_213 : Cond.selects RX4 yX4_wordOfToken yX4_wordOfToken ∈ wsL_law := twr_9 _ (List.mem_of_getElem? (i := 21) rfl)
theorem tw_214 : Cond.code yX4_wordOfToken cX4_wordOfToken 2 (some .int) ∈ wsL_law := twr_9 _ (List.mem_of_getElem? (i := 22) rfl)
theorem tw_215 : Cond.methodLink RX4 152 yX4_spelling ∈ wsL_law := twr_9 _ (List.mem_of_getElem? (i := 23) rfl)
theorem tw_216 : Cond.static yX4_spelling ∈ wsL_law := twr_10 _ (List.mem_of_getElem? (i := 0) rfl)
theorem tw_217 : Cond.code yX4_spelling cX4_spelling 1 (some (.object "java/lang/String")) ∈ wsL_law := twr_10 _ (List.mem_of_getElem? (i := 1) rfl)
theorem tw_218 : Cond.methodLink RX4 148 yX4_tokenIs ∈ wsL_law := twr_10 _ (List.mem_of_getElem? (i := 2) rfl)
theorem tw_219 : Cond.instanceMethod yX4_tokenIs ∈ wsL_law := twr_10 _ (List.mem_of_getElem? (i := 3) rfl)
theorem tw_220 : Cond.selects RX4 yX4_tokenIs yX4_tokenIs ∈ wsL_law := twr_10 _ (List.mem_of_getElem? (i := 4) rfl)
theorem tw_221 : Cond.code yX4_tokenIs cX4_tokenIs 3 (some .boolean) ∈ wsL_law := twr_10 _ (List.mem_of_getElem? (i := 5) rfl)
theorem tw_222 : Cond.methodLink RX4 170 yJ0_length_8abf5 ∈ wsL_law := twr_10 _ (List.mem_of_getElem? (i := 6) rfl)
theorem tw_223 : Cond.instanceMethod yJ0_length_8abf5 ∈ wsL_law := twr_10 _ (List.mem_of_getElem? (i := 7) rfl)
theorem tw_224 : Cond.selects RJ0 yJ0_length_8abf5 yJ0_length_8abf5 ∈ wsL_law := twr_10 _ (List.mem_of_getElem? (i := 8) rfl)
theorem tw_225 : Cond.initialized RJ0 ∈ wsL_law := twr_10 _ (List.mem_of_getElem? (i := 9) rfl)
theorem tw_226 : Cond.code yJ0_length_8abf5 cJ0_length_8abf5 1 (some .int) ∈ wsL_law := twr_10 _ (List.mem_of_getElem? (i := 10) rfl)
theorem tw_227 : Cond.fieldLink RJ0 9 "java/lang/String" "value" "[B" ∈ wsL_law := twr_10 _ (List.mem_of_getElem? (i := 11) rfl)
theorem tw_228 : Cond.methodLink RJ0 335 yJ0_coder_7d493 ∈ wsL_law := twr_10 _ (List.mem_of_getElem? (i := 12) rfl)
theorem tw_229 : Cond.instanceMethod yJ0_coder_7d493 ∈ wsL_law := twr_10 _ (List.mem_of_getElem? (i := 13) rfl)
theorem tw_230 : Cond.selects RJ0 yJ0_coder_7d493 yJ0_coder_7d493 ∈ wsL_law := twr_10 _ (List.mem_of_getElem? (i := 14) rfl)
theorem tw_231 : Cond.code yJ0_coder_7d493 cJ0_coder_7d493 1 (some .byte) ∈ wsL_law := twr_10 _ (List.mem_of_getElem? (i := 15) rfl)
theorem tw_232 : Cond.fieldLink RJ0 38 "java/lang/String" "COMPACT_STRINGS" "Z" ∈ wsL_law := twr_10 _ (List.mem_of_getElem? (i := 16) rfl)
theorem tw_233 : Cond.fieldLink RJ0 15 "java/lang/String" "coder" "B" ∈ wsL_law := twr_10 _ (List.mem_of_getElem? (i := 17) rfl)
theorem tw_234 : Cond.methodLink RX4 174 yJ0_charAt_5068e ∈ wsL_law := twr_10 _ (List.mem_of_getElem? (i := 18) rfl)
theorem tw_235 : Cond.instanceMethod yJ0_charAt_5068e ∈ wsL_law := twr_10 _ (List.mem_of_getElem? (i := 19) rfl)
theorem tw_236 : Cond.selects RJ0 yJ0_charAt_5068e yJ0_charAt_5068e ∈ wsL_law := twr_10 _ (List.mem_of_getElem? (i := 20) rfl)
theorem tw_237 : Cond.code yJ0_charAt_5068e cJ0_charAt_5068e 2 (some .char) ∈ wsL_law := twr_10 _ (List.mem_of_getElem? (i := 21) rfl)
theorem tw_238 : Cond.methodLink RJ0 492 yJ0_isLatin1_aae02 ∈ wsL_law := twr_10 _ (List.mem_of_getElem? (i := 22) rfl)
theorem tw_239 : Cond.instanceMethod yJ0_isLatin1_aae02 ∈ wsL_law := twr_10 _ (List.mem_of_getElem? (i := 23) rfl)
theorem tw_240 : Cond.selects RJ0 yJ0_isLatin1_aae02 yJ0_isLatin1_aae02 ∈ wsL_law := twr_11 _ (List.mem_of_getElem? (i := 0) rfl)
theorem tw_241 : Cond.code yJ0_isLatin1_aae02 cJ0_isLatin1_aae02 1 (some .boolean) ∈ wsL_law := twr_11 _ (List.mem_of_getElem? (i := 1) rfl)
theorem tw_242 : Cond.methodLink RJ0 495 yJ1_charAt_3b067 ∈ wsL_law := twr_11 _ (List.mem_of_getElem? (i := 2) rfl)
theorem tw_243 : Cond.static yJ1_charAt_3b067 ∈ wsL_law := twr_11 _ (List.mem_of_getElem? (i := 3) rfl)
theorem tw_244 : Cond.initialized RJ1 ∈ wsL_law := twr_11 _ (List.mem_of_getElem? (i := 4) rfl)
theorem tw_245 : Cond.code yJ1_charAt_3b067 cJ1_charAt_3b067 2 (some .char) ∈ wsL_law := twr_11 _ (List.mem_of_getElem? (i := 5) rfl)
theorem tw_246 : Cond.methodLink RJ1 9 yJ0_checkIndex_df160 ∈ wsL_law := twr_11 _ (List.mem_of_getElem? (i := 6) rfl)
theorem tw_247 : Cond.static yJ0_checkIndex_df160 ∈ wsL_law := twr_11 _ (List.mem_of_getElem? (i := 7) rfl)
theorem tw_248 : Cond.code yJ0_checkIndex_df160 cJ0_checkIndex_df160 2 none ∈ wsL_law := twr_11 _ (List.mem_of_getElem? (i := 8) rfl)
theorem tw_249 : Cond.fieldLink RJ0 1053 "jdk/internal/util/Preconditions" "SIOOBE_FORMATTER" "Ljava/util/function/BiFunction;" ∈ wsL_law := twr_11 _ (List.mem_of_getElem? (i := 9) rfl)
theorem tw_250 : Cond.methodLink RJ0 1059 yJ3_checkIndex_8e157 ∈ wsL_law := twr_11 _ (List.mem_of_getElem? (i := 10) rfl)
theorem tw_251 : Cond.static yJ3_checkIndex_8e157 ∈ wsL_law := twr_11 _ (List.mem_of_getElem? (i := 11) rfl)
theorem tw_252 : Cond.initialized RJ3 ∈ wsL_law := twr_11 _ (List.mem_of_getElem? (i := 12) rfl)
theorem tw_253 : Cond.code yJ3_checkIndex_8e157 cJ3_checkIndex_8e157 3 (some .int) ∈ wsL_law := twr_11 _ (List.mem_of_getElem? (i := 13) rfl)
theorem tw_254 : Cond.methodLink RJ0 498 yJ2_charAt_3b067 ∈ wsL_law := twr_11 _ (List.mem_of_getElem? (i := 14) rfl)
theorem tw_255 : Cond.static yJ2_charAt_3b067 ∈ wsL_law := twr_11 _ (List.mem_of_getElem? (i := 15) rfl)
theorem tw_256 : Cond.initialized RJ2 ∈ wsL_law := twr_11 _ (List.mem_of_getElem? (i := 16) rfl)
theorem tw_257 : Cond.code yJ2_charAt_3b067 cJ2_charAt_3b067 2 (some .char) ∈ wsL_law := twr_11 _ (List.mem_of_getElem? (i := 17) rfl)
theorem tw_258 : Cond.methodLink RJ2 67 yJ2_checkIndex_2214a ∈ wsL_law := twr_11 _ (List.mem_of_getElem? (i := 18) rfl)
theorem tw_259 : Cond.static yJ2_checkIndex_2214a ∈ wsL_law := twr_11 _ (List.mem_of_getElem? (i := 19) rfl)
theorem tw_260 : Cond.code yJ2_checkIndex_2214a cJ2_checkIndex_2214a 2 none ∈ wsL_law := twr_11 _ (List.mem_of_getElem? (i := 20) rfl)
theorem tw_261 : Cond.methodLink RJ2 48 yJ2_length_9d52b ∈ wsL_law := twr_11 _ (List.mem_of_getElem? (i := 21) rfl)
theorem tw_262 : Cond.static yJ2_length_9d52b ∈ wsL_law := twr_11 _ (List.mem_of_getElem? (i := 22) rfl)
theorem tw_263 : Cond.code yJ2_length_9d52b cJ2_length_9d52b 1 (some .int) ∈ wsL_law := twr_11 _ (List.mem_of_getElem? (i := 23) rfl)
theorem tw_264 : Cond.methodLink RJ2 414 yJ0_checkIndex_df160 ∈ wsL_law := twr_12 _ (List.mem_of_getElem? (i := 0) rfl)
theorem tw_265 : Cond.methodLink RJ2 71 yJ2_getChar_3b067 ∈ wsL_law := twr_12 _ (List.mem_of_getElem? (i := 1) rfl)
theorem tw_266 : Cond.static yJ2_getChar_3b067 ∈ wsL_law := twr_12 _ (List.mem_of_getElem? (i := 2) rfl)
theorem tw_267 : Cond.code yJ2_getChar_3b067 cJ2_getChar_3b067 2 (some .char) ∈ wsL_law := twr_12 _ (List.mem_of_getElem? (i := 3) rfl)
theorem tw_268 : Cond.fieldLink RJ2 44 "java/lang/StringUTF16" "$assertionsDisabled" "Z" ∈ wsL_law := twr_12 _ (List.mem_of_getElem? (i := 4) rfl)
theorem tw_269 : Cond.fieldLink RJ2 59 "java/lang/StringUTF16" "HI_BYTE_SHIFT" "I" ∈ wsL_law := twr_12 _ (List.mem_of_getElem? (i := 5) rfl)
theorem tw_270 : Cond.fieldLink RJ2 63 "java/lang/StringUTF16" "LO_BYTE_SHIFT" "I" ∈ wsL_law := twr_12 _ (List.mem_of_getElem? (i := 6) rfl)
theorem tw_271 : Cond.methodLink RX4 83 yX4_refuse ∈ wsL_law := twr_12 _ (List.mem_of_getElem? (i := 7) rfl)
theorem tw_272 : Cond.instanceMethod yX4_refuse ∈ wsL_law := twr_12 _ (List.mem_of_getElem? (i := 8) rfl)
theorem tw_273 : Cond.selects RX4 yX4_refuse yX4_refuse ∈ wsL_law := twr_12 _ (List.mem_of_getElem? (i := 9) rfl)
theorem tw_274 : Cond.code yX4_refuse cX4_refuse 3 none ∈ wsL_law := twr_12 _ (List.mem_of_getElem? (i := 10) rfl)
theorem tw_275 : Cond.methodLink RX4 47 yX4_readEnd ∈ wsL_law := twr_12 _ (List.mem_of_getElem? (i := 11) rfl)
theorem tw_276 : Cond.instanceMethod yX4_readEnd ∈ wsL_law := twr_12 _ (List.mem_of_getElem? (i := 12) rfl)
theorem tw_277 : Cond.selects RX4 yX4_readEnd yX4_readEnd ∈ wsL_law := twr_12 _ (List.mem_of_getElem? (i := 13) rfl)
theorem tw_278 : Cond.code yX4_readEnd cX4_readEnd 3 (some (.object "PayScales$Line")) ∈ wsL_law := twr_12 _ (List.mem_of_getElem? (i := 14) rfl)
theorem tw_279 : Cond.classLink RX4 56 RX2 ∈ wsL_law := twr_12 _ (List.mem_of_getElem? (i := 15) rfl)
theorem tw_280 : Cond.instantiable RX2 10 ∈ wsL_law := twr_12 _ (List.mem_of_getElem? (i := 16) rfl)
theorem tw_281 : Cond.initialized RX2 ∈ wsL_law := twr_12 _ (List.mem_of_getElem? (i := 17) rfl)
theorem tw_282 : Cond.fieldLink RX4 93 "PayScales$Line" "name" "I" ∈ wsL_law := twr_12 _ (List.mem_of_getElem? (i := 18) rfl)
theorem tw_283 : Cond.methodLink RX4 86 yX2_init ∈ wsL_law := twr_12 _ (List.mem_of_getElem? (i := 19) rfl)
theorem tw_284 : Cond.instanceMethod yX2_init ∈ wsL_law := twr_12 _ (List.mem_of_getElem? (i := 20) rfl)
theorem tw_285 : Cond.code yX2_init cX2_init 3 none ∈ wsL_law := twr_12 _ (List.mem_of_getElem? (i := 21) rfl)
theorem tw_286 : Cond.methodLink RX2 3 objectInit ∈ wsL_law := twr_12 _ (List.mem_of_getElem? (i := 22) rfl)
theorem tw_287 : Cond.fieldLink RX2 9 "PayScales$Line" "fact" "I" ∈ wsL_law := twr_12 _ (List.mem_of_getElem? (i := 23) rfl)
theorem tw_288 : Cond.fieldLink RX2 15 "PayScales$Line" "sort" "I" ∈ wsL_law := twr_13 _ (List.mem_of_getElem? (i := 0) rfl)
theorem tw_289 : Cond.fieldLink RX2 18 "PayScales$Line" "ends" "Z" ∈ wsL_law := twr_13 _ (List.mem_of_getElem? (i := 1) rfl)
theorem tw_290 : Cond.fieldLink RX2 22 "PayScales$Line" "scaleNumbers" "[I" ∈ wsL_law := twr_13 _ (List.mem_of_getElem? (i := 2) rfl)
theorem tw_291 : Cond.methodLink RX4 89 yX4_takeLetter ∈ wsL_law := twr_13 _ (List.mem_of_getElem? (i := 3) rfl)
theorem tw_292 : Cond.instanceMethod yX4_takeLetter ∈ wsL_law := twr_13 _ (List.mem_of_getElem? (i := 4) rfl)
theorem tw_293 : Cond.selects RX4 yX4_takeLetter yX4_takeLetter ∈ wsL_law := twr_13 _ (List.mem_of_getElem? (i := 5) rfl)
theorem tw_294 : Cond.code yX4_takeLetter cX4_takeLetter 4 (some .int) ∈ wsL_law := twr_13 _ (List.mem_of_getElem? (i := 6) rfl)
theorem tw_295 : Cond.methodLink RX4 51 yX4_readBody ∈ wsL_law := twr_13 _ (List.mem_of_getElem? (i := 7) rfl)
theorem tw_296 : Cond.instanceMethod yX4_readBody ∈ wsL_law := twr_13 _ (List.mem_of_getElem? (i := 8) rfl)
theorem tw_297 : Cond.selects RX4 yX4_readBody yX4_readBody ∈ wsL_law := twr_13 _ (List.mem_of_getElem? (i := 9) rfl)
theorem tw_298 : Cond.code yX4_readBody cX4_readBody 3 (some (.object "PayScales$Line")) ∈ wsL_law := twr_13 _ (List.mem_of_getElem? (i := 10) rfl)
theorem tw_299 : Cond.fieldLink RX4 103 "PayScales$Line" "number" "I" ∈ wsL_law := twr_13 _ (List.mem_of_getElem? (i := 11) rfl)
theorem tw_300 : Cond.methodLink RX4 96 yX4_readCondition ∈ wsL_law := twr_13 _ (List.mem_of_getElem? (i := 12) rfl)
theorem tw_301 : Cond.instanceMethod yX4_readCondition ∈ wsL_law := twr_13 _ (List.mem_of_getElem? (i := 13) rfl)
theorem tw_302 : Cond.selects RX4 yX4_readCondition yX4_readCondition ∈ wsL_law := twr_13 _ (List.mem_of_getElem? (i := 14) rfl)
theorem tw_303 : Cond.code yX4_readCondition cX4_readCondition 2 none ∈ wsL_law := twr_13 _ (List.mem_of_getElem? (i := 15) rfl)
theorem tw_304 : Cond.fieldLink RX4 118 "PayScales$Line" "fact" "I" ∈ wsL_law := twr_13 _ (List.mem_of_getElem? (i := 16) rfl)
theorem tw_305 : Cond.fieldLink RX4 124 "PayScales$Line" "sign" "I" ∈ wsL_law := twr_13 _ (List.mem_of_getElem? (i := 17) rfl)
theorem tw_306 : Cond.fieldLink RX4 127 "PayScales$Line" "bound" "I" ∈ wsL_law := twr_13 _ (List.mem_of_getElem? (i := 18) rfl)
theorem tw_307 : Cond.methodLink RX4 121 yX4_takeRelation ∈ wsL_law := twr_13 _ (List.mem_of_getElem? (i := 19) rfl)
theorem tw_308 : Cond.instanceMethod yX4_takeRelation ∈ wsL_law := twr_13 _ (List.mem_of_getElem? (i := 20) rfl)
theorem tw_309 : Cond.selects RX4 yX4_takeRelation yX4_takeRelation ∈ wsL_law := twr_13 _ (List.mem_of_getElem? (i := 21) rfl)
theorem tw_310 : Cond.code yX4_takeRelation cX4_takeRelation 2 (some .int) ∈ wsL_law := twr_13 _ (List.mem_of_getElem? (i := 22) rfl)
theorem tw_311 : Cond.methodLink RX4 100 yX4_takeNumber ∈ wsL_law := twr_13 _ (List.mem_of_getElem? (i := 23) rfl)
theorem tw_312 : Cond.instanceMethod yX4_takeNumber ∈ wsL_law := twr_14 _ (List.mem_of_getElem? (i := 0) rfl)
theorem tw_313 : Cond.selects RX4 yX4_takeNumber yX4_takeNumber ∈ wsL_law := twr_14 _ (List.mem_of_getElem? (i := 1) rfl)
theorem tw_314 : Cond.code yX4_takeNumber cX4_takeNumber 2 (some .int) ∈ wsL_law := twr_14 _ (List.mem_of_getElem? (i := 2) rfl)
theorem tw_315 : Cond.methodLink RX4 143 yX4_numberOfToken ∈ wsL_law := twr_14 _ (List.mem_of_getElem? (i := 3) rfl)
theorem tw_316 : Cond.instanceMethod yX4_numberOfToken ∈ wsL_law := twr_14 _ (List.mem_of_getElem? (i := 4) rfl)
theorem tw_317 : Cond.selects RX4 yX4_numberOfToken yX4_numberOfToken ∈ wsL_law := twr_14 _ (List.mem_of_getElem? (i := 5) rfl)
theorem tw_318 : Cond.code yX4_numberOfToken cX4_numberOfToken 3 (some .int) ∈ wsL_law := twr_14 _ (List.mem_of_getElem? (i := 6) rfl)
theorem tw_319 : Cond.methodLink RX4 178 Lib.Math.min.name ∈ wsL_law := twr_14 _ (List.mem_of_getElem? (i := 7) rfl)
theorem tw_320 : Cond.static Lib.Math.min.name ∈ wsL_law := twr_14 _ (List.mem_of_getElem? (i := 8) rfl)
theorem tw_321 : Cond.code Lib.Math.min.name Lib.Math.min.code 2 (some .int) ∈ wsL_law := twr_14 _ (List.mem_of_getElem? (i := 9) rfl)
theorem tw_322 : Cond.methodLink RX4 64 yX4_takeSign ∈ wsL_law := twr_14 _ (List.mem_of_getElem? (i := 10) rfl)
theorem tw_323 : Cond.instanceMethod yX4_takeSign ∈ wsL_law := twr_14 _ (List.mem_of_getElem? (i := 11) rfl)
theorem tw_324 : Cond.selects RX4 yX4_takeSign yX4_takeSign ∈ wsL_law := twr_14 _ (List.mem_of_getElem? (i := 12) rfl)
theorem tw_325 : Cond.code yX4_takeSign cX4_takeSign 2 none ∈ wsL_law := twr_14 _ (List.mem_of_getElem? (i := 13) rfl)
theorem tw_326 : Cond.methodLink RX4 106 yX4_takeFrom ∈ wsL_law := twr_14 _ (List.mem_of_getElem? (i := 14) rfl)
theorem tw_327 : Cond.instanceMethod yX4_takeFrom ∈ wsL_law := twr_14 _ (List.mem_of_getElem? (i := 15) rfl)
theorem tw_328 : Cond.selects RX4 yX4_takeFrom yX4_takeFrom ∈ wsL_law := twr_14 _ (List.mem_of_getElem? (i := 16) rfl)
theorem tw_329 : Cond.code yX4_takeFrom cX4_takeFrom 1 none ∈ wsL_law := twr_14 _ (List.mem_of_getElem? (i := 17) rfl)
theorem tw_330 : Cond.methodLink RX4 109 yX4_readScale ∈ wsL_law := twr_14 _ (List.mem_of_getElem? (i := 18) rfl)
theorem tw_331 : Cond.instanceMethod yX4_readScale ∈ wsL_law := twr_14 _ (List.mem_of_getElem? (i := 19) rfl)
theorem tw_332 : Cond.selects RX4 yX4_readScale yX4_readScale ∈ wsL_law := twr_14 _ (List.mem_of_getElem? (i := 20) rfl)
theorem tw_333 : Cond.code yX4_readScale cX4_readScale 4 none ∈ wsL_law := twr_14 _ (List.mem_of_getElem? (i := 21) rfl)
theorem tw_334 : Cond.fieldLink RX4 130 "PayScales$Line" "scaleLength" "I" ∈ wsL_law := twr_14 _ (List.mem_of_getElem? (i := 22) rfl)
theorem tw_335 : Cond.methodLink RX4 133 yX2_addToScale ∈ wsL_law := twr_14 _ (List.mem_of_getElem? (i := 23) rfl)
theorem tw_336 : Cond.instanceMethod yX2_addToScale ∈ wsL_law := twr_15 _ (List.mem_of_getElem? (i := 0) rfl)
theorem tw_337 : Cond.selects RX2 yX2_addToScale yX2_addToScale ∈ wsL_law := twr_15 _ (List.mem_of_getElem? (i := 1) rfl)
theorem tw_338 : Cond.code yX2_addToScale cX2_addToScale 2 none ∈ wsL_law := twr_15 _ (List.mem_of_getElem? (i := 2) rfl)
theorem tw_339 : Cond.fieldLink RX2 35 "PayScales$Line" "scaleLength" "I" ∈ wsL_law := twr_15 _ (List.mem_of_getElem? (i := 3) rfl)
theorem tw_340 : Cond.methodLink RX4 112 yX4_readStepDays ∈ wsL_law := twr_15 _ (List.mem_of_getElem? (i := 4) rfl)
theorem tw_341 : Cond.instanceMethod yX4_readStepDays ∈ wsL_law := twr_15 _ (List.mem_of_getElem? (i := 5) rfl)
theorem tw_342 : Cond.selects RX4 yX4_readStepDays yX4_readStepDays ∈ wsL_law := twr_15 _ (List.mem_of_getElem? (i := 6) rfl)
theorem tw_343 : Cond.code yX4_readStepDays cX4_readStepDays 3 none ∈ wsL_law := twr_15 _ (List.mem_of_getElem? (i := 7) rfl)
theorem tw_344 : Cond.methodLink RX4 115 yX4_readPlusNumber ∈ wsL_law := twr_15 _ (List.mem_of_getElem? (i := 8) rfl)
theorem tw_345 : Cond.instanceMethod yX4_readPlusNumber ∈ wsL_law := twr_15 _ (List.mem_of_getElem? (i := 9) rfl)
theorem tw_346 : Cond.selects RX4 yX4_readPlusNumber yX4_readPlusNumber ∈ wsL_law := twr_15 _ (List.mem_of_getElem? (i := 10) rfl)
theorem tw_347 : Cond.code yX4_readPlusNumber cX4_readPlusNumber 2 none ∈ wsL_law := twr_15 _ (List.mem_of_getElem? (i := 11) rfl)
theorem tw_348 : Cond.fieldLink RX4 136 "PayScales$Line" "percent" "Z" ∈ wsL_law := twr_15 _ (List.mem_of_getElem? (i := 12) rfl)
theorem tw_349 : Cond.methodLink RX4 55 yX2_key ∈ wsL_law := twr_15 _ (List.mem_of_getElem? (i := 13) rfl)
theorem tw_350 : Cond.instanceMethod yX2_key ∈ wsL_law := twr_15 _ (List.mem_of_getElem? (i := 14) rfl)
theorem tw_351 : Cond.selects RX2 yX2_key yX2_key ∈ wsL_law := twr_15 _ (List.mem_of_getElem? (i := 15) rfl)
theorem tw_352 : Cond.code yX2_key cX2_key 1 (some .int) ∈ wsL_law := twr_15 _ (List.mem_of_getElem? (i := 16) rfl)
theorem tw_353 : Cond.fieldLink RX2 26 "PayScales$Line" "name" "I" ∈ wsL_law := twr_15 _ (List.mem_of_getElem? (i := 17) rfl)
theorem tw_354 : Cond.methodLink RX4 60 yX4_checkKey ∈ wsL_law := twr_15 _ (List.mem_of_getElem? (i := 18) rfl)
theorem tw_355 : Cond.instanceMethod yX4_checkKey ∈ wsL_law := twr_15 _ (List.mem_of_getElem? (i := 19) rfl)
theorem tw_356 : Cond.selects RX4 yX4_checkKey yX4_checkKey ∈ wsL_law := twr_15 _ (List.mem_of_getElem? (i := 20) rfl)
theorem tw_357 : Cond.code yX4_checkKey cX4_checkKey 3 none ∈ wsL_law := twr_15 _ (List.mem_of_getElem? (i := 21) rfl)
theorem tw_358 : Cond.methodLink RX4 67 yJx4a65c_add_9ea2d ∈ wsL_law := twr_15 _ (List.mem_of_getElem? (i := 22) rfl)
theorem tw_359 : Cond.instanceMethod yJx4a65c_add_9ea2d ∈ wsL_law := twr_15 _ (List.mem_of_getElem? (i := 23) rfl)
theorem tw_360 : Cond.selects RJx4a65c yJx4a65c_add_9ea2d yJx4a65c_add_9ea2d ∈ wsL_law := twr_16 _ (List.mem_of_getElem? (i := 0) rfl)
theorem tw_361 : Cond.code yJx4a65c_add_9ea2d cJx4a65c_add_9ea2d 2 (some .boolean) ∈ wsL_law := twr_16 _ (List.mem_of_getElem? (i := 1) rfl)
theorem tw_362 : Cond.fieldLink RJx4a65c 63 "java/util/ArrayList" "modCount" "I" ∈ wsL_law := twr_16 _ (List.mem_of_getElem? (i := 2) rfl)
theorem tw_363 : Cond.sameField "java/util/ArrayList" "java/util/AbstractList" "modCount" "I" ∈ wsL_law := twr_16 _ (List.mem_of_getElem? (i := 3) rfl)
theorem tw_364 : Cond.methodLink RJx4a65c 131 yJx4a65c_add_72be8 ∈ wsL_law := twr_16 _ (List.mem_of_getElem? (i := 4) rfl)
theorem tw_365 : Cond.instanceMethod yJx4a65c_add_72be8 ∈ wsL_law := twr_16 _ (List.mem_of_getElem? (i := 5) rfl)
theorem tw_366 : Cond.selects RJx4a65c yJx4a65c_add_72be8 yJx4a65c_add_72be8 ∈ wsL_law := twr_16 _ (List.mem_of_getElem? (i := 6) rfl)
theorem tw_367 : Cond.code yJx4a65c_add_72be8 cJx4a65c_add_72be8 4 none ∈ wsL_law := twr_16 _ (List.mem_of_getElem? (i := 7) rfl)
theorem tw_368 : Cond.methodLink RJx4a65c 129 yJx4a65c_grow_d5877 ∈ wsL_law := twr_16 _ (List.mem_of_getElem? (i := 8) rfl)
theorem tw_369 : Cond.instanceMethod yJx4a65c_grow_d5877 ∈ wsL_law := twr_16 _ (List.mem_of_getElem? (i := 9) rfl)
theorem tw_370 : Cond.selects RJx4a65c yJx4a65c_grow_d5877 yJx4a65c_grow_d5877 ∈ wsL_law := twr_16 _ (List.mem_of_getElem? (i := 10) rfl)
theorem tw_371 : Cond.code yJx4a65c_grow_d5877 cJx4a65c_grow_d5877 1 (some (.array (.object "java/lang/Object"))) ∈ wsL_law := twr_16 _ (List.mem_of_getElem? (i := 11) rfl)
theorem tw_372 : Cond.methodLink RJx4a65c 69 yJx4a65c_grow_92f84 ∈ wsL_law := twr_16 _ (List.mem_of_getElem? (i := 12) rfl)
theorem tw_373 : Cond.instanceMethod yJx4a65c_grow_92f84 ∈ wsL_law := twr_16 _ (List.mem_of_getElem? (i := 13) rfl)
theorem tw_374 : Cond.selects RJx4a65c yJx4a65c_grow_92f84 yJx4a65c_grow_92f84 ∈ wsL_law := twr_16 _ (List.mem_of_getElem? (i := 14) rfl)
theorem tw_375 : Cond.code yJx4a65c_grow_92f84 cJx4a65c_grow_92f84 4 (some (.array (.object "java/lang/Object"))) ∈ wsL_law := twr_16 _ (List.mem_of_getElem? (i := 15) rfl)
theorem tw_376 : Cond.methodLink RJx4a65c 79 Lib.Math.max.name ∈ wsL_law := twr_16 _ (List.mem_of_getElem? (i := 16) rfl)
theorem tw_377 : Cond.classLink RJx4a65c 7 "java/lang/Object" ∈ wsL_law := twr_16 _ (List.mem_of_getElem? (i := 17) rfl)
theorem tw_378 : Cond.methodLink RJx4a65c 73 yJ8_newLength_cabcc ∈ wsL_law := twr_16 _ (List.mem_of_getElem? (i := 18) rfl)
theorem tw_379 : Cond.static yJ8_newLength_cabcc ∈ wsL_law := twr_16 _ (List.mem_of_getElem? (i := 19) rfl)
theorem tw_380 : Cond.initialized RJ8 ∈ wsL_law := twr_16 _ (List.mem_of_getElem? (i := 20) rfl)
theorem tw_381 : Cond.code yJ8_newLength_cabcc cJ8_newLength_cabcc 4 (some .int) ∈ wsL_law := twr_16 _ (List.mem_of_getElem? (i := 21) rfl)
theorem tw_382 : Cond.methodLink RJ8 194 Lib.Math.max.name ∈ wsL_law := twr_16 _ (List.mem_of_getElem? (i := 22) rfl)
theorem tw_383 : Cond.constant RJ8 200 (2147483639) ∈ wsL_law := twr_16 _ (List.mem_of_getElem? (i := 23) rfl)
theorem tw_384 : Cond.methodLink RJ8 201 yJ8_hugeLength_7cf53 ∈ wsL_law := twr_17 _ (List.mem_of_getElem? (i := 0) rfl)
theorem tw_385 : Cond.static yJ8_hugeLength_7cf53 ∈ wsL_law := twr_17 _ (List.mem_of_getElem? (i := 1) rfl)
theorem tw_386 : Cond.code yJ8_hugeLength_7cf53 cJ8_hugeLength_7cf53 3 (some .int) ∈ wsL_law := twr_17 _ (List.mem_of_getElem? (i := 2) rfl)
theorem tw_387 : Cond.methodLink RJx4a65c 66 yJ7_copyOf_1904c ∈ wsL_law := twr_17 _ (List.mem_of_getElem? (i := 3) rfl)
theorem tw_388 : Cond.static yJ7_copyOf_1904c ∈ wsL_law := twr_17 _ (List.mem_of_getElem? (i := 4) rfl)
theorem tw_389 : Cond.initialized RJ7 ∈ wsL_law := twr_17 _ (List.mem_of_getElem? (i := 5) rfl)
theorem tw_390 : Cond.code yJ7_copyOf_1904c cJ7_copyOf_1904c 2 (some (.array (.object "java/lang/Object"))) ∈ wsL_law := twr_17 _ (List.mem_of_getElem? (i := 6) rfl)
theorem tw_391 : Cond.methodLink RJ7 86 ⟨"java/lang/Object", "getClass", "()Ljava/lang/Class;"⟩ ∈ wsL_law := twr_17 _ (List.mem_of_getElem? (i := 7) rfl)
theorem tw_392 : Cond.selects "[Ljava/lang/Object;" ⟨"java/lang/Object", "getClass", "()Ljava/lang/Class;"⟩ ⟨"java/lang/Object", "getClass", "()Ljava/lang/Class;"⟩ ∈ wsL_law := twr_17 _ (List.mem_of_getElem? (i := 8) rfl)
theorem tw_393 : Cond.instanceMethod ⟨"java/lang/Object", "getClass", "()Ljava/lang/Class;"⟩ ∈ wsL_law := twr_17 _ (List.mem_of_getElem? (i := 9) rfl)
theorem tw_394 : Cond.native ⟨"java/lang/Object", "getClass", "()Ljava/lang/Class;"⟩ ∈ wsL_law := twr_17 _ (List.mem_of_getElem? (i := 10) rfl)
theorem tw_395 : Cond.methodLink RJ7 300 yJ7_copyOf_6403c ∈ wsL_law := twr_17 _ (List.mem_of_getElem? (i := 11) rfl)
theorem tw_396 : Cond.static yJ7_copyOf_6403c ∈ wsL_law := twr_17 _ (List.mem_of_getElem? (i := 12) rfl)
theorem tw_397 : Cond.code yJ7_copyOf_6403c cJ7_copyOf_6403c 4 (some (.array (.object "java/lang/Object"))) ∈ wsL_law := twr_17 _ (List.mem_of_getElem? (i := 13) rfl)
theorem tw_398 : Cond.classLink RJ7 110 "[Ljava/lang/Object;" ∈ wsL_law := twr_17 _ (List.mem_of_getElem? (i := 14) rfl)
theorem tw_399 : Cond.classLink RJ7 2 "java/lang/Object" ∈ wsL_law := twr_17 _ (List.mem_of_getElem? (i := 15) rfl)
theorem tw_400 : Cond.methodLink RJ7 304 Lib.Math.min.name ∈ wsL_law := twr_17 _ (List.mem_of_getElem? (i := 16) rfl)
theorem tw_401 : Cond.methodLink RJ7 150 arraycopyName ∈ wsL_law := twr_17 _ (List.mem_of_getElem? (i := 17) rfl)
theorem tw_402 : Cond.native arraycopyName ∈ wsL_law := twr_17 _ (List.mem_of_getElem? (i := 18) rfl)
theorem tw_403 : Cond.static arraycopyName ∈ wsL_law := twr_17 _ (List.mem_of_getElem? (i := 19) rfl)
theorem tw_404 : Cond.initialized "java/lang/System" ∈ wsL_law := twr_17 _ (List.mem_of_getElem? (i := 20) rfl)
theorem tw_405 : Cond.methodLink RX8 105 yX0_init ∈ wsL_law := twr_17 _ (List.mem_of_getElem? (i := 21) rfl)
theorem tw_406 : Cond.instanceMethod yX0_init ∈ wsL_law := twr_17 _ (List.mem_of_getElem? (i := 22) rfl)
theorem tw_407 : Cond.code yX0_init cX0_init 5 none ∈ wsL_law := twr_17 _ (List.mem_of_getElem? (i := 23) rfl)
theorem tw_408 : Cond.methodLink RX0 1 objectInit ∈ wsL_law := twr_18 _ (List.mem_of_getElem? (i := 0) rfl)
theorem tw_409 : Cond.fieldLink RX0 7 "PayScales$Agreement" "number" "I" ∈ wsL_law := twr_18 _ (List.mem_of_getElem? (i := 1) rfl)
theorem tw_410 : Cond.fieldLink RX0 13 "PayScales$Agreement" "from" "I" ∈ wsL_law := twr_18 _ (List.mem_of_getElem? (i := 2) rfl)
theorem tw_411 : Cond.fieldLink RX0 16 "PayScales$Agreement" "told" "I" ∈ wsL_law := twr_18 _ (List.mem_of_getElem? (i := 3) rfl)
theorem tw_412 : Cond.fieldLink RX0 19 "PayScales$Agreement" "lines" "Ljava/util/ArrayList;" ∈ wsL_law := twr_18 _ (List.mem_of_getElem? (i := 4) rfl)
theorem tw_413 : Cond.methodLink RX8 108 yX8_placeOfAgreement ∈ wsL_law := twr_18 _ (List.mem_of_getElem? (i := 5) rfl)
theorem tw_414 : Cond.instanceMethod yX8_placeOfAgreement ∈ wsL_law := twr_18 _ (List.mem_of_getElem? (i := 6) rfl)
theorem tw_415 : Cond.selects RX8 yX8_placeOfAgreement yX8_placeOfAgreement ∈ wsL_law := twr_18 _ (List.mem_of_getElem? (i := 7) rfl)
theorem tw_416 : Cond.code yX8_placeOfAgreement cX8_placeOfAgreement 3 (some .int) ∈ wsL_law := twr_18 _ (List.mem_of_getElem? (i := 8) rfl)
theorem tw_417 : Cond.classLink RX8 100 "PayScales$Agreement" ∈ wsL_law := twr_18 _ (List.mem_of_getElem? (i := 9) rfl)
theorem tw_418 : Cond.fieldLink RX8 220 "PayScales$Agreement" "from" "I" ∈ wsL_law := twr_18 _ (List.mem_of_getElem? (i := 10) rfl)
theorem tw_419 : Cond.methodLink RX8 216 yJx4a65c_get_915e3 ∈ wsL_law := twr_18 _ (List.mem_of_getElem? (i := 11) rfl)
theorem tw_420 : Cond.instanceMethod yJx4a65c_get_915e3 ∈ wsL_law := twr_18 _ (List.mem_of_getElem? (i := 12) rfl)
theorem tw_421 : Cond.selects RJx4a65c yJx4a65c_get_915e3 yJx4a65c_get_915e3 ∈ wsL_law := twr_18 _ (List.mem_of_getElem? (i := 13) rfl)
theorem tw_422 : Cond.code yJx4a65c_get_915e3 cJx4a65c_get_915e3 2 (some (.object "java/lang/Object")) ∈ wsL_law := twr_18 _ (List.mem_of_getElem? (i := 14) rfl)
theorem tw_423 : Cond.methodLink RJx4a65c 118 yJ15_checkIndex_7cf53 ∈ wsL_law := twr_18 _ (List.mem_of_getElem? (i := 15) rfl)
theorem tw_424 : Cond.static yJ15_checkIndex_7cf53 ∈ wsL_law := twr_18 _ (List.mem_of_getElem? (i := 16) rfl)
theorem tw_425 : Cond.initialized RJ15 ∈ wsL_law := twr_18 _ (List.mem_of_getElem? (i := 17) rfl)
theorem tw_426 : Cond.code yJ15_checkIndex_7cf53 cJ15_checkIndex_7cf53 2 (some .int) ∈ wsL_law := twr_18 _ (List.mem_of_getElem? (i := 18) rfl)
theorem tw_427 : Cond.methodLink RJ15 105 yJ3_checkIndex_8e157 ∈ wsL_law := twr_18 _ (List.mem_of_getElem? (i := 19) rfl)
theorem tw_428 : Cond.methodLink RJx4a65c 123 yJx4a65c_elementData_915e3 ∈ wsL_law := twr_18 _ (List.mem_of_getElem? (i := 20) rfl)
theorem tw_429 : Cond.instanceMethod yJx4a65c_elementData_915e3 ∈ wsL_law := twr_18 _ (List.mem_of_getElem? (i := 21) rfl)
theorem tw_430 : Cond.selects RJx4a65c yJx4a65c_elementData_915e3 yJx4a65c_elementData_915e3 ∈ wsL_law := twr_18 _ (List.mem_of_getElem? (i := 22) rfl)
theorem tw_431 : Cond.code yJx4a65c_elementData_915e3 cJx4a65c_elementData_915e3 2 (some (.object "java/lang/Object")) ∈ wsL_law := twr_18 _ (List.mem_of_getElem? (i := 23) rfl)
theorem tw_432 : Cond.methodLink RX8 112 yJx4a65c_add_7a177 ∈ wsL_law := twr_19 _ (List.mem_of_getElem? (i := 0) rfl)
theorem tw_433 : Cond.instanceMethod yJx4a65c_add_7a177 ∈ wsL_law := twr_19 _ (List.mem_of_getElem? (i := 1) rfl)
theorem tw_434 : Cond.selects RJx4a65c yJx4a65c_add_7a177 yJx4a65c_add_7a177 ∈ wsL_law := twr_19 _ (List.mem_of_getElem? (i := 2) rfl)
theorem tw_435 : Cond.code yJx4a65c_add_7a177 cJx4a65c_add_7a177 5 none ∈ wsL_law := twr_19 _ (List.mem_of_getElem? (i := 3) rfl)
theorem tw_436 : Cond.methodLink RJx4a65c 112 arraycopyName ∈ wsL_law := twr_19 _ (List.mem_of_getElem? (i := 4) rfl)
theorem tw_437 : Cond.methodLink RJx4a65c 135 yJx4a65c_rangeCheckForAdd_d00df ∈ wsL_law := twr_19 _ (List.mem_of_getElem? (i := 5) rfl)
theorem tw_438 : Cond.instanceMethod yJx4a65c_rangeCheckForAdd_d00df ∈ wsL_law := twr_19 _ (List.mem_of_getElem? (i := 6) rfl)
theorem tw_439 : Cond.selects RJx4a65c yJx4a65c_rangeCheckForAdd_d00df yJx4a65c_rangeCheckForAdd_d00df ∈ wsL_law := twr_19 _ (List.mem_of_getElem? (i := 7) rfl)
theorem tw_440 : Cond.code yJx4a65c_rangeCheckForAdd_d00df cJx4a65c_rangeCheckForAdd_d00df 2 none ∈ wsL_law := twr_19 _ (List.mem_of_getElem? (i := 8) rfl)
theorem tw_441 : Cond.methodLink RL 22 yX9_agree ∈ wsL_law := twr_19 _ (List.mem_of_getElem? (i := 9) rfl)
theorem tw_442 : Cond.instanceMethod yX9_agree ∈ wsL_law := twr_19 _ (List.mem_of_getElem? (i := 10) rfl)
theorem tw_443 : Cond.selects RX9 yX9_agree yX9_agree ∈ wsL_law := twr_19 _ (List.mem_of_getElem? (i := 11) rfl)
theorem tw_444 : Cond.code yX9_agree cX9_agree 3 (some .int) ∈ wsL_law := twr_19 _ (List.mem_of_getElem? (i := 12) rfl)
theorem tw_445 : Cond.fieldLink RX9 199 "PayScalesModel" "agreements" "I" ∈ wsL_law := twr_19 _ (List.mem_of_getElem? (i := 13) rfl)
theorem tw_446 : Cond.fieldLink RX9 145 "PayScalesModel" "size" "I" ∈ wsL_law := twr_19 _ (List.mem_of_getElem? (i := 14) rfl)
theorem tw_447 : Cond.fieldLink RX9 183 "PayScalesModel" "fault" "I" ∈ wsL_law := twr_19 _ (List.mem_of_getElem? (i := 15) rfl)
theorem tw_448 : Cond.fieldLink RX9 227 "PayScalesModel" "lastFault" "I" ∈ wsL_law := twr_19 _ (List.mem_of_getElem? (i := 16) rfl)
theorem tw_449 : Cond.fieldLink RX9 186 "PayScalesModel" "faultPlace" "I" ∈ wsL_law := twr_19 _ (List.mem_of_getElem? (i := 17) rfl)
theorem tw_450 : Cond.fieldLink RX9 230 "PayScalesModel" "today" "I" ∈ wsL_law := twr_19 _ (List.mem_of_getElem? (i := 18) rfl)
theorem tw_451 : Cond.fieldLink RX9 202 "PayScalesModel" "lines" "I" ∈ wsL_law := twr_19 _ (List.mem_of_getElem? (i := 19) rfl)
theorem tw_452 : Cond.methodLink RX9 224 yX9_parses ∈ wsL_law := twr_19 _ (List.mem_of_getElem? (i := 20) rfl)
theorem tw_453 : Cond.instanceMethod yX9_parses ∈ wsL_law := twr_19 _ (List.mem_of_getElem? (i := 21) rfl)
theorem tw_454 : Cond.selects RX9 yX9_parses yX9_parses ∈ wsL_law := twr_19 _ (List.mem_of_getElem? (i := 22) rfl)
theorem tw_455 : Cond.code yX9_parses cX9_parses 2 none ∈ wsL_law := twr_19 _ (List.mem_of_getElem? (i := 23) rfl)
theorem tw_456 : Cond.fieldLink RX9 142 "PayScalesModel" "at" "I" ∈ wsL_law := twr_20 _ (List.mem_of_getElem? (i := 0) rfl)
theorem tw_457 : Cond.fieldLink RX9 155 "PayScalesModel" "sort" "I" ∈ wsL_law := twr_20 _ (List.mem_of_getElem? (i := 1) rfl)
theorem tw_458 : Cond.methodLink RX9 193 yX9_next ∈ wsL_law := twr_20 _ (List.mem_of_getElem? (i := 2) rfl)
theorem tw_459 : Cond.instanceMethod yX9_next ∈ wsL_law := twr_20 _ (List.mem_of_getElem? (i := 3) rfl)
theorem tw_460 : Cond.selects RX9 yX9_next yX9_next ∈ wsL_law := twr_20 _ (List.mem_of_getElem? (i := 4) rfl)
theorem tw_461 : Cond.code yX9_next cX9_next 2 none ∈ wsL_law := twr_20 _ (List.mem_of_getElem? (i := 5) rfl)
theorem tw_462 : Cond.fieldLink RX9 152 "PayScalesModel" "place" "I" ∈ wsL_law := twr_20 _ (List.mem_of_getElem? (i := 6) rfl)
theorem tw_463 : Cond.fieldLink RX9 169 "PayScalesModel" "value" "I" ∈ wsL_law := twr_20 _ (List.mem_of_getElem? (i := 7) rfl)
theorem tw_464 : Cond.methodLink RX9 148 yX9_here ∈ wsL_law := twr_20 _ (List.mem_of_getElem? (i := 8) rfl)
theorem tw_465 : Cond.instanceMethod yX9_here ∈ wsL_law := twr_20 _ (List.mem_of_getElem? (i := 9) rfl)
theorem tw_466 : Cond.selects RX9 yX9_here yX9_here ∈ wsL_law := twr_20 _ (List.mem_of_getElem? (i := 10) rfl)
theorem tw_467 : Cond.code yX9_here cX9_here 1 (some .int) ∈ wsL_law := twr_20 _ (List.mem_of_getElem? (i := 11) rfl)
theorem tw_468 : Cond.methodLink RX9 158 yX9_isLetter ∈ wsL_law := twr_20 _ (List.mem_of_getElem? (i := 12) rfl)
theorem tw_469 : Cond.static yX9_isLetter ∈ wsL_law := twr_20 _ (List.mem_of_getElem? (i := 13) rfl)
theorem tw_470 : Cond.code yX9_isLetter cX9_isLetter 1 (some .boolean) ∈ wsL_law := twr_20 _ (List.mem_of_getElem? (i := 14) rfl)
theorem tw_471 : Cond.methodLink RX9 162 yX9_word ∈ wsL_law := twr_20 _ (List.mem_of_getElem? (i := 15) rfl)
theorem tw_472 : Cond.instanceMethod yX9_word ∈ wsL_law := twr_20 _ (List.mem_of_getElem? (i := 16) rfl)
theorem tw_473 : Cond.selects RX9 yX9_word yX9_word ∈ wsL_law := twr_20 _ (List.mem_of_getElem? (i := 17) rfl)
theorem tw_474 : Cond.code yX9_word cX9_word 5 none ∈ wsL_law := twr_20 _ (List.mem_of_getElem? (i := 18) rfl)
theorem tw_475 : Cond.methodLink RX9 174 yJ0_length_8abf5 ∈ wsL_law := twr_20 _ (List.mem_of_getElem? (i := 19) rfl)
theorem tw_476 : Cond.methodLink RX9 179 yJ0_charAt_5068e ∈ wsL_law := twr_20 _ (List.mem_of_getElem? (i := 20) rfl)
theorem tw_477 : Cond.methodLink RX9 166 yX9_isDigit ∈ wsL_law := twr_20 _ (List.mem_of_getElem? (i := 21) rfl)
theorem tw_478 : Cond.static yX9_isDigit ∈ wsL_law := twr_20 _ (List.mem_of_getElem? (i := 22) rfl)
theorem tw_479 : Cond.code yX9_isDigit cX9_isDigit 1 (some .boolean) ∈ wsL_law := twr_20 _ (List.mem_of_getElem? (i := 23) rfl)
theorem tw_480 : Cond.methodLink RX9 205 yX9_line ∈ wsL_law := twr_21 _ (List.mem_of_getElem? (i := 0) rfl)
theorem tw_481 : Cond.instanceMethod yX9_line ∈ wsL_law := twr_21 _ (List.mem_of_getElem? (i := 1) rfl)
theorem tw_482 : Cond.selects RX9 yX9_line yX9_line ∈ wsL_law := twr_21 _ (List.mem_of_getElem? (i := 2) rfl)
theorem tw_483 : Cond.code yX9_line cX9_line 6 none ∈ wsL_law := twr_21 _ (List.mem_of_getElem? (i := 3) rfl)
theorem tw_484 : Cond.methodLink RX9 189 yX9_wrong ∈ wsL_law := twr_21 _ (List.mem_of_getElem? (i := 4) rfl)
theorem tw_485 : Cond.instanceMethod yX9_wrong ∈ wsL_law := twr_21 _ (List.mem_of_getElem? (i := 5) rfl)
theorem tw_486 : Cond.selects RX9 yX9_wrong yX9_wrong ∈ wsL_law := twr_21 _ (List.mem_of_getElem? (i := 6) rfl)
theorem tw_487 : Cond.code yX9_wrong cX9_wrong 3 none ∈ wsL_law := twr_21 _ (List.mem_of_getElem? (i := 7) rfl)
theorem tw_488 : Cond.methodLink RX9 211 yX9_takes ∈ wsL_law := twr_21 _ (List.mem_of_getElem? (i := 8) rfl)
theorem tw_489 : Cond.instanceMethod yX9_takes ∈ wsL_law := twr_21 _ (List.mem_of_getElem? (i := 9) rfl)
theorem tw_490 : Cond.selects RX9 yX9_takes yX9_takes ∈ wsL_law := twr_21 _ (List.mem_of_getElem? (i := 10) rfl)
theorem tw_491 : Cond.code yX9_takes cX9_takes 3 (some .int) ∈ wsL_law := twr_21 _ (List.mem_of_getElem? (i := 11) rfl)
theorem tw_492 : Cond.methodLink RX9 215 yX9_named ∈ wsL_law := twr_21 _ (List.mem_of_getElem? (i := 12) rfl)
theorem tw_493 : Cond.instanceMethod yX9_named ∈ wsL_law := twr_21 _ (List.mem_of_getElem? (i := 13) rfl)
theorem tw_494 : Cond.selects RX9 yX9_named yX9_named ∈ wsL_law := twr_21 _ (List.mem_of_getElem? (i := 14) rfl)
theorem tw_495 : Cond.code yX9_named cX9_named 3 none ∈ wsL_law := twr_21 _ (List.mem_of_getElem? (i := 15) rfl)
theorem tw_496 : Cond.methodLink RX9 208 yX9_wants ∈ wsL_law := twr_21 _ (List.mem_of_getElem? (i := 16) rfl)
theorem tw_497 : Cond.instanceMethod yX9_wants ∈ wsL_law := twr_21 _ (List.mem_of_getElem? (i := 17) rfl)
theorem tw_498 : Cond.selects RX9 yX9_wants yX9_wants ∈ wsL_law := twr_21 _ (List.mem_of_getElem? (i := 18) rfl)
theorem tw_499 : Cond.code yX9_wants cX9_wants 2 none ∈ wsL_law := twr_21 _ (List.mem_of_getElem? (i := 19) rfl)
theorem tw_500 : Cond.methodLink RX9 196 yX9_isSign ∈ wsL_law := twr_21 _ (List.mem_of_getElem? (i := 20) rfl)
theorem tw_501 : Cond.instanceMethod yX9_isSign ∈ wsL_law := twr_21 _ (List.mem_of_getElem? (i := 21) rfl)
theorem tw_502 : Cond.selects RX9 yX9_isSign yX9_isSign ∈ wsL_law := twr_21 _ (List.mem_of_getElem? (i := 22) rfl)
theorem tw_503 : Cond.code yX9_isSign cX9_isSign 2 (some .boolean) ∈ wsL_law := twr_21 _ (List.mem_of_getElem? (i := 23) rfl)
theorem tw_504 : Cond.methodLink RX9 218 yX9_scaleNumber ∈ wsL_law := twr_22 _ (List.mem_of_getElem? (i := 0) rfl)
theorem tw_505 : Cond.instanceMethod yX9_scaleNumber ∈ wsL_law := twr_22 _ (List.mem_of_getElem? (i := 1) rfl)
theorem tw_506 : Cond.selects RX9 yX9_scaleNumber yX9_scaleNumber ∈ wsL_law := twr_22 _ (List.mem_of_getElem? (i := 2) rfl)
theorem tw_507 : Cond.code yX9_scaleNumber cX9_scaleNumber 3 none ∈ wsL_law := twr_22 _ (List.mem_of_getElem? (i := 3) rfl)
theorem tw_508 : Cond.methodLink RX9 221 yX9_factOf ∈ wsL_law := twr_22 _ (List.mem_of_getElem? (i := 4) rfl)
theorem tw_509 : Cond.instanceMethod yX9_factOf ∈ wsL_law := twr_22 _ (List.mem_of_getElem? (i := 5) rfl)
theorem tw_510 : Cond.selects RX9 yX9_factOf yX9_factOf ∈ wsL_law := twr_22 _ (List.mem_of_getElem? (i := 6) rfl)
theorem tw_511 : Cond.code yX9_factOf cX9_factOf 2 none ∈ wsL_law := twr_22 _ (List.mem_of_getElem? (i := 7) rfl)
theorem tw_512 : Cond.methodLink RL 23 yX8_fault ∈ wsL_law := twr_22 _ (List.mem_of_getElem? (i := 8) rfl)
theorem tw_513 : Cond.instanceMethod yX8_fault ∈ wsL_law := twr_22 _ (List.mem_of_getElem? (i := 9) rfl)
theorem tw_514 : Cond.selects RX8 yX8_fault yX8_fault ∈ wsL_law := twr_22 _ (List.mem_of_getElem? (i := 10) rfl)
theorem tw_515 : Cond.code yX8_fault cX8_fault 2 (some .int) ∈ wsL_law := twr_22 _ (List.mem_of_getElem? (i := 11) rfl)
theorem tw_516 : Cond.fieldLink RX8 122 "PayScales$Reader" "place" "I" ∈ wsL_law := twr_22 _ (List.mem_of_getElem? (i := 12) rfl)
theorem tw_517 : Cond.methodLink RL 27 yX9_fault ∈ wsL_law := twr_22 _ (List.mem_of_getElem? (i := 13) rfl)
theorem tw_518 : Cond.instanceMethod yX9_fault ∈ wsL_law := twr_22 _ (List.mem_of_getElem? (i := 14) rfl)
theorem tw_519 : Cond.selects RX9 yX9_fault yX9_fault ∈ wsL_law := twr_22 _ (List.mem_of_getElem? (i := 15) rfl)
theorem tw_520 : Cond.code yX9_fault cX9_fault 2 (some .int) ∈ wsL_law := twr_22 _ (List.mem_of_getElem? (i := 16) rfl)
theorem tw_521 : Cond.methodLink RL 28 yX8_pass ∈ wsL_law := twr_22 _ (List.mem_of_getElem? (i := 17) rfl)
theorem tw_522 : Cond.instanceMethod yX8_pass ∈ wsL_law := twr_22 _ (List.mem_of_getElem? (i := 18) rfl)
theorem tw_523 : Cond.selects RX8 yX8_pass yX8_pass ∈ wsL_law := twr_22 _ (List.mem_of_getElem? (i := 19) rfl)
theorem tw_524 : Cond.code yX8_pass cX8_pass 2 (some .int) ∈ wsL_law := twr_22 _ (List.mem_of_getElem? (i := 20) rfl)
theorem tw_525 : Cond.methodLink RL 31 yX9_pass ∈ wsL_law := twr_22 _ (List.mem_of_getElem? (i := 21) rfl)
theorem tw_526 : Cond.instanceMethod yX9_pass ∈ wsL_law := twr_22 _ (List.mem_of_getElem? (i := 22) rfl)
theorem tw_527 : Cond.selects RX9 yX9_pass yX9_pass ∈ wsL_law := twr_22 _ (List.mem_of_getElem? (i := 23) rfl)
theorem tw_528 : Cond.code yX9_pass cX9_pass 2 (some .int) ∈ wsL_law := twr_23 _ (List.mem_of_getElem? (i := 0) rfl)
theorem tw_529 : Cond.methodLink RL 32 yX8_post ∈ wsL_law := twr_23 _ (List.mem_of_getElem? (i := 1) rfl)
theorem tw_530 : Cond.instanceMethod yX8_post ∈ wsL_law := twr_23 _ (List.mem_of_getElem? (i := 2) rfl)
theorem tw_531 : Cond.selects RX8 yX8_post yX8_post ∈ wsL_law := twr_23 _ (List.mem_of_getElem? (i := 3) rfl)
theorem tw_532 : Cond.code yX8_post cX8_post 2 (some .int) ∈ wsL_law := twr_23 _ (List.mem_of_getElem? (i := 4) rfl)
theorem tw_533 : Cond.fieldLink RX8 125 "PayScales" "postCount" "I" ∈ wsL_law := twr_23 _ (List.mem_of_getElem? (i := 5) rfl)
theorem tw_534 : Cond.methodLink RL 35 yX9_post ∈ wsL_law := twr_23 _ (List.mem_of_getElem? (i := 6) rfl)
theorem tw_535 : Cond.instanceMethod yX9_post ∈ wsL_law := twr_23 _ (List.mem_of_getElem? (i := 7) rfl)
theorem tw_536 : Cond.selects RX9 yX9_post yX9_post ∈ wsL_law := twr_23 _ (List.mem_of_getElem? (i := 8) rfl)
theorem tw_537 : Cond.code yX9_post cX9_post 2 (some .int) ∈ wsL_law := twr_23 _ (List.mem_of_getElem? (i := 9) rfl)
theorem tw_538 : Cond.fieldLink RX9 233 "PayScalesModel" "posts" "I" ∈ wsL_law := twr_23 _ (List.mem_of_getElem? (i := 10) rfl)
theorem tw_539 : Cond.methodLink RL 36 yX8_note ∈ wsL_law := twr_23 _ (List.mem_of_getElem? (i := 11) rfl)
theorem tw_540 : Cond.instanceMethod yX8_note ∈ wsL_law := twr_23 _ (List.mem_of_getElem? (i := 12) rfl)
theorem tw_541 : Cond.selects RX8 yX8_note yX8_note ∈ wsL_law := twr_23 _ (List.mem_of_getElem? (i := 13) rfl)
theorem tw_542 : Cond.code yX8_note cX8_note 5 (some .int) ∈ wsL_law := twr_23 _ (List.mem_of_getElem? (i := 14) rfl)
theorem tw_543 : Cond.classLink RX8 138 RX3 ∈ wsL_law := twr_23 _ (List.mem_of_getElem? (i := 15) rfl)
theorem tw_544 : Cond.instantiable RX3 5 ∈ wsL_law := twr_23 _ (List.mem_of_getElem? (i := 16) rfl)
theorem tw_545 : Cond.initialized RX3 ∈ wsL_law := twr_23 _ (List.mem_of_getElem? (i := 17) rfl)
theorem tw_546 : Cond.methodLink RX8 128 yX8_isPost ∈ wsL_law := twr_23 _ (List.mem_of_getElem? (i := 18) rfl)
theorem tw_547 : Cond.instanceMethod yX8_isPost ∈ wsL_law := twr_23 _ (List.mem_of_getElem? (i := 19) rfl)
theorem tw_548 : Cond.selects RX8 yX8_isPost yX8_isPost ∈ wsL_law := twr_23 _ (List.mem_of_getElem? (i := 20) rfl)
theorem tw_549 : Cond.code yX8_isPost cX8_isPost 2 (some .boolean) ∈ wsL_law := twr_23 _ (List.mem_of_getElem? (i := 21) rfl)
theorem tw_550 : Cond.methodLink RX8 131 yX8_canBecome ∈ wsL_law := twr_23 _ (List.mem_of_getElem? (i := 22) rfl)
theorem tw_551 : Cond.static yX8_canBecome ∈ wsL_law := twr_23 _ (List.mem_of_getElem? (i := 23) rfl)
theorem tw_552 : Cond.code yX8_canBecome cX8_canBecome 2 (some .boolean) ∈ wsL_law := twr_24 _ (List.mem_of_getElem? (i := 0) rfl)
theorem tw_553 : Cond.methodLink RX8 251 yX8_isPart ∈ wsL_law := twr_24 _ (List.mem_of_getElem? (i := 1) rfl)
theorem tw_554 : Cond.static yX8_isPart ∈ wsL_law := twr_24 _ (List.mem_of_getElem? (i := 2) rfl)
theorem tw_555 : Cond.code yX8_isPart cX8_isPart 3 (some .boolean) ∈ wsL_law := twr_24 _ (List.mem_of_getElem? (i := 3) rfl)
theorem tw_556 : Cond.methodLink RX8 135 yX8_placeOfNote ∈ wsL_law := twr_24 _ (List.mem_of_getElem? (i := 4) rfl)
theorem tw_557 : Cond.instanceMethod yX8_placeOfNote ∈ wsL_law := twr_24 _ (List.mem_of_getElem? (i := 5) rfl)
theorem tw_558 : Cond.selects RX8 yX8_placeOfNote yX8_placeOfNote ∈ wsL_law := twr_24 _ (List.mem_of_getElem? (i := 6) rfl)
theorem tw_559 : Cond.code yX8_placeOfNote cX8_placeOfNote 3 (some .int) ∈ wsL_law := twr_24 _ (List.mem_of_getElem? (i := 7) rfl)
theorem tw_560 : Cond.classLink RX8 138 "PayScales$Note" ∈ wsL_law := twr_24 _ (List.mem_of_getElem? (i := 8) rfl)
theorem tw_561 : Cond.fieldLink RX8 254 "PayScales$Note" "from" "I" ∈ wsL_law := twr_24 _ (List.mem_of_getElem? (i := 9) rfl)
theorem tw_562 : Cond.methodLink RX8 140 yX3_init ∈ wsL_law := twr_24 _ (List.mem_of_getElem? (i := 10) rfl)
theorem tw_563 : Cond.instanceMethod yX3_init ∈ wsL_law := twr_24 _ (List.mem_of_getElem? (i := 11) rfl)
theorem tw_564 : Cond.code yX3_init cX3_init 6 none ∈ wsL_law := twr_24 _ (List.mem_of_getElem? (i := 12) rfl)
theorem tw_565 : Cond.methodLink RX3 1 objectInit ∈ wsL_law := twr_24 _ (List.mem_of_getElem? (i := 13) rfl)
theorem tw_566 : Cond.fieldLink RX3 7 "PayScales$Note" "post" "I" ∈ wsL_law := twr_24 _ (List.mem_of_getElem? (i := 14) rfl)
theorem tw_567 : Cond.fieldLink RX3 13 "PayScales$Note" "what" "I" ∈ wsL_law := twr_24 _ (List.mem_of_getElem? (i := 15) rfl)
theorem tw_568 : Cond.fieldLink RX3 16 "PayScales$Note" "from" "I" ∈ wsL_law := twr_24 _ (List.mem_of_getElem? (i := 16) rfl)
theorem tw_569 : Cond.fieldLink RX3 19 "PayScales$Note" "told" "I" ∈ wsL_law := twr_24 _ (List.mem_of_getElem? (i := 17) rfl)
theorem tw_570 : Cond.fieldLink RX3 22 "PayScales$Note" "value" "I" ∈ wsL_law := twr_24 _ (List.mem_of_getElem? (i := 18) rfl)
theorem tw_571 : Cond.methodLink RL 40 yX9_note ∈ wsL_law := twr_24 _ (List.mem_of_getElem? (i := 19) rfl)
theorem tw_572 : Cond.instanceMethod yX9_note ∈ wsL_law := twr_24 _ (List.mem_of_getElem? (i := 20) rfl)
theorem tw_573 : Cond.selects RX9 yX9_note yX9_note ∈ wsL_law := twr_24 _ (List.mem_of_getElem? (i := 21) rfl)
theorem tw_574 : Cond.code yX9_note cX9_note 5 (some .int) ∈ wsL_law := twr_24 _ (List.mem_of_getElem? (i := 22) rfl)
theorem tw_575 : Cond.fieldLink RX9 240 "PayScalesModel" "notes" "I" ∈ wsL_law := twr_24 _ (List.mem_of_getElem? (i := 23) rfl)
theorem tw_576 : Cond.methodLink RX9 236 yX9_isValue ∈ wsL_law := twr_25 _ (List.mem_of_getElem? (i := 0) rfl)
theorem tw_577 : Cond.static yX9_isValue ∈ wsL_law := twr_25 _ (List.mem_of_getElem? (i := 1) rfl)
theorem tw_578 : Cond.code yX9_isValue cX9_isValue 2 (some .boolean) ∈ wsL_law := twr_25 _ (List.mem_of_getElem? (i := 2) rfl)
theorem tw_579 : Cond.methodLink RL 41 yX8_look ∈ wsL_law := twr_25 _ (List.mem_of_getElem? (i := 3) rfl)
theorem tw_580 : Cond.instanceMethod yX8_look ∈ wsL_law := twr_25 _ (List.mem_of_getElem? (i := 4) rfl)
theorem tw_581 : Cond.selects RX8 yX8_look yX8_look ∈ wsL_law := twr_25 _ (List.mem_of_getElem? (i := 5) rfl)
theorem tw_582 : Cond.code yX8_look cX8_look 5 (some .int) ∈ wsL_law := twr_25 _ (List.mem_of_getElem? (i := 6) rfl)
theorem tw_583 : Cond.constant RX8 148 (-2147483648) ∈ wsL_law := twr_25 _ (List.mem_of_getElem? (i := 7) rfl)
theorem tw_584 : Cond.methodLink RX8 143 yX8_isKnown ∈ wsL_law := twr_25 _ (List.mem_of_getElem? (i := 8) rfl)
theorem tw_585 : Cond.instanceMethod yX8_isKnown ∈ wsL_law := twr_25 _ (List.mem_of_getElem? (i := 9) rfl)
theorem tw_586 : Cond.selects RX8 yX8_isKnown yX8_isKnown ∈ wsL_law := twr_25 _ (List.mem_of_getElem? (i := 10) rfl)
theorem tw_587 : Cond.code yX8_isKnown cX8_isKnown 2 (some .boolean) ∈ wsL_law := twr_25 _ (List.mem_of_getElem? (i := 11) rfl)
theorem tw_588 : Cond.methodLink RX8 149 yX7_begin ∈ wsL_law := twr_25 _ (List.mem_of_getElem? (i := 12) rfl)
theorem tw_589 : Cond.instanceMethod yX7_begin ∈ wsL_law := twr_25 _ (List.mem_of_getElem? (i := 13) rfl)
theorem tw_590 : Cond.selects RX7 yX7_begin yX7_begin ∈ wsL_law := twr_25 _ (List.mem_of_getElem? (i := 14) rfl)
theorem tw_591 : Cond.code yX7_begin cX7_begin 3 none ∈ wsL_law := twr_25 _ (List.mem_of_getElem? (i := 15) rfl)
theorem tw_592 : Cond.fieldLink RX7 39 "PayScales$Walk" "post" "I" ∈ wsL_law := twr_25 _ (List.mem_of_getElem? (i := 16) rfl)
theorem tw_593 : Cond.fieldLink RX7 43 "PayScales$Walk" "known" "I" ∈ wsL_law := twr_25 _ (List.mem_of_getElem? (i := 17) rfl)
theorem tw_594 : Cond.fieldLink RX7 46 "PayScales$Walk" "day" "I" ∈ wsL_law := twr_25 _ (List.mem_of_getElem? (i := 18) rfl)
theorem tw_595 : Cond.fieldLink RX7 49 "PayScales$Walk" "agreementsPassed" "I" ∈ wsL_law := twr_25 _ (List.mem_of_getElem? (i := 19) rfl)
theorem tw_596 : Cond.fieldLink RX7 52 "PayScales$Walk" "notesPassed" "I" ∈ wsL_law := twr_25 _ (List.mem_of_getElem? (i := 20) rfl)
theorem tw_597 : Cond.fieldLink RX7 55 "PayScales$Walk" "service" "I" ∈ wsL_law := twr_25 _ (List.mem_of_getElem? (i := 21) rfl)
theorem tw_598 : Cond.fieldLink RX7 58 "PayScales$Walk" "daysWithout" "I" ∈ wsL_law := twr_25 _ (List.mem_of_getElem? (i := 22) rfl)
theorem tw_599 : Cond.fieldLink RX7 61 "PayScales$Walk" "floor" "I" ∈ wsL_law := twr_25 _ (List.mem_of_getElem? (i := 23) rfl)
theorem tw_600 : Cond.fieldLink RX7 64 "PayScales$Walk" "given" "I" ∈ wsL_law := twr_26 _ (List.mem_of_getElem? (i := 0) rfl)
theorem tw_601 : Cond.fieldLink RX7 78 "PayScales$Walk" "changed" "Z" ∈ wsL_law := twr_26 _ (List.mem_of_getElem? (i := 1) rfl)
theorem tw_602 : Cond.methodLink RX7 67 yX6_clear ∈ wsL_law := twr_26 _ (List.mem_of_getElem? (i := 2) rfl)
theorem tw_603 : Cond.instanceMethod yX6_clear ∈ wsL_law := twr_26 _ (List.mem_of_getElem? (i := 3) rfl)
theorem tw_604 : Cond.selects RX6 yX6_clear yX6_clear ∈ wsL_law := twr_26 _ (List.mem_of_getElem? (i := 4) rfl)
theorem tw_605 : Cond.code yX6_clear cX6_clear 2 none ∈ wsL_law := twr_26 _ (List.mem_of_getElem? (i := 5) rfl)
theorem tw_606 : Cond.methodLink RX6 24 yJ7_fill_53178 ∈ wsL_law := twr_26 _ (List.mem_of_getElem? (i := 6) rfl)
theorem tw_607 : Cond.static yJ7_fill_53178 ∈ wsL_law := twr_26 _ (List.mem_of_getElem? (i := 7) rfl)
theorem tw_608 : Cond.code yJ7_fill_53178 cJ7_fill_53178 4 none ∈ wsL_law := twr_26 _ (List.mem_of_getElem? (i := 8) rfl)
theorem tw_609 : Cond.methodLink RX7 72 yJ7_fill_53178 ∈ wsL_law := twr_26 _ (List.mem_of_getElem? (i := 9) rfl)
theorem tw_610 : Cond.methodLink RX7 82 yX7_openDay ∈ wsL_law := twr_26 _ (List.mem_of_getElem? (i := 10) rfl)
theorem tw_611 : Cond.instanceMethod yX7_openDay ∈ wsL_law := twr_26 _ (List.mem_of_getElem? (i := 11) rfl)
theorem tw_612 : Cond.selects RX7 yX7_openDay yX7_openDay ∈ wsL_law := twr_26 _ (List.mem_of_getElem? (i := 12) rfl)
theorem tw_613 : Cond.code yX7_openDay cX7_openDay 1 none ∈ wsL_law := twr_26 _ (List.mem_of_getElem? (i := 13) rfl)
theorem tw_614 : Cond.methodLink RX7 151 yX7_takeAgreements ∈ wsL_law := twr_26 _ (List.mem_of_getElem? (i := 14) rfl)
theorem tw_615 : Cond.instanceMethod yX7_takeAgreements ∈ wsL_law := twr_26 _ (List.mem_of_getElem? (i := 15) rfl)
theorem tw_616 : Cond.selects RX7 yX7_takeAgreements yX7_takeAgreements ∈ wsL_law := twr_26 _ (List.mem_of_getElem? (i := 16) rfl)
theorem tw_617 : Cond.code yX7_takeAgreements cX7_takeAgreements 3 none ∈ wsL_law := twr_26 _ (List.mem_of_getElem? (i := 17) rfl)
theorem tw_618 : Cond.classLink RX7 124 "PayScales$Agreement" ∈ wsL_law := twr_26 _ (List.mem_of_getElem? (i := 18) rfl)
theorem tw_619 : Cond.fieldLink RX7 126 "PayScales$Agreement" "from" "I" ∈ wsL_law := twr_26 _ (List.mem_of_getElem? (i := 19) rfl)
theorem tw_620 : Cond.fieldLink RX7 167 "PayScales$Agreement" "told" "I" ∈ wsL_law := twr_26 _ (List.mem_of_getElem? (i := 20) rfl)
theorem tw_621 : Cond.methodLink RX7 114 yJx4a65c_size_8abf5 ∈ wsL_law := twr_26 _ (List.mem_of_getElem? (i := 21) rfl)
theorem tw_622 : Cond.methodLink RX7 120 yJx4a65c_get_915e3 ∈ wsL_law := twr_26 _ (List.mem_of_getElem? (i := 22) rfl)
theorem tw_623 : Cond.methodLink RX7 170 yX6_take ∈ wsL_law := twr_26 _ (List.mem_of_getElem? (i := 23) rfl)
theorem tw_624 : Cond.instanceMethod yX6_take ∈ wsL_law := twr_27 _ (List.mem_of_getElem? (i := 0) rfl)
theorem tw_625 : Cond.selects RX6 yX6_take yX6_take ∈ wsL_law := twr_27 _ (List.mem_of_getElem? (i := 1) rfl)
theorem tw_626 : Cond.code yX6_take cX6_take 5 none ∈ wsL_law := twr_27 _ (List.mem_of_getElem? (i := 2) rfl)
theorem tw_627 : Cond.fieldLink RX6 30 "PayScales$Agreement" "lines" "Ljava/util/ArrayList;" ∈ wsL_law := twr_27 _ (List.mem_of_getElem? (i := 3) rfl)
theorem tw_628 : Cond.classLink RX6 9 "PayScales$Line" ∈ wsL_law := twr_27 _ (List.mem_of_getElem? (i := 4) rfl)
theorem tw_629 : Cond.fieldLink RX6 49 "PayScales$Agreement" "number" "I" ∈ wsL_law := twr_27 _ (List.mem_of_getElem? (i := 5) rfl)
theorem tw_630 : Cond.methodLink RX6 36 yJx4a65c_size_8abf5 ∈ wsL_law := twr_27 _ (List.mem_of_getElem? (i := 6) rfl)
theorem tw_631 : Cond.methodLink RX6 42 yJx4a65c_get_915e3 ∈ wsL_law := twr_27 _ (List.mem_of_getElem? (i := 7) rfl)
theorem tw_632 : Cond.methodLink RX6 46 yX2_key ∈ wsL_law := twr_27 _ (List.mem_of_getElem? (i := 8) rfl)
theorem tw_633 : Cond.methodLink RX7 154 yX7_takeNotes ∈ wsL_law := twr_27 _ (List.mem_of_getElem? (i := 9) rfl)
theorem tw_634 : Cond.instanceMethod yX7_takeNotes ∈ wsL_law := twr_27 _ (List.mem_of_getElem? (i := 10) rfl)
theorem tw_635 : Cond.selects RX7 yX7_takeNotes yX7_takeNotes ∈ wsL_law := twr_27 _ (List.mem_of_getElem? (i := 11) rfl)
theorem tw_636 : Cond.code yX7_takeNotes cX7_takeNotes 3 none ∈ wsL_law := twr_27 _ (List.mem_of_getElem? (i := 12) rfl)
theorem tw_637 : Cond.fieldLink RX7 174 "PayScales$Walk" "protectBegins" "Z" ∈ wsL_law := twr_27 _ (List.mem_of_getElem? (i := 13) rfl)
theorem tw_638 : Cond.classLink RX7 135 "PayScales$Note" ∈ wsL_law := twr_27 _ (List.mem_of_getElem? (i := 14) rfl)
theorem tw_639 : Cond.fieldLink RX7 137 "PayScales$Note" "from" "I" ∈ wsL_law := twr_27 _ (List.mem_of_getElem? (i := 15) rfl)
theorem tw_640 : Cond.fieldLink RX7 177 "PayScales$Note" "told" "I" ∈ wsL_law := twr_27 _ (List.mem_of_getElem? (i := 16) rfl)
theorem tw_641 : Cond.methodLink RX7 178 yX7_takeNote ∈ wsL_law := twr_27 _ (List.mem_of_getElem? (i := 17) rfl)
theorem tw_642 : Cond.instanceMethod yX7_takeNote ∈ wsL_law := twr_27 _ (List.mem_of_getElem? (i := 18) rfl)
theorem tw_643 : Cond.selects RX7 yX7_takeNote yX7_takeNote ∈ wsL_law := twr_27 _ (List.mem_of_getElem? (i := 19) rfl)
theorem tw_644 : Cond.code yX7_takeNote cX7_takeNote 2 none ∈ wsL_law := twr_27 _ (List.mem_of_getElem? (i := 20) rfl)
theorem tw_645 : Cond.fieldLink RX7 182 "PayScales$Note" "what" "I" ∈ wsL_law := twr_27 _ (List.mem_of_getElem? (i := 21) rfl)
theorem tw_646 : Cond.fieldLink RX7 185 "PayScales$Note" "post" "I" ∈ wsL_law := twr_27 _ (List.mem_of_getElem? (i := 22) rfl)
theorem tw_647 : Cond.fieldLink RX7 186 "PayScales$Note" "value" "I" ∈ wsL_law := twr_27 _ (List.mem_of_getElem? (i := 23) rfl)
theorem tw_648 : Cond.methodLink RX7 157 yX1_renew ∈ wsL_law := twr_28 _ (List.mem_of_getElem? (i := 0) rfl)
theorem tw_649 : Cond.instanceMethod yX1_renew ∈ wsL_law := twr_28 _ (List.mem_of_getElem? (i := 1) rfl)
theorem tw_650 : Cond.selects RX1 yX1_renew yX1_renew ∈ wsL_law := twr_28 _ (List.mem_of_getElem? (i := 2) rfl)
theorem tw_651 : Cond.code yX1_renew cX1_renew 4 none ∈ wsL_law := twr_28 _ (List.mem_of_getElem? (i := 3) rfl)
theorem tw_652 : Cond.fieldLink RX1 15 "PayScales$Appraisal" "points" "I" ∈ wsL_law := twr_28 _ (List.mem_of_getElem? (i := 4) rfl)
theorem tw_653 : Cond.fieldLink RX1 25 "PayScales$Appraisal" "grade" "I" ∈ wsL_law := twr_28 _ (List.mem_of_getElem? (i := 5) rfl)
theorem tw_654 : Cond.fieldLink RX1 32 "PayScales$Appraisal" "scale" "LPayScales$Line;" ∈ wsL_law := twr_28 _ (List.mem_of_getElem? (i := 6) rfl)
theorem tw_655 : Cond.fieldLink RX1 40 "PayScales$Appraisal" "stepDays" "I" ∈ wsL_law := twr_28 _ (List.mem_of_getElem? (i := 7) rfl)
theorem tw_656 : Cond.methodLink RX1 9 yX6_pointsBy ∈ wsL_law := twr_28 _ (List.mem_of_getElem? (i := 8) rfl)
theorem tw_657 : Cond.instanceMethod yX6_pointsBy ∈ wsL_law := twr_28 _ (List.mem_of_getElem? (i := 9) rfl)
theorem tw_658 : Cond.selects RX6 yX6_pointsBy yX6_pointsBy ∈ wsL_law := twr_28 _ (List.mem_of_getElem? (i := 10) rfl)
theorem tw_659 : Cond.code yX6_pointsBy cX6_pointsBy 5 (some .int) ∈ wsL_law := twr_28 _ (List.mem_of_getElem? (i := 11) rfl)
theorem tw_660 : Cond.fieldLink RX6 61 "PayScales$Line" "number" "I" ∈ wsL_law := twr_28 _ (List.mem_of_getElem? (i := 12) rfl)
theorem tw_661 : Cond.methodLink RX6 57 yX6_lineOf ∈ wsL_law := twr_28 _ (List.mem_of_getElem? (i := 13) rfl)
theorem tw_662 : Cond.instanceMethod yX6_lineOf ∈ wsL_law := twr_28 _ (List.mem_of_getElem? (i := 14) rfl)
theorem tw_663 : Cond.selects RX6 yX6_lineOf yX6_lineOf ∈ wsL_law := twr_28 _ (List.mem_of_getElem? (i := 15) rfl)
theorem tw_664 : Cond.code yX6_lineOf cX6_lineOf 5 (some (.object "PayScales$Line")) ∈ wsL_law := twr_28 _ (List.mem_of_getElem? (i := 16) rfl)
theorem tw_665 : Cond.fieldLink RX6 53 "PayScales$Line" "ends" "Z" ∈ wsL_law := twr_28 _ (List.mem_of_getElem? (i := 17) rfl)
theorem tw_666 : Cond.methodLink RX6 62 yX2_holds ∈ wsL_law := twr_28 _ (List.mem_of_getElem? (i := 18) rfl)
theorem tw_667 : Cond.instanceMethod yX2_holds ∈ wsL_law := twr_28 _ (List.mem_of_getElem? (i := 19) rfl)
theorem tw_668 : Cond.selects RX2 yX2_holds yX2_holds ∈ wsL_law := twr_28 _ (List.mem_of_getElem? (i := 20) rfl)
theorem tw_669 : Cond.code yX2_holds cX2_holds 3 (some .boolean) ∈ wsL_law := twr_28 _ (List.mem_of_getElem? (i := 21) rfl)
theorem tw_670 : Cond.fieldLink RX2 29 "PayScales$Line" "sign" "I" ∈ wsL_law := twr_28 _ (List.mem_of_getElem? (i := 22) rfl)
theorem tw_671 : Cond.fieldLink RX2 32 "PayScales$Line" "bound" "I" ∈ wsL_law := twr_28 _ (List.mem_of_getElem? (i := 23) rfl)
theorem tw_672 : Cond.methodLink RX1 21 yX6_gradeBy ∈ wsL_law := twr_29 _ (List.mem_of_getElem? (i := 0) rfl)
theorem tw_673 : Cond.instanceMethod yX6_gradeBy ∈ wsL_law := twr_29 _ (List.mem_of_getElem? (i := 1) rfl)
theorem tw_674 : Cond.selects RX6 yX6_gradeBy yX6_gradeBy ∈ wsL_law := twr_29 _ (List.mem_of_getElem? (i := 2) rfl)
theorem tw_675 : Cond.code yX6_gradeBy cX6_gradeBy 6 (some .int) ∈ wsL_law := twr_29 _ (List.mem_of_getElem? (i := 3) rfl)
theorem tw_676 : Cond.methodLink RX1 28 yX6_lineOf ∈ wsL_law := twr_29 _ (List.mem_of_getElem? (i := 4) rfl)
theorem tw_677 : Cond.methodLink RX1 36 yX6_numberOf ∈ wsL_law := twr_29 _ (List.mem_of_getElem? (i := 5) rfl)
theorem tw_678 : Cond.instanceMethod yX6_numberOf ∈ wsL_law := twr_29 _ (List.mem_of_getElem? (i := 6) rfl)
theorem tw_679 : Cond.selects RX6 yX6_numberOf yX6_numberOf ∈ wsL_law := twr_29 _ (List.mem_of_getElem? (i := 7) rfl)
theorem tw_680 : Cond.code yX6_numberOf cX6_numberOf 4 (some .int) ∈ wsL_law := twr_29 _ (List.mem_of_getElem? (i := 8) rfl)
theorem tw_681 : Cond.methodLink RX1 43 yX1_stepAfter ∈ wsL_law := twr_29 _ (List.mem_of_getElem? (i := 9) rfl)
theorem tw_682 : Cond.instanceMethod yX1_stepAfter ∈ wsL_law := twr_29 _ (List.mem_of_getElem? (i := 10) rfl)
theorem tw_683 : Cond.selects RX1 yX1_stepAfter yX1_stepAfter ∈ wsL_law := twr_29 _ (List.mem_of_getElem? (i := 11) rfl)
theorem tw_684 : Cond.code yX1_stepAfter cX1_stepAfter 2 (some .int) ∈ wsL_law := twr_29 _ (List.mem_of_getElem? (i := 12) rfl)
theorem tw_685 : Cond.fieldLink RX1 53 "PayScales$Line" "scaleLength" "I" ∈ wsL_law := twr_29 _ (List.mem_of_getElem? (i := 13) rfl)
theorem tw_686 : Cond.methodLink RX1 58 Lib.Math.min.name ∈ wsL_law := twr_29 _ (List.mem_of_getElem? (i := 14) rfl)
theorem tw_687 : Cond.methodLink RX1 46 yX1_moveStep ∈ wsL_law := twr_29 _ (List.mem_of_getElem? (i := 15) rfl)
theorem tw_688 : Cond.instanceMethod yX1_moveStep ∈ wsL_law := twr_29 _ (List.mem_of_getElem? (i := 16) rfl)
theorem tw_689 : Cond.selects RX1 yX1_moveStep yX1_moveStep ∈ wsL_law := twr_29 _ (List.mem_of_getElem? (i := 17) rfl)
theorem tw_690 : Cond.code yX1_moveStep cX1_moveStep 4 none ∈ wsL_law := twr_29 _ (List.mem_of_getElem? (i := 18) rfl)
theorem tw_691 : Cond.fieldLink RX1 50 "PayScales$Appraisal" "step" "I" ∈ wsL_law := twr_29 _ (List.mem_of_getElem? (i := 19) rfl)
theorem tw_692 : Cond.fieldLink RX1 66 "PayScales$Appraisal" "base" "I" ∈ wsL_law := twr_29 _ (List.mem_of_getElem? (i := 20) rfl)
theorem tw_693 : Cond.fieldLink RX1 73 "PayScales$Appraisal" "amount" "I" ∈ wsL_law := twr_29 _ (List.mem_of_getElem? (i := 21) rfl)
theorem tw_694 : Cond.methodLink RX1 63 yX2_scaleNumber ∈ wsL_law := twr_29 _ (List.mem_of_getElem? (i := 22) rfl)
theorem tw_695 : Cond.instanceMethod yX2_scaleNumber ∈ wsL_law := twr_29 _ (List.mem_of_getElem? (i := 23) rfl)
theorem tw_696 : Cond.selects RX2 yX2_scaleNumber yX2_scaleNumber ∈ wsL_law := twr_30 _ (List.mem_of_getElem? (i := 0) rfl)
theorem tw_697 : Cond.code yX2_scaleNumber cX2_scaleNumber 2 (some .int) ∈ wsL_law := twr_30 _ (List.mem_of_getElem? (i := 1) rfl)
theorem tw_698 : Cond.methodLink RX1 69 yX6_amountBy ∈ wsL_law := twr_30 _ (List.mem_of_getElem? (i := 2) rfl)
theorem tw_699 : Cond.instanceMethod yX6_amountBy ∈ wsL_law := twr_30 _ (List.mem_of_getElem? (i := 3) rfl)
theorem tw_700 : Cond.selects RX6 yX6_amountBy yX6_amountBy ∈ wsL_law := twr_30 _ (List.mem_of_getElem? (i := 4) rfl)
theorem tw_701 : Cond.code yX6_amountBy cX6_amountBy 6 (some .int) ∈ wsL_law := twr_30 _ (List.mem_of_getElem? (i := 5) rfl)
theorem tw_702 : Cond.fieldLink RX6 66 "PayScales$Line" "percent" "Z" ∈ wsL_law := twr_30 _ (List.mem_of_getElem? (i := 6) rfl)
theorem tw_703 : Cond.methodLink RX7 161 yX1_follow ∈ wsL_law := twr_30 _ (List.mem_of_getElem? (i := 7) rfl)
theorem tw_704 : Cond.instanceMethod yX1_follow ∈ wsL_law := twr_30 _ (List.mem_of_getElem? (i := 8) rfl)
theorem tw_705 : Cond.selects RX1 yX1_follow yX1_follow ∈ wsL_law := twr_30 _ (List.mem_of_getElem? (i := 9) rfl)
theorem tw_706 : Cond.code yX1_follow cX1_follow 5 none ∈ wsL_law := twr_30 _ (List.mem_of_getElem? (i := 10) rfl)
theorem tw_707 : Cond.methodLink RX7 164 yX7_give ∈ wsL_law := twr_30 _ (List.mem_of_getElem? (i := 11) rfl)
theorem tw_708 : Cond.instanceMethod yX7_give ∈ wsL_law := twr_30 _ (List.mem_of_getElem? (i := 12) rfl)
theorem tw_709 : Cond.selects RX7 yX7_give yX7_give ∈ wsL_law := twr_30 _ (List.mem_of_getElem? (i := 13) rfl)
theorem tw_710 : Cond.code yX7_give cX7_give 1 none ∈ wsL_law := twr_30 _ (List.mem_of_getElem? (i := 14) rfl)
theorem tw_711 : Cond.fieldLink RX7 111 "PayScales$Appraisal" "amount" "I" ∈ wsL_law := twr_30 _ (List.mem_of_getElem? (i := 15) rfl)
theorem tw_712 : Cond.methodLink RX7 189 yX7_isHeld ∈ wsL_law := twr_30 _ (List.mem_of_getElem? (i := 16) rfl)
theorem tw_713 : Cond.instanceMethod yX7_isHeld ∈ wsL_law := twr_30 _ (List.mem_of_getElem? (i := 17) rfl)
theorem tw_714 : Cond.selects RX7 yX7_isHeld yX7_isHeld ∈ wsL_law := twr_30 _ (List.mem_of_getElem? (i := 18) rfl)
theorem tw_715 : Cond.code yX7_isHeld cX7_isHeld 1 (some .boolean) ∈ wsL_law := twr_30 _ (List.mem_of_getElem? (i := 19) rfl)
theorem tw_716 : Cond.methodLink RX8 152 yX7_goTo ∈ wsL_law := twr_30 _ (List.mem_of_getElem? (i := 20) rfl)
theorem tw_717 : Cond.instanceMethod yX7_goTo ∈ wsL_law := twr_30 _ (List.mem_of_getElem? (i := 21) rfl)
theorem tw_718 : Cond.selects RX7 yX7_goTo yX7_goTo ∈ wsL_law := twr_30 _ (List.mem_of_getElem? (i := 22) rfl)
theorem tw_719 : Cond.code yX7_goTo cX7_goTo 3 none ∈ wsL_law := twr_30 _ (List.mem_of_getElem? (i := 23) rfl)
theorem tw_720 : Cond.methodLink RX7 85 yX7_daysAlike ∈ wsL_law := twr_31 _ (List.mem_of_getElem? (i := 0) rfl)
theorem tw_721 : Cond.instanceMethod yX7_daysAlike ∈ wsL_law := twr_31 _ (List.mem_of_getElem? (i := 1) rfl)
theorem tw_722 : Cond.selects RX7 yX7_daysAlike yX7_daysAlike ∈ wsL_law := twr_31 _ (List.mem_of_getElem? (i := 2) rfl)
theorem tw_723 : Cond.code yX7_daysAlike cX7_daysAlike 3 (some .int) ∈ wsL_law := twr_31 _ (List.mem_of_getElem? (i := 3) rfl)
theorem tw_724 : Cond.methodLink RX7 129 Lib.Math.min.name ∈ wsL_law := twr_31 _ (List.mem_of_getElem? (i := 4) rfl)
theorem tw_725 : Cond.methodLink RX7 141 Lib.Math.max.name ∈ wsL_law := twr_31 _ (List.mem_of_getElem? (i := 5) rfl)
theorem tw_726 : Cond.methodLink RX7 138 yX1_daysToNextStep ∈ wsL_law := twr_31 _ (List.mem_of_getElem? (i := 6) rfl)
theorem tw_727 : Cond.instanceMethod yX1_daysToNextStep ∈ wsL_law := twr_31 _ (List.mem_of_getElem? (i := 7) rfl)
theorem tw_728 : Cond.selects RX1 yX1_daysToNextStep yX1_daysToNextStep ∈ wsL_law := twr_31 _ (List.mem_of_getElem? (i := 8) rfl)
theorem tw_729 : Cond.code yX1_daysToNextStep cX1_daysToNextStep 3 (some .int) ∈ wsL_law := twr_31 _ (List.mem_of_getElem? (i := 9) rfl)
theorem tw_730 : Cond.methodLink RX7 89 yX7_passDays ∈ wsL_law := twr_31 _ (List.mem_of_getElem? (i := 10) rfl)
theorem tw_731 : Cond.instanceMethod yX7_passDays ∈ wsL_law := twr_31 _ (List.mem_of_getElem? (i := 11) rfl)
theorem tw_732 : Cond.selects RX7 yX7_passDays yX7_passDays ∈ wsL_law := twr_31 _ (List.mem_of_getElem? (i := 12) rfl)
theorem tw_733 : Cond.code yX7_passDays cX7_passDays 2 none ∈ wsL_law := twr_31 _ (List.mem_of_getElem? (i := 13) rfl)
theorem tw_734 : Cond.methodLink RX7 144 yX7_isServing ∈ wsL_law := twr_31 _ (List.mem_of_getElem? (i := 14) rfl)
theorem tw_735 : Cond.instanceMethod yX7_isServing ∈ wsL_law := twr_31 _ (List.mem_of_getElem? (i := 15) rfl)
theorem tw_736 : Cond.selects RX7 yX7_isServing yX7_isServing ∈ wsL_law := twr_31 _ (List.mem_of_getElem? (i := 16) rfl)
theorem tw_737 : Cond.code yX7_isServing cX7_isServing 3 (some .boolean) ∈ wsL_law := twr_31 _ (List.mem_of_getElem? (i := 17) rfl)
theorem tw_738 : Cond.methodLink RX7 148 yX6_numberOf ∈ wsL_law := twr_31 _ (List.mem_of_getElem? (i := 18) rfl)
theorem tw_739 : Cond.methodLink RX8 155 yX7_tell ∈ wsL_law := twr_31 _ (List.mem_of_getElem? (i := 19) rfl)
theorem tw_740 : Cond.instanceMethod yX7_tell ∈ wsL_law := twr_31 _ (List.mem_of_getElem? (i := 20) rfl)
theorem tw_741 : Cond.selects RX7 yX7_tell yX7_tell ∈ wsL_law := twr_31 _ (List.mem_of_getElem? (i := 21) rfl)
theorem tw_742 : Cond.code yX7_tell cX7_tell 2 (some .int) ∈ wsL_law := twr_31 _ (List.mem_of_getElem? (i := 22) rfl)
theorem tw_743 : Cond.fieldLink RX7 99 "PayScales$Appraisal" "points" "I" ∈ wsL_law := twr_31 _ (List.mem_of_getElem? (i := 23) rfl)
theorem tw_744 : Cond.fieldLink RX7 102 "PayScales$Appraisal" "grade" "I" ∈ wsL_law := twr_32 _ (List.mem_of_getElem? (i := 0) rfl)
theorem tw_745 : Cond.fieldLink RX7 105 "PayScales$Appraisal" "step" "I" ∈ wsL_law := twr_32 _ (List.mem_of_getElem? (i := 1) rfl)
theorem tw_746 : Cond.fieldLink RX7 108 "PayScales$Appraisal" "base" "I" ∈ wsL_law := twr_32 _ (List.mem_of_getElem? (i := 2) rfl)
theorem tw_747 : Cond.methodLink RL 44 yX9_look ∈ wsL_law := twr_32 _ (List.mem_of_getElem? (i := 3) rfl)
theorem tw_748 : Cond.instanceMethod yX9_look ∈ wsL_law := twr_32 _ (List.mem_of_getElem? (i := 4) rfl)
theorem tw_749 : Cond.selects RX9 yX9_look yX9_look ∈ wsL_law := twr_32 _ (List.mem_of_getElem? (i := 5) rfl)
theorem tw_750 : Cond.code yX9_look cX9_look 5 (some .int) ∈ wsL_law := twr_32 _ (List.mem_of_getElem? (i := 6) rfl)
theorem tw_751 : Cond.constant RX9 284 (-2147483648) ∈ wsL_law := twr_32 _ (List.mem_of_getElem? (i := 7) rfl)
theorem tw_752 : Cond.methodLink RX9 275 yX9_isPost ∈ wsL_law := twr_32 _ (List.mem_of_getElem? (i := 8) rfl)
theorem tw_753 : Cond.instanceMethod yX9_isPost ∈ wsL_law := twr_32 _ (List.mem_of_getElem? (i := 9) rfl)
theorem tw_754 : Cond.selects RX9 yX9_isPost yX9_isPost ∈ wsL_law := twr_32 _ (List.mem_of_getElem? (i := 10) rfl)
theorem tw_755 : Cond.code yX9_isPost cX9_isPost 2 (some .boolean) ∈ wsL_law := twr_32 _ (List.mem_of_getElem? (i := 11) rfl)
theorem tw_756 : Cond.methodLink RX9 278 yX9_isDay ∈ wsL_law := twr_32 _ (List.mem_of_getElem? (i := 12) rfl)
theorem tw_757 : Cond.instanceMethod yX9_isDay ∈ wsL_law := twr_32 _ (List.mem_of_getElem? (i := 13) rfl)
theorem tw_758 : Cond.selects RX9 yX9_isDay yX9_isDay ∈ wsL_law := twr_32 _ (List.mem_of_getElem? (i := 14) rfl)
theorem tw_759 : Cond.code yX9_isDay cX9_isDay 2 (some .boolean) ∈ wsL_law := twr_32 _ (List.mem_of_getElem? (i := 15) rfl)
theorem tw_760 : Cond.methodLink RX9 281 yX9_isKnown ∈ wsL_law := twr_32 _ (List.mem_of_getElem? (i := 16) rfl)
theorem tw_761 : Cond.instanceMethod yX9_isKnown ∈ wsL_law := twr_32 _ (List.mem_of_getElem? (i := 17) rfl)
theorem tw_762 : Cond.selects RX9 yX9_isKnown yX9_isKnown ∈ wsL_law := twr_32 _ (List.mem_of_getElem? (i := 18) rfl)
theorem tw_763 : Cond.code yX9_isKnown cX9_isKnown 2 (some .boolean) ∈ wsL_law := twr_32 _ (List.mem_of_getElem? (i := 19) rfl)
theorem tw_764 : Cond.methodLink RX9 285 yX9_passes ∈ wsL_law := twr_32 _ (List.mem_of_getElem? (i := 20) rfl)
theorem tw_765 : Cond.instanceMethod yX9_passes ∈ wsL_law := twr_32 _ (List.mem_of_getElem? (i := 21) rfl)
theorem tw_766 : Cond.selects RX9 yX9_passes yX9_passes ∈ wsL_law := twr_32 _ (List.mem_of_getElem? (i := 22) rfl)
theorem tw_767 : Cond.code yX9_passes cX9_passes 6 none ∈ wsL_law := twr_32 _ (List.mem_of_getElem? (i := 23) rfl)
theorem tw_768 : Cond.constantLong RX9 261 (840) ∈ wsL_law := twr_33 _ (List.mem_of_getElem? (i := 0) rfl)
theorem tw_769 : Cond.methodLink RX9 243 yX9_serves ∈ wsL_law := twr_33 _ (List.mem_of_getElem? (i := 1) rfl)
theorem tw_770 : Cond.instanceMethod yX9_serves ∈ wsL_law := twr_33 _ (List.mem_of_getElem? (i := 2) rfl)
theorem tw_771 : Cond.selects RX9 yX9_serves yX9_serves ∈ wsL_law := twr_33 _ (List.mem_of_getElem? (i := 3) rfl)
theorem tw_772 : Cond.code yX9_serves cX9_serves 5 none ∈ wsL_law := twr_33 _ (List.mem_of_getElem? (i := 4) rfl)
theorem tw_773 : Cond.methodLink RX9 263 yX9_numberOf ∈ wsL_law := twr_33 _ (List.mem_of_getElem? (i := 5) rfl)
theorem tw_774 : Cond.instanceMethod yX9_numberOf ∈ wsL_law := twr_33 _ (List.mem_of_getElem? (i := 6) rfl)
theorem tw_775 : Cond.selects RX9 yX9_numberOf yX9_numberOf ∈ wsL_law := twr_33 _ (List.mem_of_getElem? (i := 7) rfl)
theorem tw_776 : Cond.code yX9_numberOf cX9_numberOf 4 (some .int) ∈ wsL_law := twr_33 _ (List.mem_of_getElem? (i := 8) rfl)
theorem tw_777 : Cond.methodLink RX9 246 yX9_isBeginning ∈ wsL_law := twr_33 _ (List.mem_of_getElem? (i := 9) rfl)
theorem tw_778 : Cond.instanceMethod yX9_isBeginning ∈ wsL_law := twr_33 _ (List.mem_of_getElem? (i := 10) rfl)
theorem tw_779 : Cond.selects RX9 yX9_isBeginning yX9_isBeginning ∈ wsL_law := twr_33 _ (List.mem_of_getElem? (i := 11) rfl)
theorem tw_780 : Cond.code yX9_isBeginning cX9_isBeginning 4 (some .boolean) ∈ wsL_law := twr_33 _ (List.mem_of_getElem? (i := 12) rfl)
theorem tw_781 : Cond.methodLink RX9 249 yX9_lawsOf ∈ wsL_law := twr_33 _ (List.mem_of_getElem? (i := 13) rfl)
theorem tw_782 : Cond.instanceMethod yX9_lawsOf ∈ wsL_law := twr_33 _ (List.mem_of_getElem? (i := 14) rfl)
theorem tw_783 : Cond.selects RX9 yX9_lawsOf yX9_lawsOf ∈ wsL_law := twr_33 _ (List.mem_of_getElem? (i := 15) rfl)
theorem tw_784 : Cond.code yX9_lawsOf cX9_lawsOf 6 none ∈ wsL_law := twr_33 _ (List.mem_of_getElem? (i := 16) rfl)
theorem tw_785 : Cond.methodLink RX9 252 yX9_notesOf ∈ wsL_law := twr_33 _ (List.mem_of_getElem? (i := 17) rfl)
theorem tw_786 : Cond.instanceMethod yX9_notesOf ∈ wsL_law := twr_33 _ (List.mem_of_getElem? (i := 18) rfl)
theorem tw_787 : Cond.selects RX9 yX9_notesOf yX9_notesOf ∈ wsL_law := twr_33 _ (List.mem_of_getElem? (i := 19) rfl)
theorem tw_788 : Cond.code yX9_notesOf cX9_notesOf 4 none ∈ wsL_law := twr_33 _ (List.mem_of_getElem? (i := 20) rfl)
theorem tw_789 : Cond.methodLink RX9 255 yX9_stands ∈ wsL_law := twr_33 _ (List.mem_of_getElem? (i := 21) rfl)
theorem tw_790 : Cond.instanceMethod yX9_stands ∈ wsL_law := twr_33 _ (List.mem_of_getElem? (i := 22) rfl)
theorem tw_791 : Cond.selects RX9 yX9_stands yX9_stands ∈ wsL_law := twr_33 _ (List.mem_of_getElem? (i := 23) rfl)
theorem tw_792 : Cond.code yX9_stands cX9_stands 5 none ∈ wsL_law := twr_34 _ (List.mem_of_getElem? (i := 0) rfl)
theorem tw_793 : Cond.methodLink RX9 270 Lib.Math.min.name ∈ wsL_law := twr_34 _ (List.mem_of_getElem? (i := 1) rfl)
theorem tw_794 : Cond.methodLink RX9 267 yX9_holds ∈ wsL_law := twr_34 _ (List.mem_of_getElem? (i := 2) rfl)
theorem tw_795 : Cond.instanceMethod yX9_holds ∈ wsL_law := twr_34 _ (List.mem_of_getElem? (i := 3) rfl)
theorem tw_796 : Cond.selects RX9 yX9_holds yX9_holds ∈ wsL_law := twr_34 _ (List.mem_of_getElem? (i := 4) rfl)
theorem tw_797 : Cond.code yX9_holds cX9_holds 4 (some .boolean) ∈ wsL_law := twr_34 _ (List.mem_of_getElem? (i := 5) rfl)
theorem tw_798 : Cond.methodLink RX9 258 yX9_gives ∈ wsL_law := twr_34 _ (List.mem_of_getElem? (i := 6) rfl)
theorem tw_799 : Cond.instanceMethod yX9_gives ∈ wsL_law := twr_34 _ (List.mem_of_getElem? (i := 7) rfl)
theorem tw_800 : Cond.selects RX9 yX9_gives yX9_gives ∈ wsL_law := twr_34 _ (List.mem_of_getElem? (i := 8) rfl)
theorem tw_801 : Cond.code yX9_gives cX9_gives 2 none ∈ wsL_law := twr_34 _ (List.mem_of_getElem? (i := 9) rfl)
theorem tw_802 : Cond.methodLink RL 45 yX8_pay ∈ wsL_law := twr_34 _ (List.mem_of_getElem? (i := 10) rfl)
theorem tw_803 : Cond.instanceMethod yX8_pay ∈ wsL_law := twr_34 _ (List.mem_of_getElem? (i := 11) rfl)
theorem tw_804 : Cond.selects RX8 yX8_pay yX8_pay ∈ wsL_law := twr_34 _ (List.mem_of_getElem? (i := 12) rfl)
theorem tw_805 : Cond.code yX8_pay cX8_pay 4 (some .long) ∈ wsL_law := twr_34 _ (List.mem_of_getElem? (i := 13) rfl)
theorem tw_806 : Cond.constantLong RX8 158 (-1) ∈ wsL_law := twr_34 _ (List.mem_of_getElem? (i := 14) rfl)
theorem tw_807 : Cond.methodLink RX8 160 yX7_payOfDay ∈ wsL_law := twr_34 _ (List.mem_of_getElem? (i := 15) rfl)
theorem tw_808 : Cond.instanceMethod yX7_payOfDay ∈ wsL_law := twr_34 _ (List.mem_of_getElem? (i := 16) rfl)
theorem tw_809 : Cond.selects RX7 yX7_payOfDay yX7_payOfDay ∈ wsL_law := twr_34 _ (List.mem_of_getElem? (i := 17) rfl)
theorem tw_810 : Cond.code yX7_payOfDay cX7_payOfDay 3 (some .long) ∈ wsL_law := twr_34 _ (List.mem_of_getElem? (i := 18) rfl)
theorem tw_811 : Cond.constantLong RX7 97 (840) ∈ wsL_law := twr_34 _ (List.mem_of_getElem? (i := 19) rfl)
theorem tw_812 : Cond.methodLink RL 49 yX9_pay ∈ wsL_law := twr_34 _ (List.mem_of_getElem? (i := 20) rfl)
theorem tw_813 : Cond.instanceMethod yX9_pay ∈ wsL_law := twr_34 _ (List.mem_of_getElem? (i := 21) rfl)
theorem tw_814 : Cond.selects RX9 yX9_pay yX9_pay ∈ wsL_law := twr_34 _ (List.mem_of_getElem? (i := 22) rfl)
theorem tw_815 : Cond.code yX9_pay cX9_pay 5 (some .long) ∈ wsL_law := twr_34 _ (List.mem_of_getElem? (i := 23) rfl)
theorem tw_816 : Cond.constantLong RX9 288 (-1) ∈ wsL_law := twr_35 _ (List.mem_of_getElem? (i := 0) rfl)
theorem tw_817 : Cond.methodLink RL 50 yX8_due ∈ wsL_law := twr_35 _ (List.mem_of_getElem? (i := 1) rfl)
theorem tw_818 : Cond.instanceMethod yX8_due ∈ wsL_law := twr_35 _ (List.mem_of_getElem? (i := 2) rfl)
theorem tw_819 : Cond.selects RX8 yX8_due yX8_due ∈ wsL_law := twr_35 _ (List.mem_of_getElem? (i := 3) rfl)
theorem tw_820 : Cond.code yX8_due cX8_due 4 (some .long) ∈ wsL_law := twr_35 _ (List.mem_of_getElem? (i := 4) rfl)
theorem tw_821 : Cond.methodLink RX8 164 yX8_isMonth ∈ wsL_law := twr_35 _ (List.mem_of_getElem? (i := 5) rfl)
theorem tw_822 : Cond.static yX8_isMonth ∈ wsL_law := twr_35 _ (List.mem_of_getElem? (i := 6) rfl)
theorem tw_823 : Cond.code yX8_isMonth cX8_isMonth 1 (some .boolean) ∈ wsL_law := twr_35 _ (List.mem_of_getElem? (i := 7) rfl)
theorem tw_824 : Cond.methodLink RX8 167 yX8_dueOfMonths ∈ wsL_law := twr_35 _ (List.mem_of_getElem? (i := 8) rfl)
theorem tw_825 : Cond.instanceMethod yX8_dueOfMonths ∈ wsL_law := twr_35 _ (List.mem_of_getElem? (i := 9) rfl)
theorem tw_826 : Cond.selects RX8 yX8_dueOfMonths yX8_dueOfMonths ∈ wsL_law := twr_35 _ (List.mem_of_getElem? (i := 10) rfl)
theorem tw_827 : Cond.code yX8_dueOfMonths cX8_dueOfMonths 5 (some .long) ∈ wsL_law := twr_35 _ (List.mem_of_getElem? (i := 11) rfl)
theorem tw_828 : Cond.methodLink RX8 174 yX7_payOfDays ∈ wsL_law := twr_35 _ (List.mem_of_getElem? (i := 12) rfl)
theorem tw_829 : Cond.instanceMethod yX7_payOfDays ∈ wsL_law := twr_35 _ (List.mem_of_getElem? (i := 13) rfl)
theorem tw_830 : Cond.selects RX7 yX7_payOfDays yX7_payOfDays ∈ wsL_law := twr_35 _ (List.mem_of_getElem? (i := 14) rfl)
theorem tw_831 : Cond.code yX7_payOfDays cX7_payOfDays 7 (some .long) ∈ wsL_law := twr_35 _ (List.mem_of_getElem? (i := 15) rfl)
theorem tw_832 : Cond.methodLink RX7 93 yX7_payOfDay ∈ wsL_law := twr_35 _ (List.mem_of_getElem? (i := 16) rfl)
theorem tw_833 : Cond.methodLink RL 53 yX9_due ∈ wsL_law := twr_35 _ (List.mem_of_getElem? (i := 17) rfl)
theorem tw_834 : Cond.instanceMethod yX9_due ∈ wsL_law := twr_35 _ (List.mem_of_getElem? (i := 18) rfl)
theorem tw_835 : Cond.selects RX9 yX9_due yX9_due ∈ wsL_law := twr_35 _ (List.mem_of_getElem? (i := 19) rfl)
theorem tw_836 : Cond.code yX9_due cX9_due 4 (some .long) ∈ wsL_law := twr_35 _ (List.mem_of_getElem? (i := 20) rfl)
theorem tw_837 : Cond.methodLink RL 54 yX8_run ∈ wsL_law := twr_35 _ (List.mem_of_getElem? (i := 21) rfl)
theorem tw_838 : Cond.instanceMethod yX8_run ∈ wsL_law := twr_35 _ (List.mem_of_getElem? (i := 22) rfl)
theorem tw_839 : Cond.selects RX8 yX8_run yX8_run ∈ wsL_law := twr_35 _ (List.mem_of_getElem? (i := 23) rfl)
theorem tw_840 : Cond.code yX8_run cX8_run 4 (some .int) ∈ wsL_law := twr_36 _ (List.mem_of_getElem? (i := 0) rfl)
theorem tw_841 : Cond.fieldLink RX8 182 "PayScales" "runCount" "I" ∈ wsL_law := twr_36 _ (List.mem_of_getElem? (i := 1) rfl)
theorem tw_842 : Cond.fieldLink RX8 185 "PayScales$Rows" "size" "I" ∈ wsL_law := twr_36 _ (List.mem_of_getElem? (i := 2) rfl)
theorem tw_843 : Cond.methodLink RX8 171 yX5_clear ∈ wsL_law := twr_36 _ (List.mem_of_getElem? (i := 3) rfl)
theorem tw_844 : Cond.instanceMethod yX5_clear ∈ wsL_law := twr_36 _ (List.mem_of_getElem? (i := 4) rfl)
theorem tw_845 : Cond.selects RX5 yX5_clear yX5_clear ∈ wsL_law := twr_36 _ (List.mem_of_getElem? (i := 5) rfl)
theorem tw_846 : Cond.code yX5_clear cX5_clear 1 none ∈ wsL_law := twr_36 _ (List.mem_of_getElem? (i := 6) rfl)
theorem tw_847 : Cond.fieldLink RX5 25 "PayScales$Rows" "size" "I" ∈ wsL_law := twr_36 _ (List.mem_of_getElem? (i := 7) rfl)
theorem tw_848 : Cond.methodLink RX8 178 yX8_settle ∈ wsL_law := twr_36 _ (List.mem_of_getElem? (i := 8) rfl)
theorem tw_849 : Cond.instanceMethod yX8_settle ∈ wsL_law := twr_36 _ (List.mem_of_getElem? (i := 9) rfl)
theorem tw_850 : Cond.selects RX8 yX8_settle yX8_settle ∈ wsL_law := twr_36 _ (List.mem_of_getElem? (i := 10) rfl)
theorem tw_851 : Cond.code yX8_settle cX8_settle 8 none ∈ wsL_law := twr_36 _ (List.mem_of_getElem? (i := 11) rfl)
theorem tw_852 : Cond.methodLink RX8 248 yX5_add ∈ wsL_law := twr_36 _ (List.mem_of_getElem? (i := 12) rfl)
theorem tw_853 : Cond.instanceMethod yX5_add ∈ wsL_law := twr_36 _ (List.mem_of_getElem? (i := 13) rfl)
theorem tw_854 : Cond.selects RX5 yX5_add yX5_add ∈ wsL_law := twr_36 _ (List.mem_of_getElem? (i := 14) rfl)
theorem tw_855 : Cond.code yX5_add cX5_add 9 none ∈ wsL_law := twr_36 _ (List.mem_of_getElem? (i := 15) rfl)
theorem tw_856 : Cond.methodLink RX5 28 yX5_put ∈ wsL_law := twr_36 _ (List.mem_of_getElem? (i := 16) rfl)
theorem tw_857 : Cond.instanceMethod yX5_put ∈ wsL_law := twr_36 _ (List.mem_of_getElem? (i := 17) rfl)
theorem tw_858 : Cond.selects RX5 yX5_put yX5_put ∈ wsL_law := twr_36 _ (List.mem_of_getElem? (i := 18) rfl)
theorem tw_859 : Cond.code yX5_put cX5_put 5 none ∈ wsL_law := twr_36 _ (List.mem_of_getElem? (i := 19) rfl)
theorem tw_860 : Cond.methodLink RL 58 yX9_run ∈ wsL_law := twr_36 _ (List.mem_of_getElem? (i := 20) rfl)
theorem tw_861 : Cond.instanceMethod yX9_run ∈ wsL_law := twr_36 _ (List.mem_of_getElem? (i := 21) rfl)
theorem tw_862 : Cond.selects RX9 yX9_run yX9_run ∈ wsL_law := twr_36 _ (List.mem_of_getElem? (i := 22) rfl)
theorem tw_863 : Cond.code yX9_run cX9_run 5 (some .int) ∈ wsL_law := twr_36 _ (List.mem_of_getElem? (i := 23) rfl)
theorem tw_864 : Cond.fieldLink RX9 290 "PayScalesModel" "runs" "I" ∈ wsL_law := twr_37 _ (List.mem_of_getElem? (i := 0) rfl)
theorem tw_865 : Cond.fieldLink RX9 293 "PayScalesModel" "paymentMany" "I" ∈ wsL_law := twr_37 _ (List.mem_of_getElem? (i := 1) rfl)
theorem tw_866 : Cond.methodLink RL 59 yX8_payment ∈ wsL_law := twr_37 _ (List.mem_of_getElem? (i := 2) rfl)
theorem tw_867 : Cond.instanceMethod yX8_payment ∈ wsL_law := twr_37 _ (List.mem_of_getElem? (i := 3) rfl)
theorem tw_868 : Cond.selects RX8 yX8_payment yX8_payment ∈ wsL_law := twr_37 _ (List.mem_of_getElem? (i := 4) rfl)
theorem tw_869 : Cond.code yX8_payment cX8_payment 3 (some .long) ∈ wsL_law := twr_37 _ (List.mem_of_getElem? (i := 5) rfl)
theorem tw_870 : Cond.methodLink RX8 187 yX5_cell ∈ wsL_law := twr_37 _ (List.mem_of_getElem? (i := 6) rfl)
theorem tw_871 : Cond.instanceMethod yX5_cell ∈ wsL_law := twr_37 _ (List.mem_of_getElem? (i := 7) rfl)
theorem tw_872 : Cond.selects RX5 yX5_cell yX5_cell ∈ wsL_law := twr_37 _ (List.mem_of_getElem? (i := 8) rfl)
theorem tw_873 : Cond.code yX5_cell cX5_cell 4 (some .long) ∈ wsL_law := twr_37 _ (List.mem_of_getElem? (i := 9) rfl)
theorem tw_874 : Cond.constantLong RX5 32 (-1) ∈ wsL_law := twr_37 _ (List.mem_of_getElem? (i := 10) rfl)
theorem tw_875 : Cond.methodLink RL 63 yX9_payment ∈ wsL_law := twr_37 _ (List.mem_of_getElem? (i := 11) rfl)
theorem tw_876 : Cond.instanceMethod yX9_payment ∈ wsL_law := twr_37 _ (List.mem_of_getElem? (i := 12) rfl)
theorem tw_877 : Cond.selects RX9 yX9_payment yX9_payment ∈ wsL_law := twr_37 _ (List.mem_of_getElem? (i := 13) rfl)
theorem tw_878 : Cond.code yX9_payment cX9_payment 3 (some .long) ∈ wsL_law := twr_37 _ (List.mem_of_getElem? (i := 14) rfl)
theorem tw_879 : Cond.methodLink RL 64 yX8_paid ∈ wsL_law := twr_37 _ (List.mem_of_getElem? (i := 15) rfl)
theorem tw_880 : Cond.instanceMethod yX8_paid ∈ wsL_law := twr_37 _ (List.mem_of_getElem? (i := 16) rfl)
theorem tw_881 : Cond.selects RX8 yX8_paid yX8_paid ∈ wsL_law := twr_37 _ (List.mem_of_getElem? (i := 17) rfl)
theorem tw_882 : Cond.code yX8_paid cX8_paid 3 (some .long) ∈ wsL_law := twr_37 _ (List.mem_of_getElem? (i := 18) rfl)
theorem tw_883 : Cond.methodLink RL 67 yX9_paid ∈ wsL_law := twr_37 _ (List.mem_of_getElem? (i := 19) rfl)
theorem tw_884 : Cond.instanceMethod yX9_paid ∈ wsL_law := twr_37 _ (List.mem_of_getElem? (i := 20) rfl)
theorem tw_885 : Cond.selects RX9 yX9_paid yX9_paid ∈ wsL_law := twr_37 _ (List.mem_of_getElem? (i := 21) rfl)
theorem tw_886 : Cond.code yX9_paid cX9_paid 3 (some .long) ∈ wsL_law := twr_37 _ (List.mem_of_getElem? (i := 22) rfl)
theorem tw_887 : Cond.methodLink RL 68 yX8_cost ∈ wsL_law := twr_37 _ (List.mem_of_getElem? (i := 23) rfl)
theorem tw_888 : Cond.instanceMethod yX8_cost ∈ wsL_law := twr_38 _ (List.mem_of_getElem? (i := 0) rfl)
theorem tw_889 : Cond.selects RX8 yX8_cost yX8_cost ∈ wsL_law := twr_38 _ (List.mem_of_getElem? (i := 1) rfl)
theorem tw_890 : Cond.code yX8_cost cX8_cost 7 (some .long) ∈ wsL_law := twr_38 _ (List.mem_of_getElem? (i := 2) rfl)
theorem tw_891 : Cond.methodLink RL 71 yX9_cost ∈ wsL_law := twr_38 _ (List.mem_of_getElem? (i := 3) rfl)
theorem tw_892 : Cond.instanceMethod yX9_cost ∈ wsL_law := twr_38 _ (List.mem_of_getElem? (i := 4) rfl)
theorem tw_893 : Cond.selects RX9 yX9_cost yX9_cost ∈ wsL_law := twr_38 _ (List.mem_of_getElem? (i := 5) rfl)
theorem tw_894 : Cond.code yX9_cost cX9_cost 8 (some .long) ∈ wsL_law := twr_38 _ (List.mem_of_getElem? (i := 6) rfl)
theorem tw_895 : Cond.methodLink RL 72 yX8_like ∈ wsL_law := twr_38 _ (List.mem_of_getElem? (i := 7) rfl)
theorem tw_896 : Cond.instanceMethod yX8_like ∈ wsL_law := twr_38 _ (List.mem_of_getElem? (i := 8) rfl)
theorem tw_897 : Cond.selects RX8 yX8_like yX8_like ∈ wsL_law := twr_38 _ (List.mem_of_getElem? (i := 9) rfl)
theorem tw_898 : Cond.code yX8_like cX8_like 6 (some .int) ∈ wsL_law := twr_38 _ (List.mem_of_getElem? (i := 10) rfl)
theorem tw_899 : Cond.constant RX8 191 (99999) ∈ wsL_law := twr_38 _ (List.mem_of_getElem? (i := 11) rfl)
theorem tw_900 : Cond.fieldLink RX8 196 "PayScales$Walk" "appraisal" "LPayScales$Appraisal;" ∈ wsL_law := twr_38 _ (List.mem_of_getElem? (i := 12) rfl)
theorem tw_901 : Cond.fieldLink RX8 200 "PayScales$Appraisal" "points" "I" ∈ wsL_law := twr_38 _ (List.mem_of_getElem? (i := 13) rfl)
theorem tw_902 : Cond.fieldLink RX8 205 "PayScales$Appraisal" "amount" "I" ∈ wsL_law := twr_38 _ (List.mem_of_getElem? (i := 14) rfl)
theorem tw_903 : Cond.methodLink RX8 192 yX7_isHeld ∈ wsL_law := twr_38 _ (List.mem_of_getElem? (i := 15) rfl)
theorem tw_904 : Cond.methodLink RX8 208 yX8_areLike ∈ wsL_law := twr_38 _ (List.mem_of_getElem? (i := 16) rfl)
theorem tw_905 : Cond.instanceMethod yX8_areLike ∈ wsL_law := twr_38 _ (List.mem_of_getElem? (i := 17) rfl)
theorem tw_906 : Cond.selects RX8 yX8_areLike yX8_areLike ∈ wsL_law := twr_38 _ (List.mem_of_getElem? (i := 18) rfl)
theorem tw_907 : Cond.code yX8_areLike cX8_areLike 7 (some .boolean) ∈ wsL_law := twr_38 _ (List.mem_of_getElem? (i := 19) rfl)
theorem tw_908 : Cond.methodLink RX8 255 Lib.Math.abs.name ∈ wsL_law := twr_38 _ (List.mem_of_getElem? (i := 20) rfl)
theorem tw_909 : Cond.static Lib.Math.abs.name ∈ wsL_law := twr_38 _ (List.mem_of_getElem? (i := 21) rfl)
theorem tw_910 : Cond.code Lib.Math.abs.name Lib.Math.abs.code 1 (some .int) ∈ wsL_law := twr_38 _ (List.mem_of_getElem? (i := 22) rfl)
theorem tw_911 : Cond.methodLink RX8 212 yX8_addPair ∈ wsL_law := twr_38 _ (List.mem_of_getElem? (i := 23) rfl)
theorem tw_912 : Cond.instanceMethod yX8_addPair ∈ wsL_law := twr_39 _ (List.mem_of_getElem? (i := 0) rfl)
theorem tw_913 : Cond.selects RX8 yX8_addPair yX8_addPair ∈ wsL_law := twr_39 _ (List.mem_of_getElem? (i := 1) rfl)
theorem tw_914 : Cond.code yX8_addPair cX8_addPair 6 none ∈ wsL_law := twr_39 _ (List.mem_of_getElem? (i := 2) rfl)
theorem tw_915 : Cond.methodLink RX8 260 yX8_commonDivisor ∈ wsL_law := twr_39 _ (List.mem_of_getElem? (i := 3) rfl)
theorem tw_916 : Cond.static yX8_commonDivisor ∈ wsL_law := twr_39 _ (List.mem_of_getElem? (i := 4) rfl)
theorem tw_917 : Cond.code yX8_commonDivisor cX8_commonDivisor 6 (some .int) ∈ wsL_law := twr_39 _ (List.mem_of_getElem? (i := 5) rfl)
theorem tw_918 : Cond.methodLink RL 76 yX9_like ∈ wsL_law := twr_39 _ (List.mem_of_getElem? (i := 6) rfl)
theorem tw_919 : Cond.instanceMethod yX9_like ∈ wsL_law := twr_39 _ (List.mem_of_getElem? (i := 7) rfl)
theorem tw_920 : Cond.selects RX9 yX9_like yX9_like ∈ wsL_law := twr_39 _ (List.mem_of_getElem? (i := 8) rfl)
theorem tw_921 : Cond.code yX9_like cX9_like 8 (some .int) ∈ wsL_law := twr_39 _ (List.mem_of_getElem? (i := 9) rfl)
theorem tw_922 : Cond.constant RX9 296 (99999) ∈ wsL_law := twr_39 _ (List.mem_of_getElem? (i := 10) rfl)
theorem tw_923 : Cond.fieldLink RX9 297 "PayScalesModel" "pairMany" "I" ∈ wsL_law := twr_39 _ (List.mem_of_getElem? (i := 11) rfl)
theorem tw_924 : Cond.methodLink RX9 300 Lib.Math.abs.name ∈ wsL_law := twr_39 _ (List.mem_of_getElem? (i := 12) rfl)
theorem tw_925 : Cond.methodLink RX9 303 yX9_common ∈ wsL_law := twr_39 _ (List.mem_of_getElem? (i := 13) rfl)
theorem tw_926 : Cond.static yX9_common ∈ wsL_law := twr_39 _ (List.mem_of_getElem? (i := 14) rfl)
theorem tw_927 : Cond.code yX9_common cX9_common 5 (some .int) ∈ wsL_law := twr_39 _ (List.mem_of_getElem? (i := 15) rfl)
theorem tw_928 : Cond.methodLink RL 77 yX8_pair ∈ wsL_law := twr_39 _ (List.mem_of_getElem? (i := 16) rfl)
theorem tw_929 : Cond.instanceMethod yX8_pair ∈ wsL_law := twr_39 _ (List.mem_of_getElem? (i := 17) rfl)
theorem tw_930 : Cond.selects RX8 yX8_pair yX8_pair ∈ wsL_law := twr_39 _ (List.mem_of_getElem? (i := 18) rfl)
theorem tw_931 : Cond.code yX8_pair cX8_pair 3 (some .int) ∈ wsL_law := twr_39 _ (List.mem_of_getElem? (i := 19) rfl)
theorem tw_932 : Cond.methodLink RL 80 yX9_pair ∈ wsL_law := twr_39 _ (List.mem_of_getElem? (i := 20) rfl)
theorem tw_933 : Cond.instanceMethod yX9_pair ∈ wsL_law := twr_39 _ (List.mem_of_getElem? (i := 21) rfl)
theorem tw_934 : Cond.selects RX9 yX9_pair yX9_pair ∈ wsL_law := twr_39 _ (List.mem_of_getElem? (i := 22) rfl)
theorem tw_935 : Cond.code yX9_pair cX9_pair 3 (some .int) ∈ wsL_law := twr_39 _ (List.mem_of_getElem? (i := 23) rfl)
theorem tw_936 : Cond.methodLink RL 81 yX8_meet ∈ wsL_law := twr_40 _ (List.mem_of_getElem? (i := 0) rfl)
theorem tw_937 : Cond.instanceMethod yX8_meet ∈ wsL_law := twr_40 _ (List.mem_of_getElem? (i := 1) rfl)
theorem tw_938 : Cond.selects RX8 yX8_meet yX8_meet ∈ wsL_law := twr_40 _ (List.mem_of_getElem? (i := 2) rfl)
theorem tw_939 : Cond.code yX8_meet cX8_meet 6 (some .int) ∈ wsL_law := twr_40 _ (List.mem_of_getElem? (i := 3) rfl)
theorem tw_940 : Cond.fieldLink RX8 223 "PayScales$Agreement" "told" "I" ∈ wsL_law := twr_40 _ (List.mem_of_getElem? (i := 4) rfl)
theorem tw_941 : Cond.fieldLink RX8 237 "PayScales$Line" "sort" "I" ∈ wsL_law := twr_40 _ (List.mem_of_getElem? (i := 5) rfl)
theorem tw_942 : Cond.fieldLink RX8 242 "PayScales$Line" "name" "I" ∈ wsL_law := twr_40 _ (List.mem_of_getElem? (i := 6) rfl)
theorem tw_943 : Cond.methodLink RX8 215 yX6_clear ∈ wsL_law := twr_40 _ (List.mem_of_getElem? (i := 7) rfl)
theorem tw_944 : Cond.methodLink RX8 226 yX6_take ∈ wsL_law := twr_40 _ (List.mem_of_getElem? (i := 8) rfl)
theorem tw_945 : Cond.methodLink RX8 230 yX6_winnerOf ∈ wsL_law := twr_40 _ (List.mem_of_getElem? (i := 9) rfl)
theorem tw_946 : Cond.instanceMethod yX6_winnerOf ∈ wsL_law := twr_40 _ (List.mem_of_getElem? (i := 10) rfl)
theorem tw_947 : Cond.selects RX6 yX6_winnerOf yX6_winnerOf ∈ wsL_law := twr_40 _ (List.mem_of_getElem? (i := 11) rfl)
theorem tw_948 : Cond.code yX6_winnerOf cX6_winnerOf 2 (some (.object "PayScales$Line")) ∈ wsL_law := twr_40 _ (List.mem_of_getElem? (i := 12) rfl)
theorem tw_949 : Cond.methodLink RX8 234 yX6_linesOf ∈ wsL_law := twr_40 _ (List.mem_of_getElem? (i := 13) rfl)
theorem tw_950 : Cond.instanceMethod yX6_linesOf ∈ wsL_law := twr_40 _ (List.mem_of_getElem? (i := 14) rfl)
theorem tw_951 : Cond.selects RX6 yX6_linesOf yX6_linesOf ∈ wsL_law := twr_40 _ (List.mem_of_getElem? (i := 15) rfl)
theorem tw_952 : Cond.code yX6_linesOf cX6_linesOf 2 (some .int) ∈ wsL_law := twr_40 _ (List.mem_of_getElem? (i := 16) rfl)
theorem tw_953 : Cond.methodLink RX8 245 yX6_agreementOf ∈ wsL_law := twr_40 _ (List.mem_of_getElem? (i := 17) rfl)
theorem tw_954 : Cond.instanceMethod yX6_agreementOf ∈ wsL_law := twr_40 _ (List.mem_of_getElem? (i := 18) rfl)
theorem tw_955 : Cond.selects RX6 yX6_agreementOf yX6_agreementOf ∈ wsL_law := twr_40 _ (List.mem_of_getElem? (i := 19) rfl)
theorem tw_956 : Cond.code yX6_agreementOf cX6_agreementOf 2 (some .int) ∈ wsL_law := twr_40 _ (List.mem_of_getElem? (i := 20) rfl)
theorem tw_957 : Cond.methodLink RL 84 yX9_meet ∈ wsL_law := twr_40 _ (List.mem_of_getElem? (i := 21) rfl)
theorem tw_958 : Cond.instanceMethod yX9_meet ∈ wsL_law := twr_40 _ (List.mem_of_getElem? (i := 22) rfl)
theorem tw_959 : Cond.selects RX9 yX9_meet yX9_meet ∈ wsL_law := twr_40 _ (List.mem_of_getElem? (i := 23) rfl)
theorem tw_960 : Cond.code yX9_meet cX9_meet 4 (some .int) ∈ wsL_law := twr_41 _ (List.mem_of_getElem? (i := 0) rfl)
theorem tw_961 : Cond.fieldLink RX9 306 "PayScalesModel" "metMany" "I" ∈ wsL_law := twr_41 _ (List.mem_of_getElem? (i := 1) rfl)
theorem tw_962 : Cond.methodLink RL 85 yX8_met ∈ wsL_law := twr_41 _ (List.mem_of_getElem? (i := 2) rfl)
theorem tw_963 : Cond.instanceMethod yX8_met ∈ wsL_law := twr_41 _ (List.mem_of_getElem? (i := 3) rfl)
theorem tw_964 : Cond.selects RX8 yX8_met yX8_met ∈ wsL_law := twr_41 _ (List.mem_of_getElem? (i := 4) rfl)
theorem tw_965 : Cond.code yX8_met cX8_met 3 (some .int) ∈ wsL_law := twr_41 _ (List.mem_of_getElem? (i := 5) rfl)
theorem tw_966 : Cond.methodLink RL 88 yX9_met ∈ wsL_law := twr_41 _ (List.mem_of_getElem? (i := 6) rfl)
theorem tw_967 : Cond.instanceMethod yX9_met ∈ wsL_law := twr_41 _ (List.mem_of_getElem? (i := 7) rfl)
theorem tw_968 : Cond.selects RX9 yX9_met yX9_met ∈ wsL_law := twr_41 _ (List.mem_of_getElem? (i := 8) rfl)
theorem tw_969 : Cond.code yX9_met cX9_met 3 (some .int) ∈ wsL_law := twr_41 _ (List.mem_of_getElem? (i := 9) rfl)
theorem tw_970 : Cond.methodLink RL 89 yX8_count ∈ wsL_law := twr_41 _ (List.mem_of_getElem? (i := 10) rfl)
theorem tw_971 : Cond.instanceMethod yX8_count ∈ wsL_law := twr_41 _ (List.mem_of_getElem? (i := 11) rfl)
theorem tw_972 : Cond.selects RX8 yX8_count yX8_count ∈ wsL_law := twr_41 _ (List.mem_of_getElem? (i := 12) rfl)
theorem tw_973 : Cond.code yX8_count cX8_count 2 (some .int) ∈ wsL_law := twr_41 _ (List.mem_of_getElem? (i := 13) rfl)
theorem tw_974 : Cond.methodLink RL 92 yX9_count ∈ wsL_law := twr_41 _ (List.mem_of_getElem? (i := 14) rfl)
theorem tw_975 : Cond.instanceMethod yX9_count ∈ wsL_law := twr_41 _ (List.mem_of_getElem? (i := 15) rfl)
theorem tw_976 : Cond.selects RX9 yX9_count yX9_count ∈ wsL_law := twr_41 _ (List.mem_of_getElem? (i := 16) rfl)
theorem tw_977 : Cond.code yX9_count cX9_count 2 (some .int) ∈ wsL_law := twr_41 _ (List.mem_of_getElem? (i := 17) rfl)
end
section
/-! my own heap: ints, references (by number), longs, kinds, lengths, how many numbers are used; number c is the cell B + c -/
abbrev HS : Type := (Nat → Nat → Int32) × (Nat → Nat → Option Nat) × (Nat → Nat → Int64) × (Nat → Nat) × (Nat → Nat) × Nat
def gI (S : HS) : Nat → Nat → Int32 := S.1
def gR (S : HS) : Nat → Nat → Option Nat := S.2.1
def gJ (S : HS) : Nat → Nat → Int64 := S.2.2.1
def gK (S : HS) : Nat → Nat := S.2.2.2.1
def gN (S : HS) : Nat → Nat := S.2.2.2.2.1
def gZ (S : HS) : Nat := S.2.2.2.2.2
def up2 {α : Type} (f : Nat → Nat → α) (c k : Nat) (v : α) : Nat → Nat → α := fun b j => if b = c ∧ j = k then v else f b j
def sI (S : HS) (c k : Nat) (v : Int32) : HS := (up2 (gI S) c k v, S.2)
def sR (S : HS) (c k : Nat) (v : Option Nat) : HS := (S.1, up2 (gR S) c k v, S.2.2)
def sJ (S : HS) (c k : Nat) (v : Int64) : HS := (S.1, S.2.1, up2 (gJ S) c k v, S.2.2.2)
theorem gI_sI (S : HS) (c k : Nat) (v : Int32) (b j : Nat) : gI (sI S c k v) b j = if b = c ∧ j = k then v else gI S b j := rfl
theorem gI_sR (S : HS) (c k : Nat) (v : Option Nat) : gI (sR S c k v) = gI S := rfl
theorem gI_sJ (S : HS) (c k : Nat) (v : Int64) : gI (sJ S c k v) = gI S := rfl
theorem gR_sI (S : HS) (c k : Nat) (v : Int32) : gR (sI S c k v) = gR S := rfl
theorem gR_sR (S : HS) (c k : Nat) (v : Option Nat) (b j : Nat) : gR (sR S c k v) b j = if b = c ∧ j = k then v else gR S b j := rfl
theorem gR_sJ (S : HS) (c k : Nat) (v : Int64) : gR (sJ S c k v) = gR S := rfl
theorem gJ_sI (S : HS) (c k : Nat) (v : Int32) : gJ (sI S c k v) = gJ S := rfl
theorem gJ_sR (S : HS) (c k : Nat) (v : Option Nat) : gJ (sR S c k v) = gJ S := rfl
theorem gJ_sJ (S : HS) (c k : Nat) (v : Int64) (b j : Nat) : gJ (sJ S c k v) b j = if b = c ∧ j = k then v else gJ S b j := rfl
theorem gK_sI (S : HS) (c k : Nat) (v : Int32) : gK (sI S c k v) = gK S := rfl
theorem gK_sR (S : HS) (c k : Nat) (v : Option Nat) : gK (sR S c k v) = gK S := rfl
theorem gK_sJ (S : HS) (c k : Nat) (v : Int64) : gK (sJ S c k v) = gK S := rfl
theorem gN_sI (S : HS) (c k : Nat) (v : Int32) : gN (sI S c k v) = gN S := rfl
theorem gN_sR (S : HS) (c k : Nat) (v : Option Nat) : gN (sR S c k v) = gN S := rfl
theorem gN_sJ (S : HS) (c k : Nat) (v : Int64) : gN (sJ S c k v) = gN S := rfl
theorem gZ_sI (S : HS) (c k : Nat) (v : Int32) : gZ (sI S c k v) = gZ S := rfl
theorem gZ_sR (S : HS) (c k : Nat) (v : Option Nat) : gZ (sR S c k v) = gZ S := rfl
theorem gZ_sJ (S : HS) (c k : Nat) (v : Int64) : gZ (sJ S c k v) = gZ S := rfl
/-! the words that the methods as functions are made of -/
noncomputable def gd {α : Type} (c : Prop) (x : Option α) : Option α := @ite _ c (Classical.propDecidable c) x none
noncomputable def cd {β : Type} (c : Prop) (a b : β) : β := @ite _ c (Classical.propDecidable c) a b
def bn {α β : Type} (o : Option α) (k : α → Option β) : Option β := match o with
  | none => none
  | some a => k a
def cs {β : Type} (o : Option Nat) (a : β) (b : Nat → β) : β := match o with
  | none => a
  | some c => b c
theorem cd_t {β : Type} {c : Prop} {a b : β} (h : c) : cd c a b = a := by unfold cd; rw [if_pos h]
theorem cd_f {β : Type} {c : Prop} {a b : β} (h : ¬ c) : cd c a b = b := by unfold cd; rw [if_neg h]
theorem gd_t {α : Type} {c : Prop} {x : Option α} (h : c) : gd c x = x := by unfold gd; rw [if_pos h]
theorem gd_ok {α : Type} {c : Prop} {x : Option α} {y : α} (h : gd c x = some y) : c ∧ x = some y := by
  by_cases hc : c
  · rw [gd_t hc] at h; exact ⟨hc, h⟩
  · unfold gd at h; rw [if_neg hc] at h; cases h
theorem bn_ok {α β : Type} {o : Option α} {k : α → Option β} {y : β} (h : bn o k = some y) : ∃ a, o = some a ∧ k a = some y := by
  cases o with
  | none => cases h
  | some a => exact ⟨a, rfl, h⟩
theorem bn_some {α β : Type} (a : α) (k : α → Option β) : bn (some a) k = k a := rfl
theorem bn_of {α β : Type} {o : Option α} {a : α} {k : α → Option β} (h : o = some a) : bn o k = k a := by rw [h]; rfl
theorem cs_none {β : Type} (a : β) (b : Nat → β) : cs none a b = a := rfl
theorem cs_some {β : Type} (c : Nat) (a : β) (b : Nat → β) : cs (some c) a b = b c := rfl
theorem cd_tk {β : Type} {c : Prop} {a b y : β} (h : c) (hf : cd c a b = y) : a = y := by rw [cd_t h] at hf; exact hf
theorem cd_fk {β : Type} {c : Prop} {a b y : β} (h : ¬ c) (hf : cd c a b = y) : b = y := by rw [cd_f h] at hf; exact hf
def bn2 {α β γ : Type} (o : Option (α × γ)) (k : α → γ → Option β) : Option β := match o with
  | none => none
  | some (a, b) => k a b
theorem bn2_ok {α β γ : Type} {o : Option (α × γ)} {k : α → γ → Option β} {y : β} (h : bn2 o k = some y) : ∃ a b, o = some (a, b) ∧ k a b = some y := by
  cases o with
  | none => cases h
  | some a => exact ⟨a.1, a.2, rfl, h⟩
theorem bn2_of {α β γ : Type} {o : Option (α × γ)} {a : α} {b : γ} {k : α → γ → Option β} (h : o = some (a, b)) : bn2 o k = k a b := by rw [h]; rfl
def jmin (x y : Int32) : Int32 := if y < x then y else x
def jmax (x y : Int32) : Int32 := if x < y then y else x
def jabs (x : Int32) : Int32 := if 0 ≤ x then x else 0 - x
theorem tsw_out {x : Int32} {lo : Int} (n : Nat) (h : ∀ j : Nat, j ≤ n → ¬ x.toInt = lo + j) : x.toInt < lo ∨ lo + n < x.toInt := by
  by_cases h1 : x.toInt < lo
  · exact Or.inl h1
  · refine Or.inr ?_
    have h2 : ¬ x.toInt ≤ lo + n := by
      intro h3
      exact h (x.toInt - lo).toNat (by omega) (by omega)
    omega
def hFuel : Nat := 5000
theorem zb_n {x : Int32} (h : x = 0 ∨ x = 1) : narrow .boolean (.int x) = .int x := by rcases h with rfl | rfl <;> rfl
theorem zb_f {x : Int32} (h : x = 0 ∨ x = 1) : fits .boolean (.int x) = true := by rcases h with rfl | rfl <;> rfl
theorem zb_v {x : Int32} (h : x = 0 ∨ x = 1) : vp_nar .boolean x = x := by rcases h with rfl | rfl <;> rfl
/-! which fields of a class are references; the cell of a number -/
def ktl : Nat → List Bool := fun k => match k with
  | 0 => [false, true, false]
  | 1 => [false, false, false, true]
  | 2 => [true, false, false, false, false, false, false]
  | 3 => [false, false, true, false, false, false, false, false, false, false]
  | 4 => [false, false, false, false, false]
  | 5 => [true, true, false, false, false, false, false, false]
  | 6 => [false, true, false]
  | 7 => [true, true, true]
  | 8 => [true, true, true, true, true, true, true, false, false, false, false, false, false, false, false, false, false, false]
  | 9 => [true, true, true, true, true, true, true, true, true, true, true, true, true, false, false, false, false, false]
  | 10 => [false, true, false, false, true, true, true, false, true, true, true, true, true, true, true, true, true, false, false, false, false, false, false, false, false, false, false, true, false, true, true, true, true, true, false, true, true, true, true, true, true, true, true, true, true, true, true, true, true, true, true, true, true, true, false, false, true, false, true, false]
  | _ => []
def hVl (B : Nat) (S : HS) (t : Bool) (c k : Nat) : Value := if t = true then va_rf ((gR S c k).map (B + ·)) else .int (gI S c k)
def hFs (B : Nat) (S : HS) (c : Nat) (ts : List Bool) : List Value := (List.range ts.length).map (fun k => hVl B S (ts.getD k false) c k)
def hEn (B : Nat) (cy : Nat → ClassId) (S : HS) (c : Nat) : va_E :=
  if gK S c < 20 then .inr (gK S c, hFs B S c (ktl (gK S c)))
  else if gK S c = 22 then .inl (cy 22, gN S c, .inr (.inl (gJ S c)))
  else if gK S c < 24 then .inl (cy (gK S c), gN S c, .inl (gI S c))
  else .inl (cy (gK S c), gN S c, .inr (.inr (.inr (.inr (fun j => (gR S c j).map (B + ·))))))
def hLv (S : HS) : List Nat := (List.range (gZ S)).filter (fun c => gK S c ≠ 99)
def hWs (B : Nat) (cy : Nat → ClassId) (S : HS) : va_W := (hLv S).map (fun c => (B + c, hEn B cy S c))
def hFr (S : HS) : Prop := ∀ c, gZ S ≤ c → gK S c = 99
theorem hLv_mem {S : HS} {c : Nat} : c ∈ hLv S ↔ c < gZ S ∧ gK S c ≠ 99 := by simp [hLv]
theorem hLv_nd (S : HS) : (hLv S).Nodup := List.Pairwise.filter _ List.nodup_range
theorem hFr_in {S : HS} (h : hFr S) {c κ : Nat} (hk : gK S c = κ) (h9 : κ ≠ 99) : c ∈ hLv S := by
  refine hLv_mem.mpr ⟨?_, by rw [hk]; exact h9⟩
  rcases Nat.lt_or_ge c (gZ S) with q | q
  · exact q
  · exact absurd ((h c q).symm.trans hk).symm h9
theorem hWs_get {B : Nat} {cy : Nat → ClassId} {S : HS} {c : Nat} (h : c ∈ hLv S) : ∃ k : Nat, (hWs B cy S)[k]? = some (B + c, hEn B cy S c) := by
  obtain ⟨i, hi⟩ := List.getElem?_of_mem h
  exact ⟨i, by unfold hWs; rw [List.getElem?_map, hi]; rfl⟩
theorem hWs_len (B : Nat) (cy : Nat → ClassId) (S : HS) : (hWs B cy S).length = (hLv S).length := by unfold hWs; rw [List.length_map]
theorem hWs_set {B : Nat} {cy : Nat → ClassId} {S S' : HS} {c k : Nat} (hk : (hWs B cy S)[k]? = some (B + c, hEn B cy S c)) (hL : hLv S' = hLv S) (hne : ∀ b, b ≠ c → hEn B cy S' b = hEn B cy S b) : (hWs B cy S).set k (B + c, hEn B cy S' c) = hWs B cy S' := by
  have hk2 : (hLv S)[k]? = some c := by
    unfold hWs at hk
    rw [List.getElem?_map] at hk
    cases hb : (hLv S)[k]? with
    | none => rw [hb] at hk; cases hk
    | some b =>
      rw [hb] at hk
      have h1 := congrArg Prod.fst (Option.some.inj hk)
      have h2 : B + b = B + c := h1
      rw [show b = c by omega]
  have hlt := (List.getElem?_eq_some_iff.mp hk).1
  apply List.ext_getElem?
  intro j
  by_cases hj : j = k
  · subst hj
    rw [List.getElem?_set_self hlt]
    unfold hWs
    rw [List.getElem?_map, hL, hk2]
    rfl
  · rw [List.getElem?_set_ne (Ne.symm hj)]
    unfold hWs
    rw [List.getElem?_map, List.getElem?_map, hL]
    cases hb : (hLv S)[j]? with
    | none => rfl
    | some b =>
      have hbc : b ≠ c := by
        intro e
        subst e
        have h1 := (List.getElem?_eq_some_iff.mp hb).1
        have := (List.getElem?_inj h1 (hLv_nd S)).mp (hb.trans hk2.symm)
        exact hj this
      simp [hne b hbc]
theorem hFs_get {B : Nat} {S : HS} {c : Nat} {ts : List Bool} {k : Nat} {t : Bool} (hk : ts[k]? = some t) : (hFs B S c ts)[k]? = some (hVl B S t c k) := by
  have hl := (List.getElem?_eq_some_iff.mp hk).1
  unfold hFs
  rw [List.getElem?_map, List.getElem?_range hl]
  simp [List.getD_eq_getElem?_getD, hk]
theorem hFs_len {B : Nat} {S : HS} {c : Nat} {ts : List Bool} : (hFs B S c ts).length = ts.length := by unfold hFs; simp
theorem hFs_set {B : Nat} {S S' : HS} {c : Nat} {ts : List Bool} {k : Nat} {t : Bool} (hk : ts[k]? = some t) (h1 : ∀ j t', j ≠ k → hVl B S' t' c j = hVl B S t' c j) : (hFs B S c ts).set k (hVl B S' t c k) = hFs B S' c ts := by
  have hl := (List.getElem?_eq_some_iff.mp hk).1
  apply List.ext_getElem?
  intro j
  by_cases hj : j = k
  · subst hj
    rw [List.getElem?_set_self (by rw [hFs_len]; exact hl), hFs_get hk]
  · rw [List.getElem?_set_ne (Ne.symm hj)]
    cases hb : ts[j]? with
    | none =>
      have h2 : ts.length ≤ j := List.getElem?_eq_none_iff.mp hb
      rw [List.getElem?_eq_none_iff.mpr (by rw [hFs_len]; exact h2), List.getElem?_eq_none_iff.mpr (by rw [hFs_len]; exact h2)]
    | some t' => rw [hFs_get hb, hFs_get hb, h1 j t' hj]
theorem hEn_obj {B : Nat} {cy : Nat → ClassId} {S : HS} {c κ : Nat} (hk : gK S c = κ) (h : κ < 20) : hEn B cy S c = .inr (κ, hFs B S c (ktl κ)) := by
  unfold hEn
  rw [hk, if_pos h]
theorem hEn_int {B : Nat} {cy : Nat → ClassId} {S : HS} {c κ : Nat} (hk : gK S c = κ) (h : κ = 20 ∨ κ = 21 ∨ κ = 23) : hEn B cy S c = .inl (cy κ, gN S c, .inl (gI S c)) := by
  unfold hEn
  rw [hk, if_neg (by omega), if_neg (by omega), if_pos (by omega)]
theorem hEn_long {B : Nat} {cy : Nat → ClassId} {S : HS} {c : Nat} (hk : gK S c = 22) : hEn B cy S c = .inl (cy 22, gN S c, .inr (.inl (gJ S c))) := by
  unfold hEn
  rw [hk, if_neg (by omega), if_pos rfl]
theorem hEn_ref {B : Nat} {cy : Nat → ClassId} {S : HS} {c κ : Nat} (hk : gK S c = κ) (h : 24 ≤ κ) : hEn B cy S c = .inl (cy κ, gN S c, .inr (.inr (.inr (.inr (fun j => (gR S c j).map (B + ·)))))) := by
  unfold hEn
  rw [hk, if_neg (by omega), if_neg (by omega), if_neg (by omega)]
theorem hEn_sI_ne {B : Nat} {cy : Nat → ClassId} {S : HS} {c k b : Nat} {v : Int32} (h : b ≠ c) : hEn B cy (sI S c k v) b = hEn B cy S b := by
  have e : gI (sI S c k v) b = gI S b := by funext j; rw [gI_sI, if_neg (fun q => h q.1)]
  have e2 : ∀ ts, hFs B (sI S c k v) b ts = hFs B S b ts := by
    intro ts
    unfold hFs
    congr 1
    funext j
    unfold hVl
    rw [e, gR_sI]
  unfold hEn
  rw [e, e2, gK_sI, gN_sI, gJ_sI, gR_sI]
theorem hEn_sR_ne {B : Nat} {cy : Nat → ClassId} {S : HS} {c k b : Nat} {v : Option Nat} (h : b ≠ c) : hEn B cy (sR S c k v) b = hEn B cy S b := by
  have e : gR (sR S c k v) b = gR S b := by funext j; rw [gR_sR, if_neg (fun q => h q.1)]
  have e2 : ∀ ts, hFs B (sR S c k v) b ts = hFs B S b ts := by
    intro ts
    unfold hFs
    congr 1
    funext j
    unfold hVl
    rw [e, gI_sR]
  unfold hEn
  rw [e, e2, gK_sR, gN_sR, gJ_sR, gI_sR]
theorem hEn_sJ_ne {B : Nat} {cy : Nat → ClassId} {S : HS} {c k b : Nat} {v : Int64} (h : b ≠ c) : hEn B cy (sJ S c k v) b = hEn B cy S b := by
  have e : gJ (sJ S c k v) b = gJ S b := by funext j; rw [gJ_sJ, if_neg (fun q => h q.1)]
  have e2 : ∀ ts, hFs B (sJ S c k v) b ts = hFs B S b ts := by
    intro ts
    unfold hFs
    congr 1
  unfold hEn
  rw [e, e2, gK_sJ, gN_sJ, gR_sJ, gI_sJ]
theorem hLv_eq {S S' : HS} (h1 : gK S' = gK S) (h2 : gZ S' = gZ S) : hLv S' = hLv S := by unfold hLv; rw [h1, h2]
/-! array classes, what is old, the context of a method, the world -/
def hTy (cy : Nat → ClassId) : List (ClassId × FieldType) := [(cy 20, .byte), (cy 21, .int), (cy 22, .long), (cy 23, .boolean), (cy 24, .object "PayScales$Line"), (cy 25, .object "java/lang/Object")]
def hSlen : List Nat := [4, 5, 5, 4, 3, 4, 3, 4, 40]
def hSbyt : List (List Int32) := [[116, 101, 115, 116], [103, 114, 97, 100, 101], [115, 99, 97, 108, 101], [115, 116, 101, 112], [103, 97, 112], [112, 108, 117, 115], [101, 110, 100], [102, 114, 111, 109], [116, 101, 115, 116, 32, 103, 114, 97, 100, 101, 32, 115, 99, 97, 108, 101, 32, 115, 116, 101, 112, 32, 103, 97, 112, 32, 112, 108, 117, 115, 32, 101, 110, 100, 32, 102, 114, 111, 109, 32]]
def hSown : List String := ["PayScales$Reader", "PayScales$Reader", "PayScales$Reader", "PayScales$Reader", "PayScales$Reader", "PayScales$Reader", "PayScales$Reader", "PayScales$Reader", "PayScalesModel"]
def hSidx : List Nat := [156, 158, 160, 162, 164, 166, 168, 146, 172]
def hStx : List String := ["test", "grade", "scale", "step", "gap", "plus", "end", "from", "test grade scale step gap plus end from "]
def hOld (A : Nat → Prop) (ad av : Nat → Nat) (U : State) (H : Heap) : Prop := vk_S 9 hSlen hSbyt ad av A U H ∧ (∀ i : Nat, i < 9 → vk_R (hSown.getD i "") (hSidx.getD i 0) (hStx.getD i "") (ad i) U) ∧ va_Z "java/lang/String" "COMPACT_STRINGS" "Z" (.int 1) A U H
theorem hOld.warm {A : Nat → Prop} {ad av : Nat → Nat} {s U : State} {H : Heap} (hW : s.WarmedH U.vm) (h : hOld A ad av s H) : hOld A ad av U H := ⟨h.1.moved hW.alike, fun i hi => (h.2.1 i hi).warm hW, h.2.2.moved hW.alike⟩
theorem hOld.same {A : Nat → Prop} {ad av : Nat → Nat} {s U : State} {H : Heap} (hW : U.vm = s.vm) (h : hOld A ad av s H) : hOld A ad av U H := ⟨h.1.moved (by rw [hW]; exact Vm.Alike.refl s.vm), fun i hi => (h.2.1 i hi).same hW, h.2.2.moved (by rw [hW]; exact Vm.Alike.refl s.vm)⟩
theorem hOld.kept {A : Nat → Prop} {ad av : Nat → Nat} {U : State} {H H1 : Heap} (h : hOld A ad av U H) (hq : ∀ a : Nat, a < H.size → ¬ A a → H1[a]? = H[a]?) : hOld A ad av U H1 := ⟨h.1.kept hq, h.2.1, h.2.2.kept hq⟩
def hCX (p : Program) (s : State) (m : MethodId) (args : Array Value) (meth : Method) (c : Code) (own : String) (cc : ByteArray) (nL : Nat) (ret : Option FieldType) (D : va_G) (cy : Nat → ClassId) (A : Nat → Prop) (ad av : Nat → Nat) : Prop :=
  p.tables.exec = Jvm.exec ∧ c.code = cc ∧ c.maxLocals = nL ∧ s.vm.findClass own = some m.cls ∧ (∀ w ∈ wsL_law, w.before args s = true) ∧ va_K D vwCl (hTy cy) s ∧ hOld A ad av s s.heap ∧ meth.sig.returnType = ret ∧ meth.locks = false
/-- the world: the cells, apart; the frame; the size of the heap where it is told; G: what is known of S -/
def hWd (D : va_G) (B : Nat) (cy : Nat → ClassId) (A : Nat → Prop) (ex : Bool) (G : HS → Prop) (S : HS) (H0 H : Heap) (locs : List Loc) : Prop :=
  va_P D vwCl (hWs B cy S) H ∧ va_D A (hWs B cy S) ∧ va_S A H0 H locs ∧ (ex = true → H.size = B + gZ S) ∧ hFr S ∧ G S
def hIn (D : va_G) (B : Nat) (cy : Nat → ClassId) (A : Nat → Prop) (ad av : Nat → Nat) (ex : Bool) (G : HS → Prop) (S : HS) (U : State) : Prop :=
  va_P D vwCl (hWs B cy S) U.heap ∧ va_D A (hWs B cy S) ∧ va_K D vwCl (hTy cy) U ∧ hOld A ad av U U.heap ∧ (ex = true → U.heap.size = B + gZ S)
def hQo (D : va_G) (B : Nat) (cy : Nat → ClassId) (A : Nat → Prop) (ex : Bool) (G : HS → Prop) (S : HS) (ov : Option Value) : Array Value → State → Outcome → State → Prop := fun _ st oc t =>
  oc = .returned ov ∧ (va_P D vwCl (hWs B cy S) t.heap ∧ va_D A (hWs B cy S) ∧ (ex = true → t.heap.size = B + gZ S) ∧ hFr S ∧ G S) ∧ va_F A st t
/-- the contract of a method: from the heap S with the arguments av0 it comes to Z with the answer ov -/
def hMet (l : Launch) (y : MethodName) (cc : ByteArray) (nL : Nat) (ret : Option FieldType) (rm : Room) (D : va_G) (B : Nat) (cy : Nat → ClassId) (A : Nat → Prop) (ad av : Nat → Nat) (ex : Bool) (G : HS → Prop) (av0 : List Value) (S Z : HS) (ov : Option Value) (mc ms : Nat) : Prop :=
  Met l y (Cond.code y cc nL ret :: wsL_law) rm (va_Pc av0 (hIn D B cy A ad av ex G S)) (hQo D B cy A ex G Z ov) mc ms A
theorem tw_good : wsL_law.all goodWord = true := by decide +kernel
theorem tw_in {y : MethodName} {cc : ByteArray} {nL : Nat} {ret : Option FieldType} {w : Cond} (h : Cond.code y cc nL ret ∈ wsL_law) : GoodIn (w :: wsL_law) (Cond.code y cc nL ret :: wsL_law) := by
  intro w' hw
  have hm : w' ∈ wsL_law := by
    rcases List.mem_cons.mp hw with e | e
    · rw [e]; exact h
    · exact e
  exact ⟨List.mem_cons_of_mem _ hm, good_of_word (List.all_eq_true.mp tw_good w' hm)⟩
theorem tw_inT {y : MethodName} {cc : ByteArray} {nL : Nat} {ret : Option FieldType} (h : Cond.code y cc nL ret ∈ wsL_law) : GoodIn wsL_law (Cond.code y cc nL ret :: wsL_law) := by
  intro w' hw
  have hm : w' ∈ wsL_law := by
    rcases List.mem_cons.mp hw with e | e
    · rw [e]; exact h
    · exact e
  exact ⟨hm, good_of_word (List.all_eq_true.mp tw_good w' hm)⟩
section HROWS
variable {p : Program} {l : Launch} {e : Env} {R : Room} {s : State} {m : MethodId} {args : Array Value} {below : List Frame} {meth : Method} {c : Code} {H : Heap} {locs : List Loc} {cells slots : Nat} {Q : State → Prop}
variable {cc : ByteArray} {nL : Nat} {ret : Option FieldType} {own : String} {pc : Nat} {ls : Array Slot} {rest : List Value} {D : va_G} {cy : Nat → ClassId} {A : Nat → Prop} {ad av : Nat → Nat} {B : Nat} {ex : Bool} {G : HS → Prop} {S : HS} {H0 : Heap}
theorem r_getI (X : hCX p s m args meth c own cc nL ret D cy A ad av) (hw : hWd D B cy A ex G S H0 H locs) {κ idx N : Nat} {C : String} {T : u_T} (hc : vwCl[κ]? = some (C, T, N)) (hin : ∀ w ∈ u_ws C T N, w ∈ wsL_law) (k : Nat) (hk : k < N) (ht : (ktl κ)[k]? = some false) (h20 : κ < 20) (hl : Cond.fieldLink own idx (T k).1 (T k).2.1 (T k).2.2.1 ∈ wsL_law) {c0 : Nat} (hκ : gK S c0 = κ) (hd : decode cc pc = .ok (.getfield idx, 3))
    (kk : W p l e R s m args below meth c H locs cells slots Q (F0 m (pc + 3) ls (.int (gI S c0 k) :: rest))) : W p l e R s m args below meth c H locs cells slots Q (F0 m pc ls (.ref (B + c0) :: rest)) := by
  obtain ⟨hx, hb, hml, hown, hts, hK, -⟩ := X
  obtain ⟨hP, hD, hS, hz, hf, hG⟩ := hw
  obtain ⟨q0, hq⟩ := hWs_get (B := B) (cy := cy) (hFr_in hf hκ (by omega))
  rw [hEn_obj hκ h20] at hq
  exact va_get (D := D) (ci := κ) (v := .int (gI S c0 k)) hx hb hts hin hown hK hP q0 hq hc k hk (hts _ hl) (fun _ h9 => h9) (hFs_get ht) hd kk
theorem r_getR (X : hCX p s m args meth c own cc nL ret D cy A ad av) (hw : hWd D B cy A ex G S H0 H locs) {κ idx N : Nat} {C : String} {T : u_T} (hc : vwCl[κ]? = some (C, T, N)) (hin : ∀ w ∈ u_ws C T N, w ∈ wsL_law) (k : Nat) (hk : k < N) (ht : (ktl κ)[k]? = some true) (h20 : κ < 20) (hl : Cond.fieldLink own idx (T k).1 (T k).2.1 (T k).2.2.1 ∈ wsL_law) {c0 : Nat} (hκ : gK S c0 = κ) (hd : decode cc pc = .ok (.getfield idx, 3))
    (kk : W p l e R s m args below meth c H locs cells slots Q (F0 m (pc + 3) ls (va_rf ((gR S c0 k).map (B + ·)) :: rest))) : W p l e R s m args below meth c H locs cells slots Q (F0 m pc ls (.ref (B + c0) :: rest)) := by
  obtain ⟨hx, hb, hml, hown, hts, hK, -⟩ := X
  obtain ⟨hP, hD, hS, hz, hf, hG⟩ := hw
  obtain ⟨q0, hq⟩ := hWs_get (B := B) (cy := cy) (hFr_in hf hκ (by omega))
  rw [hEn_obj hκ h20] at hq
  exact va_get (D := D) (ci := κ) (v := va_rf ((gR S c0 k).map (B + ·))) hx hb hts hin hown hK hP q0 hq hc k hk (hts _ hl) (fun _ h9 => h9) (hFs_get ht) hd kk
/-- a reference field whose content is known -/
theorem r_getF (X : hCX p s m args meth c own cc nL ret D cy A ad av) (hw : hWd D B cy A ex G S H0 H locs) {κ idx N : Nat} {C : String} {T : u_T} (hc : vwCl[κ]? = some (C, T, N)) (hin : ∀ w ∈ u_ws C T N, w ∈ wsL_law) (k : Nat) (hk : k < N) (ht : (ktl κ)[k]? = some true) (h20 : κ < 20) (hl : Cond.fieldLink own idx (T k).1 (T k).2.1 (T k).2.2.1 ∈ wsL_law) {c0 : Nat} (hκ : gK S c0 = κ) {d0 : Nat} (hr : gR S c0 k = some d0) (hd : decode cc pc = .ok (.getfield idx, 3))
    (kk : W p l e R s m args below meth c H locs cells slots Q (F0 m (pc + 3) ls (.ref (B + d0) :: rest))) : W p l e R s m args below meth c H locs cells slots Q (F0 m pc ls (.ref (B + c0) :: rest)) := by
  refine r_getR X hw hc hin k hk ht h20 hl hκ hd ?_
  rw [hr]
  exact kk
theorem r_iald (X : hCX p s m args meth c own cc nL ret D cy A ad av) (hw : hWd D B cy A ex G S H0 H locs) {c0 : Nat} (hκ : gK S c0 = 21) {i : Int32} {nn : Nat} (hnn : gN S c0 = nn) (hi : vp_in i nn) (hd : decode cc pc = .ok (.iaload, 1))
    (kk : W p l e R s m args below meth c H locs cells slots Q (F0 m (pc + 1) ls (.int (gI S c0 i.toNatClampNeg) :: rest))) : W p l e R s m args below meth c H locs cells slots Q (F0 m pc ls (.int i :: .ref (B + c0) :: rest)) := by
  subst hnn
  obtain ⟨hx, hb, hml, hown, hts, hK, -⟩ := X
  obtain ⟨hP, hD, hS, hz, hf, hG⟩ := hw
  obtain ⟨q0, hq⟩ := hWs_get (B := B) (cy := cy) (hFr_in hf hκ (by omega))
  rw [hEn_int hκ (by omega)] at hq
  exact va_iald (D := D) hx hb hK hP q0 1 hq rfl hi hd kk
theorem r_zald (X : hCX p s m args meth c own cc nL ret D cy A ad av) (hw : hWd D B cy A ex G S H0 H locs) {c0 : Nat} (hκ : gK S c0 = 23) {i : Int32} {nn : Nat} (hnn : gN S c0 = nn) (hi : vp_in i nn) (hd : decode cc pc = .ok (.baload, 1))
    (kk : W p l e R s m args below meth c H locs cells slots Q (F0 m (pc + 1) ls (.int (gI S c0 i.toNatClampNeg) :: rest))) : W p l e R s m args below meth c H locs cells slots Q (F0 m pc ls (.int i :: .ref (B + c0) :: rest)) := by
  subst hnn
  obtain ⟨hx, hb, hml, hown, hts, hK, -⟩ := X
  obtain ⟨hP, hD, hS, hz, hf, hG⟩ := hw
  obtain ⟨q0, hq⟩ := hWs_get (B := B) (cy := cy) (hFr_in hf hκ (by omega))
  rw [hEn_int hκ (by omega)] at hq
  exact va_zald (D := D) hx hb hK hP q0 3 hq rfl hi hd kk
theorem r_bald (X : hCX p s m args meth c own cc nL ret D cy A ad av) (hw : hWd D B cy A ex G S H0 H locs) {c0 : Nat} (hκ : gK S c0 = 20) {i : Int32} {nn : Nat} (hnn : gN S c0 = nn) (hi : vp_in i nn) (hd : decode cc pc = .ok (.baload, 1))
    (kk : W p l e R s m args below meth c H locs cells slots Q (F0 m (pc + 1) ls (.int (gI S c0 i.toNatClampNeg) :: rest))) : W p l e R s m args below meth c H locs cells slots Q (F0 m pc ls (.int i :: .ref (B + c0) :: rest)) := by
  subst hnn
  obtain ⟨hx, hb, hml, hown, hts, hK, -⟩ := X
  obtain ⟨hP, hD, hS, hz, hf, hG⟩ := hw
  obtain ⟨q0, hq⟩ := hWs_get (B := B) (cy := cy) (hFr_in hf hκ (by omega))
  rw [hEn_int hκ (by omega)] at hq
  exact va_bald (D := D) hx hb hK hP q0 0 hq rfl hi hd kk
theorem r_lald (X : hCX p s m args meth c own cc nL ret D cy A ad av) (hw : hWd D B cy A ex G S H0 H locs) {c0 : Nat} (hκ : gK S c0 = 22) {i : Int32} {nn : Nat} (hnn : gN S c0 = nn) (hi : vp_in i nn) (hd : decode cc pc = .ok (.laload, 1))
    (kk : W p l e R s m args below meth c H locs cells slots Q (F0 m (pc + 1) ls (.long (gJ S c0 i.toNatClampNeg) :: rest))) : W p l e R s m args below meth c H locs cells slots Q (F0 m pc ls (.int i :: .ref (B + c0) :: rest)) := by
  subst hnn
  obtain ⟨hx, hb, hml, hown, hts, hK, -⟩ := X
  obtain ⟨hP, hD, hS, hz, hf, hG⟩ := hw
  obtain ⟨q0, hq⟩ := hWs_get (B := B) (cy := cy) (hFr_in hf hκ (by omega))
  rw [hEn_long hκ] at hq
  exact va_lald (D := D) hx hb hK hP q0 2 hq rfl hi hd kk
theorem r_aald (X : hCX p s m args meth c own cc nL ret D cy A ad av) (hw : hWd D B cy A ex G S H0 H locs) {c0 κ : Nat} (hκ : gK S c0 = κ) (h24 : κ = 24 ∨ κ = 25) {i : Int32} {nn : Nat} (hnn : gN S c0 = nn) (hi : vp_in i nn) (hd : decode cc pc = .ok (.aaload, 1))
    (kk : W p l e R s m args below meth c H locs cells slots Q (F0 m (pc + 1) ls (va_rf ((gR S c0 i.toNatClampNeg).map (B + ·)) :: rest))) : W p l e R s m args below meth c H locs cells slots Q (F0 m pc ls (.int i :: .ref (B + c0) :: rest)) := by
  subst hnn
  obtain ⟨hx, hb, hml, hown, hts, hK, -⟩ := X
  obtain ⟨hP, hD, hS, hz, hf, hG⟩ := hw
  obtain ⟨q0, hq⟩ := hWs_get (B := B) (cy := cy) (hFr_in hf hκ (by omega))
  rw [hEn_ref hκ (by omega)] at hq
  rcases h24 with rfl | rfl
  · exact va_aldq (D := D) (C := "PayScales$Line") hx hb hK hP q0 4 hq rfl hi hd kk
  · exact va_aldq (D := D) (C := "java/lang/Object") hx hb hK hP q0 5 hq rfl hi hd kk
theorem r_alen (X : hCX p s m args meth c own cc nL ret D cy A ad av) (hw : hWd D B cy A ex G S H0 H locs) {c0 κ : Nat} (hκ : gK S c0 = κ) (h24 : 20 ≤ κ ∧ κ < 26) {nn : Nat} (hnn : gN S c0 = nn) (hd : decode cc pc = .ok (.arraylength, 1))
    (kk : W p l e R s m args below meth c H locs cells slots Q (F0 m (pc + 1) ls (.int (nI nn) :: rest))) : W p l e R s m args below meth c H locs cells slots Q (F0 m pc ls (.ref (B + c0) :: rest)) := by
  subst hnn
  obtain ⟨hx, hb, hml, hown, hts, hK, -⟩ := X
  obtain ⟨hP, hD, hS, hz, hf, hG⟩ := hw
  obtain ⟨q0, hq⟩ := hWs_get (B := B) (cy := cy) (hFr_in hf hκ (by omega))
  have h6 : κ = 20 ∨ κ = 21 ∨ κ = 22 ∨ κ = 23 ∨ κ = 24 ∨ κ = 25 := by omega
  rcases h6 with rfl | rfl | rfl | rfl | rfl | rfl
  · rw [hEn_int hκ (by omega)] at hq
    exact va_alen (D := D) hx hb hK hP q0 0 hq (ty := .byte) rfl rfl hd kk
  · rw [hEn_int hκ (by omega)] at hq
    exact va_alen (D := D) hx hb hK hP q0 1 hq (ty := .int) rfl rfl hd kk
  · rw [hEn_long hκ] at hq
    exact va_alen (D := D) hx hb hK hP q0 2 hq (ty := .long) rfl rfl hd kk
  · rw [hEn_int hκ (by omega)] at hq
    exact va_alen (D := D) hx hb hK hP q0 3 hq (ty := .boolean) rfl rfl hd kk
  · rw [hEn_ref hκ (by omega)] at hq
    exact va_alen (D := D) hx hb hK hP q0 4 hq (ty := .object "PayScales$Line") rfl rfl hd kk
  · rw [hEn_ref hκ (by omega)] at hq
    exact va_alen (D := D) hx hb hK hP q0 5 hq (ty := .object "java/lang/Object") rfl rfl hd kk
theorem hWd_upd {S' : HS} {H1 : Heap} {c0 : Nat} (hw : hWd D B cy A ex G S H0 H locs) (hc0 : c0 ∈ hLv S) (ha : va_at D vwCl (B + c0, hEn B cy S' c0) H1) (z : H1.size = H.size) (oq : ∀ q : Nat, q ≠ B + c0 → H1[q]? = H[q]?) (hK : gK S' = gK S) (hZ : gZ S' = gZ S) (hne : ∀ b, b ≠ c0 → hEn B cy S' b = hEn B cy S b) (hG : G S') (k : Nat) : hWd D B cy A ex G S' H0 H1 (locs ++ [⟨B + c0, k⟩]) := by
  obtain ⟨hP, hD, hS, hz, hf, -⟩ := hw
  obtain ⟨q0, hq⟩ := hWs_get (B := B) (cy := cy) hc0
  have hL := hLv_eq hK hZ
  have e1 := hWs_set hq hL hne
  have h1 := hP.set hD hq ha oq
  have h2 := hD.set (e := hEn B cy S' c0) hq
  rw [e1] at h1 h2
  refine ⟨h1, h2, hS.put z oq (hD.2 q0 _ hq), fun h => by rw [z, hZ]; exact hz h, ?_, hG⟩
  intro b hb
  rw [hK]
  exact hf b (by rw [← hZ]; exact hb)
theorem hVl_sI {S : HS} {c0 k : Nat} {v : Int32} (j : Nat) (t : Bool) (h : j ≠ k) : hVl B (sI S c0 k v) t c0 j = hVl B S t c0 j := by
  have e : gI (sI S c0 k v) c0 j = gI S c0 j := by rw [gI_sI]; exact if_neg (fun q => h q.2)
  unfold hVl
  rw [e, gR_sI]
theorem hVl_sR {S : HS} {c0 k : Nat} {v : Option Nat} (j : Nat) (t : Bool) (h : j ≠ k) : hVl B (sR S c0 k v) t c0 j = hVl B S t c0 j := by
  have e : gR (sR S c0 k v) c0 j = gR S c0 j := by rw [gR_sR]; exact if_neg (fun q => h q.2)
  unfold hVl
  rw [e, gI_sR]
theorem r_put0 (X : hCX p s m args meth c own cc nL ret D cy A ad av) (hw : hWd D B cy A ex G S H0 H locs) {S' : HS} {κ idx N : Nat} {C : String} {T : u_T} (hc : vwCl[κ]? = some (C, T, N)) (hin : ∀ w ∈ u_ws C T N, w ∈ wsL_law) (ty0 : Nat → FieldType) (hty : ∀ k, k < N → parseFieldDescriptor (T k).2.2.1 = some (ty0 k)) (hnm : ∀ a, a < N → ∀ b, b < N → a ≠ b → (T a).2.1 ≠ (T b).2.1) (k : Nat) (hk : k < N) {t : Bool} (ht : (ktl κ)[k]? = some t) (h20 : κ < 20) (hl : Cond.fieldLink own idx (T k).1 (T k).2.1 (T k).2.2.1 ∈ wsL_law) (hfin : (T k).2.2.2 = false ∨ ((T k).2.2.2 = true ∧ meth.name = "<init>" ∧ (T k).1 = own)) {c0 : Nat} (hκ : gK S c0 = κ) {v : Value} (hn : narrow (ty0 k) v = v) (hfit : fits (ty0 k) v = true)
    (hv : hVl B S' t c0 k = v) (hj : ∀ j t', j ≠ k → hVl B S' t' c0 j = hVl B S t' c0 j) (hgK : gK S' = gK S) (hgZ : gZ S' = gZ S) (hne : ∀ b, b ≠ c0 → hEn B cy S' b = hEn B cy S b) (hG : G S') (hd : decode cc pc = .ok (.putfield idx, 3))
    (kk : ∀ (H1 : Heap) (locs1 : List Loc), hWd D B cy A ex G S' H0 H1 locs1 → W p l e R s m args below meth c H1 locs1 cells slots Q (F0 m (pc + 3) ls rest)) : W p l e R s m args below meth c H locs cells slots Q (F0 m pc ls (v :: .ref (B + c0) :: rest)) := by
  obtain ⟨hx, hb, hml, hown, hts, hK, -⟩ := X
  have hwk := hw
  obtain ⟨hP, hD, hS, hz, hf, -⟩ := hw
  have hc0 := hFr_in hf hκ (by omega)
  obtain ⟨q0, hq⟩ := hWs_get (B := B) (cy := cy) hc0
  rw [hEn_obj hκ h20] at hq
  have hap := va_apart (own := own) hts hin ty0 hty hnm hK hc
  obtain ⟨r, h1, cell, q1, q2, q3, q4⟩ := hP q0 _ hq
  have hr : r = (C, T, N) := Option.some.inj (h1.symm.trans hc)
  subst hr
  obtain ⟨hSl, hfc, kC, hkC, hkind⟩ := hK.1 κ _ hc
  obtain ⟨cf, kf, fi, f, hi, hsl⟩ := hSl k hk
  have hlay := hts _ (hin _ (u_in_lay hk))
  have hst := (u_facts hfc hkC (u_lays hts hin hk) hi).1
  have hlen : k < (hFs B S c0 (ktl κ)).length := by rw [hFs_len]; exact (List.getElem?_eq_some_iff.mp ht).1
  have fin : ∀ H' : Heap, H'[B + c0]? = some (cell.setSlot (D.2 κ k) v) → H'.size = H.size → (∀ q : Nat, q ≠ B + c0 → H'[q]? = H[q]?) → hWd D B cy A ex G S' H0 H' (locs ++ [⟨B + c0, D.2 κ k⟩]) := by
    intro H' e1 e2 e3
    refine hWd_upd hwk hc0 ?_ e2 e3 hgK hgZ hne hG _
    rw [hEn_obj (S := S') (κ := κ) (by rw [hgK]; exact hκ) h20, ← hFs_set ht hj, hv]
    exact ⟨_, hc, t_OB.to (V := updV (vp_V (hFs B S c0 (ktl κ))) k v) ⟨_, e1, q2, q3, t_set q4 hap hk v⟩ (fun j _ => vp_updV_set hlen v j)⟩
  rcases hfin with hfin | ⟨hfin, hin2, hdecl⟩
  · unfold u_lay at hlay
    rw [if_neg (by rw [hfin]; decide)] at hlay
    have h6 := u_store hfc hkC hkind hlay hi (hty k hk) hn hfit
    refine W.putK hx hb (f := f) ⟨hown, hts _ hl, ⟨_, _, _, hi⟩, hst⟩ (by rw [q2]; exact h6) q1 q3 (by rw [hsl]; exact k2_hasslot (q4 k hk)) rfl rfl hd fun H' e1 e2 e3 => ?_
    rw [hsl] at e1 ⊢
    exact kk H' _ (fin H' e1 e2 e3)
  · unfold u_lay at hlay
    rw [if_pos hfin] at hlay
    have hcf : m.cls = cf := by
      obtain ⟨_, _, c', _, _, _, -, -, hf', -, -, -, hown2, -⟩ := Cond.laysFinal_spec hlay
      have e1 : c' = cf := by have := hi.symm.trans hf'; simp at this; exact this.1.symm
      rw [hdecl] at hown2
      rw [← e1]; exact Option.some.inj (hown.symm.trans hown2)
    have h6 := u_fits hfc hkC hkind (Or.inr hlay) hi (hty k hk) hn hfit
    refine W.putFinK hx hb hown (hts _ hl) hi hst hcf hin2 (by rw [q2]; exact h6) q1 q3 (by rw [hsl]; exact k2_hasslot (q4 k hk)) rfl rfl hd fun H' e1 e2 e3 => ?_
    rw [hsl] at e1 ⊢
    exact kk H' _ (fin H' e1 e2 e3)
theorem r_putI (X : hCX p s m args meth c own cc nL ret D cy A ad av) (hw : hWd D B cy A ex G S H0 H locs) {κ idx N : Nat} {C : String} {T : u_T} (hc : vwCl[κ]? = some (C, T, N)) (hin : ∀ w ∈ u_ws C T N, w ∈ wsL_law) (ty0 : Nat → FieldType) (hty : ∀ k, k < N → parseFieldDescriptor (T k).2.2.1 = some (ty0 k)) (hnm : ∀ a, a < N → ∀ b, b < N → a ≠ b → (T a).2.1 ≠ (T b).2.1) (k : Nat) (hk : k < N) (ht : (ktl κ)[k]? = some false) (h20 : κ < 20) (hl : Cond.fieldLink own idx (T k).1 (T k).2.1 (T k).2.2.1 ∈ wsL_law) (hfin : (T k).2.2.2 = false ∨ ((T k).2.2.2 = true ∧ meth.name = "<init>" ∧ (T k).1 = own)) {c0 : Nat} (hκ : gK S c0 = κ) {v : Int32} (hn : narrow (ty0 k) (.int v) = .int v) (hfit : fits (ty0 k) (.int v) = true) (hG : G (sI S c0 k v)) (hd : decode cc pc = .ok (.putfield idx, 3))
    (kk : ∀ (H1 : Heap) (locs1 : List Loc), hWd D B cy A ex G (sI S c0 k v) H0 H1 locs1 → W p l e R s m args below meth c H1 locs1 cells slots Q (F0 m (pc + 3) ls rest)) : W p l e R s m args below meth c H locs cells slots Q (F0 m pc ls (.int v :: .ref (B + c0) :: rest)) := by
  refine r_put0 X hw (S' := sI S c0 k v) hc hin ty0 hty hnm k hk ht h20 hl hfin hκ hn hfit ?_ (fun j t' h => hVl_sI j t' h) rfl rfl (fun b h => hEn_sI_ne h) hG hd kk
  have e1 : gI (sI S c0 k v) c0 k = v := by rw [gI_sI]; exact if_pos ⟨rfl, rfl⟩
  show Value.int (gI (sI S c0 k v) c0 k) = _
  rw [e1]
theorem va_rf_cat (r : Option Nat) : va_rf r = .null ∨ ∃ a, va_rf r = .ref a := va_rf_or r
theorem nar_ref {ty : FieldType} (h : (∃ n, ty = .object n) ∨ ∃ t, ty = .array t) (r : Option Nat) : narrow ty (va_rf r) = va_rf r ∧ fits ty (va_rf r) = true := by
  rcases h with ⟨n, rfl⟩ | ⟨t, rfl⟩ <;> cases r <;> exact ⟨rfl, rfl⟩
theorem r_putR (X : hCX p s m args meth c own cc nL ret D cy A ad av) (hw : hWd D B cy A ex G S H0 H locs) {κ idx N : Nat} {C : String} {T : u_T} (hc : vwCl[κ]? = some (C, T, N)) (hin : ∀ w ∈ u_ws C T N, w ∈ wsL_law) (ty0 : Nat → FieldType) (hty : ∀ k, k < N → parseFieldDescriptor (T k).2.2.1 = some (ty0 k)) (hnm : ∀ a, a < N → ∀ b, b < N → a ≠ b → (T a).2.1 ≠ (T b).2.1) (k : Nat) (hk : k < N) (ht : (ktl κ)[k]? = some true) (h20 : κ < 20) (hl : Cond.fieldLink own idx (T k).1 (T k).2.1 (T k).2.2.1 ∈ wsL_law) (hfin : (T k).2.2.2 = false ∨ ((T k).2.2.2 = true ∧ meth.name = "<init>" ∧ (T k).1 = own)) {c0 : Nat} (hκ : gK S c0 = κ) {v : Option Nat} (hty1 : (∃ n, ty0 k = .object n) ∨ ∃ t, ty0 k = .array t) (hG : G (sR S c0 k v)) (hd : decode cc pc = .ok (.putfield idx, 3))
    (kk : ∀ (H1 : Heap) (locs1 : List Loc), hWd D B cy A ex G (sR S c0 k v) H0 H1 locs1 → W p l e R s m args below meth c H1 locs1 cells slots Q (F0 m (pc + 3) ls rest)) : W p l e R s m args below meth c H locs cells slots Q (F0 m pc ls (va_rf (v.map (B + ·)) :: .ref (B + c0) :: rest)) := by
  refine r_put0 X hw (S' := sR S c0 k v) hc hin ty0 hty hnm k hk ht h20 hl hfin hκ (nar_ref hty1 _).1 (nar_ref hty1 _).2 ?_ (fun j t' h => hVl_sR j t' h) rfl rfl (fun b h => hEn_sR_ne h) hG hd kk
  have e1 : gR (sR S c0 k v) c0 k = v := by rw [gR_sR]; exact if_pos ⟨rfl, rfl⟩
  show va_rf ((gR (sR S c0 k v) c0 k).map (B + ·)) = _
  rw [e1]
theorem arr_upI {S : HS} {c0 j : Nat} {x : Int32} : gI (sI S c0 j x) c0 = upd (gI S c0) j x := by
  funext q
  rw [gI_sI]
  unfold upd
  by_cases hq : q = j
  · rw [if_pos ⟨rfl, hq⟩, if_pos hq]
  · rw [if_neg (fun z => hq z.2), if_neg hq]
theorem arr_upJ {S : HS} {c0 j : Nat} {x : Int64} : gJ (sJ S c0 j x) c0 = vp_updL (gJ S c0) j x := by
  funext q
  rw [gJ_sJ]
  unfold vp_updL
  by_cases hq : q = j
  · rw [if_pos ⟨rfl, hq⟩, if_pos hq]
  · rw [if_neg (fun z => hq z.2), if_neg hq]
theorem r_iast (X : hCX p s m args meth c own cc nL ret D cy A ad av) (hw : hWd D B cy A ex G S H0 H locs) {c0 : Nat} (hκ : gK S c0 = 21) {i x : Int32} {nn : Nat} (hnn : gN S c0 = nn) (hi : vp_in i nn) (hG : G (sI S c0 i.toNatClampNeg x)) (hd : decode cc pc = .ok (.iastore, 1))
    (kk : ∀ (H1 : Heap) (locs1 : List Loc), hWd D B cy A ex G (sI S c0 i.toNatClampNeg x) H0 H1 locs1 → W p l e R s m args below meth c H1 locs1 cells slots Q (F0 m (pc + 1) ls rest)) : W p l e R s m args below meth c H locs cells slots Q (F0 m pc ls (.int x :: .int i :: .ref (B + c0) :: rest)) := by
  subst hnn
  obtain ⟨hx, hb, hml, hown, hts, hK, -⟩ := X
  have hwk := hw
  obtain ⟨hP, hD, hS, hz, hf, -⟩ := hw
  have hc0 := hFr_in hf hκ (by omega)
  obtain ⟨q0, hq⟩ := hWs_get (B := B) (cy := cy) hc0
  rw [hEn_int hκ (by omega)] at hq
  refine W.iast hx hb (hP q0 _ hq) ((hK.2 1 _ rfl).1 (gN S c0) (fun j => .int (gI S c0 j))) (fun q => by cases q) (by show ¬ (i < 0 ∨ (arrV _ _ _).slots.size ≤ _); rw [arrV_size]; exact hi) rfl rfl hd fun H1 e1 z oq => ?_
  refine kk H1 _ (hWd_upd (S' := sI S c0 i.toNatClampNeg x) hwk hc0 ?_ z oq rfl rfl (fun b h => hEn_sI_ne h) hG _)
  rw [hEn_int (S := sI S c0 i.toNatClampNeg x) (κ := 21) hκ (by omega), arr_upI]
  show H1[B + c0]? = some (vp_cell _ _)
  rw [e1]
  rw [vp_cell_i, vp_cell_i, arrV_store]
  congr 2
  funext q
  by_cases hq : q = i.toNatClampNeg
  · subst hq
    simp [updV, upd]
  · simp [updV, upd, hq]
theorem r_zast (X : hCX p s m args meth c own cc nL ret D cy A ad av) (hw : hWd D B cy A ex G S H0 H locs) {c0 : Nat} (hκ : gK S c0 = 23) {i x : Int32} {nn : Nat} (hnn : gN S c0 = nn) (hi : vp_in i nn) (hzb : x = 0 ∨ x = 1) (hG : G (sI S c0 i.toNatClampNeg x)) (hd : decode cc pc = .ok (.bastore, 1))
    (kk : ∀ (H1 : Heap) (locs1 : List Loc), hWd D B cy A ex G (sI S c0 i.toNatClampNeg x) H0 H1 locs1 → W p l e R s m args below meth c H1 locs1 cells slots Q (F0 m (pc + 1) ls rest)) : W p l e R s m args below meth c H locs cells slots Q (F0 m pc ls (.int x :: .int i :: .ref (B + c0) :: rest)) := by
  subst hnn
  obtain ⟨hx, hb, hml, hown, hts, hK, -⟩ := X
  have hwk := hw
  obtain ⟨hP, hD, hS, hz, hf, -⟩ := hw
  have hc0 := hFr_in hf hκ (by omega)
  obtain ⟨q0, hq⟩ := hWs_get (B := B) (cy := cy) hc0
  rw [hEn_int hκ (by omega)] at hq
  refine W.zast hx hb (hP q0 _ hq) ((hK.2 3 _ rfl).1 (gN S c0) (fun j => .int (gI S c0 j))) (fun q => by cases q) (by show ¬ (i < 0 ∨ (arrV _ _ _).slots.size ≤ _); rw [arrV_size]; exact hi) rfl rfl hd fun H1 e1 z oq => ?_
  refine kk H1 _ (hWd_upd (S' := sI S c0 i.toNatClampNeg x) hwk hc0 ?_ z oq rfl rfl (fun b h => hEn_sI_ne h) hG _)
  rw [hEn_int (S := sI S c0 i.toNatClampNeg x) (κ := 23) hκ (by omega), arr_upI]
  show H1[B + c0]? = some (vp_cell _ _)
  rw [e1]
  rw [vp_cell_i, vp_cell_i, arrV_store]
  congr 2
  funext q
  by_cases hq : q = i.toNatClampNeg
  · subst hq
    rcases hzb with rfl | rfl <;> simp [updV, upd] <;> rfl
  · simp [updV, upd, hq]
theorem r_bast (X : hCX p s m args meth c own cc nL ret D cy A ad av) (hw : hWd D B cy A ex G S H0 H locs) {c0 : Nat} (hκ : gK S c0 = 20) {i x : Int32} {nn : Nat} (hnn : gN S c0 = nn) (hi : vp_in i nn) (hG : G (sI S c0 i.toNatClampNeg (vp_nar .byte x))) (hd : decode cc pc = .ok (.bastore, 1))
    (kk : ∀ (H1 : Heap) (locs1 : List Loc), hWd D B cy A ex G (sI S c0 i.toNatClampNeg (vp_nar .byte x)) H0 H1 locs1 → W p l e R s m args below meth c H1 locs1 cells slots Q (F0 m (pc + 1) ls rest)) : W p l e R s m args below meth c H locs cells slots Q (F0 m pc ls (.int x :: .int i :: .ref (B + c0) :: rest)) := by
  subst hnn
  obtain ⟨hx, hb, hml, hown, hts, hK, -⟩ := X
  have hwk := hw
  obtain ⟨hP, hD, hS, hz, hf, -⟩ := hw
  have hc0 := hFr_in hf hκ (by omega)
  obtain ⟨q0, hq⟩ := hWs_get (B := B) (cy := cy) hc0
  rw [hEn_int hκ (by omega)] at hq
  refine W.bast hx hb (hP q0 _ hq) ((hK.2 0 _ rfl).1 (gN S c0) (fun j => .int (gI S c0 j))) (fun q => by cases q) (by show ¬ (i < 0 ∨ (arrV _ _ _).slots.size ≤ _); rw [arrV_size]; exact hi) rfl rfl hd fun H1 e1 z oq => ?_
  refine kk H1 _ (hWd_upd (S' := sI S c0 i.toNatClampNeg (vp_nar .byte x)) hwk hc0 ?_ z oq rfl rfl (fun b h => hEn_sI_ne h) hG _)
  rw [hEn_int (S := sI S c0 i.toNatClampNeg (vp_nar .byte x)) (κ := 20) hκ (by omega), arr_upI]
  show H1[B + c0]? = some (vp_cell _ _)
  rw [e1]
  rw [vp_cell_i, vp_cell_i, arrV_store]
  congr 2
  funext q
  by_cases hq : q = i.toNatClampNeg
  · subst hq
    simp [updV, upd, vp_nar]
    try rfl
  · simp [updV, upd, hq]
theorem r_last (X : hCX p s m args meth c own cc nL ret D cy A ad av) (hw : hWd D B cy A ex G S H0 H locs) {c0 : Nat} (hκ : gK S c0 = 22) {i : Int32} {x : Int64} {nn : Nat} (hnn : gN S c0 = nn) (hi : vp_in i nn) (hG : G (sJ S c0 i.toNatClampNeg x)) (hd : decode cc pc = .ok (.lastore, 1))
    (kk : ∀ (H1 : Heap) (locs1 : List Loc), hWd D B cy A ex G (sJ S c0 i.toNatClampNeg x) H0 H1 locs1 → W p l e R s m args below meth c H1 locs1 cells slots Q (F0 m (pc + 1) ls rest)) : W p l e R s m args below meth c H locs cells slots Q (F0 m pc ls (.long x :: .int i :: .ref (B + c0) :: rest)) := by
  subst hnn
  obtain ⟨hx, hb, hml, hown, hts, hK, -⟩ := X
  have hwk := hw
  obtain ⟨hP, hD, hS, hz, hf, -⟩ := hw
  have hc0 := hFr_in hf hκ (by omega)
  obtain ⟨q0, hq⟩ := hWs_get (B := B) (cy := cy) hc0
  rw [hEn_long hκ] at hq
  refine W.last hx hb (hP q0 _ hq) ((hK.2 2 _ rfl).1 (gN S c0) (fun j => .long (gJ S c0 j))) (fun q => by cases q) (by show ¬ (i < 0 ∨ (arrV _ _ _).slots.size ≤ _); rw [arrV_size]; exact hi) rfl rfl hd fun H1 e1 z oq => ?_
  refine kk H1 _ (hWd_upd (S' := sJ S c0 i.toNatClampNeg x) hwk hc0 ?_ z oq rfl rfl (fun b h => hEn_sJ_ne h) hG _)
  rw [hEn_long (S := sJ S c0 i.toNatClampNeg x) hκ, arr_upJ]
  show H1[B + c0]? = some (vp_cell _ _)
  rw [e1]
  rw [vp_cell_l, vp_cell_l, arrV_store]
  congr 2
  funext q
  by_cases hq : q = i.toNatClampNeg
  · subst hq
    simp [updV, vp_updL]
  · simp [updV, vp_updL, hq]
/-! entry, ends, calls -/
theorem lv_ren {x y : Int32} (h : x = y) (k : W p l e R s m args below meth c H locs cells slots Q (F0 m pc ls (.int y :: rest))) : W p l e R s m args below meth c H locs cells slots Q (F0 m pc ls (.int x :: rest)) := h ▸ k
theorem lv_renl {x y : Int64} (h : x = y) (k : W p l e R s m args below meth c H locs cells slots Q (F0 m pc ls (.long y :: rest))) : W p l e R s m args below meth c H locs cells slots Q (F0 m pc ls (.long x :: rest)) := h ▸ k
theorem r_mmin (X : hCX p s m args meth c own cc nL ret D cy A ad av) (hsize : ls.size = nL) {idx : Nat} (w1 : Cond.methodLink own idx Lib.Math.min.name ∈ wsL_law) (hfr : 1 ≤ R.frames) (hlo : (rest.map fun v => v.category).sum + 13 ≤ R.locals) (hc : cells ≤ R.cells) (hs : slots ≤ R.slots) {x y : Int32} (hd : decode cc pc = .ok (.invokestatic idx, 3)) (kk : W p l e R s m args below meth c H locs cells slots Q (F0 m (pc + 3) ls (.int (jmin x y) :: rest))) : W p l e R s m args below meth c H locs cells slots Q (F0 m pc ls (.int y :: .int x :: rest)) :=
  va_mmin X.1 X.2.1 (X.2.2.1.trans hsize.symm) X.2.2.2.1 (X.2.2.2.2.1 _ w1) (X.2.2.2.2.1 _ tw_320) (X.2.2.2.2.1 _ tw_97) (X.2.2.2.2.1 _ tw_321) hfr hlo hc hs hd kk
theorem r_mmax (X : hCX p s m args meth c own cc nL ret D cy A ad av) (hsize : ls.size = nL) {idx : Nat} (w1 : Cond.methodLink own idx Lib.Math.max.name ∈ wsL_law) (hfr : 1 ≤ R.frames) (hlo : (rest.map fun v => v.category).sum + 13 ≤ R.locals) (hc : cells ≤ R.cells) (hs : slots ≤ R.slots) {x y : Int32} (hd : decode cc pc = .ok (.invokestatic idx, 3)) (kk : W p l e R s m args below meth c H locs cells slots Q (F0 m (pc + 3) ls (.int (jmax x y) :: rest))) : W p l e R s m args below meth c H locs cells slots Q (F0 m pc ls (.int y :: .int x :: rest)) :=
  va_mmax X.1 X.2.1 (X.2.2.1.trans hsize.symm) X.2.2.2.1 (X.2.2.2.2.1 _ w1) (X.2.2.2.2.1 _ tw_96) (X.2.2.2.2.1 _ tw_97) (X.2.2.2.2.1 _ tw_98) hfr hlo hc hs hd kk
theorem r_mabs (X : hCX p s m args meth c own cc nL ret D cy A ad av) (hsize : ls.size = nL) {idx : Nat} (w1 : Cond.methodLink own idx Lib.Math.abs.name ∈ wsL_law) (hfr : 1 ≤ R.frames) (hlo : (rest.map fun v => v.category).sum + 13 ≤ R.locals) (hc : cells ≤ R.cells) (hs : slots ≤ R.slots) {x : Int32} (hd : decode cc pc = .ok (.invokestatic idx, 3)) (kk : W p l e R s m args below meth c H locs cells slots Q (F0 m (pc + 3) ls (.int (jabs x) :: rest))) : W p l e R s m args below meth c H locs cells slots Q (F0 m pc ls (.int x :: rest)) :=
  va_mabs X.1 X.2.1 (X.2.2.1.trans hsize.symm) X.2.2.2.1 (X.2.2.2.2.1 _ w1) (X.2.2.2.2.1 _ tw_909) (X.2.2.2.2.1 _ tw_97) (X.2.2.2.2.1 _ tw_910) hfr hlo hc hs hd kk
theorem h_entry {y : MethodName} {rm : Room} {S Z : HS} {ov : Option Value} {mc ms : Nat} {av0 : List Value} (hy : plainName y.cls = true) (hfr : hFr S) (hG : G S)
    (body : ∀ (p : Program) (e : Env) (s : State) (m : MethodId) (below : List Frame) (meth : Method) (c : Code) (args : Array Value), hCX p s m args meth c y.cls cc nL ret D cy A ad av → meth.name = y.name → hWd D B cy A ex G S s.heap s.heap [] →
      W p l e rm s m args below meth c s.heap [] 0 0 (MQ below (hQo D B cy A ex G Z ov) args s mc ms A) (entryFrame m av0.toArray nL)) : hMet l y cc nL ret rm D B cy A ad av ex G av0 S Z ov mc ms := by
  refine Met.ofW (cc := cc) (maxL := nL) (ret := ret) hy rfl ?_
  intro p e s m args below meth c s₁ Bd hml hv
  obtain ⟨rfl, hP, hD, hK, hO, hz⟩ := hv
  have hts := atoms_spec (ws := Cond.code y cc nL ret :: wsL_law) Bd.pre
  exact body p e s m below meth c _ ⟨Bd.exec, Bd.bytes, hml, findClass_of_methodNamed Bd.named, fun w h => hts w (List.mem_cons_of_mem _ h), hK, hO, Bd.returns, Bd.notSynchronized⟩ (name_of_methodNamed Bd.named Bd.method).1 ⟨hP, hD, va_S.rf, hz, hfr, hG⟩
theorem h_end (hw : hWd D B cy A ex G S s.heap H locs) {ov : Option Value} : ∀ t : State, t.heap = H → s.WarmedH t.vm → hQo D B cy A ex G S ov args s (.returned ov) t := by
  intro t ht _
  obtain ⟨hP, hD, hS, hz, hf, hG⟩ := hw
  exact ⟨rfl, ⟨by rw [ht]; exact hP, hD, fun h => by rw [ht]; exact hz h, hf, hG⟩, hS.F ht⟩
theorem r_iret (X : hCX p s m args meth c own cc nL (some .int) D cy A ad av) (hw : hWd D B cy A ex G S s.heap H locs) {v : Int32} (hd : decode cc pc = .ok (.ireturn, 1)) : W p l e R s m args below meth c H locs cells slots (MQ below (hQo D B cy A ex G S (some (.int v))) args s cells slots A) (F0 m pc ls [.int v]) :=
  W.iret X.1 X.2.1 X.2.2.2.2.2.2.2.1 (h_end hw) hw.2.2.1.2.2 hd X.2.2.2.2.2.2.2.2
theorem r_zret (X : hCX p s m args meth c own cc nL (some .boolean) D cy A ad av) (hw : hWd D B cy A ex G S s.heap H locs) {v : Int32} (hz : v = 0 ∨ v = 1) (hd : decode cc pc = .ok (.ireturn, 1)) : W p l e R s m args below meth c H locs cells slots (MQ below (hQo D B cy A ex G S (some (.int v))) args s cells slots A) (F0 m pc ls [.int v]) :=
  W.zret X.1 X.2.1 X.2.2.2.2.2.2.2.1 (zb_n hz) (h_end hw) hw.2.2.1.2.2 hd X.2.2.2.2.2.2.2.2
theorem r_lret (X : hCX p s m args meth c own cc nL (some .long) D cy A ad av) (hw : hWd D B cy A ex G S s.heap H locs) {v : Int64} (hd : decode cc pc = .ok (.lreturn, 1)) : W p l e R s m args below meth c H locs cells slots (MQ below (hQo D B cy A ex G S (some (.long v))) args s cells slots A) (F0 m pc ls [.long v]) :=
  W.lret X.1 X.2.1 X.2.2.2.2.2.2.2.1 (h_end hw) hw.2.2.1.2.2 hd X.2.2.2.2.2.2.2.2
theorem r_vret (X : hCX p s m args meth c own cc nL none D cy A ad av) (hw : hWd D B cy A ex G S s.heap H locs) (hd : decode cc pc = .ok (.return_, 1)) : W p l e R s m args below meth c H locs cells slots (MQ below (hQo D B cy A ex G S none) args s cells slots A) (F0 m pc ls []) :=
  W.vret X.1 X.2.1 X.2.2.2.2.2.2.2.1 (h_end hw) hw.2.2.1.2.2 hd X.2.2.2.2.2.2.2.2
theorem r_aret {rt : FieldType} (X : hCX p s m args meth c own cc nL (some rt) D cy A ad av) (hrt : (∃ n, rt = .object n) ∨ ∃ t, rt = .array t) (hw : hWd D B cy A ex G S s.heap H locs) {v : Option Nat} (hd : decode cc pc = .ok (.areturn, 1)) : W p l e R s m args below meth c H locs cells slots (MQ below (hQo D B cy A ex G S (some (va_rf (v.map (B + ·))))) args s cells slots A) (F0 m pc ls [va_rf (v.map (B + ·))]) :=
  W.aret X.1 X.2.1 X.2.2.2.2.2.2.2.1 hrt (va_rf_or _) (h_end hw) hw.2.2.1.2.2 hd X.2.2.2.2.2.2.2.2
theorem h_pre {S : HS} {av0 : List Value} (X : hCX p s m args meth c own cc nL ret D cy A ad av) (hw : hWd D B cy A ex G S s.heap H locs) : ∀ U : State, U.heap = H → s.WarmedH U.vm → va_Pc av0 (hIn D B cy A ad av ex G S) av0.toArray U := by
  intro U hU hW
  obtain ⟨hx, hb, hml, hown, hts, hK, hO, -⟩ := X
  obtain ⟨hP, hD, hS, hz, hf, hG⟩ := hw
  exact ⟨rfl, by rw [hU]; exact hP, hD, va_K.moved hW.alike hK, by rw [hU]; exact (hO.kept hS.2.1).warm hW, fun h => by rw [hU]; exact hz h⟩
theorem h_blind {S : HS} {av0 : List Value} : FrameBlind (va_Pc av0 (hIn D B cy A ad av ex G S)) := by
  intro a U g mk q
  obtain ⟨q0, q1, q2, q3, q4, q5⟩ := q
  exact ⟨q0, q1, q2, va_K.moved (u := U) (U := U.calling g mk a) (Vm.Alike.refl U.vm) q3, hOld.same rfl q4, q5⟩
theorem h_call {Z : HS} {ov : Option Value} {mc ms : Nat} {a : Array Value} {st0 : List Value} (hw : hWd D B cy A ex G S s.heap H locs) (hr : va_Run p l e R s m args below meth c H locs cells slots mc ms (F0 m pc ls st0) rest (hQo D B cy A ex G Z ov a) A)
    (kk : ∀ (H1 : Heap) (locs1 : List Loc), hWd D B cy A ex G Z s.heap H1 locs1 → W p l e R s m args below meth c H1 locs1 (cells + mc) (slots + ms) Q (F0 m (pc + 3) ls (ov.toList ++ rest))) : W p l e R s m args below meth c H locs cells slots Q (F0 m pc ls st0) := by
  intro T hT X
  obtain ⟨v, st₀, t, T', L, h0, X', hL, e1, e2, ⟨hv, ⟨hP, hD, hz, hf, hG⟩, hz2, hk⟩, st⟩ := hr T hT X
  have hv' : v = ov := by cases hv; rfl
  subst hv'
  rw [h0] at hz2 hk
  have hS := hw.2.2.1
  obtain ⟨t2, a1, b1⟩ := kk T'.heap (locs ++ L) ⟨by rw [e1]; exact hP, hD, ⟨Nat.le_trans hS.1 (by rw [e1]; exact hz2), fun q h1 h2 => by rw [e1, hk q (Nat.lt_of_lt_of_le h1 hS.1) h2]; exact hS.2.1 q h1 h2, fun q hq => by
      rcases List.mem_append.mp hq with h | h
      · exact hS.2.2 q h
      · exact hL q h⟩, fun h => by rw [e1]; exact hz h, hf, hG⟩ T' rfl X'
  exact ⟨t2, st t2 a1, b1⟩
/-- a call of an instance method of the own kind -/
theorem r_callV {y : MethodName} {bytes : ByteArray} {maxL idx n mc ms : Nat} {rt : Option FieldType} {rm : Room} {Z : HS} {ov : Option Value} {As : List Value} {st0 : List Value} {c0 κ : Nat} (X : hCX p s m args meth c own cc nL ret D cy A ad av) (hw : hWd D B cy A ex G S s.heap H locs) (hM : hMet l y bytes maxL rt rm D B cy A ad av ex G (.ref (B + c0) :: As) S Z ov mc ms)
    (hrm : rm.cells = mc ∧ rm.slots = ms ∧ rm.frames + 1 ≤ R.frames ∧ 8 + (maxL + 11) + rm.locals ≤ R.locals) {C : String} {T : u_T} {N : Nat} (hc : vwCl[κ]? = some (C, T, N)) (h20 : κ < 20) (hκ : gK S c0 = κ)
    (w1 : Cond.methodLink own idx y ∈ wsL_law) (w2 : Cond.instanceMethod y ∈ wsL_law) (w3 : Cond.selects C y y ∈ wsL_law) (w4 : Cond.initialized C ∈ wsL_law) (w5 : Cond.code y bytes maxL rt ∈ wsL_law) (hd0 : y.cls = C ∧ y.cls ≠ "java/lang/invoke/MethodHandle" ∧ y.cls ≠ "java/lang/invoke/VarHandle" ∧ (parseMethodDescriptor y.desc).map (fun d => d.parameters.length) = some n)
    (hn : As.length = n) (hsize : ls.size = nL) (hst : st0 = As.reverse ++ .ref (B + c0) :: rest) (hWt : (rest.map fun v => v.category).sum ≤ 8) (hd : decode cc pc = .ok (.invokevirtual idx, 3)) (hf : cells + mc ≤ R.cells ∧ slots + ms ≤ R.slots) {st1 : List Value} (hst1 : ov.toList ++ rest = st1)
    (kk : ∀ (H1 : Heap) (locs1 : List Loc), hWd D B cy A ex G Z s.heap H1 locs1 → W p l e R s m args below meth c H1 locs1 (cells + mc) (slots + ms) Q (F0 m (pc + 3) ls st1)) : W p l e R s m args below meth c H locs cells slots Q (F0 m pc ls st0) := by
  subst hst1
  have hX := X
  obtain ⟨hx, hb, hml, hown, hts, hK, -⟩ := X
  obtain ⟨q0, hq⟩ := hWs_get (B := B) (cy := cy) (hFr_in hw.2.2.2.2.1 hκ (by omega))
  rw [hEn_obj hκ h20] at hq
  obtain ⟨hC, hd1⟩ := hd0
  have cb : CallB R s args own idx y bytes maxL rt (Cond.code y bytes maxL rt :: wsL_law) rm mc ms n := callB_of n hts (tw_inT w5) rfl hrm.1 hrm.2.1 (by rw [hC]; exact hts _ w4) (hts _ w1) hd1 hrm.2.2
  exact h_call hw (va_runV (As := As) (rest := rest) ⟨hx, hb, hml, hown, hts⟩ hM ⟨cb, hts _ w2, hts _ w3⟩ ⟨h_blind, va_recv hK hw.1 hc hq, h_pre hX hw⟩ rfl hn hsize hst (lv_room hWt) hd hf) kk
theorem r_callS {y : MethodName} {bytes : ByteArray} {maxL idx n mc ms : Nat} {rt : Option FieldType} {rm : Room} {Z : HS} {ov : Option Value} {As : List Value} {st0 : List Value} (X : hCX p s m args meth c own cc nL ret D cy A ad av) (hw : hWd D B cy A ex G S s.heap H locs) (hM : hMet l y bytes maxL rt rm D B cy A ad av ex G As S Z ov mc ms)
    (hrm : rm.cells = mc ∧ rm.slots = ms ∧ rm.frames + 1 ≤ R.frames ∧ 8 + (maxL + 11) + rm.locals ≤ R.locals)
    (w1 : Cond.methodLink own idx y ∈ wsL_law) (w2 : Cond.static y ∈ wsL_law) (w4 : Cond.initialized y.cls ∈ wsL_law) (w5 : Cond.code y bytes maxL rt ∈ wsL_law) (hd0 : y.cls ≠ "java/lang/invoke/MethodHandle" ∧ y.cls ≠ "java/lang/invoke/VarHandle" ∧ (parseMethodDescriptor y.desc).map (fun d => d.parameters.length) = some n)
    (hn : As.length = n) (hsize : ls.size = nL) (hst : st0 = As.reverse ++ rest) (hWt : (rest.map fun v => v.category).sum ≤ 8) (hd : decode cc pc = .ok (.invokestatic idx, 3)) (hf : cells + mc ≤ R.cells ∧ slots + ms ≤ R.slots) {st1 : List Value} (hst1 : ov.toList ++ rest = st1)
    (kk : ∀ (H1 : Heap) (locs1 : List Loc), hWd D B cy A ex G Z s.heap H1 locs1 → W p l e R s m args below meth c H1 locs1 (cells + mc) (slots + ms) Q (F0 m (pc + 3) ls st1)) : W p l e R s m args below meth c H locs cells slots Q (F0 m pc ls st0) := by
  subst hst1
  have hX := X
  obtain ⟨hx, hb, hml, hown, hts, hK, -⟩ := X
  have cb : CallB R s args own idx y bytes maxL rt (Cond.code y bytes maxL rt :: wsL_law) rm mc ms n := callB_of n hts (tw_inT w5) rfl hrm.1 hrm.2.1 (hts _ w4) (hts _ w1) hd0 hrm.2.2
  exact h_call hw (va_runS (As := As) (rest := rest) ⟨hx, hb, hml, hown, hts⟩ hM ⟨cb, hts _ w2⟩ ⟨h_blind, h_pre hX hw⟩ rfl hn hsize hst (lv_room hWt) hd hf) kk
end HROWS
end
