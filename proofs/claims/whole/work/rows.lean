section
-- ===== PART A: goes FIRST, ahead of the names: the tables' words, and 'selects' of the private methods out of them =====
/-- a private method of a class that the tables say can be made, by its rows of tables_1 -/
def lw_okq (q : MethodName × Nat) : Prop := (q.1.cls ≠ "java/lang/invoke/MethodHandle" ∧ q.1.cls ≠ "java/lang/invoke/VarHandle") ∧ Cond.instantiable q.1.cls q.2 ∈ tables_1 ∧ Cond.privateMethod q.1 ∈ tables_1 ∧ Cond.instanceMethod q.1 ∈ tables_1
theorem lw_p0 : lw_okq (⟨"CanonCote$Group", "clear", "()V"⟩, 4) := ⟨⟨by decide +kernel, by decide +kernel⟩, List.mem_of_getElem? (i := 130) (by decide +kernel), List.mem_of_getElem? (i := 163) (by decide +kernel), List.mem_of_getElem? (i := 164) (by decide +kernel)⟩
theorem lw_p1 : lw_okq (⟨"CanonCote$Chain", "restart", "(I)V"⟩, 6) := ⟨⟨by decide +kernel, by decide +kernel⟩, List.mem_of_getElem? (i := 136) (by decide +kernel), List.mem_of_getElem? (i := 167) (by decide +kernel), List.mem_of_getElem? (i := 168) (by decide +kernel)⟩
theorem lw_p2 : lw_okq (⟨"CanonCote", "graphAt", "(I)LCanonCote$Graph;"⟩, 6) := ⟨⟨by decide +kernel, by decide +kernel⟩, List.mem_of_getElem? (i := 20) (by decide +kernel), List.mem_of_getElem? (i := 236) (by decide +kernel), List.mem_of_getElem? (i := 237) (by decide +kernel)⟩
theorem lw_p3 : lw_okq (⟨"java/lang/Throwable", "fillInStackTrace", "(I)Ljava/lang/Throwable;"⟩, 6) := ⟨⟨by decide +kernel, by decide +kernel⟩, List.mem_of_getElem? (i := 278) (by decide +kernel), List.mem_of_getElem? (i := 276) (by decide +kernel), List.mem_of_getElem? (i := 277) (by decide +kernel)⟩
theorem lw_p4 : lw_okq (⟨"CanonCote$Graph", "clear", "(I)V"⟩, 3) := ⟨⟨by decide +kernel, by decide +kernel⟩, List.mem_of_getElem? (i := 29) (by decide +kernel), List.mem_of_getElem? (i := 324) (by decide +kernel), List.mem_of_getElem? (i := 325) (by decide +kernel)⟩
theorem lw_p5 : lw_okq (⟨"CanonCote$Graph", "flipEdge", "(II)V"⟩, 3) := ⟨⟨by decide +kernel, by decide +kernel⟩, List.mem_of_getElem? (i := 29) (by decide +kernel), List.mem_of_getElem? (i := 343) (by decide +kernel), List.mem_of_getElem? (i := 344) (by decide +kernel)⟩
theorem lw_p6 : lw_okq (⟨"CanonCote$Graph", "hasEdge", "(II)Z"⟩, 3) := ⟨⟨by decide +kernel, by decide +kernel⟩, List.mem_of_getElem? (i := 29) (by decide +kernel), List.mem_of_getElem? (i := 347) (by decide +kernel), List.mem_of_getElem? (i := 348) (by decide +kernel)⟩
theorem lw_p7 : lw_okq (⟨"CanonCote$Graph", "exchange", "(II)V"⟩, 3) := ⟨⟨by decide +kernel, by decide +kernel⟩, List.mem_of_getElem? (i := 29) (by decide +kernel), List.mem_of_getElem? (i := 367) (by decide +kernel), List.mem_of_getElem? (i := 368) (by decide +kernel)⟩
theorem lw_p8 : lw_okq (⟨"CanonCote$Graph", "become", "(LCanonCote$Graph;)V"⟩, 3) := ⟨⟨by decide +kernel, by decide +kernel⟩, List.mem_of_getElem? (i := 29) (by decide +kernel), List.mem_of_getElem? (i := 378) (by decide +kernel), List.mem_of_getElem? (i := 379) (by decide +kernel)⟩
theorem lw_p9 : lw_okq (⟨"CanonCote$Graph", "invertEdges", "()V"⟩, 3) := ⟨⟨by decide +kernel, by decide +kernel⟩, List.mem_of_getElem? (i := 29) (by decide +kernel), List.mem_of_getElem? (i := 389) (by decide +kernel), List.mem_of_getElem? (i := 390) (by decide +kernel)⟩
theorem lw_p10 : lw_okq (⟨"CanonCote$Graph", "countEdges", "()I"⟩, 3) := ⟨⟨by decide +kernel, by decide +kernel⟩, List.mem_of_getElem? (i := 29) (by decide +kernel), List.mem_of_getElem? (i := 396) (by decide +kernel), List.mem_of_getElem? (i := 397) (by decide +kernel)⟩
theorem lw_p11 : lw_okq (⟨"CanonCote$Refinement", "refine", "(LCanonCote$Graph;)V"⟩, 5) := ⟨⟨by decide +kernel, by decide +kernel⟩, List.mem_of_getElem? (i := 56) (by decide +kernel), List.mem_of_getElem? (i := 436) (by decide +kernel), List.mem_of_getElem? (i := 437) (by decide +kernel)⟩
theorem lw_p12 : lw_okq (⟨"CanonCote$Refinement", "numberByKeys", "(I)V"⟩, 5) := ⟨⟨by decide +kernel, by decide +kernel⟩, List.mem_of_getElem? (i := 56) (by decide +kernel), List.mem_of_getElem? (i := 440) (by decide +kernel), List.mem_of_getElem? (i := 441) (by decide +kernel)⟩
theorem lw_p13 : lw_okq (⟨"CanonCote$Refinement", "isFirstOfKey", "(I)Z"⟩, 5) := ⟨⟨by decide +kernel, by decide +kernel⟩, List.mem_of_getElem? (i := 56) (by decide +kernel), List.mem_of_getElem? (i := 444) (by decide +kernel), List.mem_of_getElem? (i := 445) (by decide +kernel)⟩
theorem lw_p14 : lw_okq (⟨"CanonCote$Refinement", "keyOf", "(LCanonCote$Graph;I)J"⟩, 5) := ⟨⟨by decide +kernel, by decide +kernel⟩, List.mem_of_getElem? (i := 56) (by decide +kernel), List.mem_of_getElem? (i := 451) (by decide +kernel), List.mem_of_getElem? (i := 452) (by decide +kernel)⟩
theorem lw_p15 : lw_okq (⟨"CanonCote", "leastCode", "(LCanonCote$Graph;)J"⟩, 6) := ⟨⟨by decide +kernel, by decide +kernel⟩, List.mem_of_getElem? (i := 20) (by decide +kernel), List.mem_of_getElem? (i := 476) (by decide +kernel), List.mem_of_getElem? (i := 477) (by decide +kernel)⟩
def lw_privs_1 : List (MethodName × Nat) := [(⟨"CanonCote$Group", "clear", "()V"⟩, 4), (⟨"CanonCote$Chain", "restart", "(I)V"⟩, 6), (⟨"CanonCote", "graphAt", "(I)LCanonCote$Graph;"⟩, 6), (⟨"java/lang/Throwable", "fillInStackTrace", "(I)Ljava/lang/Throwable;"⟩, 6), (⟨"CanonCote$Graph", "clear", "(I)V"⟩, 3), (⟨"CanonCote$Graph", "flipEdge", "(II)V"⟩, 3), (⟨"CanonCote$Graph", "hasEdge", "(II)Z"⟩, 3), (⟨"CanonCote$Graph", "exchange", "(II)V"⟩, 3), (⟨"CanonCote$Graph", "become", "(LCanonCote$Graph;)V"⟩, 3), (⟨"CanonCote$Graph", "invertEdges", "()V"⟩, 3), (⟨"CanonCote$Graph", "countEdges", "()I"⟩, 3), (⟨"CanonCote$Refinement", "refine", "(LCanonCote$Graph;)V"⟩, 5), (⟨"CanonCote$Refinement", "numberByKeys", "(I)V"⟩, 5), (⟨"CanonCote$Refinement", "isFirstOfKey", "(I)Z"⟩, 5), (⟨"CanonCote$Refinement", "keyOf", "(LCanonCote$Graph;I)J"⟩, 5), (⟨"CanonCote", "leastCode", "(LCanonCote$Graph;)J"⟩, 6)]
theorem lw_r1 : ∀ q ∈ lw_privs_1, lw_okq q := List.forall_mem_cons.mpr ⟨lw_p0, List.forall_mem_cons.mpr ⟨lw_p1, List.forall_mem_cons.mpr ⟨lw_p2, List.forall_mem_cons.mpr ⟨lw_p3, List.forall_mem_cons.mpr ⟨lw_p4, List.forall_mem_cons.mpr ⟨lw_p5, List.forall_mem_cons.mpr ⟨lw_p6, List.forall_mem_cons.mpr ⟨lw_p7, List.forall_mem_cons.mpr ⟨lw_p8, List.forall_mem_cons.mpr ⟨lw_p9, List.forall_mem_cons.mpr ⟨lw_p10, List.forall_mem_cons.mpr ⟨lw_p11, List.forall_mem_cons.mpr ⟨lw_p12, List.forall_mem_cons.mpr ⟨lw_p13, List.forall_mem_cons.mpr ⟨lw_p14, List.forall_mem_cons.mpr ⟨lw_p15, fun _ h => absurd h List.not_mem_nil⟩⟩⟩⟩⟩⟩⟩⟩⟩⟩⟩⟩⟩⟩⟩⟩
theorem lw_p16 : lw_okq (⟨"CanonCote$Arranging", "search", "(LCanonCote$Graph;)V"⟩, 7) := ⟨⟨by decide +kernel, by decide +kernel⟩, List.mem_of_getElem? (i := 83) (by decide +kernel), List.mem_of_getElem? (i := 480) (by decide +kernel), List.mem_of_getElem? (i := 481) (by decide +kernel)⟩
theorem lw_p17 : lw_okq (⟨"CanonCote$Arranging", "findTwins", "(LCanonCote$Graph;)V"⟩, 7) := ⟨⟨by decide +kernel, by decide +kernel⟩, List.mem_of_getElem? (i := 83) (by decide +kernel), List.mem_of_getElem? (i := 484) (by decide +kernel), List.mem_of_getElem? (i := 485) (by decide +kernel)⟩
theorem lw_p18 : lw_okq (⟨"CanonCote$Graph", "areTwins", "(II)Z"⟩, 3) := ⟨⟨by decide +kernel, by decide +kernel⟩, List.mem_of_getElem? (i := 29) (by decide +kernel), List.mem_of_getElem? (i := 488) (by decide +kernel), List.mem_of_getElem? (i := 489) (by decide +kernel)⟩
theorem lw_p19 : lw_okq (⟨"CanonCote$Arranging", "shareOutByColours", "(LCanonCote$Graph;)V"⟩, 7) := ⟨⟨by decide +kernel, by decide +kernel⟩, List.mem_of_getElem? (i := 83) (by decide +kernel), List.mem_of_getElem? (i := 492) (by decide +kernel), List.mem_of_getElem? (i := 493) (by decide +kernel)⟩
theorem lw_p20 : lw_okq (⟨"CanonCote$Arranging", "meet", "(II)V"⟩, 7) := ⟨⟨by decide +kernel, by decide +kernel⟩, List.mem_of_getElem? (i := 83) (by decide +kernel), List.mem_of_getElem? (i := 501) (by decide +kernel), List.mem_of_getElem? (i := 502) (by decide +kernel)⟩
theorem lw_p21 : lw_okq (⟨"CanonCote$Arranging", "splitCells", "(LCanonCote$Graph;II)I"⟩, 7) := ⟨⟨by decide +kernel, by decide +kernel⟩, List.mem_of_getElem? (i := 83) (by decide +kernel), List.mem_of_getElem? (i := 515) (by decide +kernel), List.mem_of_getElem? (i := 516) (by decide +kernel)⟩
theorem lw_p22 : lw_okq (⟨"CanonCote$Arranging", "leastCode", "(LCanonCote$Graph;)J"⟩, 7) := ⟨⟨by decide +kernel, by decide +kernel⟩, List.mem_of_getElem? (i := 83) (by decide +kernel), List.mem_of_getElem? (i := 519) (by decide +kernel), List.mem_of_getElem? (i := 520) (by decide +kernel)⟩
theorem lw_p23 : lw_okq (⟨"CanonCote$Arranging", "bestPlace", "(I)I"⟩, 7) := ⟨⟨by decide +kernel, by decide +kernel⟩, List.mem_of_getElem? (i := 83) (by decide +kernel), List.mem_of_getElem? (i := 523) (by decide +kernel), List.mem_of_getElem? (i := 524) (by decide +kernel)⟩
theorem lw_p24 : lw_okq (⟨"CanonCote", "haveOneForm", "(LCanonCote$Graph;LCanonCote$Graph;)Z"⟩, 6) := ⟨⟨by decide +kernel, by decide +kernel⟩, List.mem_of_getElem? (i := 20) (by decide +kernel), List.mem_of_getElem? (i := 542) (by decide +kernel), List.mem_of_getElem? (i := 543) (by decide +kernel)⟩
theorem lw_p25 : lw_okq (⟨"CanonCote$Mapping", "find", "(LCanonCote$Graph;LCanonCote$Graph;)Z"⟩, 3) := ⟨⟨by decide +kernel, by decide +kernel⟩, List.mem_of_getElem? (i := 111) (by decide +kernel), List.mem_of_getElem? (i := 553) (by decide +kernel), List.mem_of_getElem? (i := 554) (by decide +kernel)⟩
theorem lw_p26 : lw_okq (⟨"CanonCote$Mapping", "fits", "(LCanonCote$Graph;LCanonCote$Graph;II)Z"⟩, 3) := ⟨⟨by decide +kernel, by decide +kernel⟩, List.mem_of_getElem? (i := 111) (by decide +kernel), List.mem_of_getElem? (i := 562) (by decide +kernel), List.mem_of_getElem? (i := 563) (by decide +kernel)⟩
theorem lw_p27 : lw_okq (⟨"CanonCote$Graph", "becomePart", "(LCanonCote$Graph;I)V"⟩, 3) := ⟨⟨by decide +kernel, by decide +kernel⟩, List.mem_of_getElem? (i := 29) (by decide +kernel), List.mem_of_getElem? (i := 575) (by decide +kernel), List.mem_of_getElem? (i := 576) (by decide +kernel)⟩
theorem lw_p28 : lw_okq (⟨"CanonCote$Arranging", "countBest", "(I)I"⟩, 7) := ⟨⟨by decide +kernel, by decide +kernel⟩, List.mem_of_getElem? (i := 83) (by decide +kernel), List.mem_of_getElem? (i := 589) (by decide +kernel), List.mem_of_getElem? (i := 590) (by decide +kernel)⟩
theorem lw_p29 : lw_okq (⟨"CanonCote$Arranging", "exchangeable", "(I)I"⟩, 7) := ⟨⟨by decide +kernel, by decide +kernel⟩, List.mem_of_getElem? (i := 83) (by decide +kernel), List.mem_of_getElem? (i := 600) (by decide +kernel), List.mem_of_getElem? (i := 601) (by decide +kernel)⟩
theorem lw_p30 : lw_okq (⟨"CanonCote$Group", "add", "(J)V"⟩, 4) := ⟨⟨by decide +kernel, by decide +kernel⟩, List.mem_of_getElem? (i := 130) (by decide +kernel), List.mem_of_getElem? (i := 644) (by decide +kernel), List.mem_of_getElem? (i := 645) (by decide +kernel)⟩
theorem lw_p31 : lw_okq (⟨"CanonCote$Chain", "add", "(JI)V"⟩, 6) := ⟨⟨by decide +kernel, by decide +kernel⟩, List.mem_of_getElem? (i := 136) (by decide +kernel), List.mem_of_getElem? (i := 649) (by decide +kernel), List.mem_of_getElem? (i := 650) (by decide +kernel)⟩
def lw_privs_2 : List (MethodName × Nat) := [(⟨"CanonCote$Arranging", "search", "(LCanonCote$Graph;)V"⟩, 7), (⟨"CanonCote$Arranging", "findTwins", "(LCanonCote$Graph;)V"⟩, 7), (⟨"CanonCote$Graph", "areTwins", "(II)Z"⟩, 3), (⟨"CanonCote$Arranging", "shareOutByColours", "(LCanonCote$Graph;)V"⟩, 7), (⟨"CanonCote$Arranging", "meet", "(II)V"⟩, 7), (⟨"CanonCote$Arranging", "splitCells", "(LCanonCote$Graph;II)I"⟩, 7), (⟨"CanonCote$Arranging", "leastCode", "(LCanonCote$Graph;)J"⟩, 7), (⟨"CanonCote$Arranging", "bestPlace", "(I)I"⟩, 7), (⟨"CanonCote", "haveOneForm", "(LCanonCote$Graph;LCanonCote$Graph;)Z"⟩, 6), (⟨"CanonCote$Mapping", "find", "(LCanonCote$Graph;LCanonCote$Graph;)Z"⟩, 3), (⟨"CanonCote$Mapping", "fits", "(LCanonCote$Graph;LCanonCote$Graph;II)Z"⟩, 3), (⟨"CanonCote$Graph", "becomePart", "(LCanonCote$Graph;I)V"⟩, 3), (⟨"CanonCote$Arranging", "countBest", "(I)I"⟩, 7), (⟨"CanonCote$Arranging", "exchangeable", "(I)I"⟩, 7), (⟨"CanonCote$Group", "add", "(J)V"⟩, 4), (⟨"CanonCote$Chain", "add", "(JI)V"⟩, 6)]
theorem lw_r2 : ∀ q ∈ lw_privs_2, lw_okq q := List.forall_mem_cons.mpr ⟨lw_p16, List.forall_mem_cons.mpr ⟨lw_p17, List.forall_mem_cons.mpr ⟨lw_p18, List.forall_mem_cons.mpr ⟨lw_p19, List.forall_mem_cons.mpr ⟨lw_p20, List.forall_mem_cons.mpr ⟨lw_p21, List.forall_mem_cons.mpr ⟨lw_p22, List.forall_mem_cons.mpr ⟨lw_p23, List.forall_mem_cons.mpr ⟨lw_p24, List.forall_mem_cons.mpr ⟨lw_p25, List.forall_mem_cons.mpr ⟨lw_p26, List.forall_mem_cons.mpr ⟨lw_p27, List.forall_mem_cons.mpr ⟨lw_p28, List.forall_mem_cons.mpr ⟨lw_p29, List.forall_mem_cons.mpr ⟨lw_p30, List.forall_mem_cons.mpr ⟨lw_p31, fun _ h => absurd h List.not_mem_nil⟩⟩⟩⟩⟩⟩⟩⟩⟩⟩⟩⟩⟩⟩⟩⟩
theorem lw_p32 : lw_okq (⟨"CanonCote$Chain", "keep", "(J)V"⟩, 6) := ⟨⟨by decide +kernel, by decide +kernel⟩, List.mem_of_getElem? (i := 136) (by decide +kernel), List.mem_of_getElem? (i := 653) (by decide +kernel), List.mem_of_getElem? (i := 654) (by decide +kernel)⟩
theorem lw_p33 : lw_okq (⟨"CanonCote$Chain", "restOf", "(J)J"⟩, 6) := ⟨⟨by decide +kernel, by decide +kernel⟩, List.mem_of_getElem? (i := 136) (by decide +kernel), List.mem_of_getElem? (i := 657) (by decide +kernel), List.mem_of_getElem? (i := 658) (by decide +kernel)⟩
theorem lw_p34 : lw_okq (⟨"CanonCote$Chain", "firstMoved", "(J)I"⟩, 6) := ⟨⟨by decide +kernel, by decide +kernel⟩, List.mem_of_getElem? (i := 136) (by decide +kernel), List.mem_of_getElem? (i := 671) (by decide +kernel), List.mem_of_getElem? (i := 672) (by decide +kernel)⟩
theorem lw_p35 : lw_okq (⟨"CanonCote$Chain", "countFrom", "(I)I"⟩, 6) := ⟨⟨by decide +kernel, by decide +kernel⟩, List.mem_of_getElem? (i := 136) (by decide +kernel), List.mem_of_getElem? (i := 678) (by decide +kernel), List.mem_of_getElem? (i := 679) (by decide +kernel)⟩
theorem lw_p36 : lw_okq (⟨"CanonCote$Chain", "holds", "(J)Z"⟩, 6) := ⟨⟨by decide +kernel, by decide +kernel⟩, List.mem_of_getElem? (i := 136) (by decide +kernel), List.mem_of_getElem? (i := 689) (by decide +kernel), List.mem_of_getElem? (i := 690) (by decide +kernel)⟩
theorem lw_p37 : lw_okq (⟨"CanonCote$Group", "reach", "(I)I"⟩, 4) := ⟨⟨by decide +kernel, by decide +kernel⟩, List.mem_of_getElem? (i := 130) (by decide +kernel), List.mem_of_getElem? (i := 701) (by decide +kernel), List.mem_of_getElem? (i := 702) (by decide +kernel)⟩
theorem lw_p38 : lw_okq (⟨"CanonCote$Group", "countFixing", "(I)I"⟩, 4) := ⟨⟨by decide +kernel, by decide +kernel⟩, List.mem_of_getElem? (i := 130) (by decide +kernel), List.mem_of_getElem? (i := 718) (by decide +kernel), List.mem_of_getElem? (i := 719) (by decide +kernel)⟩
theorem lw_p39 : lw_okq (⟨"CanonCoteModel", "closes", "()V"⟩, 17) := ⟨⟨by decide +kernel, by decide +kernel⟩, List.mem_of_getElem? (i := 724) (by decide +kernel), List.mem_of_getElem? (i := 731) (by decide +kernel), List.mem_of_getElem? (i := 732) (by decide +kernel)⟩
theorem lw_p40 : lw_okq (⟨"CanonCoteModel", "finds", "()V"⟩, 17) := ⟨⟨by decide +kernel, by decide +kernel⟩, List.mem_of_getElem? (i := 724) (by decide +kernel), List.mem_of_getElem? (i := 735) (by decide +kernel), List.mem_of_getElem? (i := 736) (by decide +kernel)⟩
theorem lw_p41 : lw_okq (⟨"CanonCoteModel", "numbered", "()I"⟩, 17) := ⟨⟨by decide +kernel, by decide +kernel⟩, List.mem_of_getElem? (i := 724) (by decide +kernel), List.mem_of_getElem? (i := 739) (by decide +kernel), List.mem_of_getElem? (i := 740) (by decide +kernel)⟩
theorem lw_p42 : lw_okq (⟨"CanonCoteModel", "goes", "(ZZ)Z"⟩, 17) := ⟨⟨by decide +kernel, by decide +kernel⟩, List.mem_of_getElem? (i := 724) (by decide +kernel), List.mem_of_getElem? (i := 810) (by decide +kernel), List.mem_of_getElem? (i := 811) (by decide +kernel)⟩
theorem lw_p43 : lw_okq (⟨"CanonCoteModel", "areVertices", "(III)Z"⟩, 17) := ⟨⟨by decide +kernel, by decide +kernel⟩, List.mem_of_getElem? (i := 724) (by decide +kernel), List.mem_of_getElem? (i := 818) (by decide +kernel), List.mem_of_getElem? (i := 819) (by decide +kernel)⟩
theorem lw_p44 : lw_okq (⟨"CanonCoteModel", "isVertex", "(II)Z"⟩, 17) := ⟨⟨by decide +kernel, by decide +kernel⟩, List.mem_of_getElem? (i := 724) (by decide +kernel), List.mem_of_getElem? (i := 822) (by decide +kernel), List.mem_of_getElem? (i := 823) (by decide +kernel)⟩
theorem lw_p45 : lw_okq (⟨"CanonCoteModel", "hasEdge", "(III)Z"⟩, 17) := ⟨⟨by decide +kernel, by decide +kernel⟩, List.mem_of_getElem? (i := 724) (by decide +kernel), List.mem_of_getElem? (i := 826) (by decide +kernel), List.mem_of_getElem? (i := 827) (by decide +kernel)⟩
theorem lw_p46 : lw_okq (⟨"CanonCoteModel", "countEdges", "(I)I"⟩, 17) := ⟨⟨by decide +kernel, by decide +kernel⟩, List.mem_of_getElem? (i := 724) (by decide +kernel), List.mem_of_getElem? (i := 849) (by decide +kernel), List.mem_of_getElem? (i := 850) (by decide +kernel)⟩
theorem lw_p47 : lw_okq (⟨"CanonCoteModel", "refines", "(I)I"⟩, 17) := ⟨⟨by decide +kernel, by decide +kernel⟩, List.mem_of_getElem? (i := 724) (by decide +kernel), List.mem_of_getElem? (i := 873) (by decide +kernel), List.mem_of_getElem? (i := 874) (by decide +kernel)⟩
def lw_privs_3 : List (MethodName × Nat) := [(⟨"CanonCote$Chain", "keep", "(J)V"⟩, 6), (⟨"CanonCote$Chain", "restOf", "(J)J"⟩, 6), (⟨"CanonCote$Chain", "firstMoved", "(J)I"⟩, 6), (⟨"CanonCote$Chain", "countFrom", "(I)I"⟩, 6), (⟨"CanonCote$Chain", "holds", "(J)Z"⟩, 6), (⟨"CanonCote$Group", "reach", "(I)I"⟩, 4), (⟨"CanonCote$Group", "countFixing", "(I)I"⟩, 4), (⟨"CanonCoteModel", "closes", "()V"⟩, 17), (⟨"CanonCoteModel", "finds", "()V"⟩, 17), (⟨"CanonCoteModel", "numbered", "()I"⟩, 17), (⟨"CanonCoteModel", "goes", "(ZZ)Z"⟩, 17), (⟨"CanonCoteModel", "areVertices", "(III)Z"⟩, 17), (⟨"CanonCoteModel", "isVertex", "(II)Z"⟩, 17), (⟨"CanonCoteModel", "hasEdge", "(III)Z"⟩, 17), (⟨"CanonCoteModel", "countEdges", "(I)I"⟩, 17), (⟨"CanonCoteModel", "refines", "(I)I"⟩, 17)]
theorem lw_r3 : ∀ q ∈ lw_privs_3, lw_okq q := List.forall_mem_cons.mpr ⟨lw_p32, List.forall_mem_cons.mpr ⟨lw_p33, List.forall_mem_cons.mpr ⟨lw_p34, List.forall_mem_cons.mpr ⟨lw_p35, List.forall_mem_cons.mpr ⟨lw_p36, List.forall_mem_cons.mpr ⟨lw_p37, List.forall_mem_cons.mpr ⟨lw_p38, List.forall_mem_cons.mpr ⟨lw_p39, List.forall_mem_cons.mpr ⟨lw_p40, List.forall_mem_cons.mpr ⟨lw_p41, List.forall_mem_cons.mpr ⟨lw_p42, List.forall_mem_cons.mpr ⟨lw_p43, List.forall_mem_cons.mpr ⟨lw_p44, List.forall_mem_cons.mpr ⟨lw_p45, List.forall_mem_cons.mpr ⟨lw_p46, List.forall_mem_cons.mpr ⟨lw_p47, fun _ h => absurd h List.not_mem_nil⟩⟩⟩⟩⟩⟩⟩⟩⟩⟩⟩⟩⟩⟩⟩⟩
theorem lw_p48 : lw_okq (⟨"CanonCoteModel", "sorts", "(IZ)I"⟩, 17) := ⟨⟨by decide +kernel, by decide +kernel⟩, List.mem_of_getElem? (i := 724) (by decide +kernel), List.mem_of_getElem? (i := 877) (by decide +kernel), List.mem_of_getElem? (i := 878) (by decide +kernel)⟩
theorem lw_p49 : lw_okq (⟨"CanonCoteModel", "compares", "(IIIZ)I"⟩, 17) := ⟨⟨by decide +kernel, by decide +kernel⟩, List.mem_of_getElem? (i := 724) (by decide +kernel), List.mem_of_getElem? (i := 881) (by decide +kernel), List.mem_of_getElem? (i := 882) (by decide +kernel)⟩
theorem lw_p50 : lw_okq (⟨"CanonCoteModel", "neighboursIn", "(III)I"⟩, 17) := ⟨⟨by decide +kernel, by decide +kernel⟩, List.mem_of_getElem? (i := 724) (by decide +kernel), List.mem_of_getElem? (i := 885) (by decide +kernel), List.mem_of_getElem? (i := 886) (by decide +kernel)⟩
theorem lw_p51 : lw_okq (⟨"CanonCoteModel", "formOf", "(I)J"⟩, 17) := ⟨⟨by decide +kernel, by decide +kernel⟩, List.mem_of_getElem? (i := 724) (by decide +kernel), List.mem_of_getElem? (i := 904) (by decide +kernel), List.mem_of_getElem? (i := 905) (by decide +kernel)⟩
theorem lw_p52 : lw_okq (⟨"CanonCoteModel", "beginsMaps", "(I)V"⟩, 17) := ⟨⟨by decide +kernel, by decide +kernel⟩, List.mem_of_getElem? (i := 724) (by decide +kernel), List.mem_of_getElem? (i := 909) (by decide +kernel), List.mem_of_getElem? (i := 910) (by decide +kernel)⟩
theorem lw_p53 : lw_okq (⟨"CanonCoteModel", "codeOf", "(I)J"⟩, 17) := ⟨⟨by decide +kernel, by decide +kernel⟩, List.mem_of_getElem? (i := 724) (by decide +kernel), List.mem_of_getElem? (i := 913) (by decide +kernel), List.mem_of_getElem? (i := 914) (by decide +kernel)⟩
theorem lw_p54 : lw_okq (⟨"CanonCoteModel", "nextMap", "(I)Z"⟩, 17) := ⟨⟨by decide +kernel, by decide +kernel⟩, List.mem_of_getElem? (i := 724) (by decide +kernel), List.mem_of_getElem? (i := 920) (by decide +kernel), List.mem_of_getElem? (i := 921) (by decide +kernel)⟩
theorem lw_p55 : lw_okq (⟨"CanonCoteModel", "alike", "(II)Z"⟩, 17) := ⟨⟨by decide +kernel, by decide +kernel⟩, List.mem_of_getElem? (i := 724) (by decide +kernel), List.mem_of_getElem? (i := 932) (by decide +kernel), List.mem_of_getElem? (i := 933) (by decide +kernel)⟩
theorem lw_p56 : lw_okq (⟨"CanonCoteModel", "chooses", "(I)I"⟩, 17) := ⟨⟨by decide +kernel, by decide +kernel⟩, List.mem_of_getElem? (i := 724) (by decide +kernel), List.mem_of_getElem? (i := 936) (by decide +kernel), List.mem_of_getElem? (i := 937) (by decide +kernel)⟩
theorem lw_p57 : lw_okq (⟨"CanonCoteModel", "isMapped", "(II)Z"⟩, 17) := ⟨⟨by decide +kernel, by decide +kernel⟩, List.mem_of_getElem? (i := 724) (by decide +kernel), List.mem_of_getElem? (i := 940) (by decide +kernel), List.mem_of_getElem? (i := 941) (by decide +kernel)⟩
theorem lw_p58 : lw_okq (⟨"CanonCoteModel", "keeps", "(II)Z"⟩, 17) := ⟨⟨by decide +kernel, by decide +kernel⟩, List.mem_of_getElem? (i := 724) (by decide +kernel), List.mem_of_getElem? (i := 944) (by decide +kernel), List.mem_of_getElem? (i := 945) (by decide +kernel)⟩
theorem lw_p59 : lw_okq (⟨"CanonCoteModel", "turns", "(I)I"⟩, 17) := ⟨⟨by decide +kernel, by decide +kernel⟩, List.mem_of_getElem? (i := 724) (by decide +kernel), List.mem_of_getElem? (i := 960) (by decide +kernel), List.mem_of_getElem? (i := 961) (by decide +kernel)⟩
theorem lw_p60 : lw_okq (⟨"CanonCoteModel", "images", "(J)V"⟩, 17) := ⟨⟨by decide +kernel, by decide +kernel⟩, List.mem_of_getElem? (i := 724) (by decide +kernel), List.mem_of_getElem? (i := 982) (by decide +kernel), List.mem_of_getElem? (i := 983) (by decide +kernel)⟩
def lw_privs_4 : List (MethodName × Nat) := [(⟨"CanonCoteModel", "sorts", "(IZ)I"⟩, 17), (⟨"CanonCoteModel", "compares", "(IIIZ)I"⟩, 17), (⟨"CanonCoteModel", "neighboursIn", "(III)I"⟩, 17), (⟨"CanonCoteModel", "formOf", "(I)J"⟩, 17), (⟨"CanonCoteModel", "beginsMaps", "(I)V"⟩, 17), (⟨"CanonCoteModel", "codeOf", "(I)J"⟩, 17), (⟨"CanonCoteModel", "nextMap", "(I)Z"⟩, 17), (⟨"CanonCoteModel", "alike", "(II)Z"⟩, 17), (⟨"CanonCoteModel", "chooses", "(I)I"⟩, 17), (⟨"CanonCoteModel", "isMapped", "(II)Z"⟩, 17), (⟨"CanonCoteModel", "keeps", "(II)Z"⟩, 17), (⟨"CanonCoteModel", "turns", "(I)I"⟩, 17), (⟨"CanonCoteModel", "images", "(J)V"⟩, 17)]
theorem lw_r4 : ∀ q ∈ lw_privs_4, lw_okq q := List.forall_mem_cons.mpr ⟨lw_p48, List.forall_mem_cons.mpr ⟨lw_p49, List.forall_mem_cons.mpr ⟨lw_p50, List.forall_mem_cons.mpr ⟨lw_p51, List.forall_mem_cons.mpr ⟨lw_p52, List.forall_mem_cons.mpr ⟨lw_p53, List.forall_mem_cons.mpr ⟨lw_p54, List.forall_mem_cons.mpr ⟨lw_p55, List.forall_mem_cons.mpr ⟨lw_p56, List.forall_mem_cons.mpr ⟨lw_p57, List.forall_mem_cons.mpr ⟨lw_p58, List.forall_mem_cons.mpr ⟨lw_p59, List.forall_mem_cons.mpr ⟨lw_p60, fun _ h => absurd h List.not_mem_nil⟩⟩⟩⟩⟩⟩⟩⟩⟩⟩⟩⟩⟩
def lw_privs : List (MethodName × Nat) := lw_privs_1 ++ (lw_privs_2 ++ (lw_privs_3 ++ (lw_privs_4)))
def lw_tbl : List Cond := k2_sels lw_privs ++ tables_1
theorem lw_privs_ok : ∀ q ∈ lw_privs, lw_okq q := by
  show ∀ q ∈ lw_privs_1 ++ (lw_privs_2 ++ (lw_privs_3 ++ (lw_privs_4))), lw_okq q
  exact List.forall_mem_append.mpr ⟨lw_r1, List.forall_mem_append.mpr ⟨lw_r2, List.forall_mem_append.mpr ⟨lw_r3, lw_r4⟩⟩⟩
-- ===== end of PART A; then your names; then what follows =====
/-! ===== BEGIN words of one list among another's, by their places ===== -/
theorem goodIn_r {big : List Cond} (ws : List Cond) (ps : List Nat) (hp : ws = ps.filterMap (fun i => big[i]?)) (h : ws.all goodWord = true) : GoodIn big ws := by
  intro w hw
  have h1 := List.all_eq_true.mp h w hw
  rw [hp] at hw
  obtain ⟨i, -, hi⟩ := List.mem_filterMap.mp hw
  have hm : w ∈ big := by first | exact List.mem_of_getElem? hi | exact List.getElem?_mem hi
  exact ⟨hm, good_of_word h1⟩
theorem goodIn_app {big a b : List Cond} (ha : GoodIn big a) (hb : GoodIn big b) : GoodIn big (a ++ b) := fun w h => (List.mem_append.mp h).elim (ha w) (hb w)
theorem goodIn_ca {big a b : List Cond} {c : Cond} (ha : GoodIn big (c :: a)) (hb : GoodIn big b) : GoodIn big (c :: (a ++ b)) := fun w h => (List.mem_cons.mp h).elim (fun e => ha w (List.mem_cons.mpr (Or.inl e))) (fun h => (List.mem_append.mp h).elim (fun h => ha w (List.mem_cons.mpr (Or.inr h))) (hb w))
theorem goodIn_sub {big ws : List Cond} (hm : ∀ w ∈ ws, w ∈ big) (h : ws.all goodWord = true) : GoodIn big ws := fun w hw => ⟨hm w hw, good_of_word (List.all_eq_true.mp h w hw)⟩
/-! ===== END ===== -/

/-! ===== BEGIN exceptions that leave a method, and their catching by the caller (launches without stack traces) ===== -/
section VXA
/-! The laws vx_back, vx_callV, vx_callS, vx_callSW, vx_throw0, vx_throwS follow proofs of the library, with one case more: JvmDerived/Free/Laws.lean (Back.of_free), Shelf42/LK1.lean (callV, callS), Shelf/KitTraced.lean (throwNew0V, throwNewS). -/
/-- where a method has thrown q: the class by its name, the cell, what was written, the world -/
def vx_T (XC : String → State → State → Prop) (st : State) (q : Addr) (t : State) (mc ms : Nat) (free : Addr → Prop) : Prop :=
  ∃ (E : String) (ce : Cell) (L : List Loc), XC E st t ∧ t.heap[q]? = some ce ∧ ce.vm = .none ∧ st.vm.findClass E = some ce.cls ∧ st.WarmedH t.vm ∧ st.sameButNew ({ t with vm := st.vm } : State) L mc ms ∧ ∀ z ∈ L, free z.base
def vx_Q (Qc : Array Value → State → Outcome → State → Prop) (XC : String → State → State → Prop) (mc ms : Nat) (free : Addr → Prop) : Array Value → State → Outcome → State → Prop := fun a st o t =>
  (Qc a st o t ∧ ∃ L, FrameEnd st o t L mc ms ∧ ∀ q ∈ L, free q.base) ∨ ∃ q, o = .threw q ∧ vx_T XC st q t mc ms free
/-- a callee that returns or throws -/
def vx_Met (l : Launch) (y : MethodName) (ws : List Cond) (rm : Room) (Pc : Array Value → State → Prop) (Qc : Array Value → State → Outcome → State → Prop) (XC : String → State → State → Prop) (mc ms : Nat) (free : Addr → Prop) : Prop :=
  MetFree l y (headSpec ws rm) Pc (fun _ _ _ _ _ => True) (vx_Q Qc XC mc ms free)
def vx_Post (XC : String → State → State → Prop) (mc ms : Nat) (free : Addr → Prop) : Pt → Array Value → Addr → Pt → Prop := fun A a q B =>
  ∃ (g : JFrame) (mk : MethodId) (t : State) (L : List Loc) (E : String) (ce : Cell), B.U.heap = t.heap ∧ B.U.vm = t.vm ∧ XC E (A.U.calling g mk a) t ∧ t.heap[q]? = some ce ∧ ce.vm = .none ∧ A.U.vm.findClass E = some ce.cls ∧ B.locs = A.locs ++ L ∧ (∀ z ∈ L, free z.base) ∧ B.cells = A.cells + mc ∧ B.slots = A.slots + ms
def vx_Back (l : Launch) (R : Room) (p : Program) (e : Env) (below : List Frame) (s : State) (sargs : Array Value) (y : MethodName) (len W9 : Nat)
    (Pre : Pt → Array Value → Prop) (Post : Pt → Array Value → Option Value → Pt → Prop) (PostX : Pt → Array Value → Addr → Pt → Prop) : Prop :=
  ∀ (m : MethodId) (meth : Method) (c : Code) (A : Pt) (g : JFrame) (ig : Instr) (mk : MethodId) (a : Array Value),
    Stand p l e R s m sargs below meth c A.U A.locs A.cells A.slots → g.method = m → g.locals.size = c.maxLocals → decode c.code g.pc = .ok (ig, len) →
    2 * g.monitorRoom + (g.stack.map fun v => v.category).sum ≤ W9 → A.U.methodNamed? y = some mk → Pre A a →
    (∃ (v : Option Value) (B : Pt), Stand p l e R s m sargs below meth c B.U B.locs B.cells B.slots ∧ Post A a v B ∧
      Steps p.tables e below (doInvoke e (A.U.setTop g) [] mk a).1 (B.U.setTop { g with pc := g.pc + len, stack := v.toList ++ g.stack })) ∨
    (∃ (q : Addr) (B : Pt), Stand p l e R s m sargs below meth c B.U B.locs B.cells B.slots ∧ PostX A a q B ∧
      Steps p.tables e below (doInvoke e (A.U.setTop g) [] mk a).1 ((B.U.setTop g).pushFrame (.throwing q)))
section Payer
variable {l : Launch} {R : Room} {p : Program} {e : Env} {below : List Frame} {s : State} {sargs : Array Value} {y : MethodName} {len W9 : Nat}
theorem vx_back {ws : List Cond} {rm : Room} {Pc : Array Value → State → Prop} {Qc : Array Value → State → Outcome → State → Prop} {XC : String → State → State → Prop} {mc ms : Nat} {free : Addr → Prop} {bytes : ByteArray} {maxL : Nat} {ret : Option FieldType}
    (hM : vx_Met l y ws rm Pc Qc XC mc ms free) (hblind : FrameBlind Pc) (hrc : rm.cells = mc) (hrs : rm.slots = ms)
    (hframes : rm.frames + 1 ≤ R.frames) (hlocals : W9 + (maxL + 11) + rm.locals ≤ R.locals)
    (hws : ∀ w ∈ ws, ∀ a' U, s.WarmedH U.vm → w.before a' U = true) (hcode : Cond.code y bytes maxL ret ∈ ws) (hinit : ∀ a' U, s.WarmedH U.vm → (Cond.initialized y.cls).before a' U = true) :
    vx_Back l R p e below s sargs y len W9 (PreOf R mc ms Pc) (PostOf Qc mc ms free) (vx_Post XC mc ms free) := by
  intro m meth c A g ig mk a X hg hsize hdg hW hn hp
  have h1 : (headSpec ws rm).pre.before a A.U = true := atoms_intro fun w hw => hws w hw _ _ X.warmed
  have h2 : (Cond.code y bytes maxL ret).before a A.U = true := hws _ hcode _ _ X.warmed
  have h3 : (Cond.initialized y.cls).before a A.U = true := hinit _ _ X.warmed
  have h4 : A.cells + (headSpec ws rm).room.cells ≤ R.cells := by rw [show (headSpec ws rm).room.cells = mc from hrc]; exact hp.1
  have h5 : A.slots + (headSpec ws rm).room.slots ≤ R.slots := by rw [show (headSpec ws rm).room.slots = ms from hrs]; exact hp.2.1
  have hPc : Pc a (A.U.calling g mk a) := hblind _ _ _ _ hp.2.2
  obtain ⟨U, Ls, c0, s0⟩ := A
  dsimp only [Pt.U, Pt.locs, Pt.cells, Pt.slots] at h1 h2 h3 h4 h5 X hn hPc ⊢
  obtain ⟨methY, cY, hmY, hcY, -, hlY, -, -, -, -⟩ := Cond.code_spec hn h2
  obtain ⟨kY, hkY, -⟩ := className_of_methodNamed hn
  have hinitY : kY.init = .initialized := Cond.initialized_spec (findClass_of_methodNamed hn) hkY h3
  have h : At U g.method c below := by rw [hg]; exact X.here
  have hlocals9 : W9 + (maxL + 11) + (headSpec ws rm).room.locals ≤ R.locals := hlocals
  have happ : (headSpec ws rm).appliesLoose y e.platform (U.calling g mk a) = true :=
    Spec.appliesLoose_calling (g := g) h hdg hn hkY hinitY
      (X.room_calling (g := g) (R' := (headSpec ws rm).room) hsize hmY hcY hframes (by rw [hlY]; omega) h4 h5) h1
  obtain ⟨mid, hmid⟩ := h.above
  have hfr : (U.setTop g).frames = (.java g :: mid) ++ below := by rw [State.frames_setTop' g h.top, hmid]; rfl
  obtain ⟨o, s₂, hsteps, -, hend, hq⟩ := Steps.callFree hM p X.admits X.cas X.clock (acts := []) hfr happ hPc trivial
  have hq' : vx_Q Qc XC mc ms free a (U.calling g mk a) o s₂ := hq
  rw [State.frames_setTop' g h.top] at hend
  obtain ⟨g₀, hg0⟩ := Option.isSome_iff_exists.mp h.top
  obtain ⟨r, hr⟩ := State.topJava?_eq_some.mp hg0
  have hr' : (({ U with heap := s₂.heap, slotsUsed := s₂.slotsUsed } : State).setVm s₂.vm).frames = .java g₀ :: r := hr
  rcases hq' with ⟨hqc, L, hfe, hL⟩ | ⟨q, rfl, E, ce, L, hx, hce, hcv, hcl, hW₂, hsm, hL⟩
  · obtain ⟨⟨v, rfl⟩, hW₂, e2, q2, q3, q4, q5, q6⟩ := id hfe
    have e3 : s₂ = ({ (U.calling g mk a).setFrames s₂.frames with heap := s₂.heap, slotsUsed := s₂.slotsUsed } : State).setVm s₂.vm := by
      have : s₂ = ({ s₂ with vm := (U.calling g mk a).vm } : State).setVm s₂.vm := rfl
      rw [e2] at this
      exact this
    obtain ⟨c₂, i₂, len₂, hc₂, hd₂, hf₂⟩ := hend
    have hW' : U.WarmedH s₂.vm := hW₂
    have hcc : c₂ = c := by
      have h1 : s₂.code? g.method = U.code? g.method := by
        rw [State.code?_eq, State.code?_eq, hW'.alike.method?]
      exact Option.some.inj (hc₂.symm.trans (h1.trans h.code))
    subst hcc
    have hlen : len₂ = len := by rw [hdg] at hd₂; cases hd₂; rfl
    subst hlen
    have hs₂ : s₂ = (({ U with heap := s₂.heap, slotsUsed := s₂.slotsUsed } : State).setVm s₂.vm).setTop { g with pc := g.pc + len₂, stack := v.toList ++ g.stack } := by
      refine e3.trans ?_
      rw [hf₂, State.calling_eq h.top, State.setFrames_setFrames, State.setTop_of_frames _ hr', hr]
      rfl
    have hsame : U.sameButNew ({ U with heap := s₂.heap, slotsUsed := s₂.slotsUsed } : State) L mc ms := by
      refine ⟨?_, q2, q3, q4, q5, q6⟩
      obtain ⟨t, ht, -⟩ := State.frames_cons hr
      show ({ U with heap := s₂.heap, slotsUsed := s₂.slotsUsed } : State) = { U.setFrames U.frames with heap := s₂.heap, slotsUsed := s₂.slotsUsed }
      rw [State.setFrames_self ht]
    subst hg
    refine Or.inl ⟨v, ⟨(({ U with heap := s₂.heap, slotsUsed := s₂.slotsUsed } : State).setVm s₂.vm), Ls ++ L, c0 + mc, s0 + ms⟩,
      ⟨X.admits, X.cas, X.clock, X.frames, X.room, X.hears, X.method, X.code, (X.here.setHeapUsed s₂.heap s₂.slotsUsed).setVm hW'.alike, X.tail, State.WarmedH.trans X.warmed hW', X.limits, X.bytes, X.same.trans (hsame.setVm s.vm)⟩,
      ⟨g, mk, s₂, L, rfl, rfl, hqc, rfl, hL, rfl, rfl⟩, ?_⟩
    show Steps p.tables e below _ ((({ U with heap := s₂.heap, slotsUsed := s₂.slotsUsed } : State).setVm s₂.vm).setTop { g with pc := g.pc + len₂, stack := v.toList ++ g.stack })
    rw [← hs₂]
    exact hsteps
  · obtain ⟨e2, q2, q3, q4, q5, q6⟩ := id hsm
    have e3 : s₂ = ({ (U.calling g mk a).setFrames s₂.frames with heap := s₂.heap, slotsUsed := s₂.slotsUsed } : State).setVm s₂.vm := by
      have : s₂ = ({ s₂ with vm := (U.calling g mk a).vm } : State).setVm s₂.vm := rfl
      rw [e2] at this
      exact this
    have hf₂ : s₂.frames = .throwing q :: .java g :: U.frames.tail := hend
    have hW' : U.WarmedH s₂.vm := hW₂
    have hs₂ : s₂ = ((({ U with heap := s₂.heap, slotsUsed := s₂.slotsUsed } : State).setVm s₂.vm).setTop g).pushFrame (.throwing q) := by
      refine e3.trans ?_
      rw [hf₂, State.calling_eq h.top, State.setFrames_setFrames, State.pushFrame, State.frames_setTop _ hr', State.setTop_of_frames _ hr', State.setFrames_setFrames, hr]
      rfl
    have hsame : U.sameButNew ({ U with heap := s₂.heap, slotsUsed := s₂.slotsUsed } : State) L mc ms := by
      refine ⟨?_, q2, q3, q4, q5, q6⟩
      obtain ⟨t, ht, -⟩ := State.frames_cons hr
      show ({ U with heap := s₂.heap, slotsUsed := s₂.slotsUsed } : State) = { U.setFrames U.frames with heap := s₂.heap, slotsUsed := s₂.slotsUsed }
      rw [State.setFrames_self ht]
    subst hg
    refine Or.inr ⟨q, ⟨(({ U with heap := s₂.heap, slotsUsed := s₂.slotsUsed } : State).setVm s₂.vm), Ls ++ L, c0 + mc, s0 + ms⟩,
      ⟨X.admits, X.cas, X.clock, X.frames, X.room, X.hears, X.method, X.code, (X.here.setHeapUsed s₂.heap s₂.slotsUsed).setVm hW'.alike, X.tail, State.WarmedH.trans X.warmed hW', X.limits, X.bytes, X.same.trans (hsame.setVm s.vm)⟩,
      ⟨g, mk, s₂, L, E, ce, rfl, rfl, hx, hce, hcv, hcl, rfl, hL, rfl, rfl⟩, ?_⟩
    show Steps p.tables e below _ (((({ U with heap := s₂.heap, slotsUsed := s₂.slotsUsed } : State).setVm s₂.vm).setTop g).pushFrame (.throwing q))
    rw [← hs₂]
    exact hsteps
end Payer
section Calls
variable {p : Program} {l : Launch} {e : Env} {R : Room} {s : State} {m : MethodId} {args : Array Value} {below : List Frame} {meth : Method} {c : Code} {T : State} {locs : List Loc} {cells slots : Nat}
theorem vx_callV (X : Stand p l e R s m args below meth c T locs cells slots) (hexec : p.tables.exec = Jvm.exec) {own C : String} {index : Nat} {y : MethodName} {bytes : ByteArray} {maxL : Nat} {ret : Option FieldType}
    (hown : s.vm.findClass own = some m.cls) (hlink : (Cond.methodLink own index y).before args s = true) (hinst : (Cond.instanceMethod y).before args s = true) (hsel : (Cond.selects C y y).before args s = true)
    (hcode : (Cond.code y bytes maxL ret).before args s = true) (hy : y.cls ≠ "java/lang/invoke/MethodHandle" ∧ y.cls ≠ "java/lang/invoke/VarHandle")
    {W9 : Nat} {Pre : Pt → Array Value → Prop} {Post : Pt → Array Value → Option Value → Pt → Prop} {PostX : Pt → Array Value → Addr → Pt → Prop} (hK : vx_Back l R p e below s args y 3 W9 Pre Post PostX)
    {b : Addr} {cellB : Cell} (hcell : T.heap[b]? = some cellB) (hobj : cellB.vm.isStatics = false) (hcls : s.vm.findClass C = some cellB.cls)
    {g : JFrame} (hg : g.method = m) (hsize : g.locals.size = c.maxLocals) {argsL rest : List Value} (hlen : ∀ sig, parseMethodDescriptor y.desc = some sig → argsL.length = sig.parameters.length)
    (hstack : g.stack = argsL.reverse ++ .ref b :: rest) (hW : 2 * g.monitorRoom + (rest.map fun v => v.category).sum ≤ W9) (hdg : decode c.code g.pc = .ok (.invokevirtual index, 3))
    (hpre : ∀ vm₁, s.WarmedH vm₁ → Pre ⟨T.setVm vm₁, locs, cells, slots⟩ (Value.ref b :: argsL).toArray) :
    (∃ (v : Option Value) (vm₁ : Vm) (B : Pt), s.WarmedH vm₁ ∧ Stand p l e R s m args below meth c B.U B.locs B.cells B.slots ∧ Post ⟨T.setVm vm₁, locs, cells, slots⟩ (Value.ref b :: argsL).toArray v B ∧
      ∀ target, Steps p.tables e below (B.U.setTop { g with pc := g.pc + 3, stack := v.toList ++ rest }) target → Steps p.tables e below (T.setTop g) target) ∨
    (∃ (q : Addr) (vm₁ : Vm) (B : Pt), s.WarmedH vm₁ ∧ Stand p l e R s m args below meth c B.U B.locs B.cells B.slots ∧ PostX ⟨T.setVm vm₁, locs, cells, slots⟩ (Value.ref b :: argsL).toArray q B ∧
      Steps p.tables e below (T.setTop g) ((B.U.setTop { g with stack := rest }).pushFrame (.throwing q))) := by
  obtain ⟨mk, methM, hnamed, hmethM, hstM, habM⟩ := Cond.instanceMethod_spec hinst
  obtain ⟨methM', cM, hmethM', -, -, -, -, -, -, hsigM⟩ := Cond.code_spec hnamed hcode
  cases hmethM.symm.trans hmethM'
  obtain ⟨c2, r2, m2, q1, q2, q3, q4, kP, hkP, hkPi⟩ := Cond.selects_spec hsel
  cases hcls.symm.trans q1
  cases (State.methodFound?_of_named hnamed hy).symm.trans q2
  cases hnamed.symm.trans q3
  have hselP : selectMethod e.platform s.vm cellB.cls mk = .method mk := by rw [Launch.admits_selectMethod X.admits]; exact q4
  obtain ⟨vm₁, X₁, hstep₁⟩ := X.invokevirtual hexec hown hlink hnamed hmethM hstM hkP hkPi hy (a := b) (cell := cellB) hcell
    (fun z h => by rw [h] at hobj; cases hobj) hselP hmethM habM hkP hkPi (g := g) hg (argsL := argsL) (rest := rest) (hlen _ hsigM) hstack hdg
  rcases hK m meth c ⟨T.setVm vm₁, locs, cells, slots⟩ { g with stack := rest } (.invokevirtual index) mk (Value.ref b :: argsL).toArray X₁ hg hsize hdg hW (X₁.named hnamed) (hpre vm₁ X₁.warmed) with ⟨v, B, X', hpost, hsteps⟩ | ⟨q, B, X', hpost, hsteps⟩
  · exact Or.inl ⟨v, vm₁, B, X₁.warmed, X', hpost, fun target h => hstep₁ _ fun acts => by rw [doInvoke_state]; exact hsteps.trans h⟩
  · exact Or.inr ⟨q, vm₁, B, X₁.warmed, X', hpost, hstep₁ _ fun acts => by rw [doInvoke_state]; exact hsteps⟩
theorem vx_callS (X : Stand p l e R s m args below meth c T locs cells slots) (hexec : p.tables.exec = Jvm.exec) {own : String} {index : Nat} {y : MethodName} {bytes : ByteArray} {maxL : Nat} {ret : Option FieldType}
    (hown : s.vm.findClass own = some m.cls) (hlink : (Cond.methodLink own index y).before args s = true) (hstat : (Cond.static y).before args s = true) (hinit : (Cond.initialized y.cls).before args s = true)
    (hcode : (Cond.code y bytes maxL ret).before args s = true) (hy : y.cls ≠ "java/lang/invoke/MethodHandle" ∧ y.cls ≠ "java/lang/invoke/VarHandle")
    {W9 : Nat} {Pre : Pt → Array Value → Prop} {Post : Pt → Array Value → Option Value → Pt → Prop} {PostX : Pt → Array Value → Addr → Pt → Prop} (hK : vx_Back l R p e below s args y 3 W9 Pre Post PostX)
    {g : JFrame} (hg : g.method = m) (hsize : g.locals.size = c.maxLocals) {argsL rest : List Value} (hlen : ∀ sig, parseMethodDescriptor y.desc = some sig → argsL.length = sig.parameters.length)
    (hstack : g.stack = argsL.reverse ++ rest) (hW : 2 * g.monitorRoom + (rest.map fun v => v.category).sum ≤ W9) (hdg : decode c.code g.pc = .ok (.invokestatic index, 3))
    (hpre : ∀ vm₁, s.WarmedH vm₁ → Pre ⟨T.setVm vm₁, locs, cells, slots⟩ argsL.toArray) :
    (∃ (v : Option Value) (vm₁ : Vm) (B : Pt), s.WarmedH vm₁ ∧ Stand p l e R s m args below meth c B.U B.locs B.cells B.slots ∧ Post ⟨T.setVm vm₁, locs, cells, slots⟩ argsL.toArray v B ∧
      ∀ target, Steps p.tables e below (B.U.setTop { g with pc := g.pc + 3, stack := v.toList ++ rest }) target → Steps p.tables e below (T.setTop g) target) ∨
    (∃ (q : Addr) (vm₁ : Vm) (B : Pt), s.WarmedH vm₁ ∧ Stand p l e R s m args below meth c B.U B.locs B.cells B.slots ∧ PostX ⟨T.setVm vm₁, locs, cells, slots⟩ argsL.toArray q B ∧
      Steps p.tables e below (T.setTop g) ((B.U.setTop { g with stack := rest }).pushFrame (.throwing q))) := by
  obtain ⟨mk, hnamed⟩ := Cond.code_named hcode
  obtain ⟨methM, cM, hmethM, -, -, -, -, -, -, hsigM⟩ := Cond.code_spec hnamed hcode
  have hstatic : methM.isStatic = true := Cond.static_spec hnamed hmethM hstat
  obtain ⟨kP, hkP, -⟩ := className_of_methodNamed hnamed
  have hinitP : kP.init = .initialized := Cond.initialized_spec (findClass_of_methodNamed hnamed) hkP hinit
  obtain ⟨vm₁, X₁, hstep₁⟩ := X.invokestatic hexec hown hlink hnamed hmethM hstatic hkP hinitP hy (g := g) hg (argsL := argsL) (rest := rest) (hlen _ hsigM) hstack hdg
  rcases hK m meth c ⟨T.setVm vm₁, locs, cells, slots⟩ { g with stack := rest } (.invokestatic index) mk argsL.toArray X₁ hg hsize hdg hW (X₁.named hnamed) (hpre vm₁ X₁.warmed) with ⟨v, B, X', hpost, hsteps⟩ | ⟨q, B, X', hpost, hsteps⟩
  · exact Or.inl ⟨v, vm₁, B, X₁.warmed, X', hpost, fun target h => hstep₁ _ fun acts => by rw [doInvoke_state]; exact hsteps.trans h⟩
  · exact Or.inr ⟨q, vm₁, B, X₁.warmed, X', hpost, hstep₁ _ fun acts => by rw [doInvoke_state]; exact hsteps⟩
end Calls
theorem vx_cls {s : State} {T : State} {vm₁ : Vm} {E : String} {k : ClassId} (hW : s.WarmedH vm₁) (h : (T.setVm vm₁).vm.findClass E = some k) : s.vm.findClass E = some k := by
  have h1 : vm₁.findClass E = some k := h
  rw [hW.alike.findClass] at h1
  exact h1
/-- the method's frame g, with q thrown over it -/
def vx_W (p : Program) (l : Launch) (e : Env) (R : Room) (s : State) (m : MethodId) (args : Array Value) (below : List Frame) (meth : Method) (c : Code) (H : Heap) (locs : List Loc) (cells slots : Nat) (Q : State → Prop) (g : JFrame) (q : Addr) : Prop :=
  ∀ T : State, T.heap = H → Stand p l e R s m args below meth c T locs cells slots → ∃ t, Steps p.tables e below ((T.setTop g).pushFrame (.throwing q)) t ∧ Q t
def vx_Run (p : Program) (l : Launch) (e : Env) (R : Room) (s : State) (m : MethodId) (args : Array Value) (below : List Frame) (meth : Method) (c : Code) (H : Heap) (locs : List Loc) (cells slots mc ms : Nat) (g : JFrame) (rest : List Value) (Qa : State → Outcome → State → Prop) (XC : String → State → State → Prop) (free : Addr → Prop) : Prop :=
  ∀ T : State, T.heap = H → Stand p l e R s m args below meth c T locs cells slots →
    (∃ (v : Option Value) (st₀ t T' : State) (L : List Loc), st₀.heap = H ∧ Stand p l e R s m args below meth c T' (locs ++ L) (cells + mc) (slots + ms) ∧ (∀ q ∈ L, free q.base) ∧ T'.heap = t.heap ∧ T'.vm = t.vm ∧ Qa st₀ (.returned v) t ∧
      Goes p e below T g T' { g with pc := g.pc + 3, stack := v.toList ++ rest }) ∨
    (∃ (q : Addr) (st₀ t T' : State) (L : List Loc) (E : String) (ce : Cell), st₀.heap = H ∧ Stand p l e R s m args below meth c T' (locs ++ L) (cells + mc) (slots + ms) ∧ (∀ z ∈ L, free z.base) ∧ T'.heap = t.heap ∧ T'.vm = t.vm ∧ XC E st₀ t ∧ t.heap[q]? = some ce ∧ ce.vm = .none ∧ s.vm.findClass E = some ce.cls ∧
      Steps p.tables e below (T.setTop g) ((T'.setTop { g with stack := rest }).pushFrame (.throwing q)))
def vx_X {S : Type} (px : S → Prop) (B : String → S → State → Prop) (A : Nat → Prop) : String → State → State → Prop := fun E st t => ∃ u : S, px u ∧ B E u t ∧ va_F A st t
section Runs
variable {p : Program} {l : Launch} {e : Env} {R : Room} {s : State} {m : MethodId} {args : Array Value} {below : List Frame} {meth : Method} {c : Code} {H : Heap} {locs : List Loc} {cells slots : Nat}
variable {y : MethodName} {bytes cc : ByteArray} {maxL nL mc ms n index : Nat} {ret : Option FieldType} {ws : List Cond} {rm : Room} {Pc : Array Value → State → Prop} {Qc : Array Value → State → Outcome → State → Prop} {XC : String → State → State → Prop} {free : Addr → Prop} {Ts : List Cond} {own C : String} {b : Addr} {As rest : List Value} {g : JFrame}
theorem vx_callBack (cb : CallB R s args own index y bytes maxL ret ws rm mc ms n) (hM : vx_Met l y ws rm Pc Qc XC mc ms free) (hbl : FrameBlind Pc) : vx_Back l R p e below s args y 3 8 (PreOf R mc ms Pc) (PostOf Qc mc ms free) (vx_Post XC mc ms free) := by
  obtain ⟨hrc, hrs, hfr, hlo, hws, hcw, -, hini, -⟩ := cb
  exact vx_back (bytes := bytes) (maxL := maxL) (ret := ret) hM hbl hrc hrs hfr hlo hws hcw (fun a' U hW => word_at hW (Or.inl (by first | rfl | simp [Cond.onTables, Cond.keeps, Cond.steady])) hini)
theorem vx_runV (S : CallFix p m c cc nL s args Ts own) (hM : vx_Met l y ws rm Pc Qc XC mc ms free) (cw : CallW R s args own C index y bytes maxL ret ws rm mc ms n) (hp : PreV s H C b Pc As)
    (hg : g.method = m) (hn : As.length = n) (hsize : g.locals.size = nL) (hstack : g.stack = As.reverse ++ .ref b :: rest) (hW : 2 * g.monitorRoom + (rest.map fun v => v.category).sum ≤ 8) (hdg : decode cc g.pc = .ok (.invokevirtual index, 3)) (hf : cells + mc ≤ R.cells ∧ slots + ms ≤ R.slots) :
    vx_Run p l e R s m args below meth c H locs cells slots mc ms g rest (Qc (Value.ref b :: As).toArray) XC free := by
  have hK : vx_Back l R p e below s args y 3 8 (PreOf R mc ms Pc) (PostOf Qc mc ms free) (vx_Post XC mc ms free) := vx_callBack cw.1 hM hp.1
  obtain ⟨⟨-, -, -, -, -, -, hcode, -, hy, hlen, hl⟩, hin, hse⟩ := cw
  obtain ⟨hx, hb, hml, ho, -⟩ := S
  obtain ⟨-, ⟨cellB, hcB, hoB, hclB⟩, hPc⟩ := hp
  intro T hT X
  rcases vx_callV X hx (C := C) (bytes := bytes) (maxL := maxL) (ret := ret) ho hl hin hse hcode hy hK (by rw [hT]; exact hcB) hoB hclB hg (hsize.trans hml.symm) (argsL := As) (rest := rest) (fun sig h => hn.trans (hlen sig h)) hstack hW (by rw [hb]; exact hdg)
    (fun vm₁ hW₁ => ⟨hf.1, hf.2, hPc (T.setVm vm₁) hT hW₁⟩) with ⟨v, vm₁, ⟨U', l2, c2, s2⟩, hW₁, X', ⟨g', mk, t, L, e1, e2, hq, h1, hL, h2, h3⟩, st⟩ | ⟨q, vm₁, ⟨U', l2, c2, s2⟩, hW₁, X', ⟨g', mk, t, L, E, ce, e1, e2, hq, hce, hcv, hcl, h1, hL, h2, h3⟩, st⟩
  · dsimp only [Pt.U, Pt.locs, Pt.cells, Pt.slots] at X' e1 e2 h1 h2 h3 st
    subst h1; subst h2; subst h3
    exact Or.inl ⟨v, (T.setVm vm₁).calling g' mk (Value.ref b :: As).toArray, t, U', L, hT, X', hL, e1, e2, hq, st⟩
  · dsimp only [Pt.U, Pt.locs, Pt.cells, Pt.slots] at X' e1 e2 h1 h2 h3 st hcl
    subst h1; subst h2; subst h3
    exact Or.inr ⟨q, (T.setVm vm₁).calling g' mk (Value.ref b :: As).toArray, t, U', L, E, ce, hT, X', hL, e1, e2, hq, hce, hcv, vx_cls hW₁ hcl, st⟩
theorem vx_runS (S : CallFix p m c cc nL s args Ts own) (hM : vx_Met l y ws rm Pc Qc XC mc ms free) (cw : CallB R s args own index y bytes maxL ret ws rm mc ms n ∧ (Cond.static y).before args s = true) (hp : PreS s H Pc As)
    (hg : g.method = m) (hn : As.length = n) (hsize : g.locals.size = nL) (hstack : g.stack = As.reverse ++ rest) (hW : 2 * g.monitorRoom + (rest.map fun v => v.category).sum ≤ 8) (hdg : decode cc g.pc = .ok (.invokestatic index, 3)) (hf : cells + mc ≤ R.cells ∧ slots + ms ≤ R.slots) :
    vx_Run p l e R s m args below meth c H locs cells slots mc ms g rest (Qc As.toArray) XC free := by
  have hK : vx_Back l R p e below s args y 3 8 (PreOf R mc ms Pc) (PostOf Qc mc ms free) (vx_Post XC mc ms free) := vx_callBack cw.1 hM hp.1
  obtain ⟨⟨-, -, -, -, -, -, hcode, hini, hy, hlen, hl⟩, hstt⟩ := cw
  obtain ⟨hx, hb, hml, ho, -⟩ := S
  intro T hT X
  rcases vx_callS X hx (bytes := bytes) (maxL := maxL) (ret := ret) ho hl hstt hini hcode hy hK hg (hsize.trans hml.symm) (argsL := As) (rest := rest) (fun sig h => hn.trans (hlen sig h)) hstack hW (by rw [hb]; exact hdg)
    (fun vm₁ hW₁ => ⟨hf.1, hf.2, hp.2 (T.setVm vm₁) hT hW₁⟩) with ⟨v, vm₁, ⟨U', l2, c2, s2⟩, hW₁, X', ⟨g', mk, t, L, e1, e2, hq, h1, hL, h2, h3⟩, st⟩ | ⟨q, vm₁, ⟨U', l2, c2, s2⟩, hW₁, X', ⟨g', mk, t, L, E, ce, e1, e2, hq, hce, hcv, hcl, h1, hL, h2, h3⟩, st⟩
  · dsimp only [Pt.U, Pt.locs, Pt.cells, Pt.slots] at X' e1 e2 h1 h2 h3 st
    subst h1; subst h2; subst h3
    exact Or.inl ⟨v, (T.setVm vm₁).calling g' mk As.toArray, t, U', L, hT, X', hL, e1, e2, hq, st⟩
  · dsimp only [Pt.U, Pt.locs, Pt.cells, Pt.slots] at X' e1 e2 h1 h2 h3 st hcl
    subst h1; subst h2; subst h3
    exact Or.inr ⟨q, (T.setVm vm₁).calling g' mk As.toArray, t, U', L, E, ce, hT, X', hL, e1, e2, hq, hce, hcv, vx_cls hW₁ hcl, st⟩
end Runs
section Rows
variable {p : Program} {l : Launch} {e : Env} {R : Room} {s : State} {m : MethodId} {args : Array Value} {below : List Frame} {meth : Method} {c : Code} {H : Heap} {locs : List Loc} {cells slots : Nat} {Q : State → Prop}
variable {mc ms : Nat} {free : Addr → Prop} {A0 A1 : Nat → Prop} {H0 : Heap} {a : Array Value} {pc : Nat} {ls : Array Slot} {st0 rest : List Value}
theorem vx_keep {st₀ t T' : State} {L : List Loc} (h0 : st₀.heap = H) (e1 : T'.heap = t.heap) (hS : va_S A0 H0 H locs) (hA : ∀ q, q < H.size → A1 q → A0 q) (hf : ∀ q, free q → A0 q) (hL : ∀ q ∈ L, free q.base) (hF : va_F A1 st₀ t) :
    H.size ≤ T'.heap.size ∧ (∀ q : Nat, q < H.size → ¬ A1 q → T'.heap[q]? = H[q]?) ∧ va_S A0 H0 T'.heap (locs ++ L) := by
  obtain ⟨hz, hk⟩ := hF
  rw [h0] at hz hk
  exact ⟨by rw [e1]; exact hz, fun q h1 h2 => by rw [e1]; exact hk q h1 h2,
    ⟨Nat.le_trans hS.1 (by rw [e1]; exact hz), fun q h1 h2 => by rw [e1, hk q (Nat.lt_of_lt_of_le h1 hS.1) (fun z => h2 (hA q (Nat.lt_of_lt_of_le h1 hS.1) z))]; exact hS.2.1 q h1 h2, fun q hq => by
      rcases List.mem_append.mp hq with h | h
      · exact hS.2.2 q h
      · exact hf _ (hL q h)⟩⟩
theorem vx_calli {S SX : Type} {post : Int32 → S → Prop} {px : SX → Prop} {B : S → State → Prop} {BX : String → SX → State → Prop} {AX : Nat → Prop} (hr : vx_Run p l e R s m args below meth c H locs cells slots mc ms (F0 m pc ls st0) rest (va_Qi post B A1 a) (vx_X px BX AX) free) (hS : va_S A0 H0 H locs) (hA : ∀ q, q < H.size → A1 q → A0 q) (hf : ∀ q, free q → A0 q) (hAX : ∀ q, q < H.size → AX q → A0 q)
    (kx : ∀ (E : String) (ce : Cell) (q9 : Addr) (u : SX) (t : State) (H1 : Heap) (locs1 : List Loc), t.heap = H1 → s.vm.Alike t.vm → px u → BX E u t → H.size ≤ H1.size → (∀ q : Nat, q < H.size → ¬ AX q → H1[q]? = H[q]?) → va_S A0 H0 H1 locs1 → H1[q9]? = some ce → ce.vm = .none → s.vm.findClass E = some ce.cls → vx_W p l e R s m args below meth c H1 locs1 (cells + mc) (slots + ms) Q (F0 m pc ls rest) q9)
    (kk : ∀ (r : Int32) (u : S) (t : State) (H1 : Heap) (locs1 : List Loc), t.heap = H1 → s.vm.Alike t.vm → post r u → B u t → H.size ≤ H1.size → (∀ q : Nat, q < H.size → ¬ A1 q → H1[q]? = H[q]?) → va_S A0 H0 H1 locs1 → W p l e R s m args below meth c H1 locs1 (cells + mc) (slots + ms) Q (F0 m (pc + 3) ls (.int r :: rest))) : W p l e R s m args below meth c H locs cells slots Q (F0 m pc ls st0) := by
  intro T hT X
  rcases hr T hT X with ⟨v, st₀, t, T', L, h0, X', hL, e1, e2, ⟨⟨r, u, hv, hp, hb⟩, hF⟩, st⟩ | ⟨q, st₀, t, T', L, E, ce, h0, X', hL, e1, e2, ⟨u, hp, hb, hF⟩, hce, hcv, hcl, st⟩
  · cases hv
    obtain ⟨k1, k2, k3⟩ := vx_keep h0 e1 hS hA hf hL hF
    obtain ⟨t2, a1, b1⟩ := kk r u t T'.heap (locs ++ L) e1.symm (by rw [← e2]; exact X'.warmed.alike) hp hb k1 k2 k3 T' rfl X'
    exact ⟨t2, st t2 a1, b1⟩
  · obtain ⟨k1, k2, k3⟩ := vx_keep h0 e1 hS hAX hf hL hF
    obtain ⟨t2, a1, b1⟩ := kx E ce q u t T'.heap (locs ++ L) e1.symm (by rw [← e2]; exact X'.warmed.alike) hp hb k1 k2 k3 (by rw [e1]; exact hce) hcv hcl T' rfl X'
    exact ⟨t2, st.trans a1, b1⟩
theorem vx_calll {S SX : Type} {post : Int64 → S → Prop} {px : SX → Prop} {B : S → State → Prop} {BX : String → SX → State → Prop} {AX : Nat → Prop} (hr : vx_Run p l e R s m args below meth c H locs cells slots mc ms (F0 m pc ls st0) rest (va_Ql post B A1 a) (vx_X px BX AX) free) (hS : va_S A0 H0 H locs) (hA : ∀ q, q < H.size → A1 q → A0 q) (hf : ∀ q, free q → A0 q) (hAX : ∀ q, q < H.size → AX q → A0 q)
    (kx : ∀ (E : String) (ce : Cell) (q9 : Addr) (u : SX) (t : State) (H1 : Heap) (locs1 : List Loc), t.heap = H1 → s.vm.Alike t.vm → px u → BX E u t → H.size ≤ H1.size → (∀ q : Nat, q < H.size → ¬ AX q → H1[q]? = H[q]?) → va_S A0 H0 H1 locs1 → H1[q9]? = some ce → ce.vm = .none → s.vm.findClass E = some ce.cls → vx_W p l e R s m args below meth c H1 locs1 (cells + mc) (slots + ms) Q (F0 m pc ls rest) q9)
    (kk : ∀ (r : Int64) (u : S) (t : State) (H1 : Heap) (locs1 : List Loc), t.heap = H1 → s.vm.Alike t.vm → post r u → B u t → H.size ≤ H1.size → (∀ q : Nat, q < H.size → ¬ A1 q → H1[q]? = H[q]?) → va_S A0 H0 H1 locs1 → W p l e R s m args below meth c H1 locs1 (cells + mc) (slots + ms) Q (F0 m (pc + 3) ls (.long r :: rest))) : W p l e R s m args below meth c H locs cells slots Q (F0 m pc ls st0) := by
  intro T hT X
  rcases hr T hT X with ⟨v, st₀, t, T', L, h0, X', hL, e1, e2, ⟨⟨r, u, hv, hp, hb⟩, hF⟩, st⟩ | ⟨q, st₀, t, T', L, E, ce, h0, X', hL, e1, e2, ⟨u, hp, hb, hF⟩, hce, hcv, hcl, st⟩
  · cases hv
    obtain ⟨k1, k2, k3⟩ := vx_keep h0 e1 hS hA hf hL hF
    obtain ⟨t2, a1, b1⟩ := kk r u t T'.heap (locs ++ L) e1.symm (by rw [← e2]; exact X'.warmed.alike) hp hb k1 k2 k3 T' rfl X'
    exact ⟨t2, st t2 a1, b1⟩
  · obtain ⟨k1, k2, k3⟩ := vx_keep h0 e1 hS hAX hf hL hF
    obtain ⟨t2, a1, b1⟩ := kx E ce q u t T'.heap (locs ++ L) e1.symm (by rw [← e2]; exact X'.warmed.alike) hp hb k1 k2 k3 (by rw [e1]; exact hce) hcv hcl T' rfl X'
    exact ⟨t2, st.trans a1, b1⟩
theorem vx_callf {S SX : Type} {post : UInt32 → S → Prop} {px : SX → Prop} {B : S → State → Prop} {BX : String → SX → State → Prop} {AX : Nat → Prop} (hr : vx_Run p l e R s m args below meth c H locs cells slots mc ms (F0 m pc ls st0) rest (va_Qf post B A1 a) (vx_X px BX AX) free) (hS : va_S A0 H0 H locs) (hA : ∀ q, q < H.size → A1 q → A0 q) (hf : ∀ q, free q → A0 q) (hAX : ∀ q, q < H.size → AX q → A0 q)
    (kx : ∀ (E : String) (ce : Cell) (q9 : Addr) (u : SX) (t : State) (H1 : Heap) (locs1 : List Loc), t.heap = H1 → s.vm.Alike t.vm → px u → BX E u t → H.size ≤ H1.size → (∀ q : Nat, q < H.size → ¬ AX q → H1[q]? = H[q]?) → va_S A0 H0 H1 locs1 → H1[q9]? = some ce → ce.vm = .none → s.vm.findClass E = some ce.cls → vx_W p l e R s m args below meth c H1 locs1 (cells + mc) (slots + ms) Q (F0 m pc ls rest) q9)
    (kk : ∀ (r : UInt32) (u : S) (t : State) (H1 : Heap) (locs1 : List Loc), t.heap = H1 → s.vm.Alike t.vm → post r u → B u t → H.size ≤ H1.size → (∀ q : Nat, q < H.size → ¬ A1 q → H1[q]? = H[q]?) → va_S A0 H0 H1 locs1 → W p l e R s m args below meth c H1 locs1 (cells + mc) (slots + ms) Q (F0 m (pc + 3) ls (.float r :: rest))) : W p l e R s m args below meth c H locs cells slots Q (F0 m pc ls st0) := by
  intro T hT X
  rcases hr T hT X with ⟨v, st₀, t, T', L, h0, X', hL, e1, e2, ⟨⟨r, u, hv, hp, hb⟩, hF⟩, st⟩ | ⟨q, st₀, t, T', L, E, ce, h0, X', hL, e1, e2, ⟨u, hp, hb, hF⟩, hce, hcv, hcl, st⟩
  · cases hv
    obtain ⟨k1, k2, k3⟩ := vx_keep h0 e1 hS hA hf hL hF
    obtain ⟨t2, a1, b1⟩ := kk r u t T'.heap (locs ++ L) e1.symm (by rw [← e2]; exact X'.warmed.alike) hp hb k1 k2 k3 T' rfl X'
    exact ⟨t2, st t2 a1, b1⟩
  · obtain ⟨k1, k2, k3⟩ := vx_keep h0 e1 hS hAX hf hL hF
    obtain ⟨t2, a1, b1⟩ := kx E ce q u t T'.heap (locs ++ L) e1.symm (by rw [← e2]; exact X'.warmed.alike) hp hb k1 k2 k3 (by rw [e1]; exact hce) hcv hcl T' rfl X'
    exact ⟨t2, st.trans a1, b1⟩
theorem vx_calld {S SX : Type} {post : UInt64 → S → Prop} {px : SX → Prop} {B : S → State → Prop} {BX : String → SX → State → Prop} {AX : Nat → Prop} (hr : vx_Run p l e R s m args below meth c H locs cells slots mc ms (F0 m pc ls st0) rest (va_Qd post B A1 a) (vx_X px BX AX) free) (hS : va_S A0 H0 H locs) (hA : ∀ q, q < H.size → A1 q → A0 q) (hf : ∀ q, free q → A0 q) (hAX : ∀ q, q < H.size → AX q → A0 q)
    (kx : ∀ (E : String) (ce : Cell) (q9 : Addr) (u : SX) (t : State) (H1 : Heap) (locs1 : List Loc), t.heap = H1 → s.vm.Alike t.vm → px u → BX E u t → H.size ≤ H1.size → (∀ q : Nat, q < H.size → ¬ AX q → H1[q]? = H[q]?) → va_S A0 H0 H1 locs1 → H1[q9]? = some ce → ce.vm = .none → s.vm.findClass E = some ce.cls → vx_W p l e R s m args below meth c H1 locs1 (cells + mc) (slots + ms) Q (F0 m pc ls rest) q9)
    (kk : ∀ (r : UInt64) (u : S) (t : State) (H1 : Heap) (locs1 : List Loc), t.heap = H1 → s.vm.Alike t.vm → post r u → B u t → H.size ≤ H1.size → (∀ q : Nat, q < H.size → ¬ A1 q → H1[q]? = H[q]?) → va_S A0 H0 H1 locs1 → W p l e R s m args below meth c H1 locs1 (cells + mc) (slots + ms) Q (F0 m (pc + 3) ls (.double r :: rest))) : W p l e R s m args below meth c H locs cells slots Q (F0 m pc ls st0) := by
  intro T hT X
  rcases hr T hT X with ⟨v, st₀, t, T', L, h0, X', hL, e1, e2, ⟨⟨r, u, hv, hp, hb⟩, hF⟩, st⟩ | ⟨q, st₀, t, T', L, E, ce, h0, X', hL, e1, e2, ⟨u, hp, hb, hF⟩, hce, hcv, hcl, st⟩
  · cases hv
    obtain ⟨k1, k2, k3⟩ := vx_keep h0 e1 hS hA hf hL hF
    obtain ⟨t2, a1, b1⟩ := kk r u t T'.heap (locs ++ L) e1.symm (by rw [← e2]; exact X'.warmed.alike) hp hb k1 k2 k3 T' rfl X'
    exact ⟨t2, st t2 a1, b1⟩
  · obtain ⟨k1, k2, k3⟩ := vx_keep h0 e1 hS hAX hf hL hF
    obtain ⟨t2, a1, b1⟩ := kx E ce q u t T'.heap (locs ++ L) e1.symm (by rw [← e2]; exact X'.warmed.alike) hp hb k1 k2 k3 (by rw [e1]; exact hce) hcv hcl T' rfl X'
    exact ⟨t2, st.trans a1, b1⟩
theorem vx_callv {S SX : Type} {post : S → Prop} {px : SX → Prop} {B : S → State → Prop} {BX : String → SX → State → Prop} {AX : Nat → Prop} (hr : vx_Run p l e R s m args below meth c H locs cells slots mc ms (F0 m pc ls st0) rest (va_Qv post B A1 a) (vx_X px BX AX) free) (hS : va_S A0 H0 H locs) (hA : ∀ q, q < H.size → A1 q → A0 q) (hf : ∀ q, free q → A0 q) (hAX : ∀ q, q < H.size → AX q → A0 q)
    (kx : ∀ (E : String) (ce : Cell) (q9 : Addr) (u : SX) (t : State) (H1 : Heap) (locs1 : List Loc), t.heap = H1 → s.vm.Alike t.vm → px u → BX E u t → H.size ≤ H1.size → (∀ q : Nat, q < H.size → ¬ AX q → H1[q]? = H[q]?) → va_S A0 H0 H1 locs1 → H1[q9]? = some ce → ce.vm = .none → s.vm.findClass E = some ce.cls → vx_W p l e R s m args below meth c H1 locs1 (cells + mc) (slots + ms) Q (F0 m pc ls rest) q9)
    (kk : ∀ (u : S) (t : State) (H1 : Heap) (locs1 : List Loc), t.heap = H1 → s.vm.Alike t.vm → post u → B u t → H.size ≤ H1.size → (∀ q : Nat, q < H.size → ¬ A1 q → H1[q]? = H[q]?) → va_S A0 H0 H1 locs1 → W p l e R s m args below meth c H1 locs1 (cells + mc) (slots + ms) Q (F0 m (pc + 3) ls (rest))) : W p l e R s m args below meth c H locs cells slots Q (F0 m pc ls st0) := by
  intro T hT X
  rcases hr T hT X with ⟨v, st₀, t, T', L, h0, X', hL, e1, e2, ⟨⟨u, hv, hp, hb⟩, hF⟩, st⟩ | ⟨q, st₀, t, T', L, E, ce, h0, X', hL, e1, e2, ⟨u, hp, hb, hF⟩, hce, hcv, hcl, st⟩
  · cases hv
    obtain ⟨k1, k2, k3⟩ := vx_keep h0 e1 hS hA hf hL hF
    obtain ⟨t2, a1, b1⟩ := kk u t T'.heap (locs ++ L) e1.symm (by rw [← e2]; exact X'.warmed.alike) hp hb k1 k2 k3 T' rfl X'
    exact ⟨t2, st t2 a1, b1⟩
  · obtain ⟨k1, k2, k3⟩ := vx_keep h0 e1 hS hAX hf hL hF
    obtain ⟨t2, a1, b1⟩ := kx E ce q u t T'.heap (locs ++ L) e1.symm (by rw [← e2]; exact X'.warmed.alike) hp hb k1 k2 k3 (by rw [e1]; exact hce) hcv hcl T' rfl X'
    exact ⟨t2, st.trans a1, b1⟩
/-- caught by the row x of this method's table; the rows ahead don't take it -/
theorem vx_catch {own name : String} {E : String} {ce : Cell} {q : Addr} (hown : s.vm.findClass own = some m.cls) (pre : List ExceptionTableEntry) (x : ExceptionTableEntry) (suf : List ExceptionTableEntry) (hsplit : c.exceptionTable.toList = pre ++ x :: suf)
    (hpass : ∀ z ∈ pre, covers z pc = false ∨ (z.catchType ≠ 0 ∧ ∃ nm : String, (Cond.classLink own z.catchType nm).before args s = true ∧ va_Nc E nm s)) (hx : covers x pc = true) (h0 : x.catchType ≠ 0)
    (hlink : (Cond.classLink own x.catchType name).before args s = true) (hcast : (Cond.castable E name).before args s = true) (hcell : H[q]? = some ce) (hv : ce.vm = .none) (hcl : s.vm.findClass E = some ce.cls)
    (kk : W p l e R s m args below meth c H locs cells slots Q (F0 m x.handlerPc ls [.ref q])) : vx_W p l e R s m args below meth c H locs cells slots Q (F0 m pc ls rest) q := by
  intro T hT X
  have hpl : e.platform.magicAccessors = ({} : Platform).magicAccessors := by rw [X.admits.platform]
  obtain ⟨c3, c4, hc3, hc4, hasg⟩ := Cond.castable_spec hcast
  cases Option.some.inj (hc3.symm.trans hcl)
  obtain ⟨c5, hc5, hcl5⟩ := Cond.classLink_spec hown hlink e.platform hpl
  cases Option.some.inj (hc4.symm.trans hc5)
  obtain ⟨vm', X', st⟩ := X.thenCaughtThrough q (g := F0 m pc ls rest) rfl (Steps.refl _) (by rw [hT]; exact hcell) (by rw [hv]; rfl) (by obtain ⟨k9, h9, -⟩ := Vm.findClass_spec hcl; exact ⟨k9, h9⟩) pre x suf hsplit
    (fun z hz => by
      rcases hpass z hz with h | ⟨hz0, nm, hl1, hn1⟩
      · exact Or.inl h
      · obtain ⟨c6, hc6, hcl6⟩ := Cond.classLink_spec hown hl1 e.platform hpl
        obtain ⟨a8, b8, h1, h2, h3⟩ := hn1
        cases Option.some.inj (h1.symm.trans hcl)
        cases Option.some.inj (h2.symm.trans hc6)
        exact Or.inr ⟨hz0, _, hcl6, h3⟩) hx (Or.inr ⟨h0, c4, hcl5, hasg⟩)
  obtain ⟨t, a1, b1⟩ := kk (T.setVm vm') hT X'
  exact ⟨t, st.trans a1, b1⟩
end Rows
section Ends
variable {p : Program} {l : Launch} {e : Env} {R : Room} {s : State} {m : MethodId} {args : Array Value} {below : List Frame} {meth : Method} {c : Code} {H : Heap} {locs : List Loc} {cells slots : Nat} {Q : State → Prop}
variable {mc ms : Nat} {free : Addr → Prop} {A0 A1 : Nat → Prop} {H0 : Heap} {a : Array Value} {ls : Array Slot} {st0 rest : List Value}
variable {Qc : Array Value → State → Outcome → State → Prop} {XC : String → State → State → Prop}
/-- what a body that may throw owes at its end -/
def vx_MQ (below : List Frame) (Qc : Array Value → State → Outcome → State → Prop) (XC : String → State → State → Prop) (a : Array Value) (s : State) (mc ms : Nat) (free : Addr → Prop) : State → Prop := fun t =>
  ∃ o, t.status = .running ∧ Ended t below o ∧ vx_Q Qc XC mc ms free a s o t
theorem vx_ret {g : JFrame} {mc ms : Nat} (k : W p l e R s m args below meth c H locs cells slots (MQ below Qc args s mc ms free) g) : W p l e R s m args below meth c H locs cells slots (vx_MQ below Qc XC args s mc ms free) g := by
  intro T hT X
  obtain ⟨t, a1, o, b1, b2, b3, b4⟩ := k T hT X
  exact ⟨t, a1, o, b1, b2, Or.inl ⟨b3, b4⟩⟩
/-- not caught here: it goes on to the caller -/
theorem vx_widen {g : JFrame} {q : Addr} {k n : Nat} (h1 : cells ≤ k) (h2 : slots ≤ n) (kk : vx_W p l e R s m args below meth c H locs k n Q g q) : vx_W p l e R s m args below meth c H locs cells slots Q g q := fun T hT X => kk T hT (stand_widen X h1 h2)
theorem vx_out {pc : Nat} {E : String} {ce : Cell} {q : Addr} {mc ms : Nat} (hout : ∀ x ∈ c.exceptionTable.toList, covers x pc = false) (hlocks : meth.locks = false) (hcell : H[q]? = some ce) (hv : ce.vm = .none) (hcl : s.vm.findClass E = some ce.cls)
    (hx : ∀ t : State, t.heap = H → s.vm.Alike t.vm → XC E s t) (hf : ∀ z ∈ locs, free z.base) (hc : cells ≤ mc) (hs : slots ≤ ms) :
    vx_W p l e R s m args below meth c H locs cells slots (vx_MQ below Qc XC args s mc ms free) (F0 m pc ls rest) q := by
  intro T hT X
  obtain ⟨st1, hrun, hend, hW, hsm⟩ := X.leaveThrown q (g := F0 m pc ls rest) rfl rfl rfl hout hlocks
  have hcell9 : (T.setFrames (.throwing q :: below)).heap[q]? = some ce := by
    show T.heap[q]? = some ce
    rw [hT]; exact hcell
  exact ⟨_, st1, .threw q, hrun, hend, Or.inr ⟨q, rfl, E, ce, locs, hx _ hT hW.alike, hcell9, hv, hcl, hW, hsm.mono hc hs, hf⟩⟩
theorem vx_frame {U : State} {k n : Nat} (h : s.sameButNew ({ U with vm := s.vm } : State) locs k n) : s.heap.size ≤ U.heap.size ∧ ∀ q : Nat, q < s.heap.size → (∀ z ∈ locs, z.base ≠ q) → U.heap[q]? = s.heap[q]? := by
  obtain ⟨-, h2, -, -, -, h6⟩ := h
  refine ⟨h2, fun q hq hz => ?_⟩
  obtain ⟨c9, e1, e2, e3, e4⟩ := h6 q _ (Array.getElem?_eq_getElem hq)
  have hs : c9.slots = (s.heap[q]).slots := Array.ext_getElem? fun i => e4 i fun hm => hz _ hm rfl
  have h9 : c9 = s.heap[q] := by
    rw [hs] at e2
    exact e2
  have e5 : U.heap[q]? = some c9 := e1
  rw [e5, h9, Array.getElem?_eq_getElem hq]
/-- the words of a throw but the four that speak of the heap -/
def vx_no (w : Cond) : Bool := decide (w ≠ .isRef (.static Bundle.tN "UNASSIGNED_STACK" Bundle.steD)) && decide (w ≠ .isRef (.static Bundle.tN "SUPPRESSED_SENTINEL" Bundle.listD)) && decide (w ≠ .laysStatic Bundle.tN "UNASSIGNED_STACK" Bundle.steD) && decide (w ≠ .laysStatic Bundle.tN "SUPPRESSED_SENTINEL" Bundle.listD)
def vx_at0 (own : String) (ic : Nat) (X : String) (names : List String) : List Cond := (Bundle.ownAtoms0 own ic X names).filter vx_no
def vx_atS (own : String) (ic : Nat) (X : String) (names : List String) : List Cond := (Bundle.ownAtoms own ic X names).filter vx_no
/-- a word that the tables alone decide, or a good one -/
def vx_ot (w : Cond) : Bool := w.onTables || goodWord w
theorem vx_ot_at {args a' : Array Value} {s U : State} {w : Cond} (hW : s.WarmedH U.vm) (hvm : s.vm = U.vm) (hg : vx_ot w = true) (h : w.before args s = true) : w.before a' U = true := by
  simp only [vx_ot, Bool.or_eq_true] at hg
  rcases hg with hg | hg
  · exact va_tabs hg hvm h
  · exact word_at hW (good_of_word hg) h
/-- a list's words: the good ones out of the method's own list, the others by premises of their own -/
theorem vx_hat {args : Array Value} {s : State} {L B : List Cond} (h1 : ∀ w ∈ L.filter goodWord, w.before args s = true) (h2 : ∀ w ∈ L.filter (fun w => !goodWord w), w ∈ B) (h3 : ∀ w ∈ B, w.before args s = true) : ∀ w ∈ L, w.before args s = true := by
  intro w hw
  by_cases g : goodWord w = true
  · exact h1 w (List.mem_filter.mpr ⟨hw, g⟩)
  · refine h3 w (h2 w (List.mem_filter.mpr ⟨hw, ?_⟩))
    show (!goodWord w) = true
    cases hgw : goodWord w
    · rfl
    · exact absurd hgw g
theorem vx_c {args : Array Value} {s : State} {w : Cond} {B : List Cond} (h : w.before args s = true) (t : ∀ w ∈ B, w.before args s = true) : ∀ w' ∈ w :: B, w'.before args s = true := fun w' h' => (List.mem_cons.mp h').elim (fun e => by rw [e]; exact h) (t w')
theorem vx_n {args : Array Value} {s : State} : ∀ w ∈ ([] : List Cond), w.before args s = true := fun _ h => nomatch h
theorem vx_own {args : Array Value} {s : State} {L : List Cond} (h1 : ∀ w ∈ L.filter vx_no, w.before args s = true)
    (hU : (Cond.isRef (.static Bundle.tN "UNASSIGNED_STACK" Bundle.steD)).before args s = true) (hN : (Cond.isRef (.static Bundle.tN "SUPPRESSED_SENTINEL" Bundle.listD)).before args s = true)
    (lU : (Cond.laysStatic Bundle.tN "UNASSIGNED_STACK" Bundle.steD).before args s = true) (lN : (Cond.laysStatic Bundle.tN "SUPPRESSED_SENTINEL" Bundle.listD).before args s = true) : ∀ w ∈ L, w.before args s = true := by
  intro w hw
  by_cases e1 : w = .isRef (.static Bundle.tN "UNASSIGNED_STACK" Bundle.steD)
  · rw [e1]; exact hU
  · by_cases e2 : w = .isRef (.static Bundle.tN "SUPPRESSED_SENTINEL" Bundle.listD)
    · rw [e2]; exact hN
    · by_cases e3 : w = .laysStatic Bundle.tN "UNASSIGNED_STACK" Bundle.steD
      · rw [e3]; exact lU
      · by_cases e4 : w = .laysStatic Bundle.tN "SUPPRESSED_SENTINEL" Bundle.listD
        · rw [e4]; exact lN
        · exact h1 w (List.mem_filter.mpr ⟨hw, by unfold vx_no; rw [decide_eq_true e1, decide_eq_true e2, decide_eq_true e3, decide_eq_true e4]; rfl⟩)
/-- where a static field lies, its class's statics cell in H -/
def vx_L (C n d : String) (A : Nat → Prop) (U : State) (H : Heap) : Prop := ∃ (c : ClassId) (k : Class) (i : Nat) (f : Field) (a : Nat) (cell : Cell), U.vm.findClass C = some c ∧ U.fieldFound? C n d = some (c, k, i, f) ∧ f.isStatic = true ∧ k.statics = some a ∧ H[a]? = some cell ∧ cell.vm.isStatics = true ∧ cell.cls = c ∧ f.slot < cell.slots.size ∧ k.staticTypes[f.slot]? = some f.type ∧ ¬ A a
theorem vx_L.moved {C n d : String} {A : Nat → Prop} {u U : State} {H : Heap} (hvm : u.vm.Alike U.vm) (h : vx_L C n d A u H) : vx_L C n d A U H := by
  obtain ⟨c, k, i, f, a, cell, h1, h2, h3, h4, h5, h6, h7, h8, h9, h10⟩ := h
  obtain ⟨k', hi', he⟩ := State.fieldFound?_setVm hvm h2
  exact ⟨c, k', i, f, a, cell, by rw [hvm.findClass]; exact h1, hi', h3, by rw [he]; exact h4, h5, h6, h7, h8, by rw [he]; exact h9, h10⟩
theorem vx_L.kept {C n d : String} {A : Nat → Prop} {U : State} {H H1 : Heap} (h : vx_L C n d A U H) (hq : ∀ a : Nat, a < H.size → ¬ A a → H1[a]? = H[a]?) : vx_L C n d A U H1 := by
  obtain ⟨c, k, i, f, a, cell, h1, h2, h3, h4, h5, h6, h7, h8, h9, h10⟩ := h
  exact ⟨c, k, i, f, a, cell, h1, h2, h3, h4, by rw [hq a (Array.getElem?_eq_some_iff.mp h5).1 h10]; exact h5, h6, h7, h8, h9, h10⟩
theorem vx_L.narrow {C n d : String} {A B : Nat → Prop} {U : State} {H : Heap} (h : vx_L C n d A U H) (hAB : ∀ q, B q → A q) : vx_L C n d B U H := by
  obtain ⟨c, k, i, f, a, cell, h1, h2, h3, h4, h5, h6, h7, h8, h9, h10⟩ := h
  exact ⟨c, k, i, f, a, cell, h1, h2, h3, h4, h5, h6, h7, h8, h9, fun z => h10 (hAB _ z)⟩
theorem vx_L.word {C n d : String} {A : Nat → Prop} {s : State} {args : Array Value} (h : vx_L C n d A s s.heap) : (Cond.laysStatic C n d).before args s = true := by
  obtain ⟨c, k, i, f, a, cell, h1, h2, h3, h4, h5, h6, h7, h8, h9, -⟩ := h
  show (Cond.laysStatic C n d).holds args s none s [] = true
  exact Cond.laysStatic_of h1 h2 h3 h4 h5 h6 h7 h8 h9
/-- .. and what it holds: null or some reference -/
def vx_Zq (C n d : String) (A : Nat → Prop) (U : State) (H : Heap) : Prop := va_Zq C n d A U H ∧ vx_L C n d A U H
theorem vx_Zq.moved {C n d : String} {A : Nat → Prop} {u U : State} {H : Heap} (hvm : u.vm.Alike U.vm) (h : vx_Zq C n d A u H) : vx_Zq C n d A U H := ⟨va_Zq.moved hvm h.1, vx_L.moved hvm h.2⟩
theorem vx_Zq.kept {C n d : String} {A : Nat → Prop} {U : State} {H H1 : Heap} (h : vx_Zq C n d A U H) (hq : ∀ a : Nat, a < H.size → ¬ A a → H1[a]? = H[a]?) : vx_Zq C n d A U H1 := ⟨va_Zq.kept h.1 hq, vx_L.kept h.2 hq⟩
theorem vx_Zq.narrow {C n d : String} {A B : Nat → Prop} {U : State} {H : Heap} (h : vx_Zq C n d A U H) (hAB : ∀ q, B q → A q) : vx_Zq C n d B U H := ⟨va_Zq.narrow h.1 hAB, vx_L.narrow h.2 hAB⟩
theorem vx_Zqof {args : Array Value} {s : State} {C n d : String} {A : Nat → Prop} (hl : (Cond.laysStatic C n d).before args s = true) (hini : (Cond.initialized C).before args s = true) (h : (Cond.isRef (.static C n d)).before args s = true) (hA : ∀ a : Nat, a < s.heap.size → ¬ A a) : vx_Zq C n d A s s.heap := by
  refine ⟨va_Zqof hl hini h hA, ?_⟩
  obtain ⟨c, k, i, f, a, cell, h1, h2, h3, h4, h5, h6, h7, h8, h9⟩ := Cond.laysStatic_spec hl
  exact ⟨c, k, i, f, a, cell, h1, h2, h3, h4, h5, h6, h7, h8, h9, hA a (Array.getElem?_eq_some_iff.mp h5).1⟩
theorem vx_isRef {C n d : String} {v : Value} {A : Nat → Prop} {s : State} {args : Array Value} (h : va_Z C n d v A s s.heap) (hv : v.isRef = true) : (Cond.isRef (.static C n d)).before args s = true := by
  obtain ⟨cf, kf, fi, f, a, cell, h1, h2, h3, h4, h5, h6, h7, -⟩ := h
  have he : (Term.static C n d).eval args s none [] s = some v := by
    simp [Term.eval, State.fieldNamed?, h1, h2, h4, h5, h6, h7]
  simp only [Cond.before, Cond.holds, Cond.value, he]
  cases v <;> simp_all [Value.isRef]
theorem vx_isRefq {C n d : String} {A : Nat → Prop} {s : State} {args : Array Value} (h : va_Zq C n d A s s.heap) : (Cond.isRef (.static C n d)).before args s = true := by
  rcases h with h | ⟨t, h⟩
  · exact vx_isRef h rfl
  · exact vx_isRef h rfl
/-- the same frame, seen from here: as if the method were called anew in this heap -/
theorem vx_rebase {T : State} (X : Stand p l e R s m args below meth c T locs cells slots) {R' : Room} (hf : R'.frames ≤ R.frames) (hl : R'.locals ≤ R.locals) (hc : cells + R'.cells ≤ R.cells) (hs : slots + R'.slots ≤ R.slots) :
    Stand p l e R' ((T.setVm s.vm).setFrames (.invoking m args :: below)) m args below meth c T [] 0 0 := by
  have htop : (T.setVm s.vm).topJava?.isSome := X.here.top
  have hF : ((T.setVm s.vm).setFrames (.invoking m args :: below)).frames = .invoking m args :: below := State.frames_setFrames _ (State.cur_lt_of_top htop)
  obtain ⟨g₀, hg0⟩ := Option.isSome_iff_exists.mp htop
  obtain ⟨r, hr⟩ := State.topJava?_eq_some.mp hg0
  have hl9 : e.platform.stackLimits (T.setVm s.vm).me = e.platform.stackLimits s.me := X.limits
  have hb9 : (T.setVm s.vm).me.stackBytes = s.me.stackBytes := X.bytes
  refine ⟨X.admits, X.cas, X.clock, hF, ?_, X.hears, X.method, X.code, X.here, X.tail, X.warmed, ?_, ?_, ?_⟩
  · have h := X.room
    have hU : ((T.setVm s.vm).setFrames (.invoking m args :: below)).localsInUse = s.localsInUse := by
      rw [State.localsInUse_invoking hF (meth := meth) (c := c) X.method X.code, State.localsInUse_invoking X.frames X.method X.code]
    simp only [State.hasRoom, Bool.and_eq_true, decide_eq_true_eq] at h ⊢
    obtain ⟨⟨⟨⟨h1, h2, h3, h4, h5, h6⟩, h7⟩, h8⟩, h9⟩ := h
    rw [X.frames, List.length_cons] at h2 h3
    have q1 := X.heapSize
    have q2 := X.used
    simp only [hF, hU, List.length_cons, State.stackLimits_setFrames, State.stackBytes_setFrames, hl9, hb9]
    refine ⟨⟨⟨⟨by omega, by omega, by omega, by omega, by omega, h6⟩, ?_⟩, ?_⟩, X.book⟩
    · show T.heap.size + R'.cells ≤ e.platform.maxCells
      omega
    · show T.slotsUsed + R'.slots ≤ e.platform.maxSlots
      omega
  · rw [State.stackLimits_setFrames]; rfl
  · rw [State.stackBytes_setFrames]; rfl
  · refine ⟨?_, Nat.le_refl _, Nat.le_refl _, ?_, ?_, fun a c9 h9 => ⟨c9, h9, rfl, rfl, fun _ _ => rfl⟩⟩
    · obtain ⟨t, ht, -⟩ := State.frames_cons hr
      show T.setVm s.vm = { ((T.setVm s.vm).setFrames (.invoking m args :: below)).setFrames (T.setVm s.vm).frames with heap := T.heap, slotsUsed := T.slotsUsed }
      rw [State.setFrames_setFrames, State.setFrames_self ht]
      rfl
    · show T.slotsUsed = T.slotsUsed + ((T.heap.toList.drop T.heap.size).map (·.slots.size)).sum
      rw [List.drop_eq_nil_of_le (Nat.le_of_eq Array.length_toList)]
      rfl
    · show ((T.heap.toList.drop T.heap.size).map (·.slots.size)).sum ≤ 0
      rw [List.drop_eq_nil_of_le (Nat.le_of_eq Array.length_toList)]
      exact Nat.le_refl _
/-- 'throw new E()': new; dup; invokespecial; athrow -/
theorem vx_throw0 {cc : ByteArray} {pc : Nat} (hexec : p.tables.exec = Jvm.exec) (hb : c.code = cc) (hl : l.stackTraces = false) {own cls : String} {names : List String} {ik ic mc ms : Nat} {A : Nat → Prop}
    (hown : s.vm.findClass own = some m.cls) (hcls : Bundle.fit cls = true) (hnames : ∀ n ∈ names, Bundle.fit n = true)
    (hk : (Cond.classLink own ik cls).before args s = true) (hini : (Cond.initialized cls).before args s = true) (hat : ∀ w ∈ vx_at0 own ic cls names, w.before args s = true)
    (hgood : ∀ w ∈ Cond.classLink own ik cls :: Cond.initialized cls :: vx_at0 own ic cls names, vx_ot w = true)
    (hU : vx_Zq Bundle.tN "UNASSIGNED_STACK" Bundle.steD A s s.heap) (hN : vx_Zq Bundle.tN "SUPPRESSED_SENTINEL" Bundle.listD A s s.heap) (hS : va_S A s.heap H locs) (hsize : ls.size = c.maxLocals)
    (d0 : decode cc pc = .ok (.new ik, 3)) (d3 : decode cc (pc + 3) = .ok (.dup, 1)) (d4 : decode cc (pc + 4) = .ok (.invokespecial ic, 3)) (d7 : decode cc (pc + 7) = .ok (.athrow, 1))
    (hout : ∀ x ∈ c.exceptionTable.toList, covers x (pc + 7) = false)
    (hRframes : names.length + 3 < R.frames) (hRlocals : (rest.map fun v => v.category).sum + (13 * (names.length + 1) + 42) ≤ R.locals) (hRcells : cells + 1 ≤ R.cells) (hRslots : slots + 6 ≤ R.slots) (hlocks : meth.locks = false)
    (hx : ∀ t : State, s.vm.Alike t.vm → H.size ≤ t.heap.size → (∀ q : Nat, q < H.size → t.heap[q]? = H[q]?) → XC cls s t)
    (hf : ∀ z ∈ locs, free z.base) (hc : cells + 1 ≤ mc) (hs : slots + 6 ≤ ms) :
    W p l e R s m args below meth c H locs cells slots (vx_MQ below Qc XC args s mc ms free) (F0 m pc ls rest) := by
  intro T hT X
  have htr : e.platform.stackTraces = false := (show e.platform.stackTraces = l.stackTraces by rw [X.admits.platform]).trans hl
  have Y := vx_rebase X (R' := { frames := R.frames, locals := R.locals, cells := 1, slots := 6 }) (Nat.le_refl _) (Nat.le_refl _) hRcells hRslots
  obtain ⟨s', hA⟩ : ∃ z, z = (T.setVm s.vm).setFrames (.invoking m args :: below) := ⟨_, rfl⟩
  rw [← hA] at Y
  have hvm : s'.vm = s.vm := by rw [hA]; rfl
  have hhp : s'.heap = H := by rw [hA]; exact hT
  have hW0 : s.WarmedH s'.vm := by rw [hvm]; exact State.WarmedH.refl s
  have hat' : ∀ w ∈ vx_at0 own ic cls names, w.before args s' = true := fun w hw => vx_ot_at hW0 hvm.symm (hgood w (List.mem_cons_of_mem _ (List.mem_cons_of_mem _ hw))) (hat w hw)
  have hk' : (Cond.classLink own ik cls).before args s' = true := vx_ot_at hW0 hvm.symm (hgood _ List.mem_cons_self) hk
  have hini' : (Cond.initialized cls).before args s' = true := vx_ot_at hW0 hvm.symm (hgood _ (List.mem_cons_of_mem _ List.mem_cons_self)) hini
  have hU' : vx_Zq Bundle.tN "UNASSIGNED_STACK" Bundle.steD A s' s'.heap := by rw [hhp]; exact vx_Zq.moved hW0.alike (hU.kept hS.2.1)
  have hN' : vx_Zq Bundle.tN "SUPPRESSED_SENTINEL" Bundle.listD A s' s'.heap := by rw [hhp]; exact vx_Zq.moved hW0.alike (hN.kept hS.2.1)
  have h : ∀ w ∈ Bundle.ownAtoms0 own ic cls names, w.before args s' = true := vx_own hat' (vx_isRefq hU'.1) (vx_isRefq hN'.1) hU'.2.word hN'.2.word
  have hown' : s'.vm.findClass own = some m.cls := by rw [hvm]; exact hown
  have hins : (Cond.instantiable cls 6).before args s' = true := h _ (by simp [Bundle.ownAtoms0])
  obtain ⟨vm₁, cX, kX, hfX, hkX, -, -, X₁, st1⟩ := Y.newCold hexec (own := own) (C := cls) (index := ik) (n := 6) hown' hk' hins hini'
    (g := F0 m pc ls rest) rfl (by rw [hb]; exact d0) (Nat.le_refl _) (Nat.le_refl _)
  generalize hT1 : (T.setVm vm₁).pushCell { cls := cX, slots := kX.instanceTypes.map defaultValue, vm := .none } = T1 at X₁ st1
  have hcat : (Value.ref T.heap.size).category = 1 := rfl
  have hcellA : T1.heap[T.heap.size]? = some (freshCell cX kX) := by rw [← hT1]; exact State.heap_pushCell_size _ _
  have d3' : decode c.code (pc + 3) = .ok (.dup, 1) := by rw [hb]; exact d3
  obtain ⟨U, hsteps, hrun, hend, hW, hsame, ce, hce, hO⟩ := X₁.ctorThrow0 hexec htr (own := own) (cls := cls) (names := names) (ic := ic) hown' hcls hnames h (fun x hx => nomatch hx) hfX hkX hcellA (by rw [hhp, hT]; exact Nat.le_refl _)
    (g := { method := m, pc := pc + 4, locals := ls, stack := .ref T.heap.size :: .ref T.heap.size :: rest, locked := none }) rfl hsize rfl rfl (rest := rest) rfl
    (by rw [hb]; exact d4) (by rw [hb]; exact d7) hout hRframes (by simp only [List.map_cons, List.sum_cons, hcat]; omega) hlocks
  obtain ⟨f1, f2⟩ := vx_frame hsame
  rw [hhp] at f1 f2
  have hWs : s.WarmedH U.vm := State.WarmedH.trans hW0 hW
  have hcl : s.vm.findClass cls = some ce.cls := by
    have h9 := hO.cls
    rw [hvm] at h9
    exact h9
  have hall : s.sameButNew ({ U with vm := s.vm } : State) locs mc ms := by
    subst hA
    obtain ⟨e1, e2⟩ := hsame
    rw [State.setFrames_setFrames] at e1
    have h2 : (T.setVm s.vm).sameButNew ({ U with vm := s.vm } : State) [] (0 + 1) (0 + 6) := ⟨e1, e2⟩
    have h3 := X.same.trans h2
    rw [List.append_nil] at h3
    exact h3.mono hc hs
  refine ⟨U, ?_, .threw T.heap.size, hrun, hend, Or.inr ⟨T.heap.size, rfl, cls, ce, locs, hx U hWs.alike f1 (fun q hq => f2 q hq (fun z hz => nomatch hz)), hce, hO.vm, hcl, hWs, hall, hf⟩⟩
  refine st1 _ ?_
  show Steps p.tables e below (T1.setTop { method := m, pc := pc + 3, locals := ls, stack := .ref T.heap.size :: rest, locked := none }) _
  jvm_step X₁.here [X₁.here.top, hexec, d3', Value.category]
  exact hsteps
/-- 'throw new E("text")': new; dup; ldc; invokespecial; athrow -/
theorem vx_throwS {cc : ByteArray} {pc : Nat} (hexec : p.tables.exec = Jvm.exec) (hb : c.code = cc) (hl : l.stackTraces = false) {own cls text : String} {names : List String} {ik is ic mc ms sa : Nat} {A : Nat → Prop}
    (hown : s.vm.findClass own = some m.cls) (hcls : Bundle.fit cls = true) (hnames : ∀ n ∈ names, Bundle.fit n = true)
    (hk : (Cond.classLink own ik cls).before args s = true) (hini : (Cond.initialized cls).before args s = true) (hstr : vk_R own is text sa s) (hat : ∀ w ∈ vx_atS own ic cls names, w.before args s = true)
    (hgood : ∀ w ∈ Cond.classLink own ik cls :: Cond.initialized cls :: vx_atS own ic cls names, vx_ot w = true)
    (hU : vx_Zq Bundle.tN "UNASSIGNED_STACK" Bundle.steD A s s.heap) (hN : vx_Zq Bundle.tN "SUPPRESSED_SENTINEL" Bundle.listD A s s.heap) (hS : va_S A s.heap H locs) (hsize : ls.size = c.maxLocals)
    (d0 : decode cc pc = .ok (.new ik, 3)) (d3 : decode cc (pc + 3) = .ok (.dup, 1)) (d4 : decode cc (pc + 4) = .ok (.ldc is, 2)) (d6 : decode cc (pc + 6) = .ok (.invokespecial ic, 3)) (d9 : decode cc (pc + 9) = .ok (.athrow, 1))
    (hout : ∀ x ∈ c.exceptionTable.toList, covers x (pc + 9) = false)
    (hRframes : names.length + 3 < R.frames) (hRlocals : (rest.map fun v => v.category).sum + (13 * (names.length + 1) + 43) ≤ R.locals) (hRcells : cells + 1 ≤ R.cells) (hRslots : slots + 6 ≤ R.slots) (hlocks : meth.locks = false)
    (hx : ∀ t : State, s.vm.Alike t.vm → H.size ≤ t.heap.size → (∀ q : Nat, q < H.size → t.heap[q]? = H[q]?) → XC cls s t)
    (hf : ∀ z ∈ locs, free z.base) (hc : cells + 1 ≤ mc) (hs : slots + 6 ≤ ms) :
    W p l e R s m args below meth c H locs cells slots (vx_MQ below Qc XC args s mc ms free) (F0 m pc ls rest) := by
  intro T hT X
  have htr : e.platform.stackTraces = false := (show e.platform.stackTraces = l.stackTraces by rw [X.admits.platform]).trans hl
  have Y := vx_rebase X (R' := { frames := R.frames, locals := R.locals, cells := 1, slots := 6 }) (Nat.le_refl _) (Nat.le_refl _) hRcells hRslots
  obtain ⟨s', hA⟩ : ∃ z, z = (T.setVm s.vm).setFrames (.invoking m args :: below) := ⟨_, rfl⟩
  rw [← hA] at Y
  have hvm : s'.vm = s.vm := by rw [hA]; rfl
  have hhp : s'.heap = H := by rw [hA]; exact hT
  have hW0 : s.WarmedH s'.vm := by rw [hvm]; exact State.WarmedH.refl s
  have hat' : ∀ w ∈ vx_atS own ic cls names, w.before args s' = true := fun w hw => vx_ot_at hW0 hvm.symm (hgood w (List.mem_cons_of_mem _ (List.mem_cons_of_mem _ hw))) (hat w hw)
  have hk' : (Cond.classLink own ik cls).before args s' = true := vx_ot_at hW0 hvm.symm (hgood _ List.mem_cons_self) hk
  have hini' : (Cond.initialized cls).before args s' = true := vx_ot_at hW0 hvm.symm (hgood _ (List.mem_cons_of_mem _ List.mem_cons_self)) hini
  have hU' : vx_Zq Bundle.tN "UNASSIGNED_STACK" Bundle.steD A s' s'.heap := by rw [hhp]; exact vx_Zq.moved hW0.alike (hU.kept hS.2.1)
  have hN' : vx_Zq Bundle.tN "SUPPRESSED_SENTINEL" Bundle.listD A s' s'.heap := by rw [hhp]; exact vx_Zq.moved hW0.alike (hN.kept hS.2.1)
  have h : ∀ w ∈ Bundle.ownAtoms own ic cls names, w.before args s' = true := vx_own hat' (vx_isRefq hU'.1) (vx_isRefq hN'.1) hU'.2.word hN'.2.word
  have hown' : s'.vm.findClass own = some m.cls := by rw [hvm]; exact hown
  have hins : (Cond.instantiable cls 6).before args s' = true := h _ (by simp [Bundle.ownAtoms])
  obtain ⟨vm₁, cX, kX, hfX, hkX, -, -, X₁, st1⟩ := Y.newCold hexec (own := own) (C := cls) (index := ik) (n := 6) hown' hk' hins hini'
    (g := F0 m pc ls rest) rfl (by rw [hb]; exact d0) (Nat.le_refl _) (Nat.le_refl _)
  generalize hT1 : (T.setVm vm₁).pushCell { cls := cX, slots := kX.instanceTypes.map defaultValue, vm := .none } = T1 at X₁ st1
  have hcat : (Value.ref T.heap.size).category = 1 := rfl
  have hcellA : T1.heap[T.heap.size]? = some (freshCell cX kX) := by rw [← hT1]; exact State.heap_pushCell_size _ _
  have d3' : decode c.code (pc + 3) = .ok (.dup, 1) := by rw [hb]; exact d3
  have d4' : decode c.code (pc + 4) = .ok (.ldc is, 2) := by rw [hb]; exact d4
  have hstr' : vk_R own is text sa s' := vk_R.warm hW0 hstr
  obtain ⟨U, hsteps, hrun, hend, hW, hsame, ce, hce, hO⟩ := X₁.ctorThrowS hexec htr (own := own) (cls := cls) (names := names) (ic := ic) hown' hcls hnames h (fun x hx => nomatch hx) hfX hkX hcellA (by rw [hhp, hT]; exact Nat.le_refl _) (msg := .ref sa) rfl
    (g := { method := m, pc := pc + 6, locals := ls, stack := .ref sa :: .ref T.heap.size :: .ref T.heap.size :: rest, locked := none }) rfl hsize rfl rfl (rest := rest) rfl
    (by rw [hb]; exact d6) (by rw [hb]; exact d9) hout hRframes (by simp only [List.map_cons, List.sum_cons, hcat]; omega) hlocks
  obtain ⟨f1, f2⟩ := vx_frame hsame
  rw [hhp] at f1 f2
  have hWs : s.WarmedH U.vm := State.WarmedH.trans hW0 hW
  have hcl : s.vm.findClass cls = some ce.cls := by
    have h9 := hO.cls
    rw [hvm] at h9
    exact h9
  have hall : s.sameButNew ({ U with vm := s.vm } : State) locs mc ms := by
    subst hA
    obtain ⟨e1, e2⟩ := hsame
    rw [State.setFrames_setFrames] at e1
    have h2 : (T.setVm s.vm).sameButNew ({ U with vm := s.vm } : State) [] (0 + 1) (0 + 6) := ⟨e1, e2⟩
    have h3 := X.same.trans h2
    rw [List.append_nil] at h3
    exact h3.mono hc hs
  refine ⟨U, ?_, .threw T.heap.size, hrun, hend, Or.inr ⟨T.heap.size, rfl, cls, ce, locs, hx U hWs.alike f1 (fun q hq => f2 q hq (fun z hz => nomatch hz)), hce, hO.vm, hcl, hWs, hall, hf⟩⟩
  refine st1 _ ?_
  show Steps p.tables e below (T1.setTop { method := m, pc := pc + 3, locals := ls, stack := .ref T.heap.size :: rest, locked := none }) _
  jvm_step X₁.here [X₁.here.top, hexec, d3', Value.category]
  exact X₁.ldcString hexec (own := own) (text := text) (index := is) (a := sa) hown' hstr'.1 hstr'.2
    (g := { method := m, pc := pc + 4, locals := ls, stack := .ref T.heap.size :: .ref T.heap.size :: rest, locked := none }) rfl d4' _ hsteps
/-- 'throw new E("text")', the text by a wide index -/
theorem vx_throwSW {cc : ByteArray} {pc : Nat} (hexec : p.tables.exec = Jvm.exec) (hb : c.code = cc) (hl : l.stackTraces = false) {own cls text : String} {names : List String} {ik is ic mc ms sa : Nat} {A : Nat → Prop}
    (hown : s.vm.findClass own = some m.cls) (hcls : Bundle.fit cls = true) (hnames : ∀ n ∈ names, Bundle.fit n = true)
    (hk : (Cond.classLink own ik cls).before args s = true) (hini : (Cond.initialized cls).before args s = true) (hstr : vk_R own is text sa s) (hat : ∀ w ∈ vx_atS own ic cls names, w.before args s = true)
    (hgood : ∀ w ∈ Cond.classLink own ik cls :: Cond.initialized cls :: vx_atS own ic cls names, vx_ot w = true)
    (hU : vx_Zq Bundle.tN "UNASSIGNED_STACK" Bundle.steD A s s.heap) (hN : vx_Zq Bundle.tN "SUPPRESSED_SENTINEL" Bundle.listD A s s.heap) (hS : va_S A s.heap H locs) (hsize : ls.size = c.maxLocals)
    (d0 : decode cc pc = .ok (.new ik, 3)) (d3 : decode cc (pc + 3) = .ok (.dup, 1)) (d4 : decode cc (pc + 4) = .ok (.ldc_w is, 3)) (d7 : decode cc (pc + 7) = .ok (.invokespecial ic, 3)) (d10 : decode cc (pc + 10) = .ok (.athrow, 1))
    (hout : ∀ x ∈ c.exceptionTable.toList, covers x (pc + 10) = false)
    (hRframes : names.length + 3 < R.frames) (hRlocals : (rest.map fun v => v.category).sum + (13 * (names.length + 1) + 43) ≤ R.locals) (hRcells : cells + 1 ≤ R.cells) (hRslots : slots + 6 ≤ R.slots) (hlocks : meth.locks = false)
    (hx : ∀ t : State, s.vm.Alike t.vm → H.size ≤ t.heap.size → (∀ q : Nat, q < H.size → t.heap[q]? = H[q]?) → XC cls s t)
    (hf : ∀ z ∈ locs, free z.base) (hc : cells + 1 ≤ mc) (hs : slots + 6 ≤ ms) :
    W p l e R s m args below meth c H locs cells slots (vx_MQ below Qc XC args s mc ms free) (F0 m pc ls rest) := by
  intro T hT X
  have htr : e.platform.stackTraces = false := (show e.platform.stackTraces = l.stackTraces by rw [X.admits.platform]).trans hl
  have Y := vx_rebase X (R' := { frames := R.frames, locals := R.locals, cells := 1, slots := 6 }) (Nat.le_refl _) (Nat.le_refl _) hRcells hRslots
  obtain ⟨s', hA⟩ : ∃ z, z = (T.setVm s.vm).setFrames (.invoking m args :: below) := ⟨_, rfl⟩
  rw [← hA] at Y
  have hvm : s'.vm = s.vm := by rw [hA]; rfl
  have hhp : s'.heap = H := by rw [hA]; exact hT
  have hW0 : s.WarmedH s'.vm := by rw [hvm]; exact State.WarmedH.refl s
  have hat' : ∀ w ∈ vx_atS own ic cls names, w.before args s' = true := fun w hw => vx_ot_at hW0 hvm.symm (hgood w (List.mem_cons_of_mem _ (List.mem_cons_of_mem _ hw))) (hat w hw)
  have hk' : (Cond.classLink own ik cls).before args s' = true := vx_ot_at hW0 hvm.symm (hgood _ List.mem_cons_self) hk
  have hini' : (Cond.initialized cls).before args s' = true := vx_ot_at hW0 hvm.symm (hgood _ (List.mem_cons_of_mem _ List.mem_cons_self)) hini
  have hU' : vx_Zq Bundle.tN "UNASSIGNED_STACK" Bundle.steD A s' s'.heap := by rw [hhp]; exact vx_Zq.moved hW0.alike (hU.kept hS.2.1)
  have hN' : vx_Zq Bundle.tN "SUPPRESSED_SENTINEL" Bundle.listD A s' s'.heap := by rw [hhp]; exact vx_Zq.moved hW0.alike (hN.kept hS.2.1)
  have h : ∀ w ∈ Bundle.ownAtoms own ic cls names, w.before args s' = true := vx_own hat' (vx_isRefq hU'.1) (vx_isRefq hN'.1) hU'.2.word hN'.2.word
  have hown' : s'.vm.findClass own = some m.cls := by rw [hvm]; exact hown
  have hins : (Cond.instantiable cls 6).before args s' = true := h _ (by simp [Bundle.ownAtoms])
  obtain ⟨vm₁, cX, kX, hfX, hkX, -, -, X₁, st1⟩ := Y.newCold hexec (own := own) (C := cls) (index := ik) (n := 6) hown' hk' hins hini'
    (g := F0 m pc ls rest) rfl (by rw [hb]; exact d0) (Nat.le_refl _) (Nat.le_refl _)
  generalize hT1 : (T.setVm vm₁).pushCell { cls := cX, slots := kX.instanceTypes.map defaultValue, vm := .none } = T1 at X₁ st1
  have hcat : (Value.ref T.heap.size).category = 1 := rfl
  have hcellA : T1.heap[T.heap.size]? = some (freshCell cX kX) := by rw [← hT1]; exact State.heap_pushCell_size _ _
  have d3' : decode c.code (pc + 3) = .ok (.dup, 1) := by rw [hb]; exact d3
  have d4' : decode c.code (pc + 4) = .ok (.ldc_w is, 3) := by rw [hb]; exact d4
  have hstr' : vk_R own is text sa s' := vk_R.warm hW0 hstr
  obtain ⟨U, hsteps, hrun, hend, hW, hsame, ce, hce, hO⟩ := X₁.ctorThrowS hexec htr (own := own) (cls := cls) (names := names) (ic := ic) hown' hcls hnames h (fun x hx => nomatch hx) hfX hkX hcellA (by rw [hhp, hT]; exact Nat.le_refl _) (msg := .ref sa) rfl
    (g := { method := m, pc := pc + 7, locals := ls, stack := .ref sa :: .ref T.heap.size :: .ref T.heap.size :: rest, locked := none }) rfl hsize rfl rfl (rest := rest) rfl
    (by rw [hb]; exact d7) (by rw [hb]; exact d10) hout hRframes (by simp only [List.map_cons, List.sum_cons, hcat]; omega) hlocks
  obtain ⟨f1, f2⟩ := vx_frame hsame
  rw [hhp] at f1 f2
  have hWs : s.WarmedH U.vm := State.WarmedH.trans hW0 hW
  have hcl : s.vm.findClass cls = some ce.cls := by
    have h9 := hO.cls
    rw [hvm] at h9
    exact h9
  have hall : s.sameButNew ({ U with vm := s.vm } : State) locs mc ms := by
    subst hA
    obtain ⟨e1, e2⟩ := hsame
    rw [State.setFrames_setFrames] at e1
    have h2 : (T.setVm s.vm).sameButNew ({ U with vm := s.vm } : State) [] (0 + 1) (0 + 6) := ⟨e1, e2⟩
    have h3 := X.same.trans h2
    rw [List.append_nil] at h3
    exact h3.mono hc hs
  refine ⟨U, ?_, .threw T.heap.size, hrun, hend, Or.inr ⟨T.heap.size, rfl, cls, ce, locs, hx U hWs.alike f1 (fun q hq => f2 q hq (fun z hz => nomatch hz)), hce, hO.vm, hcl, hWs, hall, hf⟩⟩
  refine st1 _ ?_
  show Steps p.tables e below (T1.setTop { method := m, pc := pc + 3, locals := ls, stack := .ref T.heap.size :: rest, locked := none }) _
  jvm_step X₁.here [X₁.here.top, hexec, d3', Value.category]
  exact X₁.ldcStringW hexec (own := own) (text := text) (index := is) (a := sa) hown' hstr'.1 hstr'.2
    (g := { method := m, pc := pc + 4, locals := ls, stack := .ref T.heap.size :: .ref T.heap.size :: rest, locked := none }) rfl d4' _ hsteps
end Ends
section Bodies
variable {l : Launch}
theorem vx_ofW {y : MethodName} {ws ws' : List Cond} {rm : Room} {Pc : Array Value → State → Prop} {Qc : Array Value → State → Outcome → State → Prop} {XC : String → State → State → Prop} {mc ms : Nat} {free : Addr → Prop} {cc : ByteArray} {maxL : Nat} {ret : Option FieldType}
    (hy : plainName y.cls = true) (hw : ws = Cond.code y cc maxL ret :: ws')
    (body : ∀ p e s m args below meth c s₁, BodyLoose p l y (headSpec ws rm) cc maxL ret e s m args below meth c s₁ → c.maxLocals = maxL → (∀ x ∈ c.exceptionTable.toList, False) → Pc args s →
      W p l e (headSpec ws rm).room s m args below meth c s.heap [] 0 0 (vx_MQ below Qc XC args s mc ms free) (entryFrame m args maxL)) : vx_Met l y ws rm Pc Qc XC mc ms free := by
  refine MetFree.of_bodyS (code := cc) (maxLocals := maxL) (ret := ret) hy ?_ ?_
  · intro args s m h hn
    obtain ⟨meth, c, h1, h2, h3, h4, h5, h6, -, -⟩ := Cond.code_spec hn (atoms_spec (ws := ws) h _ (by rw [hw]; exact List.mem_cons_self))
    exact ⟨meth, c, h1, h2, h3, h4, h5, h6⟩
  · intro p e s m args below meth c s₁ B hml hP _
    have hh0 : s₁.heap = s.heap := by rw [B.state]; rfl
    have ht : ∀ x ∈ c.exceptionTable.toList, False := by
      obtain ⟨meth9, c9, h1, h2, -, -, -, -, h7, -⟩ := Cond.code_spec B.named (atoms_spec (ws := ws) B.pre _ (by rw [hw]; exact List.mem_cons_self))
      cases Option.some.inj (h1.symm.trans B.method)
      cases Option.some.inj (h2.symm.trans (Stand.of_body B).code)
      intro x hx
      rw [Array.isEmpty_iff.mp h7] at hx
      cases hx
    obtain ⟨t, a1, o, b1, b2, b3⟩ := body p e s m args below meth c s₁ B hml ht hP s₁ hh0 (Stand.of_body B)
    exact ⟨t, o, a1, b1, b2, b3⟩
/-- the table of a body with handlers -/
theorem vx_table {p : Program} {x y : MethodName} {S : Spec} {cc bytes : ByteArray} {maxL maxL' : Nat} {ret ret' : Option FieldType} {e : Env} {s s₁ : State} {m : MethodId} {args : Array Value} {below : List Frame} {meth : Method} {c : Code} {hh : List (Nat × Nat × Nat × Nat)}
    (B : BodyLoose p l y S cc maxL ret e s m args below meth c s₁) (h : (Cond.codeWith y bytes maxL' ret' hh).before args s = true) : c.exceptionTable.toList = tableOf hh := by
  obtain ⟨m9, meth9, c9, hn9, h1, h2, -, -, h6, -⟩ := Cond.codeWith_spec h
  cases Option.some.inj (hn9.symm.trans B.named)
  cases Option.some.inj (h1.symm.trans B.method)
  cases Option.some.inj (h2.symm.trans (Stand.of_body B).code)
  rw [← h6, table_eq]
end Bodies
end VXA
/-! ===== END ===== -/
/-! ===== BEGIN a static call of a method with an exception table ===== -/
section VXS
variable {p : Program} {l : Launch} {e : Env} {R : Room} {s : State} {m : MethodId} {args : Array Value} {below : List Frame} {meth : Method} {c : Code} {T : State} {H : Heap} {locs : List Loc} {cells slots : Nat}
abbrev vx_CSW (R : Room) (s : State) (args : Array Value) (own : String) (index : Nat) (y : MethodName) (bytes : ByteArray) (maxL : Nat) (ret : Option FieldType) (hh : List (Nat × Nat × Nat × Nat)) (ws : List Cond) (rm : Room) (mc ms n : Nat) : Prop :=
  (rm.cells = mc ∧ rm.slots = ms ∧ rm.frames + 1 ≤ R.frames ∧ 8 + (maxL + 11) + rm.locals ≤ R.locals ∧ (∀ w ∈ ws, ∀ (a' : Array Value) (U : State), s.WarmedH U.vm → w.before a' U = true) ∧ Cond.codeWith y bytes maxL ret hh ∈ ws) ∧
  (Cond.codeWith y bytes maxL ret hh).before args s = true ∧ (Cond.initialized y.cls).before args s = true ∧ (y.cls ≠ "java/lang/invoke/MethodHandle" ∧ y.cls ≠ "java/lang/invoke/VarHandle") ∧
  (∀ sig, parseMethodDescriptor y.desc = some sig → n = sig.parameters.length) ∧ (Cond.methodLink own index y).before args s = true ∧ (Cond.static y).before args s = true
theorem vx_cwSW {own : String} {index maxL mc ms : Nat} {y : MethodName} {bytes : ByteArray} {ret : Option FieldType} {hh : List (Nat × Nat × Nat × Nat)} {Ts ws ws' : List Cond} {rm : Room} (n : Nat) (ht : ∀ w ∈ Ts, w.before args s = true) (hT : GoodIn Ts (va_wsS own index y ws)) (hw : ws = Cond.codeWith y bytes maxL ret hh :: ws') (hrc : rm.cells = mc) (hrs : rm.slots = ms)
    (hd : y.cls ≠ "java/lang/invoke/MethodHandle" ∧ y.cls ≠ "java/lang/invoke/VarHandle" ∧ (parseMethodDescriptor y.desc).map (fun d => d.parameters.length) = some n) (hR : rm.frames + 1 ≤ R.frames ∧ 8 + (maxL + 11) + rm.locals ≤ R.locals) :
    vx_CSW R s args own index y bytes maxL ret hh ws rm mc ms n := by
  have ok : ∀ w ∈ va_wsS own index y ws, w.before args s = true := fun w h => ht w (hT w h).1
  have hG : GoodIn Ts ws := fun w h => hT w (by unfold va_wsS; exact List.mem_append_right _ h)
  have hc : Cond.codeWith y bytes maxL ret hh ∈ ws := by rw [hw]; exact List.mem_cons_self
  refine ⟨⟨hrc, hrs, hR.1, hR.2, pay_in ht hG, hc⟩, ht _ (hG _ hc).1, ok _ (by simp [va_wsS]), ⟨hd.1, hd.2.1⟩, fun sig h => ?_, ok _ (by simp [va_wsS]), ok _ (by simp [va_wsS])⟩
  have h2 := hd.2.2
  rw [h] at h2
  exact (Option.some.inj h2).symm
theorem vx_callSW (X : Stand p l e R s m args below meth c T locs cells slots) (hexec : p.tables.exec = Jvm.exec) {own : String} {index : Nat} {y : MethodName} {bytes : ByteArray} {maxL : Nat} {ret : Option FieldType} {hh : List (Nat × Nat × Nat × Nat)}
    (hown : s.vm.findClass own = some m.cls) (hlink : (Cond.methodLink own index y).before args s = true) (hstat : (Cond.static y).before args s = true) (hinit : (Cond.initialized y.cls).before args s = true)
    (hcode : (Cond.codeWith y bytes maxL ret hh).before args s = true) (hy : y.cls ≠ "java/lang/invoke/MethodHandle" ∧ y.cls ≠ "java/lang/invoke/VarHandle")
    {W9 : Nat} {Pre : Pt → Array Value → Prop} {Post : Pt → Array Value → Option Value → Pt → Prop} (hK : Back l R p e below s args y 3 W9 Pre Post)
    {g : JFrame} (hg : g.method = m) (hsize : g.locals.size = c.maxLocals) {argsL rest : List Value} (hlen : ∀ sig, parseMethodDescriptor y.desc = some sig → argsL.length = sig.parameters.length)
    (hstack : g.stack = argsL.reverse ++ rest) (hW : 2 * g.monitorRoom + (rest.map fun v => v.category).sum ≤ W9) (hdg : decode c.code g.pc = .ok (.invokestatic index, 3))
    (hpre : ∀ vm₁, s.WarmedH vm₁ → Pre ⟨T.setVm vm₁, locs, cells, slots⟩ argsL.toArray) :
    ∃ (v : Option Value) (vm₁ : Vm) (B : Pt), s.WarmedH vm₁ ∧ Stand p l e R s m args below meth c B.U B.locs B.cells B.slots ∧ Post ⟨T.setVm vm₁, locs, cells, slots⟩ argsL.toArray v B ∧
      ∀ target, Steps p.tables e below (B.U.setTop { g with pc := g.pc + 3, stack := v.toList ++ rest }) target → Steps p.tables e below (T.setTop g) target := by
  obtain ⟨mk, methM, cM, hnamed, hmethM, -, -, -, -, -, -, hsigM⟩ := Cond.codeWith_spec hcode
  have hstatic : methM.isStatic = true := Cond.static_spec hnamed hmethM hstat
  obtain ⟨kP, hkP, -⟩ := className_of_methodNamed hnamed
  have hinitP : kP.init = .initialized := Cond.initialized_spec (findClass_of_methodNamed hnamed) hkP hinit
  obtain ⟨vm₁, X₁, hstep₁⟩ := X.invokestatic hexec hown hlink hnamed hmethM hstatic hkP hinitP hy (g := g) hg (argsL := argsL) (rest := rest) (hlen _ hsigM) hstack hdg
  obtain ⟨v, B, X', hpost, hsteps⟩ := hK m meth c ⟨T.setVm vm₁, locs, cells, slots⟩ { g with stack := rest } (.invokestatic index) mk argsL.toArray X₁ hg hsize hdg hW (X₁.named hnamed) (hpre vm₁ X₁.warmed)
  exact ⟨v, vm₁, B, X₁.warmed, X', hpost, fun target h => hstep₁ _ fun acts => by rw [doInvoke_state]; exact hsteps.trans h⟩
theorem vx_runSW {y : MethodName} {bytes cc : ByteArray} {maxL nL mc ms n index : Nat} {ret : Option FieldType} {hh : List (Nat × Nat × Nat × Nat)} {ws : List Cond} {rm : Room} {Pc : Array Value → State → Prop} {Qc : Array Value → State → Outcome → State → Prop} {free : Addr → Prop} {Ts : List Cond} {own : String} {As rest : List Value} {g : JFrame}
    (S : CallFix p m c cc nL s args Ts own) (hM : Met l y ws rm Pc Qc mc ms free) (cw : vx_CSW R s args own index y bytes maxL ret hh ws rm mc ms n) (hp : PreS s H Pc As)
    (hg : g.method = m) (hn : As.length = n) (hsize : g.locals.size = nL) (hstack : g.stack = As.reverse ++ rest) (hW : 2 * g.monitorRoom + (rest.map fun v => v.category).sum ≤ 8) (hdg : decode cc g.pc = .ok (.invokestatic index, 3)) (hf : cells + mc ≤ R.cells ∧ slots + ms ≤ R.slots) :
    va_Run p l e R s m args below meth c H locs cells slots mc ms g rest (Qc As.toArray) (free) := by
  obtain ⟨⟨hrc, hrs, hfr, hlo, hws, hcw⟩, hcode, hini, hy, hlen, hl, hstt⟩ := cw
  have hK : Back l R p e below s args y 3 8 (PreOf R mc ms Pc) (PostOf Qc mc ms free) := va_backW (hh := hh) (bytes := bytes) (maxL := maxL) (ret := ret) hM hp.1 hrc hrs hfr hlo hws hcw (fun a' U hW => word_at hW (Or.inl (by first | rfl | simp [Cond.onTables, Cond.keeps, Cond.steady])) hini)
  obtain ⟨hx, hb, hml, ho, -⟩ := S
  intro T hT X
  obtain ⟨v, vm₁, ⟨U', l2, c2, s2⟩, hW₁, X', ⟨g', mk, t, L, e1, e2, hq, h1, hL, h2, h3⟩, st⟩ := vx_callSW X hx (hh := hh) (bytes := bytes) (maxL := maxL) (ret := ret) ho hl hstt hini hcode hy hK hg (hsize.trans hml.symm) (argsL := As) (rest := rest) (fun sig h => hn.trans (hlen sig h)) hstack hW (by rw [hb]; exact hdg)
    (fun vm₁ hW₁ => ⟨hf.1, hf.2, hp.2 (T.setVm vm₁) hT hW₁⟩)
  dsimp only [Pt.U, Pt.locs, Pt.cells, Pt.slots] at X' e1 e2 h1 h2 h3 st
  subst h1; subst h2; subst h3
  exact ⟨v, (T.setVm vm₁).calling g' mk As.toArray, t, U', L, hT, X', hL, e1, e2, hq, st⟩
/-- not caught here, past rows that name other classes: it goes on to the caller -/
theorem vx_outP {p : Program} {l : Launch} {e : Env} {R : Room} {s : State} {m : MethodId} {args : Array Value} {below : List Frame} {meth : Method} {c : Code} {H : Heap} {locs : List Loc} {cells slots : Nat} {free : Addr → Prop} {ls : Array Slot} {rest : List Value} {Qc : Array Value → State → Outcome → State → Prop} {XC : String → State → State → Prop}
    {pc : Nat} {own E : String} {ce : Cell} {q : Addr} {mc ms : Nat} (hown : s.vm.findClass own = some m.cls) (hlocks : meth.locks = false)
    (hpass : ∀ z ∈ c.exceptionTable.toList, covers z pc = false ∨ (z.catchType ≠ 0 ∧ ∃ nm : String, (Cond.classLink own z.catchType nm).before args s = true ∧ va_Nc E nm s)) (hcell : H[q]? = some ce) (hv : ce.vm = .none) (hcl : s.vm.findClass E = some ce.cls)
    (hx : ∀ t : State, t.heap = H → s.vm.Alike t.vm → XC E s t) (hf : ∀ z ∈ locs, free z.base) (hc : cells ≤ mc) (hs : slots ≤ ms) :
    vx_W p l e R s m args below meth c H locs cells slots (vx_MQ below Qc XC args s mc ms free) (F0 m pc ls rest) q := by
  intro T hT X
  have hpl : e.platform.magicAccessors = ({} : Platform).magicAccessors := by rw [X.admits.platform]
  obtain ⟨vm', hW', X', st⟩ := X.outThrough hlocks q (g := F0 m pc ls rest) rfl rfl rfl (cell := ce) (by rw [hT]; exact hcell) (by rw [hv]; rfl)
    (by obtain ⟨k9, h9, -⟩ := Vm.findClass_spec hcl; exact ⟨k9, h9⟩) (fun z hz => by
      rcases hpass z hz with h | ⟨hz0, nm, hl1, hn1⟩
      · exact Or.inl h
      · obtain ⟨c6, hc6, hcl6⟩ := Cond.classLink_spec hown hl1 e.platform hpl
        obtain ⟨a8, b8, h1, h2, h3⟩ := hn1
        cases Option.some.inj (h1.symm.trans hcl)
        cases Option.some.inj (h2.symm.trans hc6)
        exact Or.inr ⟨hz0, _, hcl6, h3⟩)
  obtain ⟨g₀, hfr⟩ := X'.frames_eq
  have hcell9 : ((T.setVm vm').setFrames (.throwing q :: below)).heap[q]? = some ce := by
    show T.heap[q]? = some ce
    rw [hT]; exact hcell
  have hend : Ended ((T.setVm vm').setFrames (.throwing q :: below)) below (.threw q) := State.frames_setFrames _ (State.cur_lt_of_frames hfr)
  refine ⟨(T.setVm vm').setFrames (.throwing q :: below), ?_, .threw q, X'.here.running, hend, Or.inr ⟨q, rfl, E, ce, locs, hx _ hT (X'.ends _).1.alike, hcell9, hv, hcl, (X'.ends _).1, (X'.ends _).2.mono hc hs, hf⟩⟩
  rw [X.pushThrowing_eq]
  exact st
/-- a thing of a world lies in the heap -/
theorem vx_lt {D : va_G} {cl : List vw_C} {ws : va_W} {H1 : Heap} (h : va_P D cl ws H1) {k : Nat} {q : Nat × va_E} (hk : ws[k]? = some q) : q.1 < H1.size := (h k q hk).lt
end VXS
/-! ===== END ===== -/
/-! ===== BEGIN methods with a table of their own: called by a name, returning or throwing ===== -/
section VXH
/-! vx_backW, vx_callVX, vx_callSX, vx_callVW, vx_runVW, vx_runVX, vx_runSX, vx_ofWH follow the same proofs as their sisters above (Free/Laws.lean, Shelf42/LK1.lean); vx_outP calls Shelf42/NT130.lean (outThrough). -/
section
variable {l : Launch} {R : Room} {p : Program} {e : Env} {below : List Frame} {s : State} {sargs : Array Value} {y : MethodName} {len W9 : Nat}
theorem vx_backW {ws : List Cond} {rm : Room} {Pc : Array Value → State → Prop} {Qc : Array Value → State → Outcome → State → Prop} {XC : String → State → State → Prop} {mc ms : Nat} {free : Addr → Prop} {bytes : ByteArray} {maxL : Nat} {ret : Option FieldType} {hh : List (Nat × Nat × Nat × Nat)}
    (hM : vx_Met l y ws rm Pc Qc XC mc ms free) (hblind : FrameBlind Pc) (hrc : rm.cells = mc) (hrs : rm.slots = ms)
    (hframes : rm.frames + 1 ≤ R.frames) (hlocals : W9 + (maxL + 11) + rm.locals ≤ R.locals)
    (hws : ∀ w ∈ ws, ∀ a' U, s.WarmedH U.vm → w.before a' U = true) (hcode : Cond.codeWith y bytes maxL ret hh ∈ ws) (hinit : ∀ a' U, s.WarmedH U.vm → (Cond.initialized y.cls).before a' U = true) :
    vx_Back l R p e below s sargs y len W9 (PreOf R mc ms Pc) (PostOf Qc mc ms free) (vx_Post XC mc ms free) := by
  intro m meth c A g ig mk a X hg hsize hdg hW hn hp
  have h1 : (headSpec ws rm).pre.before a A.U = true := atoms_intro fun w hw => hws w hw _ _ X.warmed
  have h2 : (Cond.codeWith y bytes maxL ret hh).before a A.U = true := hws _ hcode _ _ X.warmed
  have h3 : (Cond.initialized y.cls).before a A.U = true := hinit _ _ X.warmed
  have h4 : A.cells + (headSpec ws rm).room.cells ≤ R.cells := by rw [show (headSpec ws rm).room.cells = mc from hrc]; exact hp.1
  have h5 : A.slots + (headSpec ws rm).room.slots ≤ R.slots := by rw [show (headSpec ws rm).room.slots = ms from hrs]; exact hp.2.1
  have hPc : Pc a (A.U.calling g mk a) := hblind _ _ _ _ hp.2.2
  obtain ⟨U, Ls, c0, s0⟩ := A
  dsimp only [Pt.U, Pt.locs, Pt.cells, Pt.slots] at h1 h2 h3 h4 h5 X hn hPc ⊢
  obtain ⟨m9, methY, cY, hn9, hmY, hcY, -, hlY, -⟩ := Cond.codeWith_spec h2
  cases Option.some.inj (hn9.symm.trans hn)
  obtain ⟨kY, hkY, -⟩ := className_of_methodNamed hn
  have hinitY : kY.init = .initialized := Cond.initialized_spec (findClass_of_methodNamed hn) hkY h3
  have h : At U g.method c below := by rw [hg]; exact X.here
  have hlocals9 : W9 + (maxL + 11) + (headSpec ws rm).room.locals ≤ R.locals := hlocals
  have happ : (headSpec ws rm).appliesLoose y e.platform (U.calling g mk a) = true :=
    Spec.appliesLoose_calling (g := g) h hdg hn hkY hinitY
      (X.room_calling (g := g) (R' := (headSpec ws rm).room) hsize hmY hcY hframes (by rw [hlY]; omega) h4 h5) h1
  obtain ⟨mid, hmid⟩ := h.above
  have hfr : (U.setTop g).frames = (.java g :: mid) ++ below := by rw [State.frames_setTop' g h.top, hmid]; rfl
  obtain ⟨o, s₂, hsteps, -, hend, hq⟩ := Steps.callFree hM p X.admits X.cas X.clock (acts := []) hfr happ hPc trivial
  have hq' : vx_Q Qc XC mc ms free a (U.calling g mk a) o s₂ := hq
  rw [State.frames_setTop' g h.top] at hend
  obtain ⟨g₀, hg0⟩ := Option.isSome_iff_exists.mp h.top
  obtain ⟨r, hr⟩ := State.topJava?_eq_some.mp hg0
  have hr' : (({ U with heap := s₂.heap, slotsUsed := s₂.slotsUsed } : State).setVm s₂.vm).frames = .java g₀ :: r := hr
  rcases hq' with ⟨hqc, L, hfe, hL⟩ | ⟨q, rfl, E, ce, L, hx, hce, hcv, hcl, hW₂, hsm, hL⟩
  · obtain ⟨⟨v, rfl⟩, hW₂, e2, q2, q3, q4, q5, q6⟩ := id hfe
    have e3 : s₂ = ({ (U.calling g mk a).setFrames s₂.frames with heap := s₂.heap, slotsUsed := s₂.slotsUsed } : State).setVm s₂.vm := by
      have : s₂ = ({ s₂ with vm := (U.calling g mk a).vm } : State).setVm s₂.vm := rfl
      rw [e2] at this
      exact this
    obtain ⟨c₂, i₂, len₂, hc₂, hd₂, hf₂⟩ := hend
    have hW' : U.WarmedH s₂.vm := hW₂
    have hcc : c₂ = c := by
      have h1 : s₂.code? g.method = U.code? g.method := by
        rw [State.code?_eq, State.code?_eq, hW'.alike.method?]
      exact Option.some.inj (hc₂.symm.trans (h1.trans h.code))
    subst hcc
    have hlen : len₂ = len := by rw [hdg] at hd₂; cases hd₂; rfl
    subst hlen
    have hs₂ : s₂ = (({ U with heap := s₂.heap, slotsUsed := s₂.slotsUsed } : State).setVm s₂.vm).setTop { g with pc := g.pc + len₂, stack := v.toList ++ g.stack } := by
      refine e3.trans ?_
      rw [hf₂, State.calling_eq h.top, State.setFrames_setFrames, State.setTop_of_frames _ hr', hr]
      rfl
    have hsame : U.sameButNew ({ U with heap := s₂.heap, slotsUsed := s₂.slotsUsed } : State) L mc ms := by
      refine ⟨?_, q2, q3, q4, q5, q6⟩
      obtain ⟨t, ht, -⟩ := State.frames_cons hr
      show ({ U with heap := s₂.heap, slotsUsed := s₂.slotsUsed } : State) = { U.setFrames U.frames with heap := s₂.heap, slotsUsed := s₂.slotsUsed }
      rw [State.setFrames_self ht]
    subst hg
    refine Or.inl ⟨v, ⟨(({ U with heap := s₂.heap, slotsUsed := s₂.slotsUsed } : State).setVm s₂.vm), Ls ++ L, c0 + mc, s0 + ms⟩,
      ⟨X.admits, X.cas, X.clock, X.frames, X.room, X.hears, X.method, X.code, (X.here.setHeapUsed s₂.heap s₂.slotsUsed).setVm hW'.alike, X.tail, State.WarmedH.trans X.warmed hW', X.limits, X.bytes, X.same.trans (hsame.setVm s.vm)⟩,
      ⟨g, mk, s₂, L, rfl, rfl, hqc, rfl, hL, rfl, rfl⟩, ?_⟩
    show Steps p.tables e below _ ((({ U with heap := s₂.heap, slotsUsed := s₂.slotsUsed } : State).setVm s₂.vm).setTop { g with pc := g.pc + len₂, stack := v.toList ++ g.stack })
    rw [← hs₂]
    exact hsteps
  · obtain ⟨e2, q2, q3, q4, q5, q6⟩ := id hsm
    have e3 : s₂ = ({ (U.calling g mk a).setFrames s₂.frames with heap := s₂.heap, slotsUsed := s₂.slotsUsed } : State).setVm s₂.vm := by
      have : s₂ = ({ s₂ with vm := (U.calling g mk a).vm } : State).setVm s₂.vm := rfl
      rw [e2] at this
      exact this
    have hf₂ : s₂.frames = .throwing q :: .java g :: U.frames.tail := hend
    have hW' : U.WarmedH s₂.vm := hW₂
    have hs₂ : s₂ = ((({ U with heap := s₂.heap, slotsUsed := s₂.slotsUsed } : State).setVm s₂.vm).setTop g).pushFrame (.throwing q) := by
      refine e3.trans ?_
      rw [hf₂, State.calling_eq h.top, State.setFrames_setFrames, State.pushFrame, State.frames_setTop _ hr', State.setTop_of_frames _ hr', State.setFrames_setFrames, hr]
      rfl
    have hsame : U.sameButNew ({ U with heap := s₂.heap, slotsUsed := s₂.slotsUsed } : State) L mc ms := by
      refine ⟨?_, q2, q3, q4, q5, q6⟩
      obtain ⟨t, ht, -⟩ := State.frames_cons hr
      show ({ U with heap := s₂.heap, slotsUsed := s₂.slotsUsed } : State) = { U.setFrames U.frames with heap := s₂.heap, slotsUsed := s₂.slotsUsed }
      rw [State.setFrames_self ht]
    subst hg
    refine Or.inr ⟨q, ⟨(({ U with heap := s₂.heap, slotsUsed := s₂.slotsUsed } : State).setVm s₂.vm), Ls ++ L, c0 + mc, s0 + ms⟩,
      ⟨X.admits, X.cas, X.clock, X.frames, X.room, X.hears, X.method, X.code, (X.here.setHeapUsed s₂.heap s₂.slotsUsed).setVm hW'.alike, X.tail, State.WarmedH.trans X.warmed hW', X.limits, X.bytes, X.same.trans (hsame.setVm s.vm)⟩,
      ⟨g, mk, s₂, L, E, ce, rfl, rfl, hx, hce, hcv, hcl, rfl, hL, rfl, rfl⟩, ?_⟩
    show Steps p.tables e below _ (((({ U with heap := s₂.heap, slotsUsed := s₂.slotsUsed } : State).setVm s₂.vm).setTop g).pushFrame (.throwing q))
    rw [← hs₂]
    exact hsteps
end
variable {p : Program} {l : Launch} {e : Env} {R : Room} {s : State} {m : MethodId} {args : Array Value} {below : List Frame} {meth : Method} {c : Code} {T : State} {H : Heap} {locs : List Loc} {cells slots : Nat}
theorem vx_callVX (X : Stand p l e R s m args below meth c T locs cells slots) (hexec : p.tables.exec = Jvm.exec) {own C : String} {index : Nat} {y : MethodName} {bytes : ByteArray} {maxL : Nat} {ret : Option FieldType} {hh : List (Nat × Nat × Nat × Nat)}
    (hown : s.vm.findClass own = some m.cls) (hlink : (Cond.methodLink own index y).before args s = true) (hinst : (Cond.instanceMethod y).before args s = true) (hsel : (Cond.selects C y y).before args s = true)
    (hcode : (Cond.codeWith y bytes maxL ret hh).before args s = true) (hy : y.cls ≠ "java/lang/invoke/MethodHandle" ∧ y.cls ≠ "java/lang/invoke/VarHandle")
    {W9 : Nat} {Pre : Pt → Array Value → Prop} {Post : Pt → Array Value → Option Value → Pt → Prop} {PostX : Pt → Array Value → Addr → Pt → Prop} (hK : vx_Back l R p e below s args y 3 W9 Pre Post PostX)
    {b : Addr} {cellB : Cell} (hcell : T.heap[b]? = some cellB) (hobj : cellB.vm.isStatics = false) (hcls : s.vm.findClass C = some cellB.cls)
    {g : JFrame} (hg : g.method = m) (hsize : g.locals.size = c.maxLocals) {argsL rest : List Value} (hlen : ∀ sig, parseMethodDescriptor y.desc = some sig → argsL.length = sig.parameters.length)
    (hstack : g.stack = argsL.reverse ++ .ref b :: rest) (hW : 2 * g.monitorRoom + (rest.map fun v => v.category).sum ≤ W9) (hdg : decode c.code g.pc = .ok (.invokevirtual index, 3))
    (hpre : ∀ vm₁, s.WarmedH vm₁ → Pre ⟨T.setVm vm₁, locs, cells, slots⟩ (Value.ref b :: argsL).toArray) :
    (∃ (v : Option Value) (vm₁ : Vm) (B : Pt), s.WarmedH vm₁ ∧ Stand p l e R s m args below meth c B.U B.locs B.cells B.slots ∧ Post ⟨T.setVm vm₁, locs, cells, slots⟩ (Value.ref b :: argsL).toArray v B ∧
      ∀ target, Steps p.tables e below (B.U.setTop { g with pc := g.pc + 3, stack := v.toList ++ rest }) target → Steps p.tables e below (T.setTop g) target) ∨
    (∃ (q : Addr) (vm₁ : Vm) (B : Pt), s.WarmedH vm₁ ∧ Stand p l e R s m args below meth c B.U B.locs B.cells B.slots ∧ PostX ⟨T.setVm vm₁, locs, cells, slots⟩ (Value.ref b :: argsL).toArray q B ∧
      Steps p.tables e below (T.setTop g) ((B.U.setTop { g with stack := rest }).pushFrame (.throwing q))) := by
  obtain ⟨mk, methM, hnamed, hmethM, hstM, habM⟩ := Cond.instanceMethod_spec hinst
  obtain ⟨m8, methM', cM, hn8, hmethM', -, -, -, -, -, -, hsigM⟩ := Cond.codeWith_spec hcode
  cases Option.some.inj (hn8.symm.trans hnamed)
  cases hmethM.symm.trans hmethM'
  obtain ⟨c2, r2, m2, q1, q2, q3, q4, kP, hkP, hkPi⟩ := Cond.selects_spec hsel
  cases hcls.symm.trans q1
  cases (State.methodFound?_of_named hnamed hy).symm.trans q2
  cases hnamed.symm.trans q3
  have hselP : selectMethod e.platform s.vm cellB.cls mk = .method mk := by rw [Launch.admits_selectMethod X.admits]; exact q4
  obtain ⟨vm₁, X₁, hstep₁⟩ := X.invokevirtual hexec hown hlink hnamed hmethM hstM hkP hkPi hy (a := b) (cell := cellB) hcell
    (fun z h => by rw [h] at hobj; cases hobj) hselP hmethM habM hkP hkPi (g := g) hg (argsL := argsL) (rest := rest) (hlen _ hsigM) hstack hdg
  rcases hK m meth c ⟨T.setVm vm₁, locs, cells, slots⟩ { g with stack := rest } (.invokevirtual index) mk (Value.ref b :: argsL).toArray X₁ hg hsize hdg hW (X₁.named hnamed) (hpre vm₁ X₁.warmed) with ⟨v, B, X', hpost, hsteps⟩ | ⟨q, B, X', hpost, hsteps⟩
  · exact Or.inl ⟨v, vm₁, B, X₁.warmed, X', hpost, fun target h => hstep₁ _ fun acts => by rw [doInvoke_state]; exact hsteps.trans h⟩
  · exact Or.inr ⟨q, vm₁, B, X₁.warmed, X', hpost, hstep₁ _ fun acts => by rw [doInvoke_state]; exact hsteps⟩
theorem vx_callSX (X : Stand p l e R s m args below meth c T locs cells slots) (hexec : p.tables.exec = Jvm.exec) {own : String} {index : Nat} {y : MethodName} {bytes : ByteArray} {maxL : Nat} {ret : Option FieldType} {hh : List (Nat × Nat × Nat × Nat)}
    (hown : s.vm.findClass own = some m.cls) (hlink : (Cond.methodLink own index y).before args s = true) (hstat : (Cond.static y).before args s = true) (hinit : (Cond.initialized y.cls).before args s = true)
    (hcode : (Cond.codeWith y bytes maxL ret hh).before args s = true) (hy : y.cls ≠ "java/lang/invoke/MethodHandle" ∧ y.cls ≠ "java/lang/invoke/VarHandle")
    {W9 : Nat} {Pre : Pt → Array Value → Prop} {Post : Pt → Array Value → Option Value → Pt → Prop} {PostX : Pt → Array Value → Addr → Pt → Prop} (hK : vx_Back l R p e below s args y 3 W9 Pre Post PostX)
    {g : JFrame} (hg : g.method = m) (hsize : g.locals.size = c.maxLocals) {argsL rest : List Value} (hlen : ∀ sig, parseMethodDescriptor y.desc = some sig → argsL.length = sig.parameters.length)
    (hstack : g.stack = argsL.reverse ++ rest) (hW : 2 * g.monitorRoom + (rest.map fun v => v.category).sum ≤ W9) (hdg : decode c.code g.pc = .ok (.invokestatic index, 3))
    (hpre : ∀ vm₁, s.WarmedH vm₁ → Pre ⟨T.setVm vm₁, locs, cells, slots⟩ argsL.toArray) :
    (∃ (v : Option Value) (vm₁ : Vm) (B : Pt), s.WarmedH vm₁ ∧ Stand p l e R s m args below meth c B.U B.locs B.cells B.slots ∧ Post ⟨T.setVm vm₁, locs, cells, slots⟩ argsL.toArray v B ∧
      ∀ target, Steps p.tables e below (B.U.setTop { g with pc := g.pc + 3, stack := v.toList ++ rest }) target → Steps p.tables e below (T.setTop g) target) ∨
    (∃ (q : Addr) (vm₁ : Vm) (B : Pt), s.WarmedH vm₁ ∧ Stand p l e R s m args below meth c B.U B.locs B.cells B.slots ∧ PostX ⟨T.setVm vm₁, locs, cells, slots⟩ argsL.toArray q B ∧
      Steps p.tables e below (T.setTop g) ((B.U.setTop { g with stack := rest }).pushFrame (.throwing q))) := by
  obtain ⟨mk, methM, cM, hnamed, hmethM, -, -, -, -, -, -, hsigM⟩ := Cond.codeWith_spec hcode
  have hstatic : methM.isStatic = true := Cond.static_spec hnamed hmethM hstat
  obtain ⟨kP, hkP, -⟩ := className_of_methodNamed hnamed
  have hinitP : kP.init = .initialized := Cond.initialized_spec (findClass_of_methodNamed hnamed) hkP hinit
  obtain ⟨vm₁, X₁, hstep₁⟩ := X.invokestatic hexec hown hlink hnamed hmethM hstatic hkP hinitP hy (g := g) hg (argsL := argsL) (rest := rest) (hlen _ hsigM) hstack hdg
  rcases hK m meth c ⟨T.setVm vm₁, locs, cells, slots⟩ { g with stack := rest } (.invokestatic index) mk argsL.toArray X₁ hg hsize hdg hW (X₁.named hnamed) (hpre vm₁ X₁.warmed) with ⟨v, B, X', hpost, hsteps⟩ | ⟨q, B, X', hpost, hsteps⟩
  · exact Or.inl ⟨v, vm₁, B, X₁.warmed, X', hpost, fun target h => hstep₁ _ fun acts => by rw [doInvoke_state]; exact hsteps.trans h⟩
  · exact Or.inr ⟨q, vm₁, B, X₁.warmed, X', hpost, hstep₁ _ fun acts => by rw [doInvoke_state]; exact hsteps⟩
theorem vx_callVW (X : Stand p l e R s m args below meth c T locs cells slots) (hexec : p.tables.exec = Jvm.exec) {own C : String} {index : Nat} {y : MethodName} {bytes : ByteArray} {maxL : Nat} {ret : Option FieldType} {hh : List (Nat × Nat × Nat × Nat)}
    (hown : s.vm.findClass own = some m.cls) (hlink : (Cond.methodLink own index y).before args s = true) (hinst : (Cond.instanceMethod y).before args s = true) (hsel : (Cond.selects C y y).before args s = true)
    (hcode : (Cond.codeWith y bytes maxL ret hh).before args s = true) (hy : y.cls ≠ "java/lang/invoke/MethodHandle" ∧ y.cls ≠ "java/lang/invoke/VarHandle")
    {W9 : Nat} {Pre : Pt → Array Value → Prop} {Post : Pt → Array Value → Option Value → Pt → Prop} (hK : Back l R p e below s args y 3 W9 Pre Post)
    {b : Addr} {cellB : Cell} (hcell : T.heap[b]? = some cellB) (hobj : cellB.vm.isStatics = false) (hcls : s.vm.findClass C = some cellB.cls)
    {g : JFrame} (hg : g.method = m) (hsize : g.locals.size = c.maxLocals) {argsL rest : List Value} (hlen : ∀ sig, parseMethodDescriptor y.desc = some sig → argsL.length = sig.parameters.length)
    (hstack : g.stack = argsL.reverse ++ .ref b :: rest) (hW : 2 * g.monitorRoom + (rest.map fun v => v.category).sum ≤ W9) (hdg : decode c.code g.pc = .ok (.invokevirtual index, 3))
    (hpre : ∀ vm₁, s.WarmedH vm₁ → Pre ⟨T.setVm vm₁, locs, cells, slots⟩ (Value.ref b :: argsL).toArray) :
    ∃ (v : Option Value) (vm₁ : Vm) (B : Pt), s.WarmedH vm₁ ∧ Stand p l e R s m args below meth c B.U B.locs B.cells B.slots ∧ Post ⟨T.setVm vm₁, locs, cells, slots⟩ (Value.ref b :: argsL).toArray v B ∧
      ∀ target, Steps p.tables e below (B.U.setTop { g with pc := g.pc + 3, stack := v.toList ++ rest }) target → Steps p.tables e below (T.setTop g) target := by
  obtain ⟨mk, methM, hnamed, hmethM, hstM, habM⟩ := Cond.instanceMethod_spec hinst
  obtain ⟨m8, methM', cM, hn8, hmethM', -, -, -, -, -, -, hsigM⟩ := Cond.codeWith_spec hcode
  cases Option.some.inj (hn8.symm.trans hnamed)
  cases hmethM.symm.trans hmethM'
  obtain ⟨c2, r2, m2, q1, q2, q3, q4, kP, hkP, hkPi⟩ := Cond.selects_spec hsel
  cases hcls.symm.trans q1
  cases (State.methodFound?_of_named hnamed hy).symm.trans q2
  cases hnamed.symm.trans q3
  have hselP : selectMethod e.platform s.vm cellB.cls mk = .method mk := by rw [Launch.admits_selectMethod X.admits]; exact q4
  obtain ⟨vm₁, X₁, hstep₁⟩ := X.invokevirtual hexec hown hlink hnamed hmethM hstM hkP hkPi hy (a := b) (cell := cellB) hcell
    (fun z h => by rw [h] at hobj; cases hobj) hselP hmethM habM hkP hkPi (g := g) hg (argsL := argsL) (rest := rest) (hlen _ hsigM) hstack hdg
  obtain ⟨v, B, X', hpost, hsteps⟩ := hK m meth c ⟨T.setVm vm₁, locs, cells, slots⟩ { g with stack := rest } (.invokevirtual index) mk (Value.ref b :: argsL).toArray X₁ hg hsize hdg hW (X₁.named hnamed) (hpre vm₁ X₁.warmed)
  exact ⟨v, vm₁, B, X₁.warmed, X', hpost, fun target h => hstep₁ _ fun acts => by rw [doInvoke_state]; exact hsteps.trans h⟩
abbrev vx_CVW (R : Room) (s : State) (args : Array Value) (own C : String) (index : Nat) (y : MethodName) (bytes : ByteArray) (maxL : Nat) (ret : Option FieldType) (hh : List (Nat × Nat × Nat × Nat)) (ws : List Cond) (rm : Room) (mc ms n : Nat) : Prop :=
  (rm.cells = mc ∧ rm.slots = ms ∧ rm.frames + 1 ≤ R.frames ∧ 8 + (maxL + 11) + rm.locals ≤ R.locals ∧ (∀ w ∈ ws, ∀ (a' : Array Value) (U : State), s.WarmedH U.vm → w.before a' U = true) ∧ Cond.codeWith y bytes maxL ret hh ∈ ws) ∧
  (Cond.codeWith y bytes maxL ret hh).before args s = true ∧ (Cond.initialized y.cls).before args s = true ∧ (y.cls ≠ "java/lang/invoke/MethodHandle" ∧ y.cls ≠ "java/lang/invoke/VarHandle") ∧
  (∀ sig, parseMethodDescriptor y.desc = some sig → n = sig.parameters.length) ∧ (Cond.methodLink own index y).before args s = true ∧ (Cond.instanceMethod y).before args s = true ∧ (Cond.selects C y y).before args s = true
theorem vx_cwVW {own C : String} {index maxL mc ms : Nat} {y : MethodName} {bytes : ByteArray} {ret : Option FieldType} {hh : List (Nat × Nat × Nat × Nat)} {Ts ws ws' : List Cond} {rm : Room} (n : Nat) (ht : ∀ w ∈ Ts, w.before args s = true) (hT : GoodIn Ts (wsV own index C y ws)) (hw : ws = Cond.codeWith y bytes maxL ret hh :: ws') (hrc : rm.cells = mc) (hrs : rm.slots = ms)
    (hd : y.cls = C ∧ y.cls ≠ "java/lang/invoke/MethodHandle" ∧ y.cls ≠ "java/lang/invoke/VarHandle" ∧ (parseMethodDescriptor y.desc).map (fun d => d.parameters.length) = some n) (hR : rm.frames + 1 ≤ R.frames ∧ 8 + (maxL + 11) + rm.locals ≤ R.locals) :
    vx_CVW R s args own C index y bytes maxL ret hh ws rm mc ms n := by
  obtain ⟨hC, hd⟩ := hd
  subst hC
  have ok : ∀ w ∈ wsV own index y.cls y ws, w.before args s = true := fun w h => ht w (hT w h).1
  have hG : GoodIn Ts ws := fun w h => hT w (by unfold wsV; exact List.mem_append_right _ h)
  have hc : Cond.codeWith y bytes maxL ret hh ∈ ws := by rw [hw]; exact List.mem_cons_self
  refine ⟨⟨hrc, hrs, hR.1, hR.2, pay_in ht hG, hc⟩, ht _ (hG _ hc).1, ok _ (by simp [wsV]), ⟨hd.1, hd.2.1⟩, fun sig h => ?_, ok _ (by simp [wsV]), ok _ (by simp [wsV]), ok _ (by simp [wsV])⟩
  have h2 := hd.2.2
  rw [h] at h2
  exact (Option.some.inj h2).symm
theorem vx_runVW {y : MethodName} {bytes cc : ByteArray} {maxL nL mc ms n index : Nat} {ret : Option FieldType} {hh : List (Nat × Nat × Nat × Nat)} {ws : List Cond} {rm : Room} {Pc : Array Value → State → Prop} {Qc : Array Value → State → Outcome → State → Prop} {free : Addr → Prop} {Ts : List Cond} {own C : String} {b : Addr} {As rest : List Value} {g : JFrame}
    (S : CallFix p m c cc nL s args Ts own) (hM : Met l y ws rm Pc Qc mc ms free) (cw : vx_CVW R s args own C index y bytes maxL ret hh ws rm mc ms n) (hp : PreV s H C b Pc As)
    (hg : g.method = m) (hn : As.length = n) (hsize : g.locals.size = nL) (hstack : g.stack = As.reverse ++ .ref b :: rest) (hW : 2 * g.monitorRoom + (rest.map fun v => v.category).sum ≤ 8) (hdg : decode cc g.pc = .ok (.invokevirtual index, 3)) (hf : cells + mc ≤ R.cells ∧ slots + ms ≤ R.slots) :
    va_Run p l e R s m args below meth c H locs cells slots mc ms g rest (Qc (Value.ref b :: As).toArray) free := by
  obtain ⟨⟨hrc, hrs, hfr, hlo, hws, hcw⟩, hcode, hini, hy, hlen, hl, hin, hse⟩ := cw
  have hK : Back l R p e below s args y 3 8 (PreOf R mc ms Pc) (PostOf Qc mc ms free) := va_backW (hh := hh) (bytes := bytes) (maxL := maxL) (ret := ret) hM hp.1 hrc hrs hfr hlo hws hcw (fun a' U hW => word_at hW (Or.inl (by first | rfl | simp [Cond.onTables, Cond.keeps, Cond.steady])) hini)
  obtain ⟨hx, hb, hml, ho, -⟩ := S
  obtain ⟨-, ⟨cellB, hcB, hoB, hclB⟩, hPc⟩ := hp
  intro T hT X
  obtain ⟨v, vm₁, ⟨U', l2, c2, s2⟩, hW₁, X', ⟨g', mk, t, L, e1, e2, hq, h1, hL, h2, h3⟩, st⟩ := vx_callVW X hx (C := C) (hh := hh) (bytes := bytes) (maxL := maxL) (ret := ret) ho hl hin hse hcode hy hK (by rw [hT]; exact hcB) hoB hclB hg (hsize.trans hml.symm) (argsL := As) (rest := rest) (fun sig h => hn.trans (hlen sig h)) hstack hW (by rw [hb]; exact hdg)
    (fun vm₁ hW₁ => ⟨hf.1, hf.2, hPc (T.setVm vm₁) hT hW₁⟩)
  dsimp only [Pt.U, Pt.locs, Pt.cells, Pt.slots] at X' e1 e2 h1 h2 h3 st
  subst h1; subst h2; subst h3
  exact ⟨v, (T.setVm vm₁).calling g' mk (Value.ref b :: As).toArray, t, U', L, hT, X', hL, e1, e2, hq, st⟩
section
variable {y : MethodName} {bytes cc : ByteArray} {maxL nL mc ms n index : Nat} {ret : Option FieldType} {ws : List Cond} {rm : Room} {Pc : Array Value → State → Prop} {Qc : Array Value → State → Outcome → State → Prop} {XC : String → State → State → Prop} {free : Addr → Prop} {Ts : List Cond} {own C : String} {b : Addr} {As rest : List Value} {g : JFrame}
theorem vx_runVX {hh : List (Nat × Nat × Nat × Nat)} (S : CallFix p m c cc nL s args Ts own) (hM : vx_Met l y ws rm Pc Qc XC mc ms free) (cw : vx_CVW R s args own C index y bytes maxL ret hh ws rm mc ms n) (hp : PreV s H C b Pc As)
    (hg : g.method = m) (hn : As.length = n) (hsize : g.locals.size = nL) (hstack : g.stack = As.reverse ++ .ref b :: rest) (hW : 2 * g.monitorRoom + (rest.map fun v => v.category).sum ≤ 8) (hdg : decode cc g.pc = .ok (.invokevirtual index, 3)) (hf : cells + mc ≤ R.cells ∧ slots + ms ≤ R.slots) :
    vx_Run p l e R s m args below meth c H locs cells slots mc ms g rest (Qc (Value.ref b :: As).toArray) XC free := by
  obtain ⟨⟨hrc, hrs, hfr, hlo, hws, hcw⟩, hcode, hini, hy, hlen, hl, hin, hse⟩ := cw
  have hK : vx_Back l R p e below s args y 3 8 (PreOf R mc ms Pc) (PostOf Qc mc ms free) (vx_Post XC mc ms free) := vx_backW (hh := hh) (bytes := bytes) (maxL := maxL) (ret := ret) hM hp.1 hrc hrs hfr hlo hws hcw (fun a' U hW => word_at hW (Or.inl (by first | rfl | simp [Cond.onTables, Cond.keeps, Cond.steady])) hini)
  obtain ⟨hx, hb, hml, ho, -⟩ := S
  obtain ⟨-, ⟨cellB, hcB, hoB, hclB⟩, hPc⟩ := hp
  intro T hT X
  rcases vx_callVX X hx (C := C) (hh := hh) (bytes := bytes) (maxL := maxL) (ret := ret) ho hl hin hse hcode hy hK (by rw [hT]; exact hcB) hoB hclB hg (hsize.trans hml.symm) (argsL := As) (rest := rest) (fun sig h => hn.trans (hlen sig h)) hstack hW (by rw [hb]; exact hdg)
    (fun vm₁ hW₁ => ⟨hf.1, hf.2, hPc (T.setVm vm₁) hT hW₁⟩) with ⟨v, vm₁, ⟨U', l2, c2, s2⟩, hW₁, X', ⟨g', mk, t, L, e1, e2, hq, h1, hL, h2, h3⟩, st⟩ | ⟨q, vm₁, ⟨U', l2, c2, s2⟩, hW₁, X', ⟨g', mk, t, L, E, ce, e1, e2, hq, hce, hcv, hcl, h1, hL, h2, h3⟩, st⟩
  · dsimp only [Pt.U, Pt.locs, Pt.cells, Pt.slots] at X' e1 e2 h1 h2 h3 st
    subst h1; subst h2; subst h3
    exact Or.inl ⟨v, (T.setVm vm₁).calling g' mk (Value.ref b :: As).toArray, t, U', L, hT, X', hL, e1, e2, hq, st⟩
  · dsimp only [Pt.U, Pt.locs, Pt.cells, Pt.slots] at X' e1 e2 h1 h2 h3 st hcl
    subst h1; subst h2; subst h3
    exact Or.inr ⟨q, (T.setVm vm₁).calling g' mk (Value.ref b :: As).toArray, t, U', L, E, ce, hT, X', hL, e1, e2, hq, hce, hcv, vx_cls hW₁ hcl, st⟩
theorem vx_runSX {hh : List (Nat × Nat × Nat × Nat)} (S : CallFix p m c cc nL s args Ts own) (hM : vx_Met l y ws rm Pc Qc XC mc ms free) (cw : vx_CSW R s args own index y bytes maxL ret hh ws rm mc ms n) (hp : PreS s H Pc As)
    (hg : g.method = m) (hn : As.length = n) (hsize : g.locals.size = nL) (hstack : g.stack = As.reverse ++ rest) (hW : 2 * g.monitorRoom + (rest.map fun v => v.category).sum ≤ 8) (hdg : decode cc g.pc = .ok (.invokestatic index, 3)) (hf : cells + mc ≤ R.cells ∧ slots + ms ≤ R.slots) :
    vx_Run p l e R s m args below meth c H locs cells slots mc ms g rest (Qc As.toArray) XC free := by
  obtain ⟨⟨hrc, hrs, hfr, hlo, hws, hcw⟩, hcode, hini, hy, hlen, hl, hstt⟩ := cw
  have hK : vx_Back l R p e below s args y 3 8 (PreOf R mc ms Pc) (PostOf Qc mc ms free) (vx_Post XC mc ms free) := vx_backW (hh := hh) (bytes := bytes) (maxL := maxL) (ret := ret) hM hp.1 hrc hrs hfr hlo hws hcw (fun a' U hW => word_at hW (Or.inl (by first | rfl | simp [Cond.onTables, Cond.keeps, Cond.steady])) hini)
  obtain ⟨hx, hb, hml, ho, -⟩ := S
  intro T hT X
  rcases vx_callSX X hx (hh := hh) (bytes := bytes) (maxL := maxL) (ret := ret) ho hl hstt hini hcode hy hK hg (hsize.trans hml.symm) (argsL := As) (rest := rest) (fun sig h => hn.trans (hlen sig h)) hstack hW (by rw [hb]; exact hdg)
    (fun vm₁ hW₁ => ⟨hf.1, hf.2, hp.2 (T.setVm vm₁) hT hW₁⟩) with ⟨v, vm₁, ⟨U', l2, c2, s2⟩, hW₁, X', ⟨g', mk, t, L, e1, e2, hq, h1, hL, h2, h3⟩, st⟩ | ⟨q, vm₁, ⟨U', l2, c2, s2⟩, hW₁, X', ⟨g', mk, t, L, E, ce, e1, e2, hq, hce, hcv, hcl, h1, hL, h2, h3⟩, st⟩
  · dsimp only [Pt.U, Pt.locs, Pt.cells, Pt.slots] at X' e1 e2 h1 h2 h3 st
    subst h1; subst h2; subst h3
    exact Or.inl ⟨v, (T.setVm vm₁).calling g' mk As.toArray, t, U', L, hT, X', hL, e1, e2, hq, st⟩
  · dsimp only [Pt.U, Pt.locs, Pt.cells, Pt.slots] at X' e1 e2 h1 h2 h3 st hcl
    subst h1; subst h2; subst h3
    exact Or.inr ⟨q, (T.setVm vm₁).calling g' mk As.toArray, t, U', L, E, ce, hT, X', hL, e1, e2, hq, hce, hcv, vx_cls hW₁ hcl, st⟩
end
end VXH
theorem vx_ofWH {l : Launch} {y : MethodName} {ws ws' : List Cond} {rm : Room} {Pc : Array Value → State → Prop} {Qc : Array Value → State → Outcome → State → Prop} {XC : String → State → State → Prop} {mc ms : Nat} {free : Addr → Prop} {cc : ByteArray} {maxL : Nat} {ret : Option FieldType} {hh : List (Nat × Nat × Nat × Nat)}
    (hy : plainName y.cls = true) (hw : ws = Cond.codeWith y cc maxL ret hh :: ws')
    (body : ∀ p e s m args below meth c s₁, BodyLoose p l y (headSpec ws rm) cc maxL ret e s m args below meth c s₁ → c.maxLocals = maxL → Pc args s →
      W p l e (headSpec ws rm).room s m args below meth c s.heap [] 0 0 (vx_MQ below Qc XC args s mc ms free) (entryFrame m args maxL)) : vx_Met l y ws rm Pc Qc XC mc ms free := by
  refine MetFree.of_bodyS (code := cc) (maxLocals := maxL) (ret := ret) hy ?_ ?_
  · intro args s m h hn
    obtain ⟨m9, meth, c, hn9, h1, h2, h3, h4, -, h5, h6, -⟩ := Cond.codeWith_spec (atoms_spec (ws := ws) h _ (by rw [hw]; exact List.mem_cons_self))
    cases hn.symm.trans hn9
    exact ⟨meth, c, h1, h2, h3, h4, h5, h6⟩
  · intro p e s m args below meth c s₁ B hml hP _
    have hh0 : s₁.heap = s.heap := by rw [B.state]; rfl
    obtain ⟨t, a1, o, b1, b2, b3⟩ := body p e s m args below meth c s₁ B hml hP s₁ hh0 (Stand.of_body B)
    exact ⟨t, o, a1, b1, b2, b3⟩
/-! ===== END ===== -/

/-! ===== BEGIN printed: names, fields, word lists, decode rows ===== -/
def RX0 : String := "CanonCote$Arranging"
def TX0 : u_T := fun k => match k with
  | 0 => ("CanonCote$Arranging", "leastEdges", "I", false)
  | 1 => ("CanonCote$Arranging", "leastPlaces", "I", false)
  | 2 => ("CanonCote$Arranging", "met", "I", false)
  | 3 => ("CanonCote$Arranging", "twins", "[I", true)
  | 4 => ("CanonCote$Arranging", "cells", "[I", true)
  | 5 => ("CanonCote$Arranging", "vertexAt", "[I", true)
  | _ => ("CanonCote$Arranging", "seenAt", "[I", true)
def tyX0 : Nat → FieldType := fun k => match k with
  | 0 => .int
  | 1 => .int
  | 2 => .int
  | 3 => .array .int
  | 4 => .array .int
  | 5 => .array .int
  | _ => .array .int
abbrev wsX00 : List Cond := u_ws RX0 TX0 7
theorem nmX0 : ∀ a, a < 7 → ∀ b, b < 7 → a ≠ b → (TX0 a).2.1 ≠ (TX0 b).2.1 := by decide +kernel
theorem tyX0_ok : ∀ k, k < 7 → parseFieldDescriptor (TX0 k).2.2.1 = some (tyX0 k) := by decide +kernel
abbrev cX0_init : ByteArray := prog_2_method_1_code
def yX0_init : MethodName := ⟨RX0, "<init>", "()V"⟩
abbrev cX0_search : ByteArray := prog_2_method_2_code
def yX0_search : MethodName := ⟨RX0, "search", "(LCanonCote$Graph;)V"⟩
abbrev cX0_findTwins : ByteArray := prog_2_method_3_code
def yX0_findTwins : MethodName := ⟨RX0, "findTwins", "(LCanonCote$Graph;)V"⟩
abbrev cX0_shareOutByColours : ByteArray := prog_2_method_4_code
def yX0_shareOutByColours : MethodName := ⟨RX0, "shareOutByColours", "(LCanonCote$Graph;)V"⟩
abbrev cX0_arrange : ByteArray := prog_2_method_5_code
def yX0_arrange : MethodName := ⟨RX0, "arrange", "(LCanonCote$Arranging;LCanonCote$Graph;II)V"⟩
abbrev cX0_splitCells : ByteArray := prog_2_method_6_code
def yX0_splitCells : MethodName := ⟨RX0, "splitCells", "(LCanonCote$Graph;II)I"⟩
abbrev cX0_meet : ByteArray := prog_2_method_7_code
def yX0_meet : MethodName := ⟨RX0, "meet", "(II)V"⟩
abbrev cX0_shiftOf : ByteArray := prog_2_method_8_code
def yX0_shiftOf : MethodName := ⟨RX0, "shiftOf", "(I)I"⟩
abbrev cX0_bestPlace : ByteArray := prog_2_method_9_code
def yX0_bestPlace : MethodName := ⟨RX0, "bestPlace", "(I)I"⟩
abbrev cX0_leastCode : ByteArray := prog_2_method_10_code
def yX0_leastCode : MethodName := ⟨RX0, "leastCode", "(LCanonCote$Graph;)J"⟩
abbrev cX0_countBest : ByteArray := prog_2_method_11_code
def yX0_countBest : MethodName := ⟨RX0, "countBest", "(I)I"⟩
abbrev cX0_exchangeable : ByteArray := prog_2_method_12_code
def yX0_exchangeable : MethodName := ⟨RX0, "exchangeable", "(I)I"⟩
def RX1 : String := "CanonCote$Chain"
def TX1 : u_T := fun k => match k with
  | 0 => ("CanonCote$Chain", "members", "I", false)
  | 1 => ("CanonCote$Chain", "keptCount", "I", false)
  | 2 => ("CanonCote$Chain", "closedCount", "I", false)
  | 3 => ("CanonCote$Chain", "base", "[I", true)
  | 4 => ("CanonCote$Chain", "kept", "[J", true)
  | _ => ("CanonCote$Chain", "back", "[J", true)
def tyX1 : Nat → FieldType := fun k => match k with
  | 0 => .int
  | 1 => .int
  | 2 => .int
  | 3 => .array .int
  | 4 => .array .long
  | _ => .array .long
abbrev wsX10 : List Cond := u_ws RX1 TX1 6
theorem nmX1 : ∀ a, a < 6 → ∀ b, b < 6 → a ≠ b → (TX1 a).2.1 ≠ (TX1 b).2.1 := by decide +kernel
theorem tyX1_ok : ∀ k, k < 6 → parseFieldDescriptor (TX1 k).2.2.1 = some (tyX1 k) := by decide +kernel
abbrev cX1_init : ByteArray := prog_3_method_1_code
def yX1_init : MethodName := ⟨RX1, "<init>", "()V"⟩
abbrev cX1_restart : ByteArray := prog_3_method_2_code
def yX1_restart : MethodName := ⟨RX1, "restart", "(I)V"⟩
abbrev cX1_add : ByteArray := prog_3_method_3_code
def yX1_add : MethodName := ⟨RX1, "add", "(JI)V"⟩
abbrev cX1_keep : ByteArray := prog_3_method_4_code
def yX1_keep : MethodName := ⟨RX1, "keep", "(J)V"⟩
abbrev cX1_restOf : ByteArray := prog_3_method_5_code
def yX1_restOf : MethodName := ⟨RX1, "restOf", "(J)J"⟩
abbrev cX1_firstMoved : ByteArray := prog_3_method_6_code
def yX1_firstMoved : MethodName := ⟨RX1, "firstMoved", "(J)I"⟩
abbrev cX1_holds : ByteArray := prog_3_method_7_code
def yX1_holds : MethodName := ⟨RX1, "holds", "(J)Z"⟩
abbrev cX1_countFrom : ByteArray := prog_3_method_8_code
def yX1_countFrom : MethodName := ⟨RX1, "countFrom", "(I)I"⟩
def RX2 : String := "CanonCote$Graph"
def TX2 : u_T := fun k => match k with
  | 0 => ("CanonCote$Graph", "size", "I", false)
  | 1 => ("CanonCote$Graph", "near", "[I", true)
  | _ => ("CanonCote$Graph", "colours", "[I", true)
def tyX2 : Nat → FieldType := fun k => match k with
  | 0 => .int
  | 1 => .array .int
  | _ => .array .int
abbrev wsX20 : List Cond := u_ws RX2 TX2 3
theorem nmX2 : ∀ a, a < 3 → ∀ b, b < 3 → a ≠ b → (TX2 a).2.1 ≠ (TX2 b).2.1 := by decide +kernel
theorem tyX2_ok : ∀ k, k < 3 → parseFieldDescriptor (TX2 k).2.2.1 = some (tyX2 k) := by decide +kernel
abbrev cX2_init : ByteArray := prog_4_method_1_code
def yX2_init : MethodName := ⟨RX2, "<init>", "()V"⟩
abbrev cX2_clear : ByteArray := prog_4_method_2_code
def yX2_clear : MethodName := ⟨RX2, "clear", "(I)V"⟩
abbrev cX2_hasEdge : ByteArray := prog_4_method_3_code
def yX2_hasEdge : MethodName := ⟨RX2, "hasEdge", "(II)Z"⟩
abbrev cX2_flipEdge : ByteArray := prog_4_method_4_code
def yX2_flipEdge : MethodName := ⟨RX2, "flipEdge", "(II)V"⟩
abbrev cX2_exchange : ByteArray := prog_4_method_5_code
def yX2_exchange : MethodName := ⟨RX2, "exchange", "(II)V"⟩
abbrev cX2_become : ByteArray := prog_4_method_6_code
def yX2_become : MethodName := ⟨RX2, "become", "(LCanonCote$Graph;)V"⟩
abbrev cX2_invertEdges : ByteArray := prog_4_method_7_code
def yX2_invertEdges : MethodName := ⟨RX2, "invertEdges", "()V"⟩
abbrev cX2_countEdges : ByteArray := prog_4_method_8_code
def yX2_countEdges : MethodName := ⟨RX2, "countEdges", "()I"⟩
abbrev cX2_areTwins : ByteArray := prog_4_method_9_code
def yX2_areTwins : MethodName := ⟨RX2, "areTwins", "(II)Z"⟩
abbrev cX2_becomePart : ByteArray := prog_4_method_10_code
def yX2_becomePart : MethodName := ⟨RX2, "becomePart", "(LCanonCote$Graph;I)V"⟩
abbrev cX2_squeeze : ByteArray := prog_4_method_11_code
def yX2_squeeze : MethodName := ⟨RX2, "squeeze", "(II)I"⟩
def RX3 : String := "CanonCote$Group"
def TX3 : u_T := fun k => match k with
  | 0 => ("CanonCote$Group", "count", "I", false)
  | 1 => ("CanonCote$Group", "generators", "[J", true)
  | 2 => ("CanonCote$Group", "chain", "LCanonCote$Chain;", true)
  | _ => ("CanonCote$Group", "fixingChain", "LCanonCote$Chain;", true)
def tyX3 : Nat → FieldType := fun k => match k with
  | 0 => .int
  | 1 => .array .long
  | 2 => .object "CanonCote$Chain"
  | _ => .object "CanonCote$Chain"
abbrev wsX30 : List Cond := u_ws RX3 TX3 4
theorem nmX3 : ∀ a, a < 4 → ∀ b, b < 4 → a ≠ b → (TX3 a).2.1 ≠ (TX3 b).2.1 := by decide +kernel
theorem tyX3_ok : ∀ k, k < 4 → parseFieldDescriptor (TX3 k).2.2.1 = some (tyX3 k) := by decide +kernel
abbrev cX3_init : ByteArray := prog_5_method_1_code
def yX3_init : MethodName := ⟨RX3, "<init>", "()V"⟩
abbrev cX3_clear : ByteArray := prog_5_method_2_code
def yX3_clear : MethodName := ⟨RX3, "clear", "()V"⟩
abbrev cX3_add : ByteArray := prog_5_method_3_code
def yX3_add : MethodName := ⟨RX3, "add", "(J)V"⟩
abbrev cX3_reach : ByteArray := prog_5_method_4_code
def yX3_reach : MethodName := ⟨RX3, "reach", "(I)I"⟩
abbrev cX3_imagesOf : ByteArray := prog_5_method_5_code
def yX3_imagesOf : MethodName := ⟨RX3, "imagesOf", "(JI)I"⟩
abbrev cX3_countFixing : ByteArray := prog_5_method_6_code
def yX3_countFixing : MethodName := ⟨RX3, "countFixing", "(I)I"⟩
def RX4 : String := "CanonCote$Mapping"
def TX4 : u_T := fun k => match k with
  | 0 => ("CanonCote$Mapping", "images", "[I", true)
  | 1 => ("CanonCote$Mapping", "classesHere", "LCanonCote$Refinement;", true)
  | _ => ("CanonCote$Mapping", "classesThere", "LCanonCote$Refinement;", true)
def tyX4 : Nat → FieldType := fun k => match k with
  | 0 => .array .int
  | 1 => .object "CanonCote$Refinement"
  | _ => .object "CanonCote$Refinement"
abbrev wsX40 : List Cond := u_ws RX4 TX4 3
theorem nmX4 : ∀ a, a < 3 → ∀ b, b < 3 → a ≠ b → (TX4 a).2.1 ≠ (TX4 b).2.1 := by decide +kernel
theorem tyX4_ok : ∀ k, k < 3 → parseFieldDescriptor (TX4 k).2.2.1 = some (tyX4 k) := by decide +kernel
abbrev cX4_init : ByteArray := prog_6_method_1_code
def yX4_init : MethodName := ⟨RX4, "<init>", "()V"⟩
abbrev cX4_find : ByteArray := prog_6_method_2_code
def yX4_find : MethodName := ⟨RX4, "find", "(LCanonCote$Graph;LCanonCote$Graph;)Z"⟩
abbrev cX4_extend : ByteArray := prog_6_method_3_code
def yX4_extend : MethodName := ⟨RX4, "extend", "(LCanonCote$Mapping;LCanonCote$Graph;LCanonCote$Graph;II)Z"⟩
abbrev cX4_fits : ByteArray := prog_6_method_4_code
def yX4_fits : MethodName := ⟨RX4, "fits", "(LCanonCote$Graph;LCanonCote$Graph;II)Z"⟩
def RX5 : String := "CanonCote$Permutation"
def TX5 : u_T := fun k => match k with
  | _ => ("", "", "", false)
def tyX5 : Nat → FieldType := fun k => match k with
  | _ => .int
abbrev wsX50 : List Cond := u_ws RX5 TX5 0
theorem nmX5 : ∀ a, a < 0 → ∀ b, b < 0 → a ≠ b → (TX5 a).2.1 ≠ (TX5 b).2.1 := by decide +kernel
theorem tyX5_ok : ∀ k, k < 0 → parseFieldDescriptor (TX5 k).2.2.1 = some (tyX5 k) := by decide +kernel
abbrev cX5_isOne : ByteArray := prog_7_method_2_code
def yX5_isOne : MethodName := ⟨RX5, "isOne", "(J)Z"⟩
abbrev cX5_imageOf : ByteArray := prog_7_method_3_code
def yX5_imageOf : MethodName := ⟨RX5, "imageOf", "(JI)I"⟩
abbrev cX5_carrying : ByteArray := prog_7_method_4_code
def yX5_carrying : MethodName := ⟨RX5, "carrying", "(II)J"⟩
abbrev cX5_oneThenOther : ByteArray := prog_7_method_5_code
def yX5_oneThenOther : MethodName := ⟨RX5, "oneThenOther", "(JJ)J"⟩
abbrev cX5_inverse : ByteArray := prog_7_method_6_code
def yX5_inverse : MethodName := ⟨RX5, "inverse", "(J)J"⟩
def RX6 : String := "CanonCote$Refinement"
def TX6 : u_T := fun k => match k with
  | 0 => ("CanonCote$Refinement", "count", "I", false)
  | 1 => ("CanonCote$Refinement", "lastRound", "I", false)
  | 2 => ("CanonCote$Refinement", "numbers", "[I", true)
  | 3 => ("CanonCote$Refinement", "members", "[I", true)
  | _ => ("CanonCote$Refinement", "keys", "[J", true)
def tyX6 : Nat → FieldType := fun k => match k with
  | 0 => .int
  | 1 => .int
  | 2 => .array .int
  | 3 => .array .int
  | _ => .array .long
abbrev wsX60 : List Cond := u_ws RX6 TX6 5
theorem nmX6 : ∀ a, a < 5 → ∀ b, b < 5 → a ≠ b → (TX6 a).2.1 ≠ (TX6 b).2.1 := by decide +kernel
theorem tyX6_ok : ∀ k, k < 5 → parseFieldDescriptor (TX6 k).2.2.1 = some (tyX6 k) := by decide +kernel
abbrev cX6_init : ByteArray := prog_8_method_1_code
def yX6_init : MethodName := ⟨RX6, "<init>", "()V"⟩
abbrev cX6_refine : ByteArray := prog_8_method_2_code
def yX6_refine : MethodName := ⟨RX6, "refine", "(LCanonCote$Graph;)V"⟩
abbrev cX6_keyOf : ByteArray := prog_8_method_3_code
def yX6_keyOf : MethodName := ⟨RX6, "keyOf", "(LCanonCote$Graph;I)J"⟩
abbrev cX6_numberByKeys : ByteArray := prog_8_method_4_code
def yX6_numberByKeys : MethodName := ⟨RX6, "numberByKeys", "(I)V"⟩
abbrev cX6_isFirstOfKey : ByteArray := prog_8_method_5_code
def yX6_isFirstOfKey : MethodName := ⟨RX6, "isFirstOfKey", "(I)Z"⟩
def RX7 : String := "CanonCote"
def TX7 : u_T := fun k => match k with
  | 0 => ("CanonCote", "graphs", "[LCanonCote$Graph;", true)
  | 1 => ("CanonCote", "chosen", "LCanonCote$Graph;", true)
  | 2 => ("CanonCote", "refinement", "LCanonCote$Refinement;", true)
  | 3 => ("CanonCote", "arranging", "LCanonCote$Arranging;", true)
  | 4 => ("CanonCote", "mapping", "LCanonCote$Mapping;", true)
  | _ => ("CanonCote", "group", "LCanonCote$Group;", true)
def tyX7 : Nat → FieldType := fun k => match k with
  | 0 => .array (.object "CanonCote$Graph")
  | 1 => .object "CanonCote$Graph"
  | 2 => .object "CanonCote$Refinement"
  | 3 => .object "CanonCote$Arranging"
  | 4 => .object "CanonCote$Mapping"
  | _ => .object "CanonCote$Group"
abbrev wsX70 : List Cond := u_ws RX7 TX7 6
theorem nmX7 : ∀ a, a < 6 → ∀ b, b < 6 → a ≠ b → (TX7 a).2.1 ≠ (TX7 b).2.1 := by decide +kernel
theorem tyX7_ok : ∀ k, k < 6 → parseFieldDescriptor (TX7 k).2.2.1 = some (tyX7 k) := by decide +kernel
abbrev cX7_init : ByteArray := prog_1_method_1_code
def yX7_init : MethodName := ⟨RX7, "<init>", "()V"⟩
abbrev cX7_begin : ByteArray := prog_1_method_2_code
def yX7_begin : MethodName := ⟨RX7, "begin", "(II)I"⟩
abbrev cX7_toggle : ByteArray := prog_1_method_3_code
def yX7_toggle : MethodName := ⟨RX7, "toggle", "(III)Z"⟩
abbrev cX7_setColour : ByteArray := prog_1_method_4_code
def yX7_setColour : MethodName := ⟨RX7, "setColour", "(III)I"⟩
abbrev cX7_swap : ByteArray := prog_1_method_5_code
def yX7_swap : MethodName := ⟨RX7, "swap", "(III)V"⟩
abbrev cX7_copy : ByteArray := prog_1_method_6_code
def yX7_copy : MethodName := ⟨RX7, "copy", "(II)V"⟩
abbrev cX7_complement : ByteArray := prog_1_method_7_code
def yX7_complement : MethodName := ⟨RX7, "complement", "(I)I"⟩
abbrev cX7_size : ByteArray := prog_1_method_8_code
def yX7_size : MethodName := ⟨RX7, "size", "(I)I"⟩
abbrev cX7_edges : ByteArray := prog_1_method_9_code
def yX7_edges : MethodName := ⟨RX7, "edges", "(I)I"⟩
abbrev cX7_neighbours : ByteArray := prog_1_method_10_code
def yX7_neighbours : MethodName := ⟨RX7, "neighbours", "(II)I"⟩
abbrev cX7_colour : ByteArray := prog_1_method_11_code
def yX7_colour : MethodName := ⟨RX7, "colour", "(II)I"⟩
abbrev cX7_classes : ByteArray := prog_1_method_12_code
def yX7_classes : MethodName := ⟨RX7, "classes", "(I)I"⟩
abbrev cX7_classOf : ByteArray := prog_1_method_13_code
def yX7_classOf : MethodName := ⟨RX7, "classOf", "(II)I"⟩
abbrev cX7_rounds : ByteArray := prog_1_method_14_code
def yX7_rounds : MethodName := ⟨RX7, "rounds", "(I)I"⟩
abbrev cX7_form : ByteArray := prog_1_method_15_code
def yX7_form : MethodName := ⟨RX7, "form", "(I)J"⟩
abbrev cX7_placeOf : ByteArray := prog_1_method_16_code
def yX7_placeOf : MethodName := ⟨RX7, "placeOf", "(II)I"⟩
abbrev cX7_areAlike : ByteArray := prog_1_method_17_code
def yX7_areAlike : MethodName := ⟨RX7, "areAlike", "(II)Z"⟩
abbrev cX7_image : ByteArray := prog_1_method_18_code
def yX7_image : MethodName := ⟨RX7, "image", "(III)I"⟩
abbrev cX7_copies : ByteArray := prog_1_method_19_code
def yX7_copies : MethodName := ⟨RX7, "copies", "(II)I"⟩
abbrev cX7_symmetries : ByteArray := prog_1_method_20_code
def yX7_symmetries : MethodName := ⟨RX7, "symmetries", "(I)I"⟩
abbrev cX7_orbits : ByteArray := prog_1_method_21_code
def yX7_orbits : MethodName := ⟨RX7, "orbits", "(I)I"⟩
abbrev cX7_orbit : ByteArray := prog_1_method_22_code
def yX7_orbit : MethodName := ⟨RX7, "orbit", "(II)I"⟩
abbrev cX7_addGenerator : ByteArray := prog_1_method_23_code
def yX7_addGenerator : MethodName := ⟨RX7, "addGenerator", "(J)I"⟩
abbrev cX7_forgetGenerators : ByteArray := prog_1_method_24_code
def yX7_forgetGenerators : MethodName := ⟨RX7, "forgetGenerators", "()I"⟩
abbrev cX7_order : ByteArray := prog_1_method_25_code
def yX7_order : MethodName := ⟨RX7, "order", "()I"⟩
abbrev cX7_isInGroup : ByteArray := prog_1_method_26_code
def yX7_isInGroup : MethodName := ⟨RX7, "isInGroup", "(J)Z"⟩
abbrev cX7_moves : ByteArray := prog_1_method_27_code
def yX7_moves : MethodName := ⟨RX7, "moves", "(I)I"⟩
abbrev cX7_fixing : ByteArray := prog_1_method_28_code
def yX7_fixing : MethodName := ⟨RX7, "fixing", "(I)I"⟩
abbrev cX7_graphAt : ByteArray := prog_1_method_29_code
def yX7_graphAt : MethodName := ⟨RX7, "graphAt", "(I)LCanonCote$Graph;"⟩
abbrev cX7_checkVertex : ByteArray := prog_1_method_30_code
def yX7_checkVertex : MethodName := ⟨RX7, "checkVertex", "(LCanonCote$Graph;I)V"⟩
abbrev cX7_checkPermutation : ByteArray := prog_1_method_31_code
def yX7_checkPermutation : MethodName := ⟨RX7, "checkPermutation", "(J)V"⟩
abbrev cX7_leastCode : ByteArray := prog_1_method_32_code
def yX7_leastCode : MethodName := ⟨RX7, "leastCode", "(LCanonCote$Graph;)J"⟩
abbrev cX7_haveOneForm : ByteArray := prog_1_method_33_code
def yX7_haveOneForm : MethodName := ⟨RX7, "haveOneForm", "(LCanonCote$Graph;LCanonCote$Graph;)Z"⟩
abbrev cX7_below : ByteArray := prog_1_method_34_code
def yX7_below : MethodName := ⟨RX7, "below", "(I)I"⟩
abbrev cX7_isIn : ByteArray := prog_1_method_35_code
def yX7_isIn : MethodName := ⟨RX7, "isIn", "(II)Z"⟩
def RX8 : String := "CanonCoteModel"
def TX8 : u_T := fun k => match k with
  | 0 => ("CanonCoteModel", "sizes", "[I", true)
  | 1 => ("CanonCoteModel", "sides", "[I", true)
  | 2 => ("CanonCoteModel", "colours", "[I", true)
  | 3 => ("CanonCoteModel", "map", "[I", true)
  | 4 => ("CanonCoteModel", "chosen", "[I", true)
  | 5 => ("CanonCoteModel", "best", "[I", true)
  | 6 => ("CanonCoteModel", "old", "[I", true)
  | 7 => ("CanonCoteModel", "anew", "[I", true)
  | 8 => ("CanonCoteModel", "orbits", "[I", true)
  | 9 => ("CanonCoteModel", "rounds", "I", false)
  | 10 => ("CanonCoteModel", "generators", "[I", true)
  | 11 => ("CanonCoteModel", "generated", "I", false)
  | 12 => ("CanonCoteModel", "found", "[I", true)
  | 13 => ("CanonCoteModel", "has", "[Z", true)
  | 14 => ("CanonCoteModel", "order", "I", false)
  | 15 => ("CanonCoteModel", "images", "[I", true)
  | _ => ("CanonCoteModel", "last", "I", false)
def tyX8 : Nat → FieldType := fun k => match k with
  | 0 => .array .int
  | 1 => .array .int
  | 2 => .array .int
  | 3 => .array .int
  | 4 => .array .int
  | 5 => .array .int
  | 6 => .array .int
  | 7 => .array .int
  | 8 => .array .int
  | 9 => .int
  | 10 => .array .int
  | 11 => .int
  | 12 => .array .int
  | 13 => .array .boolean
  | 14 => .int
  | 15 => .array .int
  | _ => .int
abbrev wsX80 : List Cond := u_ws RX8 TX8 17
theorem nmX8 : ∀ a, a < 17 → ∀ b, b < 17 → a ≠ b → (TX8 a).2.1 ≠ (TX8 b).2.1 := by decide +kernel
theorem tyX8_ok : ∀ k, k < 17 → parseFieldDescriptor (TX8 k).2.2.1 = some (tyX8 k) := by decide +kernel
abbrev cX8_init : ByteArray := prog_10_method_1_code
def yX8_init : MethodName := ⟨RX8, "<init>", "()V"⟩
abbrev cX8_thrown : ByteArray := prog_10_method_2_code
def yX8_thrown : MethodName := ⟨RX8, "thrown", "()I"⟩
abbrev cX8_in : ByteArray := prog_10_method_3_code
def yX8_in : MethodName := ⟨RX8, "in", "(III)Z"⟩
abbrev cX8_goes : ByteArray := prog_10_method_4_code
def yX8_goes : MethodName := ⟨RX8, "goes", "(ZZ)Z"⟩
abbrev cX8_isGraph : ByteArray := prog_10_method_5_code
def yX8_isGraph : MethodName := ⟨RX8, "isGraph", "(I)Z"⟩
abbrev cX8_isVertex : ByteArray := prog_10_method_6_code
def yX8_isVertex : MethodName := ⟨RX8, "isVertex", "(II)Z"⟩
abbrev cX8_areVertices : ByteArray := prog_10_method_7_code
def yX8_areVertices : MethodName := ⟨RX8, "areVertices", "(III)Z"⟩
abbrev cX8_hasEdge : ByteArray := prog_10_method_8_code
def yX8_hasEdge : MethodName := ⟨RX8, "hasEdge", "(III)Z"⟩
abbrev cX8_countEdges : ByteArray := prog_10_method_9_code
def yX8_countEdges : MethodName := ⟨RX8, "countEdges", "(I)I"⟩
abbrev cX8_begin : ByteArray := prog_10_method_10_code
def yX8_begin : MethodName := ⟨RX8, "begin", "(II)I"⟩
abbrev cX8_toggle : ByteArray := prog_10_method_11_code
def yX8_toggle : MethodName := ⟨RX8, "toggle", "(III)Z"⟩
abbrev cX8_setColour : ByteArray := prog_10_method_12_code
def yX8_setColour : MethodName := ⟨RX8, "setColour", "(III)I"⟩
abbrev cX8_swapped : ByteArray := prog_10_method_13_code
def yX8_swapped : MethodName := ⟨RX8, "swapped", "(III)I"⟩
abbrev cX8_swap : ByteArray := prog_10_method_14_code
def yX8_swap : MethodName := ⟨RX8, "swap", "(III)V"⟩
abbrev cX8_copy : ByteArray := prog_10_method_15_code
def yX8_copy : MethodName := ⟨RX8, "copy", "(II)V"⟩
abbrev cX8_complement : ByteArray := prog_10_method_16_code
def yX8_complement : MethodName := ⟨RX8, "complement", "(I)I"⟩
abbrev cX8_size : ByteArray := prog_10_method_17_code
def yX8_size : MethodName := ⟨RX8, "size", "(I)I"⟩
abbrev cX8_edges : ByteArray := prog_10_method_18_code
def yX8_edges : MethodName := ⟨RX8, "edges", "(I)I"⟩
abbrev cX8_neighbours : ByteArray := prog_10_method_19_code
def yX8_neighbours : MethodName := ⟨RX8, "neighbours", "(II)I"⟩
abbrev cX8_colour : ByteArray := prog_10_method_20_code
def yX8_colour : MethodName := ⟨RX8, "colour", "(II)I"⟩
abbrev cX8_bits : ByteArray := prog_10_method_21_code
def yX8_bits : MethodName := ⟨RX8, "bits", "(I)I"⟩
abbrev cX8_neighboursIn : ByteArray := prog_10_method_22_code
def yX8_neighboursIn : MethodName := ⟨RX8, "neighboursIn", "(III)I"⟩
abbrev cX8_compares : ByteArray := prog_10_method_23_code
def yX8_compares : MethodName := ⟨RX8, "compares", "(IIIZ)I"⟩
abbrev cX8_sorts : ByteArray := prog_10_method_24_code
def yX8_sorts : MethodName := ⟨RX8, "sorts", "(IZ)I"⟩
abbrev cX8_refines : ByteArray := prog_10_method_25_code
def yX8_refines : MethodName := ⟨RX8, "refines", "(I)I"⟩
abbrev cX8_classes : ByteArray := prog_10_method_26_code
def yX8_classes : MethodName := ⟨RX8, "classes", "(I)I"⟩
abbrev cX8_classOf : ByteArray := prog_10_method_27_code
def yX8_classOf : MethodName := ⟨RX8, "classOf", "(II)I"⟩
abbrev cX8_rounds : ByteArray := prog_10_method_28_code
def yX8_rounds : MethodName := ⟨RX8, "rounds", "(I)I"⟩
abbrev cX8_beginsMaps : ByteArray := prog_10_method_29_code
def yX8_beginsMaps : MethodName := ⟨RX8, "beginsMaps", "(I)V"⟩
abbrev cX8_nextMap : ByteArray := prog_10_method_30_code
def yX8_nextMap : MethodName := ⟨RX8, "nextMap", "(I)Z"⟩
abbrev cX8_bitOf : ByteArray := prog_10_method_31_code
def yX8_bitOf : MethodName := ⟨RX8, "bitOf", "(II)I"⟩
abbrev cX8_codeOf : ByteArray := prog_10_method_32_code
def yX8_codeOf : MethodName := ⟨RX8, "codeOf", "(I)J"⟩
abbrev cX8_formOf : ByteArray := prog_10_method_33_code
def yX8_formOf : MethodName := ⟨RX8, "formOf", "(I)J"⟩
abbrev cX8_form : ByteArray := prog_10_method_34_code
def yX8_form : MethodName := ⟨RX8, "form", "(I)J"⟩
abbrev cX8_placeOf : ByteArray := prog_10_method_35_code
def yX8_placeOf : MethodName := ⟨RX8, "placeOf", "(II)I"⟩
abbrev cX8_keeps : ByteArray := prog_10_method_36_code
def yX8_keeps : MethodName := ⟨RX8, "keeps", "(II)Z"⟩
abbrev cX8_chooses : ByteArray := prog_10_method_37_code
def yX8_chooses : MethodName := ⟨RX8, "chooses", "(I)I"⟩
abbrev cX8_isMapped : ByteArray := prog_10_method_38_code
def yX8_isMapped : MethodName := ⟨RX8, "isMapped", "(II)Z"⟩
abbrev cX8_alike : ByteArray := prog_10_method_39_code
def yX8_alike : MethodName := ⟨RX8, "alike", "(II)Z"⟩
abbrev cX8_areAlike : ByteArray := prog_10_method_40_code
def yX8_areAlike : MethodName := ⟨RX8, "areAlike", "(II)Z"⟩
abbrev cX8_image : ByteArray := prog_10_method_41_code
def yX8_image : MethodName := ⟨RX8, "image", "(III)I"⟩
abbrev cX8_copies : ByteArray := prog_10_method_42_code
def yX8_copies : MethodName := ⟨RX8, "copies", "(II)I"⟩
abbrev cX8_turns : ByteArray := prog_10_method_43_code
def yX8_turns : MethodName := ⟨RX8, "turns", "(I)I"⟩
abbrev cX8_symmetries : ByteArray := prog_10_method_44_code
def yX8_symmetries : MethodName := ⟨RX8, "symmetries", "(I)I"⟩
abbrev cX8_orbits : ByteArray := prog_10_method_45_code
def yX8_orbits : MethodName := ⟨RX8, "orbits", "(I)I"⟩
abbrev cX8_orbit : ByteArray := prog_10_method_46_code
def yX8_orbit : MethodName := ⟨RX8, "orbit", "(II)I"⟩
abbrev cX8_isPermutation : ByteArray := prog_10_method_47_code
def yX8_isPermutation : MethodName := ⟨RX8, "isPermutation", "(J)Z"⟩
abbrev cX8_numbered : ByteArray := prog_10_method_48_code
def yX8_numbered : MethodName := ⟨RX8, "numbered", "()I"⟩
abbrev cX8_images : ByteArray := prog_10_method_49_code
def yX8_images : MethodName := ⟨RX8, "images", "(J)V"⟩
abbrev cX8_finds : ByteArray := prog_10_method_50_code
def yX8_finds : MethodName := ⟨RX8, "finds", "()V"⟩
abbrev cX8_closes : ByteArray := prog_10_method_51_code
def yX8_closes : MethodName := ⟨RX8, "closes", "()V"⟩
abbrev cX8_addGenerator : ByteArray := prog_10_method_52_code
def yX8_addGenerator : MethodName := ⟨RX8, "addGenerator", "(J)I"⟩
abbrev cX8_forgetGenerators : ByteArray := prog_10_method_53_code
def yX8_forgetGenerators : MethodName := ⟨RX8, "forgetGenerators", "()I"⟩
abbrev cX8_order : ByteArray := prog_10_method_54_code
def yX8_order : MethodName := ⟨RX8, "order", "()I"⟩
abbrev cX8_isInGroup : ByteArray := prog_10_method_55_code
def yX8_isInGroup : MethodName := ⟨RX8, "isInGroup", "(J)Z"⟩
abbrev cX8_moves : ByteArray := prog_10_method_56_code
def yX8_moves : MethodName := ⟨RX8, "moves", "(I)I"⟩
abbrev cX8_fixing : ByteArray := prog_10_method_57_code
def yX8_fixing : MethodName := ⟨RX8, "fixing", "(I)I"⟩
def RJx145de : String := "java/io/Serializable"
def TJx145de : u_T := fun k => match k with
  | _ => ("", "", "", false)
def tyJx145de : Nat → FieldType := fun k => match k with
  | _ => .int
abbrev wsJx145de0 : List Cond := u_ws RJx145de TJx145de 0
theorem nmJx145de : ∀ a, a < 0 → ∀ b, b < 0 → a ≠ b → (TJx145de a).2.1 ≠ (TJx145de b).2.1 := by decide +kernel
theorem tyJx145de_ok : ∀ k, k < 0 → parseFieldDescriptor (TJx145de k).2.2.1 = some (tyJx145de k) := by decide +kernel
def RJ6 : String := "java/lang/Integer"
def TJ6 : u_T := fun k => match k with
  | _ => ("", "", "", false)
def tyJ6 : Nat → FieldType := fun k => match k with
  | _ => .int
abbrev wsJ60 : List Cond := u_ws RJ6 TJ6 0
theorem nmJ6 : ∀ a, a < 0 → ∀ b, b < 0 → a ≠ b → (TJ6 a).2.1 ≠ (TJ6 b).2.1 := by decide +kernel
theorem tyJ6_ok : ∀ k, k < 0 → parseFieldDescriptor (TJ6 k).2.2.1 = some (tyJ6 k) := by decide +kernel
abbrev cJ6_bitCount_0f7a4 : ByteArray := prog_15_method_49_code
def yJ6_bitCount_0f7a4 : MethodName := ⟨RJ6, "bitCount", "(I)I"⟩
def RJ9 : String := "java/lang/Math"
def TJ9 : u_T := fun k => match k with
  | _ => ("", "", "", false)
def tyJ9 : Nat → FieldType := fun k => match k with
  | _ => .int
abbrev wsJ90 : List Cond := u_ws RJ9 TJ9 0
theorem nmJ9 : ∀ a, a < 0 → ∀ b, b < 0 → a ≠ b → (TJ9 a).2.1 ≠ (TJ9 b).2.1 := by decide +kernel
theorem tyJ9_ok : ∀ k, k < 0 → parseFieldDescriptor (TJ9 k).2.2.1 = some (tyJ9 k) := by decide +kernel
abbrev cJ9_min_7cf53 : ByteArray := prog_16_method_69_code
def yJ9_min_7cf53 : MethodName := ⟨RJ9, "min", "(II)I"⟩
def RJ0 : String := "java/lang/String"
def TJ0 : u_T := fun k => match k with
  | _ => ("", "", "", false)
def tyJ0 : Nat → FieldType := fun k => match k with
  | _ => .int
abbrev wsJ00 : List Cond := u_ws RJ0 TJ0 0
theorem nmJ0 : ∀ a, a < 0 → ∀ b, b < 0 → a ≠ b → (TJ0 a).2.1 ≠ (TJ0 b).2.1 := by decide +kernel
theorem tyJ0_ok : ∀ k, k < 0 → parseFieldDescriptor (TJ0 k).2.2.1 = some (tyJ0 k) := by decide +kernel
def RJ7 : String := "java/util/Arrays"
def TJ7 : u_T := fun k => match k with
  | _ => ("", "", "", false)
def tyJ7 : Nat → FieldType := fun k => match k with
  | _ => .int
abbrev wsJ70 : List Cond := u_ws RJ7 TJ7 0
theorem nmJ7 : ∀ a, a < 0 → ∀ b, b < 0 → a ≠ b → (TJ7 a).2.1 ≠ (TJ7 b).2.1 := by decide +kernel
theorem tyJ7_ok : ∀ k, k < 0 → parseFieldDescriptor (TJ7 k).2.2.1 = some (tyJ7 k) := by decide +kernel
abbrev cJ7_fill_d0a16 : ByteArray := prog_20_method_101_code
def yJ7_fill_d0a16 : MethodName := ⟨RJ7, "fill", "([JJ)V"⟩
abbrev cJ7_fill_53178 : ByteArray := prog_20_method_103_code
def yJ7_fill_53178 : MethodName := ⟨RJ7, "fill", "([II)V"⟩
def RL : String := "CanonCoteLaw"
abbrev cL_begin : ByteArray := method_3_code
def yL_begin : MethodName := ⟨RL, "begin", "(LCanonCote;II[J)I"⟩
abbrev cL_toggle : ByteArray := method_4_code
def yL_toggle : MethodName := ⟨RL, "toggle", "(LCanonCote;III[J)I"⟩
abbrev cL_setColour : ByteArray := method_5_code
def yL_setColour : MethodName := ⟨RL, "setColour", "(LCanonCote;III[J)I"⟩
abbrev cL_swap : ByteArray := method_6_code
def yL_swap : MethodName := ⟨RL, "swap", "(LCanonCote;III)I"⟩
abbrev cL_copy : ByteArray := method_7_code
def yL_copy : MethodName := ⟨RL, "copy", "(LCanonCote;II)I"⟩
abbrev cL_complement : ByteArray := method_8_code
def yL_complement : MethodName := ⟨RL, "complement", "(LCanonCote;I[J)I"⟩
abbrev cL_size : ByteArray := method_9_code
def yL_size : MethodName := ⟨RL, "size", "(LCanonCote;I[J)I"⟩
abbrev cL_edges : ByteArray := method_10_code
def yL_edges : MethodName := ⟨RL, "edges", "(LCanonCote;I[J)I"⟩
abbrev cL_neighbours : ByteArray := method_11_code
def yL_neighbours : MethodName := ⟨RL, "neighbours", "(LCanonCote;II[J)I"⟩
abbrev cL_colour : ByteArray := method_12_code
def yL_colour : MethodName := ⟨RL, "colour", "(LCanonCote;II[J)I"⟩
abbrev cL_classes : ByteArray := method_13_code
def yL_classes : MethodName := ⟨RL, "classes", "(LCanonCote;I[J)I"⟩
abbrev cL_classOf : ByteArray := method_14_code
def yL_classOf : MethodName := ⟨RL, "classOf", "(LCanonCote;II[J)I"⟩
abbrev cL_rounds : ByteArray := method_15_code
def yL_rounds : MethodName := ⟨RL, "rounds", "(LCanonCote;I[J)I"⟩
abbrev cL_form : ByteArray := method_16_code
def yL_form : MethodName := ⟨RL, "form", "(LCanonCote;I[J)I"⟩
abbrev cL_placeOf : ByteArray := method_17_code
def yL_placeOf : MethodName := ⟨RL, "placeOf", "(LCanonCote;II[J)I"⟩
abbrev cL_areAlike : ByteArray := method_18_code
def yL_areAlike : MethodName := ⟨RL, "areAlike", "(LCanonCote;II[J)I"⟩
abbrev cL_image : ByteArray := method_19_code
def yL_image : MethodName := ⟨RL, "image", "(LCanonCote;III[J)I"⟩
abbrev cL_copies : ByteArray := method_20_code
def yL_copies : MethodName := ⟨RL, "copies", "(LCanonCote;II[J)I"⟩
abbrev cL_symmetries : ByteArray := method_21_code
def yL_symmetries : MethodName := ⟨RL, "symmetries", "(LCanonCote;I[J)I"⟩
abbrev cL_orbits : ByteArray := method_22_code
def yL_orbits : MethodName := ⟨RL, "orbits", "(LCanonCote;I[J)I"⟩
abbrev cL_orbit : ByteArray := method_23_code
def yL_orbit : MethodName := ⟨RL, "orbit", "(LCanonCote;II[J)I"⟩
abbrev cL_addGenerator : ByteArray := method_24_code
def yL_addGenerator : MethodName := ⟨RL, "addGenerator", "(LCanonCote;J[J)I"⟩
abbrev cL_isInGroup : ByteArray := method_25_code
def yL_isInGroup : MethodName := ⟨RL, "isInGroup", "(LCanonCote;J[J)I"⟩
abbrev cL_moves : ByteArray := method_26_code
def yL_moves : MethodName := ⟨RL, "moves", "(LCanonCote;I[J)I"⟩
abbrev cL_fixing : ByteArray := method_27_code
def yL_fixing : MethodName := ⟨RL, "fixing", "(LCanonCote;I[J)I"⟩
abbrev cL_law : ByteArray := code
def yL_law : MethodName := ⟨RL, "law", "([I)Z"⟩
def wsX0_init : List Cond := .code yX0_init cX0_init 1 none :: ([.methodLink RX0 3 objectInit, .instanceMethod objectInit, .code objectInit ⟨#[0xb1]⟩ 1 none, .arrayClass .int, .fieldLink RX0 9 "CanonCote$Arranging" "twins" "[I", .fieldLink RX0 15 "CanonCote$Arranging" "cells" "[I", .fieldLink RX0 18 "CanonCote$Arranging" "vertexAt" "[I", .fieldLink RX0 21 "CanonCote$Arranging" "seenAt" "[I"] ++ wsX00)
def wsX2_areTwins : List Cond := .code yX2_areTwins cX2_areTwins 4 (some .boolean) :: ([.fieldLink RX2 19 "CanonCote$Graph" "colours" "[I", .fieldLink RX2 15 "CanonCote$Graph" "near" "[I"] ++ wsX20)
def wsX0_findTwins : List Cond := .code yX0_findTwins cX0_findTwins 4 none :: ([.fieldLink RX0 9 "CanonCote$Arranging" "twins" "[I", .instanceMethod yX2_areTwins, .initialized RX2, .selects RX2 yX2_areTwins yX2_areTwins, .code yX2_areTwins cX2_areTwins 4 (some .boolean), .fieldLink RX2 19 "CanonCote$Graph" "colours" "[I", .fieldLink RX2 15 "CanonCote$Graph" "near" "[I"] ++ wsX20 ++ wsX00)
def wsJ6_bitCount_0f7a4 : List Cond := .code yJ6_bitCount_0f7a4 cJ6_bitCount_0f7a4 1 (some .int) :: ([.constant RJ6 265 (1431655765), .constant RJ6 266 (858993459), .constant RJ6 267 (252645135)])
def wsX0_shareOutByColours : List Cond := .code yX0_shareOutByColours cX0_shareOutByColours 6 none :: ([.fieldLink RX0 15 "CanonCote$Arranging" "cells" "[I", .methodLink RX0 54 yJ6_bitCount_0f7a4, .static yJ6_bitCount_0f7a4, .initialized RJ6, .code yJ6_bitCount_0f7a4 cJ6_bitCount_0f7a4 1 (some .int), .constant RJ6 265 (1431655765), .constant RJ6 266 (858993459), .constant RJ6 267 (252645135)] ++ wsX20 ++ wsX00)
def wsJ7_fill_53178 : List Cond := .code yJ7_fill_53178 cJ7_fill_53178 4 none :: ([])
def wsX0_shiftOf : List Cond := .code yX0_shiftOf cX0_shiftOf 1 (some .int) :: ([])
def wsX0_meet : List Cond := .code yX0_meet cX0_meet 6 none :: ([.fieldLink RX0 34 "CanonCote$Arranging" "leastEdges" "I", .constant RX0 33 (2147483647), .fieldLink RX0 75 "CanonCote$Arranging" "leastPlaces" "I", .fieldLink RX0 78 "CanonCote$Arranging" "met" "I", .fieldLink RX0 21 "CanonCote$Arranging" "seenAt" "[I", .fieldLink RX0 18 "CanonCote$Arranging" "vertexAt" "[I", .fieldLink RX0 9 "CanonCote$Arranging" "twins" "[I", .methodLink RX0 90 Lib.Math.min.name, .static Lib.Math.min.name, .initialized "java/lang/Math", .code Lib.Math.min.name Lib.Math.min.code 2 (some .int), .methodLink RX0 81 yJ7_fill_53178, .static yJ7_fill_53178, .initialized RJ7, .code yJ7_fill_53178 cJ7_fill_53178 4 none, .methodLink RX0 87 yX0_shiftOf, .static yX0_shiftOf, .initialized RX0, .code yX0_shiftOf cX0_shiftOf 1 (some .int)] ++ wsX00)
def wsX7_below : List Cond := .code yX7_below cX7_below 1 (some .int) :: ([])
def wsX0_splitCells : List Cond := .code yX0_splitCells cX0_splitCells 11 (some .int) :: ([.fieldLink RX0 15 "CanonCote$Arranging" "cells" "[I", .methodLink RX0 54 yJ6_bitCount_0f7a4, .static yJ6_bitCount_0f7a4, .initialized RJ6, .code yJ6_bitCount_0f7a4 cJ6_bitCount_0f7a4 1 (some .int), .constant RJ6 265 (1431655765), .constant RJ6 266 (858993459), .constant RJ6 267 (252645135)] ++ wsX20 ++ wsX00)
def wsX0_arrange_r1 : List Cond := [Cond.fieldLink RX0 15 "CanonCote$Arranging" "cells" "[I", Cond.fieldLink RX0 62 "CanonCote$Arranging" "LOWEST_EDGE_BIT" "[I", Cond.fieldLink RX0 9 "CanonCote$Arranging" "twins" "[I", Cond.fieldLink RX0 18 "CanonCote$Arranging" "vertexAt" "[I", Cond.fieldLink RX0 34 "CanonCote$Arranging" "leastEdges" "I", Cond.methodLink RX0 58 yX0_meet, Cond.instanceMethod yX0_meet, Cond.selects RX0 yX0_meet yX0_meet, Cond.initialized RX0, Cond.code yX0_meet cX0_meet 6 none, Cond.constant RX0 33 (2147483647), Cond.fieldLink RX0 75 "CanonCote$Arranging" "leastPlaces" "I", Cond.fieldLink RX0 78 "CanonCote$Arranging" "met" "I", Cond.fieldLink RX0 21 "CanonCote$Arranging" "seenAt" "[I", Cond.methodLink RX0 90 Lib.Math.min.name, Cond.static Lib.Math.min.name, Cond.initialized "java/lang/Math", Cond.code Lib.Math.min.name Lib.Math.min.code 2 (some .int), Cond.methodLink RX0 81 yJ7_fill_53178, Cond.static yJ7_fill_53178, Cond.initialized RJ7, Cond.code yJ7_fill_53178 cJ7_fill_53178 4 none, Cond.methodLink RX0 87 yX0_shiftOf, Cond.static yX0_shiftOf]
def wsX0_arrange_r2 : List Cond := [Cond.code yX0_shiftOf cX0_shiftOf 1 (some .int), Cond.static yX7_below, Cond.initialized RX7, Cond.code yX7_below cX7_below 1 (some .int), Cond.methodLink RX0 68 yX0_splitCells, Cond.instanceMethod yX0_splitCells, Cond.selects RX0 yX0_splitCells yX0_splitCells, Cond.code yX0_splitCells cX0_splitCells 11 (some .int), Cond.methodLink RX0 54 yJ6_bitCount_0f7a4, Cond.static yJ6_bitCount_0f7a4, Cond.initialized RJ6, Cond.code yJ6_bitCount_0f7a4 cJ6_bitCount_0f7a4 1 (some .int), Cond.constant RJ6 265 (1431655765), Cond.constant RJ6 266 (858993459), Cond.constant RJ6 267 (252645135), Cond.methodLink RX0 38 yX0_arrange, Cond.static yX0_arrange]
def wsX0_arrange : List Cond := .code yX0_arrange cX0_arrange 8 none :: ((wsX0_arrange_r1 ++ wsX0_arrange_r2) ++ wsX20 ++ wsX00)
def wsX0_search_r1 : List Cond := [Cond.constant RX0 33 (2147483647), Cond.fieldLink RX0 34 "CanonCote$Arranging" "leastEdges" "I", Cond.methodLink RX0 24 yX0_findTwins, Cond.instanceMethod yX0_findTwins, Cond.selects RX0 yX0_findTwins yX0_findTwins, Cond.initialized RX0, Cond.code yX0_findTwins cX0_findTwins 4 none, Cond.fieldLink RX0 9 "CanonCote$Arranging" "twins" "[I", Cond.instanceMethod yX2_areTwins, Cond.initialized RX2, Cond.selects RX2 yX2_areTwins yX2_areTwins, Cond.code yX2_areTwins cX2_areTwins 4 (some .boolean), Cond.fieldLink RX2 19 "CanonCote$Graph" "colours" "[I", Cond.fieldLink RX2 15 "CanonCote$Graph" "near" "[I", Cond.methodLink RX0 28 yX0_shareOutByColours, Cond.instanceMethod yX0_shareOutByColours, Cond.selects RX0 yX0_shareOutByColours yX0_shareOutByColours, Cond.code yX0_shareOutByColours cX0_shareOutByColours 6 none, Cond.fieldLink RX0 15 "CanonCote$Arranging" "cells" "[I", Cond.methodLink RX0 54 yJ6_bitCount_0f7a4, Cond.static yJ6_bitCount_0f7a4, Cond.initialized RJ6, Cond.code yJ6_bitCount_0f7a4 cJ6_bitCount_0f7a4 1 (some .int), Cond.constant RJ6 265 (1431655765)]
def wsX0_search_r2 : List Cond := [Cond.constant RJ6 266 (858993459), Cond.constant RJ6 267 (252645135), Cond.methodLink RX0 38 yX0_arrange, Cond.static yX0_arrange, Cond.code yX0_arrange cX0_arrange 8 none, Cond.fieldLink RX0 62 "CanonCote$Arranging" "LOWEST_EDGE_BIT" "[I", Cond.fieldLink RX0 18 "CanonCote$Arranging" "vertexAt" "[I", Cond.methodLink RX0 58 yX0_meet, Cond.instanceMethod yX0_meet, Cond.selects RX0 yX0_meet yX0_meet, Cond.code yX0_meet cX0_meet 6 none, Cond.fieldLink RX0 75 "CanonCote$Arranging" "leastPlaces" "I", Cond.fieldLink RX0 78 "CanonCote$Arranging" "met" "I", Cond.fieldLink RX0 21 "CanonCote$Arranging" "seenAt" "[I", Cond.methodLink RX0 90 Lib.Math.min.name, Cond.static Lib.Math.min.name, Cond.initialized "java/lang/Math", Cond.code Lib.Math.min.name Lib.Math.min.code 2 (some .int), Cond.methodLink RX0 81 yJ7_fill_53178, Cond.static yJ7_fill_53178, Cond.initialized RJ7, Cond.code yJ7_fill_53178 cJ7_fill_53178 4 none, Cond.methodLink RX0 87 yX0_shiftOf, Cond.static yX0_shiftOf]
def wsX0_search_r3 : List Cond := [Cond.code yX0_shiftOf cX0_shiftOf 1 (some .int), Cond.static yX7_below, Cond.initialized RX7, Cond.code yX7_below cX7_below 1 (some .int), Cond.methodLink RX0 68 yX0_splitCells, Cond.instanceMethod yX0_splitCells, Cond.selects RX0 yX0_splitCells yX0_splitCells, Cond.code yX0_splitCells cX0_splitCells 11 (some .int)]
def wsX0_search : List Cond := .code yX0_search cX0_search 2 none :: ((wsX0_search_r1 ++ (wsX0_search_r2 ++ wsX0_search_r3)) ++ wsX00 ++ wsX20)
def wsX0_bestPlace : List Cond := .code yX0_bestPlace cX0_bestPlace 2 (some .int) :: ([.fieldLink RX0 75 "CanonCote$Arranging" "leastPlaces" "I", .methodLink RX0 87 yX0_shiftOf, .static yX0_shiftOf, .initialized RX0, .code yX0_shiftOf cX0_shiftOf 1 (some .int)] ++ wsX00)
def wsX0_leastCode : List Cond := .code yX0_leastCode cX0_leastCode 6 (some .long) :: ([.fieldLink RX0 34 "CanonCote$Arranging" "leastEdges" "I", .methodLink RX0 96 yX0_bestPlace, .instanceMethod yX0_bestPlace, .selects RX0 yX0_bestPlace yX0_bestPlace, .initialized RX0, .code yX0_bestPlace cX0_bestPlace 2 (some .int), .fieldLink RX0 75 "CanonCote$Arranging" "leastPlaces" "I", .methodLink RX0 87 yX0_shiftOf, .static yX0_shiftOf, .code yX0_shiftOf cX0_shiftOf 1 (some .int)] ++ wsX20 ++ wsX00)
def wsX0_countBest : List Cond := .code yX0_countBest cX0_countBest 4 (some .int) :: ([.fieldLink RX0 78 "CanonCote$Arranging" "met" "I", .fieldLink RX0 9 "CanonCote$Arranging" "twins" "[I", .static yX7_below, .initialized RX7, .code yX7_below cX7_below 1 (some .int), .methodLink RX0 54 yJ6_bitCount_0f7a4, .static yJ6_bitCount_0f7a4, .initialized RJ6, .code yJ6_bitCount_0f7a4 cJ6_bitCount_0f7a4 1 (some .int), .constant RJ6 265 (1431655765), .constant RJ6 266 (858993459), .constant RJ6 267 (252645135)] ++ wsX00)
def wsX0_exchangeable : List Cond := .code yX0_exchangeable cX0_exchangeable 2 (some .int) :: ([.fieldLink RX0 21 "CanonCote$Arranging" "seenAt" "[I", .methodLink RX0 96 yX0_bestPlace, .instanceMethod yX0_bestPlace, .selects RX0 yX0_bestPlace yX0_bestPlace, .initialized RX0, .code yX0_bestPlace cX0_bestPlace 2 (some .int), .fieldLink RX0 75 "CanonCote$Arranging" "leastPlaces" "I", .methodLink RX0 87 yX0_shiftOf, .static yX0_shiftOf, .code yX0_shiftOf cX0_shiftOf 1 (some .int)] ++ wsX00)
def wsX1_init : List Cond := .code yX1_init cX1_init 1 none :: ([.methodLink RX1 3 objectInit, .instanceMethod objectInit, .code objectInit ⟨#[0xb1]⟩ 1 none, .arrayClass .int, .fieldLink RX1 9 "CanonCote$Chain" "base" "[I", .arrayClass .long, .fieldLink RX1 15 "CanonCote$Chain" "kept" "[J", .fieldLink RX1 19 "CanonCote$Chain" "back" "[J"] ++ wsX10)
def wsJ7_fill_d0a16 : List Cond := .code yJ7_fill_d0a16 cJ7_fill_d0a16 5 none :: ([])
def wsX7_isIn : List Cond := .code yX7_isIn cX7_isIn 2 (some .boolean) :: ([])
def wsX1_restart : List Cond := .code yX1_restart cX1_restart 6 none :: ([.fieldLink RX1 22 "CanonCote$Chain" "keptCount" "I", .fieldLink RX1 26 "CanonCote$Chain" "closedCount" "I", .fieldLink RX1 19 "CanonCote$Chain" "back" "[J", .fieldLink RX1 9 "CanonCote$Chain" "base" "[I", .constantLong RX1 47 (1985229328), .fieldLink RX1 49 "CanonCote$Chain" "members" "I", .methodLink RX1 29 yJ7_fill_d0a16, .static yJ7_fill_d0a16, .initialized RJ7, .code yJ7_fill_d0a16 cJ7_fill_d0a16 5 none, .methodLink RX1 35 yJ6_bitCount_0f7a4, .static yJ6_bitCount_0f7a4, .initialized RJ6, .code yJ6_bitCount_0f7a4 cJ6_bitCount_0f7a4 1 (some .int), .constant RJ6 265 (1431655765), .constant RJ6 266 (858993459), .constant RJ6 267 (252645135), .static yX7_isIn, .initialized RX7, .code yX7_isIn cX7_isIn 2 (some .boolean)] ++ wsX10)
def wsX5_imageOf : List Cond := .code yX5_imageOf cX5_imageOf 3 (some .int) :: ([])
def wsX5_carrying : List Cond := .code yX5_carrying cX5_carrying 2 (some .long) :: ([])
def wsX5_oneThenOther : List Cond := .code yX5_oneThenOther cX5_oneThenOther 7 (some .long) :: ([.methodLink RX5 13 yX5_imageOf, .static yX5_imageOf, .initialized RX5, .code yX5_imageOf cX5_imageOf 3 (some .int), .methodLink RX5 17 yX5_carrying, .static yX5_carrying, .code yX5_carrying cX5_carrying 2 (some .long)])
def wsX1_restOf : List Cond := .code yX1_restOf cX1_restOf 9 (some .long) :: ([.fieldLink RX1 9 "CanonCote$Chain" "base" "[I", .fieldLink RX1 19 "CanonCote$Chain" "back" "[J", .static yX5_imageOf, .initialized RX5, .code yX5_imageOf cX5_imageOf 3 (some .int), .static yX5_oneThenOther, .code yX5_oneThenOther cX5_oneThenOther 7 (some .long), .methodLink RX5 13 yX5_imageOf, .methodLink RX5 17 yX5_carrying, .static yX5_carrying, .code yX5_carrying cX5_carrying 2 (some .long)] ++ wsX10)
def wsX1_firstMoved : List Cond := .code yX1_firstMoved cX1_firstMoved 4 (some .int) :: ([.fieldLink RX1 9 "CanonCote$Chain" "base" "[I", .static yX5_imageOf, .initialized RX5, .code yX5_imageOf cX5_imageOf 3 (some .int)] ++ wsX10)
def wsX5_inverse : List Cond := .code yX5_inverse cX5_inverse 5 (some .long) :: ([.methodLink RX5 13 yX5_imageOf, .static yX5_imageOf, .initialized RX5, .code yX5_imageOf cX5_imageOf 3 (some .int), .methodLink RX5 17 yX5_carrying, .static yX5_carrying, .code yX5_carrying cX5_carrying 2 (some .long)])
def wsX1_countFrom : List Cond := .code yX1_countFrom cX1_countFrom 6 (some .int) :: ([.fieldLink RX1 19 "CanonCote$Chain" "back" "[J"] ++ wsX10)
def wsX1_keep_r1 : List Cond := [Cond.constantLong RX1 47 (1985229328), Cond.fieldLink RX1 22 "CanonCote$Chain" "keptCount" "I", Cond.fieldLink RX1 15 "CanonCote$Chain" "kept" "[J", Cond.fieldLink RX1 9 "CanonCote$Chain" "base" "[I", Cond.fieldLink RX1 19 "CanonCote$Chain" "back" "[J", Cond.fieldLink RX1 49 "CanonCote$Chain" "members" "I", Cond.methodLink RX1 60 yX1_restOf, Cond.instanceMethod yX1_restOf, Cond.selects RX1 yX1_restOf yX1_restOf, Cond.initialized RX1, Cond.code yX1_restOf cX1_restOf 9 (some .long), Cond.static yX5_imageOf, Cond.initialized RX5, Cond.code yX5_imageOf cX5_imageOf 3 (some .int), Cond.static yX5_oneThenOther, Cond.code yX5_oneThenOther cX5_oneThenOther 7 (some .long), Cond.methodLink RX5 13 yX5_imageOf, Cond.methodLink RX5 17 yX5_carrying, Cond.static yX5_carrying, Cond.code yX5_carrying cX5_carrying 2 (some .long), Cond.methodLink RX1 64 yX1_firstMoved, Cond.instanceMethod yX1_firstMoved, Cond.selects RX1 yX1_firstMoved yX1_firstMoved, Cond.code yX1_firstMoved cX1_firstMoved 4 (some .int)]
def wsX1_keep_r2 : List Cond := [Cond.static yX5_inverse, Cond.code yX5_inverse cX5_inverse 5 (some .long), Cond.methodLink RX1 75 yX1_countFrom, Cond.instanceMethod yX1_countFrom, Cond.selects RX1 yX1_countFrom yX1_countFrom, Cond.code yX1_countFrom cX1_countFrom 6 (some .int)]
def wsX1_keep : List Cond := .code yX1_keep cX1_keep 7 none :: ((wsX1_keep_r1 ++ wsX1_keep_r2) ++ wsX10)
def wsX1_add_r1 : List Cond := [Cond.fieldLink RX1 26 "CanonCote$Chain" "closedCount" "I", Cond.fieldLink RX1 22 "CanonCote$Chain" "keptCount" "I", Cond.fieldLink RX1 49 "CanonCote$Chain" "members" "I", Cond.fieldLink RX1 15 "CanonCote$Chain" "kept" "[J", Cond.methodLink RX1 52 yX1_keep, Cond.instanceMethod yX1_keep, Cond.selects RX1 yX1_keep yX1_keep, Cond.initialized RX1, Cond.code yX1_keep cX1_keep 7 none, Cond.constantLong RX1 47 (1985229328), Cond.fieldLink RX1 9 "CanonCote$Chain" "base" "[I", Cond.fieldLink RX1 19 "CanonCote$Chain" "back" "[J", Cond.methodLink RX1 60 yX1_restOf, Cond.instanceMethod yX1_restOf, Cond.selects RX1 yX1_restOf yX1_restOf, Cond.code yX1_restOf cX1_restOf 9 (some .long), Cond.static yX5_imageOf, Cond.initialized RX5, Cond.code yX5_imageOf cX5_imageOf 3 (some .int), Cond.static yX5_oneThenOther, Cond.code yX5_oneThenOther cX5_oneThenOther 7 (some .long), Cond.methodLink RX5 13 yX5_imageOf, Cond.methodLink RX5 17 yX5_carrying, Cond.static yX5_carrying]
def wsX1_add_r2 : List Cond := [Cond.code yX5_carrying cX5_carrying 2 (some .long), Cond.methodLink RX1 64 yX1_firstMoved, Cond.instanceMethod yX1_firstMoved, Cond.selects RX1 yX1_firstMoved yX1_firstMoved, Cond.code yX1_firstMoved cX1_firstMoved 4 (some .int), Cond.static yX5_inverse, Cond.code yX5_inverse cX5_inverse 5 (some .long), Cond.methodLink RX1 75 yX1_countFrom, Cond.instanceMethod yX1_countFrom, Cond.selects RX1 yX1_countFrom yX1_countFrom, Cond.code yX1_countFrom cX1_countFrom 6 (some .int)]
def wsX1_add : List Cond := .code yX1_add cX1_add 6 none :: ((wsX1_add_r1 ++ wsX1_add_r2) ++ wsX10)
def wsX1_holds : List Cond := .code yX1_holds cX1_holds 3 (some .boolean) :: ([.constantLong RX1 47 (1985229328), .methodLink RX1 60 yX1_restOf, .instanceMethod yX1_restOf, .selects RX1 yX1_restOf yX1_restOf, .initialized RX1, .code yX1_restOf cX1_restOf 9 (some .long), .fieldLink RX1 9 "CanonCote$Chain" "base" "[I", .fieldLink RX1 19 "CanonCote$Chain" "back" "[J", .static yX5_imageOf, .initialized RX5, .code yX5_imageOf cX5_imageOf 3 (some .int), .static yX5_oneThenOther, .code yX5_oneThenOther cX5_oneThenOther 7 (some .long), .methodLink RX5 13 yX5_imageOf, .methodLink RX5 17 yX5_carrying, .static yX5_carrying, .code yX5_carrying cX5_carrying 2 (some .long)] ++ wsX10)
def wsX2_init : List Cond := .code yX2_init cX2_init 1 none :: ([.methodLink RX2 3 objectInit, .instanceMethod objectInit, .code objectInit ⟨#[0xb1]⟩ 1 none, .fieldLink RX2 9 "CanonCote$Graph" "size" "I", .arrayClass .int, .fieldLink RX2 15 "CanonCote$Graph" "near" "[I", .fieldLink RX2 19 "CanonCote$Graph" "colours" "[I"] ++ wsX20)
def wsX2_clear : List Cond := .code yX2_clear cX2_clear 2 none :: ([.fieldLink RX2 9 "CanonCote$Graph" "size" "I", .fieldLink RX2 15 "CanonCote$Graph" "near" "[I", .fieldLink RX2 19 "CanonCote$Graph" "colours" "[I", .methodLink RX2 22 yJ7_fill_53178, .static yJ7_fill_53178, .initialized RJ7, .code yJ7_fill_53178 cJ7_fill_53178 4 none] ++ wsX20)
def wsX2_hasEdge : List Cond := .code yX2_hasEdge cX2_hasEdge 3 (some .boolean) :: ([.fieldLink RX2 15 "CanonCote$Graph" "near" "[I", .static yX7_isIn, .initialized RX7, .code yX7_isIn cX7_isIn 2 (some .boolean)] ++ wsX20)
def wsX2_flipEdge : List Cond := .code yX2_flipEdge cX2_flipEdge 3 none :: ([.fieldLink RX2 15 "CanonCote$Graph" "near" "[I"] ++ wsX20)
def wsX2_exchange : List Cond := .code yX2_exchange cX2_exchange 6 none :: ([.fieldLink RX2 19 "CanonCote$Graph" "colours" "[I", .fieldLink RX2 15 "CanonCote$Graph" "near" "[I", .fieldLink RX2 9 "CanonCote$Graph" "size" "I", .static yX7_isIn, .initialized RX7, .code yX7_isIn cX7_isIn 2 (some .boolean)] ++ wsX20)
def wsX2_become : List Cond := .code yX2_become cX2_become 3 none :: ([.fieldLink RX2 9 "CanonCote$Graph" "size" "I", .fieldLink RX2 15 "CanonCote$Graph" "near" "[I", .fieldLink RX2 19 "CanonCote$Graph" "colours" "[I"] ++ wsX20)
def wsX2_invertEdges : List Cond := .code yX2_invertEdges cX2_invertEdges 2 none :: ([.fieldLink RX2 9 "CanonCote$Graph" "size" "I", .fieldLink RX2 15 "CanonCote$Graph" "near" "[I", .static yX7_below, .initialized RX7, .code yX7_below cX7_below 1 (some .int)] ++ wsX20)
def wsX2_countEdges : List Cond := .code yX2_countEdges cX2_countEdges 3 (some .int) :: ([.fieldLink RX2 9 "CanonCote$Graph" "size" "I", .fieldLink RX2 15 "CanonCote$Graph" "near" "[I", .methodLink RX2 36 yJ6_bitCount_0f7a4, .static yJ6_bitCount_0f7a4, .initialized RJ6, .code yJ6_bitCount_0f7a4 cJ6_bitCount_0f7a4 1 (some .int), .constant RJ6 265 (1431655765), .constant RJ6 266 (858993459), .constant RJ6 267 (252645135)] ++ wsX20)
def wsX2_squeeze : List Cond := .code yX2_squeeze cX2_squeeze 5 (some .int) :: ([.static yX7_isIn, .initialized RX7, .code yX7_isIn cX7_isIn 2 (some .boolean)])
def wsX2_becomePart : List Cond := .code yX2_becomePart cX2_becomePart 4 none :: ([.fieldLink RX2 9 "CanonCote$Graph" "size" "I", .fieldLink RX2 19 "CanonCote$Graph" "colours" "[I", .fieldLink RX2 15 "CanonCote$Graph" "near" "[I", .static yX7_isIn, .initialized RX7, .code yX7_isIn cX7_isIn 2 (some .boolean), .methodLink RX2 41 yX2_squeeze, .static yX2_squeeze, .initialized RX2, .code yX2_squeeze cX2_squeeze 5 (some .int)] ++ wsX20)
def wsX3_clear_r1 : List Cond := [Cond.fieldLink RX3 28 "CanonCote$Group" "count" "I", Cond.fieldLink RX3 18 "CanonCote$Group" "chain" "LCanonCote$Chain;", Cond.instanceMethod yX1_restart, Cond.initialized RX1, Cond.selects RX1 yX1_restart yX1_restart, Cond.code yX1_restart cX1_restart 6 none, Cond.fieldLink RX1 22 "CanonCote$Chain" "keptCount" "I", Cond.fieldLink RX1 26 "CanonCote$Chain" "closedCount" "I", Cond.fieldLink RX1 19 "CanonCote$Chain" "back" "[J", Cond.fieldLink RX1 9 "CanonCote$Chain" "base" "[I", Cond.constantLong RX1 47 (1985229328), Cond.fieldLink RX1 49 "CanonCote$Chain" "members" "I", Cond.methodLink RX1 29 yJ7_fill_d0a16, Cond.static yJ7_fill_d0a16, Cond.initialized RJ7, Cond.code yJ7_fill_d0a16 cJ7_fill_d0a16 5 none, Cond.methodLink RX1 35 yJ6_bitCount_0f7a4, Cond.static yJ6_bitCount_0f7a4, Cond.initialized RJ6, Cond.code yJ6_bitCount_0f7a4 cJ6_bitCount_0f7a4 1 (some .int), Cond.constant RJ6 265 (1431655765), Cond.constant RJ6 266 (858993459), Cond.constant RJ6 267 (252645135), Cond.static yX7_isIn]
def wsX3_clear_r2 : List Cond := [Cond.initialized RX7, Cond.code yX7_isIn cX7_isIn 2 (some .boolean)]
def wsX3_clear : List Cond := .code yX3_clear cX3_clear 1 none :: ((wsX3_clear_r1 ++ wsX3_clear_r2) ++ wsX30 ++ wsX10)
def wsX3_init_r1 : List Cond := [Cond.methodLink RX3 3 objectInit, Cond.instanceMethod objectInit, Cond.code objectInit ⟨#[0xb1]⟩ 1 none, Cond.arrayClass .long, Cond.fieldLink RX3 9 "CanonCote$Group" "generators" "[J", Cond.classLink RX3 15 RX1, Cond.instantiable RX1 6, Cond.initialized RX1, Cond.fieldLink RX3 18 "CanonCote$Group" "chain" "LCanonCote$Chain;", Cond.fieldLink RX3 22 "CanonCote$Group" "fixingChain" "LCanonCote$Chain;", Cond.instanceMethod yX1_init, Cond.code yX1_init cX1_init 1 none, Cond.methodLink RX1 3 objectInit, Cond.arrayClass .int, Cond.fieldLink RX1 9 "CanonCote$Chain" "base" "[I", Cond.fieldLink RX1 15 "CanonCote$Chain" "kept" "[J", Cond.fieldLink RX1 19 "CanonCote$Chain" "back" "[J", Cond.methodLink RX3 25 yX3_clear, Cond.instanceMethod yX3_clear, Cond.selects RX3 yX3_clear yX3_clear, Cond.initialized RX3, Cond.code yX3_clear cX3_clear 1 none, Cond.fieldLink RX3 28 "CanonCote$Group" "count" "I", Cond.instanceMethod yX1_restart]
def wsX3_init_r2 : List Cond := [Cond.selects RX1 yX1_restart yX1_restart, Cond.code yX1_restart cX1_restart 6 none, Cond.fieldLink RX1 22 "CanonCote$Chain" "keptCount" "I", Cond.fieldLink RX1 26 "CanonCote$Chain" "closedCount" "I", Cond.constantLong RX1 47 (1985229328), Cond.fieldLink RX1 49 "CanonCote$Chain" "members" "I", Cond.methodLink RX1 29 yJ7_fill_d0a16, Cond.static yJ7_fill_d0a16, Cond.initialized RJ7, Cond.code yJ7_fill_d0a16 cJ7_fill_d0a16 5 none, Cond.methodLink RX1 35 yJ6_bitCount_0f7a4, Cond.static yJ6_bitCount_0f7a4, Cond.initialized RJ6, Cond.code yJ6_bitCount_0f7a4 cJ6_bitCount_0f7a4 1 (some .int), Cond.constant RJ6 265 (1431655765), Cond.constant RJ6 266 (858993459), Cond.constant RJ6 267 (252645135), Cond.static yX7_isIn, Cond.initialized RX7, Cond.code yX7_isIn cX7_isIn 2 (some .boolean)]
def wsX3_init : List Cond := .code yX3_init cX3_init 1 none :: ((wsX3_init_r1 ++ wsX3_init_r2) ++ wsX30 ++ wsX10)
def wsX3_add_r1 : List Cond := [Cond.fieldLink RX3 28 "CanonCote$Group" "count" "I", Cond.fieldLink RX3 9 "CanonCote$Group" "generators" "[J", Cond.fieldLink RX3 18 "CanonCote$Group" "chain" "LCanonCote$Chain;", Cond.constant RX3 36 (40320), Cond.instanceMethod yX1_add, Cond.initialized RX1, Cond.selects RX1 yX1_add yX1_add, Cond.code yX1_add cX1_add 6 none, Cond.fieldLink RX1 26 "CanonCote$Chain" "closedCount" "I", Cond.fieldLink RX1 22 "CanonCote$Chain" "keptCount" "I", Cond.fieldLink RX1 49 "CanonCote$Chain" "members" "I", Cond.fieldLink RX1 15 "CanonCote$Chain" "kept" "[J", Cond.methodLink RX1 52 yX1_keep, Cond.instanceMethod yX1_keep, Cond.selects RX1 yX1_keep yX1_keep, Cond.code yX1_keep cX1_keep 7 none, Cond.constantLong RX1 47 (1985229328), Cond.fieldLink RX1 9 "CanonCote$Chain" "base" "[I", Cond.fieldLink RX1 19 "CanonCote$Chain" "back" "[J", Cond.methodLink RX1 60 yX1_restOf, Cond.instanceMethod yX1_restOf, Cond.selects RX1 yX1_restOf yX1_restOf, Cond.code yX1_restOf cX1_restOf 9 (some .long), Cond.static yX5_imageOf]
def wsX3_add_r2 : List Cond := [Cond.initialized RX5, Cond.code yX5_imageOf cX5_imageOf 3 (some .int), Cond.static yX5_oneThenOther, Cond.code yX5_oneThenOther cX5_oneThenOther 7 (some .long), Cond.methodLink RX5 13 yX5_imageOf, Cond.methodLink RX5 17 yX5_carrying, Cond.static yX5_carrying, Cond.code yX5_carrying cX5_carrying 2 (some .long), Cond.methodLink RX1 64 yX1_firstMoved, Cond.instanceMethod yX1_firstMoved, Cond.selects RX1 yX1_firstMoved yX1_firstMoved, Cond.code yX1_firstMoved cX1_firstMoved 4 (some .int), Cond.static yX5_inverse, Cond.code yX5_inverse cX5_inverse 5 (some .long), Cond.methodLink RX1 75 yX1_countFrom, Cond.instanceMethod yX1_countFrom, Cond.selects RX1 yX1_countFrom yX1_countFrom, Cond.code yX1_countFrom cX1_countFrom 6 (some .int)]
def wsX3_add : List Cond := .code yX3_add cX3_add 3 none :: ((wsX3_add_r1 ++ wsX3_add_r2) ++ wsX30 ++ wsX10)
def wsX3_imagesOf : List Cond := .code yX3_imagesOf cX3_imagesOf 5 (some .int) :: ([.static yX7_isIn, .initialized RX7, .code yX7_isIn cX7_isIn 2 (some .boolean), .static yX5_imageOf, .initialized RX5, .code yX5_imageOf cX5_imageOf 3 (some .int)])
def wsX3_reach : List Cond := .code yX3_reach cX3_reach 5 (some .int) :: ([.fieldLink RX3 28 "CanonCote$Group" "count" "I", .fieldLink RX3 9 "CanonCote$Group" "generators" "[J", .methodLink RX3 41 yX3_imagesOf, .static yX3_imagesOf, .initialized RX3, .code yX3_imagesOf cX3_imagesOf 5 (some .int), .static yX7_isIn, .initialized RX7, .code yX7_isIn cX7_isIn 2 (some .boolean), .static yX5_imageOf, .initialized RX5, .code yX5_imageOf cX5_imageOf 3 (some .int)] ++ wsX30)
def wsX3_countFixing_r1 : List Cond := [Cond.fieldLink RX3 22 "CanonCote$Group" "fixingChain" "LCanonCote$Chain;", Cond.fieldLink RX3 28 "CanonCote$Group" "count" "I", Cond.fieldLink RX3 9 "CanonCote$Group" "generators" "[J", Cond.fieldLink RX3 18 "CanonCote$Group" "chain" "LCanonCote$Chain;", Cond.instanceMethod yX1_restart, Cond.initialized RX1, Cond.selects RX1 yX1_restart yX1_restart, Cond.code yX1_restart cX1_restart 6 none, Cond.fieldLink RX1 22 "CanonCote$Chain" "keptCount" "I", Cond.fieldLink RX1 26 "CanonCote$Chain" "closedCount" "I", Cond.fieldLink RX1 19 "CanonCote$Chain" "back" "[J", Cond.fieldLink RX1 9 "CanonCote$Chain" "base" "[I", Cond.constantLong RX1 47 (1985229328), Cond.fieldLink RX1 49 "CanonCote$Chain" "members" "I", Cond.methodLink RX1 29 yJ7_fill_d0a16, Cond.static yJ7_fill_d0a16, Cond.initialized RJ7, Cond.code yJ7_fill_d0a16 cJ7_fill_d0a16 5 none, Cond.methodLink RX1 35 yJ6_bitCount_0f7a4, Cond.static yJ6_bitCount_0f7a4, Cond.initialized RJ6, Cond.code yJ6_bitCount_0f7a4 cJ6_bitCount_0f7a4 1 (some .int), Cond.constant RJ6 265 (1431655765), Cond.constant RJ6 266 (858993459)]
def wsX3_countFixing_r2 : List Cond := [Cond.constant RJ6 267 (252645135), Cond.static yX7_isIn, Cond.initialized RX7, Cond.code yX7_isIn cX7_isIn 2 (some .boolean), Cond.instanceMethod yX1_add, Cond.selects RX1 yX1_add yX1_add, Cond.code yX1_add cX1_add 6 none, Cond.fieldLink RX1 15 "CanonCote$Chain" "kept" "[J", Cond.methodLink RX1 52 yX1_keep, Cond.instanceMethod yX1_keep, Cond.selects RX1 yX1_keep yX1_keep, Cond.code yX1_keep cX1_keep 7 none, Cond.methodLink RX1 60 yX1_restOf, Cond.instanceMethod yX1_restOf, Cond.selects RX1 yX1_restOf yX1_restOf, Cond.code yX1_restOf cX1_restOf 9 (some .long), Cond.static yX5_imageOf, Cond.initialized RX5, Cond.code yX5_imageOf cX5_imageOf 3 (some .int), Cond.static yX5_oneThenOther, Cond.code yX5_oneThenOther cX5_oneThenOther 7 (some .long), Cond.methodLink RX5 13 yX5_imageOf, Cond.methodLink RX5 17 yX5_carrying, Cond.static yX5_carrying]
def wsX3_countFixing_r3 : List Cond := [Cond.code yX5_carrying cX5_carrying 2 (some .long), Cond.methodLink RX1 64 yX1_firstMoved, Cond.instanceMethod yX1_firstMoved, Cond.selects RX1 yX1_firstMoved yX1_firstMoved, Cond.code yX1_firstMoved cX1_firstMoved 4 (some .int), Cond.static yX5_inverse, Cond.code yX5_inverse cX5_inverse 5 (some .long), Cond.methodLink RX1 75 yX1_countFrom, Cond.instanceMethod yX1_countFrom, Cond.selects RX1 yX1_countFrom yX1_countFrom, Cond.code yX1_countFrom cX1_countFrom 6 (some .int), Cond.methodLink RX3 57 yJ6_bitCount_0f7a4]
def wsX3_countFixing : List Cond := .code yX3_countFixing cX3_countFixing 3 (some .int) :: ((wsX3_countFixing_r1 ++ (wsX3_countFixing_r2 ++ wsX3_countFixing_r3)) ++ wsX30 ++ wsX10)
def wsX6_init : List Cond := .code yX6_init cX6_init 1 none :: ([.methodLink RX6 3 objectInit, .instanceMethod objectInit, .code objectInit ⟨#[0xb1]⟩ 1 none, .arrayClass .int, .fieldLink RX6 9 "CanonCote$Refinement" "numbers" "[I", .fieldLink RX6 15 "CanonCote$Refinement" "members" "[I", .arrayClass .long, .fieldLink RX6 18 "CanonCote$Refinement" "keys" "[J"] ++ wsX60)
def wsX4_init : List Cond := .code yX4_init cX4_init 1 none :: ([.methodLink RX4 3 objectInit, .instanceMethod objectInit, .code objectInit ⟨#[0xb1]⟩ 1 none, .arrayClass .int, .fieldLink RX4 9 "CanonCote$Mapping" "images" "[I", .classLink RX4 15 RX6, .instantiable RX6 5, .initialized RX6, .fieldLink RX4 18 "CanonCote$Mapping" "classesHere" "LCanonCote$Refinement;", .fieldLink RX4 22 "CanonCote$Mapping" "classesThere" "LCanonCote$Refinement;", .instanceMethod yX6_init, .code yX6_init cX6_init 1 none, .methodLink RX6 3 objectInit, .fieldLink RX6 9 "CanonCote$Refinement" "numbers" "[I", .fieldLink RX6 15 "CanonCote$Refinement" "members" "[I", .arrayClass .long, .fieldLink RX6 18 "CanonCote$Refinement" "keys" "[J"] ++ wsX40 ++ wsX60)
def wsX6_isFirstOfKey : List Cond := .code yX6_isFirstOfKey cX6_isFirstOfKey 3 (some .boolean) :: ([.fieldLink RX6 18 "CanonCote$Refinement" "keys" "[J"] ++ wsX60)
def wsX6_numberByKeys : List Cond := .code yX6_numberByKeys cX6_numberByKeys 6 none :: ([.fieldLink RX6 35 "CanonCote$Refinement" "count" "I", .fieldLink RX6 15 "CanonCote$Refinement" "members" "[I", .fieldLink RX6 18 "CanonCote$Refinement" "keys" "[J", .fieldLink RX6 9 "CanonCote$Refinement" "numbers" "[I", .methodLink RX6 54 yX6_isFirstOfKey, .instanceMethod yX6_isFirstOfKey, .selects RX6 yX6_isFirstOfKey yX6_isFirstOfKey, .initialized RX6, .code yX6_isFirstOfKey cX6_isFirstOfKey 3 (some .boolean), .methodLink RX6 48 yJ6_bitCount_0f7a4, .static yJ6_bitCount_0f7a4, .initialized RJ6, .code yJ6_bitCount_0f7a4 cJ6_bitCount_0f7a4 1 (some .int), .constant RJ6 265 (1431655765), .constant RJ6 266 (858993459), .constant RJ6 267 (252645135), .methodLink RX6 58 yJ7_fill_53178, .static yJ7_fill_53178, .initialized RJ7, .code yJ7_fill_53178 cJ7_fill_53178 4 none, .static yX7_isIn, .initialized RX7, .code yX7_isIn cX7_isIn 2 (some .boolean)] ++ wsX60)
def wsX6_keyOf : List Cond := .code yX6_keyOf cX6_keyOf 6 (some .long) :: ([.fieldLink RX6 9 "CanonCote$Refinement" "numbers" "[I", .fieldLink RX6 15 "CanonCote$Refinement" "members" "[I", .methodLink RX6 48 yJ6_bitCount_0f7a4, .static yJ6_bitCount_0f7a4, .initialized RJ6, .code yJ6_bitCount_0f7a4 cJ6_bitCount_0f7a4 1 (some .int), .constant RJ6 265 (1431655765), .constant RJ6 266 (858993459), .constant RJ6 267 (252645135)] ++ wsX60 ++ wsX20)
def wsX6_refine_r1 : List Cond := [Cond.fieldLink RX6 18 "CanonCote$Refinement" "keys" "[J", Cond.fieldLink RX6 35 "CanonCote$Refinement" "count" "I", Cond.fieldLink RX6 42 "CanonCote$Refinement" "lastRound" "I", Cond.methodLink RX6 31 yX6_numberByKeys, Cond.instanceMethod yX6_numberByKeys, Cond.selects RX6 yX6_numberByKeys yX6_numberByKeys, Cond.initialized RX6, Cond.code yX6_numberByKeys cX6_numberByKeys 6 none, Cond.fieldLink RX6 15 "CanonCote$Refinement" "members" "[I", Cond.fieldLink RX6 9 "CanonCote$Refinement" "numbers" "[I", Cond.methodLink RX6 54 yX6_isFirstOfKey, Cond.instanceMethod yX6_isFirstOfKey, Cond.selects RX6 yX6_isFirstOfKey yX6_isFirstOfKey, Cond.code yX6_isFirstOfKey cX6_isFirstOfKey 3 (some .boolean), Cond.methodLink RX6 48 yJ6_bitCount_0f7a4, Cond.static yJ6_bitCount_0f7a4, Cond.initialized RJ6, Cond.code yJ6_bitCount_0f7a4 cJ6_bitCount_0f7a4 1 (some .int), Cond.constant RJ6 265 (1431655765), Cond.constant RJ6 266 (858993459), Cond.constant RJ6 267 (252645135), Cond.methodLink RX6 58 yJ7_fill_53178, Cond.static yJ7_fill_53178, Cond.initialized RJ7]
def wsX6_refine_r2 : List Cond := [Cond.code yJ7_fill_53178 cJ7_fill_53178 4 none, Cond.static yX7_isIn, Cond.initialized RX7, Cond.code yX7_isIn cX7_isIn 2 (some .boolean), Cond.methodLink RX6 38 yX6_keyOf, Cond.instanceMethod yX6_keyOf, Cond.selects RX6 yX6_keyOf yX6_keyOf, Cond.code yX6_keyOf cX6_keyOf 6 (some .long)]
def wsX6_refine : List Cond := .code yX6_refine cX6_refine 5 none :: ((wsX6_refine_r1 ++ wsX6_refine_r2) ++ wsX20 ++ wsX60)
def wsX4_fits : List Cond := .code yX4_fits cX4_fits 6 (some .boolean) :: ([.fieldLink RX4 18 "CanonCote$Mapping" "classesHere" "LCanonCote$Refinement;", .fieldLink RX4 22 "CanonCote$Mapping" "classesThere" "LCanonCote$Refinement;", .fieldLink RX4 9 "CanonCote$Mapping" "images" "[I", .instanceMethod yX2_hasEdge, .initialized RX2, .selects RX2 yX2_hasEdge yX2_hasEdge, .code yX2_hasEdge cX2_hasEdge 3 (some .boolean), .fieldLink RX2 15 "CanonCote$Graph" "near" "[I", .static yX7_isIn, .initialized RX7, .code yX7_isIn cX7_isIn 2 (some .boolean)] ++ wsX40 ++ wsX60 ++ wsX20)
def wsX4_extend : List Cond := .code yX4_extend cX4_extend 6 (some .boolean) :: ([.fieldLink RX4 9 "CanonCote$Mapping" "images" "[I", .static yX7_isIn, .initialized RX7, .code yX7_isIn cX7_isIn 2 (some .boolean), .methodLink RX4 43 yX4_fits, .instanceMethod yX4_fits, .selects RX4 yX4_fits yX4_fits, .initialized RX4, .code yX4_fits cX4_fits 6 (some .boolean), .fieldLink RX4 18 "CanonCote$Mapping" "classesHere" "LCanonCote$Refinement;", .fieldLink RX4 22 "CanonCote$Mapping" "classesThere" "LCanonCote$Refinement;", .instanceMethod yX2_hasEdge, .initialized RX2, .selects RX2 yX2_hasEdge yX2_hasEdge, .code yX2_hasEdge cX2_hasEdge 3 (some .boolean), .fieldLink RX2 15 "CanonCote$Graph" "near" "[I", .methodLink RX4 35 yX4_extend, .static yX4_extend] ++ wsX20 ++ wsX40 ++ wsX60)
def wsX4_find_r1 : List Cond := [Cond.fieldLink RX4 18 "CanonCote$Mapping" "classesHere" "LCanonCote$Refinement;", Cond.fieldLink RX4 22 "CanonCote$Mapping" "classesThere" "LCanonCote$Refinement;", Cond.instanceMethod yX6_refine, Cond.initialized RX6, Cond.selects RX6 yX6_refine yX6_refine, Cond.code yX6_refine cX6_refine 5 none, Cond.fieldLink RX6 18 "CanonCote$Refinement" "keys" "[J", Cond.fieldLink RX6 35 "CanonCote$Refinement" "count" "I", Cond.fieldLink RX6 42 "CanonCote$Refinement" "lastRound" "I", Cond.methodLink RX6 31 yX6_numberByKeys, Cond.instanceMethod yX6_numberByKeys, Cond.selects RX6 yX6_numberByKeys yX6_numberByKeys, Cond.code yX6_numberByKeys cX6_numberByKeys 6 none, Cond.fieldLink RX6 15 "CanonCote$Refinement" "members" "[I", Cond.fieldLink RX6 9 "CanonCote$Refinement" "numbers" "[I", Cond.methodLink RX6 54 yX6_isFirstOfKey, Cond.instanceMethod yX6_isFirstOfKey, Cond.selects RX6 yX6_isFirstOfKey yX6_isFirstOfKey, Cond.code yX6_isFirstOfKey cX6_isFirstOfKey 3 (some .boolean), Cond.methodLink RX6 48 yJ6_bitCount_0f7a4, Cond.static yJ6_bitCount_0f7a4, Cond.initialized RJ6, Cond.code yJ6_bitCount_0f7a4 cJ6_bitCount_0f7a4 1 (some .int), Cond.constant RJ6 265 (1431655765)]
def wsX4_find_r2 : List Cond := [Cond.constant RJ6 266 (858993459), Cond.constant RJ6 267 (252645135), Cond.methodLink RX6 58 yJ7_fill_53178, Cond.static yJ7_fill_53178, Cond.initialized RJ7, Cond.code yJ7_fill_53178 cJ7_fill_53178 4 none, Cond.static yX7_isIn, Cond.initialized RX7, Cond.code yX7_isIn cX7_isIn 2 (some .boolean), Cond.methodLink RX6 38 yX6_keyOf, Cond.instanceMethod yX6_keyOf, Cond.selects RX6 yX6_keyOf yX6_keyOf, Cond.code yX6_keyOf cX6_keyOf 6 (some .long), Cond.methodLink RX4 35 yX4_extend, Cond.static yX4_extend, Cond.initialized RX4, Cond.code yX4_extend cX4_extend 6 (some .boolean), Cond.fieldLink RX4 9 "CanonCote$Mapping" "images" "[I", Cond.methodLink RX4 43 yX4_fits, Cond.instanceMethod yX4_fits, Cond.selects RX4 yX4_fits yX4_fits, Cond.code yX4_fits cX4_fits 6 (some .boolean), Cond.instanceMethod yX2_hasEdge, Cond.initialized RX2]
def wsX4_find_r3 : List Cond := [Cond.selects RX2 yX2_hasEdge yX2_hasEdge, Cond.code yX2_hasEdge cX2_hasEdge 3 (some .boolean), Cond.fieldLink RX2 15 "CanonCote$Graph" "near" "[I"]
def wsX4_find : List Cond := .code yX4_find cX4_find 3 (some .boolean) :: ((wsX4_find_r1 ++ (wsX4_find_r2 ++ wsX4_find_r3)) ++ wsX20 ++ wsX40 ++ wsX60)
def wsX5_isOne : List Cond := .code yX5_isOne cX5_isOne 4 (some .boolean) :: ([.constantLong RX5 11 (15)])
def wsX7_init_r1 : List Cond := [Cond.methodLink RX7 3 objectInit, Cond.instanceMethod objectInit, Cond.code objectInit ⟨#[0xb1]⟩ 1 none, Cond.classLink RX7 9 RX2, Cond.fieldLink RX7 11 "CanonCote" "graphs" "[LCanonCote$Graph;", Cond.instantiable RX2 3, Cond.initialized RX2, Cond.fieldLink RX7 16 "CanonCote" "chosen" "LCanonCote$Graph;", Cond.classLink RX7 20 RX6, Cond.instantiable RX6 5, Cond.initialized RX6, Cond.fieldLink RX7 23 "CanonCote" "refinement" "LCanonCote$Refinement;", Cond.classLink RX7 27 RX0, Cond.instantiable RX0 7, Cond.initialized RX0, Cond.fieldLink RX7 30 "CanonCote" "arranging" "LCanonCote$Arranging;", Cond.classLink RX7 34 RX4, Cond.instantiable RX4 3, Cond.initialized RX4, Cond.fieldLink RX7 37 "CanonCote" "mapping" "LCanonCote$Mapping;", Cond.classLink RX7 41 RX3, Cond.instantiable RX3 4, Cond.initialized RX3, Cond.fieldLink RX7 44 "CanonCote" "group" "LCanonCote$Group;"]
def wsX7_init_r2 : List Cond := [Cond.instanceMethod yX2_init, Cond.code yX2_init cX2_init 1 none, Cond.methodLink RX2 3 objectInit, Cond.fieldLink RX2 9 "CanonCote$Graph" "size" "I", Cond.arrayClass .int, Cond.fieldLink RX2 15 "CanonCote$Graph" "near" "[I", Cond.fieldLink RX2 19 "CanonCote$Graph" "colours" "[I", Cond.instanceMethod yX6_init, Cond.code yX6_init cX6_init 1 none, Cond.methodLink RX6 3 objectInit, Cond.fieldLink RX6 9 "CanonCote$Refinement" "numbers" "[I", Cond.fieldLink RX6 15 "CanonCote$Refinement" "members" "[I", Cond.arrayClass .long, Cond.fieldLink RX6 18 "CanonCote$Refinement" "keys" "[J", Cond.instanceMethod yX0_init, Cond.code yX0_init cX0_init 1 none, Cond.methodLink RX0 3 objectInit, Cond.fieldLink RX0 9 "CanonCote$Arranging" "twins" "[I", Cond.fieldLink RX0 15 "CanonCote$Arranging" "cells" "[I", Cond.fieldLink RX0 18 "CanonCote$Arranging" "vertexAt" "[I", Cond.fieldLink RX0 21 "CanonCote$Arranging" "seenAt" "[I", Cond.instanceMethod yX4_init, Cond.code yX4_init cX4_init 1 none, Cond.methodLink RX4 3 objectInit]
def wsX7_init_r3 : List Cond := [Cond.fieldLink RX4 9 "CanonCote$Mapping" "images" "[I", Cond.classLink RX4 15 RX6, Cond.fieldLink RX4 18 "CanonCote$Mapping" "classesHere" "LCanonCote$Refinement;", Cond.fieldLink RX4 22 "CanonCote$Mapping" "classesThere" "LCanonCote$Refinement;", Cond.instanceMethod yX3_init, Cond.code yX3_init cX3_init 1 none, Cond.methodLink RX3 3 objectInit, Cond.fieldLink RX3 9 "CanonCote$Group" "generators" "[J", Cond.classLink RX3 15 RX1, Cond.instantiable RX1 6, Cond.initialized RX1, Cond.fieldLink RX3 18 "CanonCote$Group" "chain" "LCanonCote$Chain;", Cond.fieldLink RX3 22 "CanonCote$Group" "fixingChain" "LCanonCote$Chain;", Cond.instanceMethod yX1_init, Cond.code yX1_init cX1_init 1 none, Cond.methodLink RX1 3 objectInit, Cond.fieldLink RX1 9 "CanonCote$Chain" "base" "[I", Cond.fieldLink RX1 15 "CanonCote$Chain" "kept" "[J", Cond.fieldLink RX1 19 "CanonCote$Chain" "back" "[J", Cond.methodLink RX3 25 yX3_clear, Cond.instanceMethod yX3_clear, Cond.selects RX3 yX3_clear yX3_clear, Cond.code yX3_clear cX3_clear 1 none, Cond.fieldLink RX3 28 "CanonCote$Group" "count" "I"]
def wsX7_init_r4 : List Cond := [Cond.instanceMethod yX1_restart, Cond.selects RX1 yX1_restart yX1_restart, Cond.code yX1_restart cX1_restart 6 none, Cond.fieldLink RX1 22 "CanonCote$Chain" "keptCount" "I", Cond.fieldLink RX1 26 "CanonCote$Chain" "closedCount" "I", Cond.constantLong RX1 47 (1985229328), Cond.fieldLink RX1 49 "CanonCote$Chain" "members" "I", Cond.methodLink RX1 29 yJ7_fill_d0a16, Cond.static yJ7_fill_d0a16, Cond.initialized RJ7, Cond.code yJ7_fill_d0a16 cJ7_fill_d0a16 5 none, Cond.methodLink RX1 35 yJ6_bitCount_0f7a4, Cond.static yJ6_bitCount_0f7a4, Cond.initialized RJ6, Cond.code yJ6_bitCount_0f7a4 cJ6_bitCount_0f7a4 1 (some .int), Cond.constant RJ6 265 (1431655765), Cond.constant RJ6 266 (858993459), Cond.constant RJ6 267 (252645135), Cond.static yX7_isIn, Cond.initialized RX7, Cond.code yX7_isIn cX7_isIn 2 (some .boolean)]
def wsX7_init : List Cond := .code yX7_init cX7_init 2 none :: ((wsX7_init_r1 ++ (wsX7_init_r2 ++ (wsX7_init_r3 ++ wsX7_init_r4))) ++ wsX70 ++ wsX20 ++ wsX60 ++ wsX00 ++ wsX40 ++ wsX30 ++ wsX10)
def wsX7_graphAt : List Cond := .code yX7_graphAt cX7_graphAt 2 (some (.object "CanonCote$Graph")) :: ([.classLink RX7 182 "java/lang/IndexOutOfBoundsException", .initialized "java/lang/IndexOutOfBoundsException", .fieldLink RX7 11 "CanonCote" "graphs" "[LCanonCote$Graph;"] ++ wsX70 ++ (vx_atS RX7 186 "java/lang/IndexOutOfBoundsException" ["java/lang/RuntimeException", "java/lang/Exception"]).filter goodWord)
def wsX7_begin : List Cond := .code yX7_begin cX7_begin 5 (some .int) :: ([.classLink RX7 52 "java/lang/IllegalArgumentException", .initialized "java/lang/IllegalArgumentException", .methodLink RX7 48 yX7_graphAt, .instanceMethod yX7_graphAt, .selects RX7 yX7_graphAt yX7_graphAt, .initialized RX7, .code yX7_graphAt cX7_graphAt 2 (some (.object "CanonCote$Graph")), .classLink RX7 182 "java/lang/IndexOutOfBoundsException", .initialized "java/lang/IndexOutOfBoundsException", .fieldLink RX7 11 "CanonCote" "graphs" "[LCanonCote$Graph;", .instanceMethod yX2_clear, .initialized RX2, .selects RX2 yX2_clear yX2_clear, .code yX2_clear cX2_clear 2 none, .fieldLink RX2 9 "CanonCote$Graph" "size" "I", .fieldLink RX2 15 "CanonCote$Graph" "near" "[I", .fieldLink RX2 19 "CanonCote$Graph" "colours" "[I", .methodLink RX2 22 yJ7_fill_53178, .static yJ7_fill_53178, .initialized RJ7, .code yJ7_fill_53178 cJ7_fill_53178 4 none] ++ wsX20 ++ wsX70 ++ (vx_atS RX7 56 "java/lang/IllegalArgumentException" ["java/lang/RuntimeException", "java/lang/Exception"]).filter goodWord ++ (vx_atS RX7 186 "java/lang/IndexOutOfBoundsException" ["java/lang/RuntimeException", "java/lang/Exception"]).filter goodWord)
def wsX7_checkVertex : List Cond := .code yX7_checkVertex cX7_checkVertex 2 none :: ([.classLink RX7 182 "java/lang/IndexOutOfBoundsException", .initialized "java/lang/IndexOutOfBoundsException"] ++ wsX20 ++ (vx_atS RX7 186 "java/lang/IndexOutOfBoundsException" ["java/lang/RuntimeException", "java/lang/Exception"]).filter goodWord)
def wsX7_toggle : List Cond := .code yX7_toggle cX7_toggle 5 (some .boolean) :: ([.classLink RX7 52 "java/lang/IllegalArgumentException", .initialized "java/lang/IllegalArgumentException", .methodLink RX7 48 yX7_graphAt, .instanceMethod yX7_graphAt, .selects RX7 yX7_graphAt yX7_graphAt, .initialized RX7, .code yX7_graphAt cX7_graphAt 2 (some (.object "CanonCote$Graph")), .classLink RX7 182 "java/lang/IndexOutOfBoundsException", .initialized "java/lang/IndexOutOfBoundsException", .fieldLink RX7 11 "CanonCote" "graphs" "[LCanonCote$Graph;", .methodLink RX7 67 yX7_checkVertex, .static yX7_checkVertex, .code yX7_checkVertex cX7_checkVertex 2 none, .instanceMethod yX2_flipEdge, .initialized RX2, .selects RX2 yX2_flipEdge yX2_flipEdge, .code yX2_flipEdge cX2_flipEdge 3 none, .fieldLink RX2 15 "CanonCote$Graph" "near" "[I", .instanceMethod yX2_hasEdge, .selects RX2 yX2_hasEdge yX2_hasEdge, .code yX2_hasEdge cX2_hasEdge 3 (some .boolean), .static yX7_isIn, .code yX7_isIn cX7_isIn 2 (some .boolean)] ++ wsX70 ++ wsX20 ++ (vx_atS RX7 56 "java/lang/IllegalArgumentException" ["java/lang/RuntimeException", "java/lang/Exception"]).filter goodWord ++ (vx_atS RX7 186 "java/lang/IndexOutOfBoundsException" ["java/lang/RuntimeException", "java/lang/Exception"]).filter goodWord)
def wsX7_setColour : List Cond := .code yX7_setColour cX7_setColour 6 (some .int) :: ([.classLink RX7 52 "java/lang/IllegalArgumentException", .initialized "java/lang/IllegalArgumentException", .methodLink RX7 48 yX7_graphAt, .instanceMethod yX7_graphAt, .selects RX7 yX7_graphAt yX7_graphAt, .initialized RX7, .code yX7_graphAt cX7_graphAt 2 (some (.object "CanonCote$Graph")), .classLink RX7 182 "java/lang/IndexOutOfBoundsException", .initialized "java/lang/IndexOutOfBoundsException", .fieldLink RX7 11 "CanonCote" "graphs" "[LCanonCote$Graph;", .methodLink RX7 67 yX7_checkVertex, .static yX7_checkVertex, .code yX7_checkVertex cX7_checkVertex 2 none] ++ wsX20 ++ wsX70 ++ (vx_atS RX7 56 "java/lang/IllegalArgumentException" ["java/lang/RuntimeException", "java/lang/Exception"]).filter goodWord ++ (vx_atS RX7 186 "java/lang/IndexOutOfBoundsException" ["java/lang/RuntimeException", "java/lang/Exception"]).filter goodWord)
def wsX7_swap : List Cond := .code yX7_swap cX7_swap 5 none :: ([.methodLink RX7 48 yX7_graphAt, .instanceMethod yX7_graphAt, .selects RX7 yX7_graphAt yX7_graphAt, .initialized RX7, .code yX7_graphAt cX7_graphAt 2 (some (.object "CanonCote$Graph")), .classLink RX7 182 "java/lang/IndexOutOfBoundsException", .initialized "java/lang/IndexOutOfBoundsException", .fieldLink RX7 11 "CanonCote" "graphs" "[LCanonCote$Graph;", .methodLink RX7 67 yX7_checkVertex, .static yX7_checkVertex, .code yX7_checkVertex cX7_checkVertex 2 none, .instanceMethod yX2_exchange, .initialized RX2, .selects RX2 yX2_exchange yX2_exchange, .code yX2_exchange cX2_exchange 6 none, .fieldLink RX2 19 "CanonCote$Graph" "colours" "[I", .fieldLink RX2 15 "CanonCote$Graph" "near" "[I", .fieldLink RX2 9 "CanonCote$Graph" "size" "I", .static yX7_isIn, .code yX7_isIn cX7_isIn 2 (some .boolean)] ++ wsX70 ++ wsX20 ++ (vx_atS RX7 186 "java/lang/IndexOutOfBoundsException" ["java/lang/RuntimeException", "java/lang/Exception"]).filter goodWord)
def wsX7_copy : List Cond := .code yX7_copy cX7_copy 4 none :: ([.methodLink RX7 48 yX7_graphAt, .instanceMethod yX7_graphAt, .selects RX7 yX7_graphAt yX7_graphAt, .initialized RX7, .code yX7_graphAt cX7_graphAt 2 (some (.object "CanonCote$Graph")), .classLink RX7 182 "java/lang/IndexOutOfBoundsException", .initialized "java/lang/IndexOutOfBoundsException", .fieldLink RX7 11 "CanonCote" "graphs" "[LCanonCote$Graph;", .instanceMethod yX2_become, .initialized RX2, .selects RX2 yX2_become yX2_become, .code yX2_become cX2_become 3 none, .fieldLink RX2 9 "CanonCote$Graph" "size" "I", .fieldLink RX2 15 "CanonCote$Graph" "near" "[I", .fieldLink RX2 19 "CanonCote$Graph" "colours" "[I"] ++ wsX70 ++ wsX20 ++ (vx_atS RX7 186 "java/lang/IndexOutOfBoundsException" ["java/lang/RuntimeException", "java/lang/Exception"]).filter goodWord)
def wsX7_complement_r1 : List Cond := [Cond.methodLink RX7 48 yX7_graphAt, Cond.instanceMethod yX7_graphAt, Cond.selects RX7 yX7_graphAt yX7_graphAt, Cond.initialized RX7, Cond.code yX7_graphAt cX7_graphAt 2 (some (.object "CanonCote$Graph")), Cond.classLink RX7 182 "java/lang/IndexOutOfBoundsException", Cond.initialized "java/lang/IndexOutOfBoundsException", Cond.fieldLink RX7 11 "CanonCote" "graphs" "[LCanonCote$Graph;", Cond.instanceMethod yX2_invertEdges, Cond.initialized RX2, Cond.selects RX2 yX2_invertEdges yX2_invertEdges, Cond.code yX2_invertEdges cX2_invertEdges 2 none, Cond.fieldLink RX2 9 "CanonCote$Graph" "size" "I", Cond.fieldLink RX2 15 "CanonCote$Graph" "near" "[I", Cond.static yX7_below, Cond.code yX7_below cX7_below 1 (some .int), Cond.instanceMethod yX2_countEdges, Cond.selects RX2 yX2_countEdges yX2_countEdges, Cond.code yX2_countEdges cX2_countEdges 3 (some .int), Cond.methodLink RX2 36 yJ6_bitCount_0f7a4, Cond.static yJ6_bitCount_0f7a4, Cond.initialized RJ6, Cond.code yJ6_bitCount_0f7a4 cJ6_bitCount_0f7a4 1 (some .int), Cond.constant RJ6 265 (1431655765)]
def wsX7_complement_r2 : List Cond := [Cond.constant RJ6 266 (858993459), Cond.constant RJ6 267 (252645135)]
def wsX7_complement : List Cond := .code yX7_complement cX7_complement 3 (some .int) :: ((wsX7_complement_r1 ++ wsX7_complement_r2) ++ wsX70 ++ wsX20 ++ (vx_atS RX7 186 "java/lang/IndexOutOfBoundsException" ["java/lang/RuntimeException", "java/lang/Exception"]).filter goodWord)
def wsX7_size : List Cond := .code yX7_size cX7_size 2 (some .int) :: ([.methodLink RX7 48 yX7_graphAt, .instanceMethod yX7_graphAt, .selects RX7 yX7_graphAt yX7_graphAt, .initialized RX7, .code yX7_graphAt cX7_graphAt 2 (some (.object "CanonCote$Graph")), .classLink RX7 182 "java/lang/IndexOutOfBoundsException", .initialized "java/lang/IndexOutOfBoundsException", .fieldLink RX7 11 "CanonCote" "graphs" "[LCanonCote$Graph;"] ++ wsX20 ++ wsX70 ++ (vx_atS RX7 186 "java/lang/IndexOutOfBoundsException" ["java/lang/RuntimeException", "java/lang/Exception"]).filter goodWord)
def wsX7_edges : List Cond := .code yX7_edges cX7_edges 2 (some .int) :: ([.methodLink RX7 48 yX7_graphAt, .instanceMethod yX7_graphAt, .selects RX7 yX7_graphAt yX7_graphAt, .initialized RX7, .code yX7_graphAt cX7_graphAt 2 (some (.object "CanonCote$Graph")), .classLink RX7 182 "java/lang/IndexOutOfBoundsException", .initialized "java/lang/IndexOutOfBoundsException", .fieldLink RX7 11 "CanonCote" "graphs" "[LCanonCote$Graph;", .instanceMethod yX2_countEdges, .initialized RX2, .selects RX2 yX2_countEdges yX2_countEdges, .code yX2_countEdges cX2_countEdges 3 (some .int), .fieldLink RX2 9 "CanonCote$Graph" "size" "I", .fieldLink RX2 15 "CanonCote$Graph" "near" "[I", .methodLink RX2 36 yJ6_bitCount_0f7a4, .static yJ6_bitCount_0f7a4, .initialized RJ6, .code yJ6_bitCount_0f7a4 cJ6_bitCount_0f7a4 1 (some .int), .constant RJ6 265 (1431655765), .constant RJ6 266 (858993459), .constant RJ6 267 (252645135)] ++ wsX70 ++ wsX20 ++ (vx_atS RX7 186 "java/lang/IndexOutOfBoundsException" ["java/lang/RuntimeException", "java/lang/Exception"]).filter goodWord)
def wsX7_neighbours : List Cond := .code yX7_neighbours cX7_neighbours 4 (some .int) :: ([.methodLink RX7 48 yX7_graphAt, .instanceMethod yX7_graphAt, .selects RX7 yX7_graphAt yX7_graphAt, .initialized RX7, .code yX7_graphAt cX7_graphAt 2 (some (.object "CanonCote$Graph")), .classLink RX7 182 "java/lang/IndexOutOfBoundsException", .initialized "java/lang/IndexOutOfBoundsException", .fieldLink RX7 11 "CanonCote" "graphs" "[LCanonCote$Graph;", .methodLink RX7 67 yX7_checkVertex, .static yX7_checkVertex, .code yX7_checkVertex cX7_checkVertex 2 none] ++ wsX20 ++ wsX70 ++ (vx_atS RX7 186 "java/lang/IndexOutOfBoundsException" ["java/lang/RuntimeException", "java/lang/Exception"]).filter goodWord)
def wsX7_colour : List Cond := .code yX7_colour cX7_colour 4 (some .int) :: ([.methodLink RX7 48 yX7_graphAt, .instanceMethod yX7_graphAt, .selects RX7 yX7_graphAt yX7_graphAt, .initialized RX7, .code yX7_graphAt cX7_graphAt 2 (some (.object "CanonCote$Graph")), .classLink RX7 182 "java/lang/IndexOutOfBoundsException", .initialized "java/lang/IndexOutOfBoundsException", .fieldLink RX7 11 "CanonCote" "graphs" "[LCanonCote$Graph;", .methodLink RX7 67 yX7_checkVertex, .static yX7_checkVertex, .code yX7_checkVertex cX7_checkVertex 2 none] ++ wsX20 ++ wsX70 ++ (vx_atS RX7 186 "java/lang/IndexOutOfBoundsException" ["java/lang/RuntimeException", "java/lang/Exception"]).filter goodWord)
def wsX7_classes_r1 : List Cond := [Cond.fieldLink RX7 23 "CanonCote" "refinement" "LCanonCote$Refinement;", Cond.methodLink RX7 48 yX7_graphAt, Cond.instanceMethod yX7_graphAt, Cond.selects RX7 yX7_graphAt yX7_graphAt, Cond.initialized RX7, Cond.code yX7_graphAt cX7_graphAt 2 (some (.object "CanonCote$Graph")), Cond.classLink RX7 182 "java/lang/IndexOutOfBoundsException", Cond.initialized "java/lang/IndexOutOfBoundsException", Cond.fieldLink RX7 11 "CanonCote" "graphs" "[LCanonCote$Graph;", Cond.instanceMethod yX6_refine, Cond.initialized RX6, Cond.selects RX6 yX6_refine yX6_refine, Cond.code yX6_refine cX6_refine 5 none, Cond.fieldLink RX6 18 "CanonCote$Refinement" "keys" "[J", Cond.fieldLink RX6 35 "CanonCote$Refinement" "count" "I", Cond.fieldLink RX6 42 "CanonCote$Refinement" "lastRound" "I", Cond.methodLink RX6 31 yX6_numberByKeys, Cond.instanceMethod yX6_numberByKeys, Cond.selects RX6 yX6_numberByKeys yX6_numberByKeys, Cond.code yX6_numberByKeys cX6_numberByKeys 6 none, Cond.fieldLink RX6 15 "CanonCote$Refinement" "members" "[I", Cond.fieldLink RX6 9 "CanonCote$Refinement" "numbers" "[I", Cond.methodLink RX6 54 yX6_isFirstOfKey, Cond.instanceMethod yX6_isFirstOfKey]
def wsX7_classes_r2 : List Cond := [Cond.selects RX6 yX6_isFirstOfKey yX6_isFirstOfKey, Cond.code yX6_isFirstOfKey cX6_isFirstOfKey 3 (some .boolean), Cond.methodLink RX6 48 yJ6_bitCount_0f7a4, Cond.static yJ6_bitCount_0f7a4, Cond.initialized RJ6, Cond.code yJ6_bitCount_0f7a4 cJ6_bitCount_0f7a4 1 (some .int), Cond.constant RJ6 265 (1431655765), Cond.constant RJ6 266 (858993459), Cond.constant RJ6 267 (252645135), Cond.methodLink RX6 58 yJ7_fill_53178, Cond.static yJ7_fill_53178, Cond.initialized RJ7, Cond.code yJ7_fill_53178 cJ7_fill_53178 4 none, Cond.static yX7_isIn, Cond.code yX7_isIn cX7_isIn 2 (some .boolean), Cond.methodLink RX6 38 yX6_keyOf, Cond.instanceMethod yX6_keyOf, Cond.selects RX6 yX6_keyOf yX6_keyOf, Cond.code yX6_keyOf cX6_keyOf 6 (some .long)]
def wsX7_classes : List Cond := .code yX7_classes cX7_classes 2 (some .int) :: ((wsX7_classes_r1 ++ wsX7_classes_r2) ++ wsX70 ++ wsX60 ++ wsX20 ++ (vx_atS RX7 186 "java/lang/IndexOutOfBoundsException" ["java/lang/RuntimeException", "java/lang/Exception"]).filter goodWord)
def wsX7_classOf_r1 : List Cond := [Cond.fieldLink RX7 23 "CanonCote" "refinement" "LCanonCote$Refinement;", Cond.methodLink RX7 48 yX7_graphAt, Cond.instanceMethod yX7_graphAt, Cond.selects RX7 yX7_graphAt yX7_graphAt, Cond.initialized RX7, Cond.code yX7_graphAt cX7_graphAt 2 (some (.object "CanonCote$Graph")), Cond.classLink RX7 182 "java/lang/IndexOutOfBoundsException", Cond.initialized "java/lang/IndexOutOfBoundsException", Cond.fieldLink RX7 11 "CanonCote" "graphs" "[LCanonCote$Graph;", Cond.methodLink RX7 67 yX7_checkVertex, Cond.static yX7_checkVertex, Cond.code yX7_checkVertex cX7_checkVertex 2 none, Cond.instanceMethod yX6_refine, Cond.initialized RX6, Cond.selects RX6 yX6_refine yX6_refine, Cond.code yX6_refine cX6_refine 5 none, Cond.fieldLink RX6 18 "CanonCote$Refinement" "keys" "[J", Cond.fieldLink RX6 35 "CanonCote$Refinement" "count" "I", Cond.fieldLink RX6 42 "CanonCote$Refinement" "lastRound" "I", Cond.methodLink RX6 31 yX6_numberByKeys, Cond.instanceMethod yX6_numberByKeys, Cond.selects RX6 yX6_numberByKeys yX6_numberByKeys, Cond.code yX6_numberByKeys cX6_numberByKeys 6 none, Cond.fieldLink RX6 15 "CanonCote$Refinement" "members" "[I"]
def wsX7_classOf_r2 : List Cond := [Cond.fieldLink RX6 9 "CanonCote$Refinement" "numbers" "[I", Cond.methodLink RX6 54 yX6_isFirstOfKey, Cond.instanceMethod yX6_isFirstOfKey, Cond.selects RX6 yX6_isFirstOfKey yX6_isFirstOfKey, Cond.code yX6_isFirstOfKey cX6_isFirstOfKey 3 (some .boolean), Cond.methodLink RX6 48 yJ6_bitCount_0f7a4, Cond.static yJ6_bitCount_0f7a4, Cond.initialized RJ6, Cond.code yJ6_bitCount_0f7a4 cJ6_bitCount_0f7a4 1 (some .int), Cond.constant RJ6 265 (1431655765), Cond.constant RJ6 266 (858993459), Cond.constant RJ6 267 (252645135), Cond.methodLink RX6 58 yJ7_fill_53178, Cond.static yJ7_fill_53178, Cond.initialized RJ7, Cond.code yJ7_fill_53178 cJ7_fill_53178 4 none, Cond.static yX7_isIn, Cond.code yX7_isIn cX7_isIn 2 (some .boolean), Cond.methodLink RX6 38 yX6_keyOf, Cond.instanceMethod yX6_keyOf, Cond.selects RX6 yX6_keyOf yX6_keyOf, Cond.code yX6_keyOf cX6_keyOf 6 (some .long)]
def wsX7_classOf : List Cond := .code yX7_classOf cX7_classOf 4 (some .int) :: ((wsX7_classOf_r1 ++ wsX7_classOf_r2) ++ wsX70 ++ wsX60 ++ wsX20 ++ (vx_atS RX7 186 "java/lang/IndexOutOfBoundsException" ["java/lang/RuntimeException", "java/lang/Exception"]).filter goodWord)
def wsX7_rounds_r1 : List Cond := [Cond.fieldLink RX7 23 "CanonCote" "refinement" "LCanonCote$Refinement;", Cond.methodLink RX7 48 yX7_graphAt, Cond.instanceMethod yX7_graphAt, Cond.selects RX7 yX7_graphAt yX7_graphAt, Cond.initialized RX7, Cond.code yX7_graphAt cX7_graphAt 2 (some (.object "CanonCote$Graph")), Cond.classLink RX7 182 "java/lang/IndexOutOfBoundsException", Cond.initialized "java/lang/IndexOutOfBoundsException", Cond.fieldLink RX7 11 "CanonCote" "graphs" "[LCanonCote$Graph;", Cond.instanceMethod yX6_refine, Cond.initialized RX6, Cond.selects RX6 yX6_refine yX6_refine, Cond.code yX6_refine cX6_refine 5 none, Cond.fieldLink RX6 18 "CanonCote$Refinement" "keys" "[J", Cond.fieldLink RX6 35 "CanonCote$Refinement" "count" "I", Cond.fieldLink RX6 42 "CanonCote$Refinement" "lastRound" "I", Cond.methodLink RX6 31 yX6_numberByKeys, Cond.instanceMethod yX6_numberByKeys, Cond.selects RX6 yX6_numberByKeys yX6_numberByKeys, Cond.code yX6_numberByKeys cX6_numberByKeys 6 none, Cond.fieldLink RX6 15 "CanonCote$Refinement" "members" "[I", Cond.fieldLink RX6 9 "CanonCote$Refinement" "numbers" "[I", Cond.methodLink RX6 54 yX6_isFirstOfKey, Cond.instanceMethod yX6_isFirstOfKey]
def wsX7_rounds_r2 : List Cond := [Cond.selects RX6 yX6_isFirstOfKey yX6_isFirstOfKey, Cond.code yX6_isFirstOfKey cX6_isFirstOfKey 3 (some .boolean), Cond.methodLink RX6 48 yJ6_bitCount_0f7a4, Cond.static yJ6_bitCount_0f7a4, Cond.initialized RJ6, Cond.code yJ6_bitCount_0f7a4 cJ6_bitCount_0f7a4 1 (some .int), Cond.constant RJ6 265 (1431655765), Cond.constant RJ6 266 (858993459), Cond.constant RJ6 267 (252645135), Cond.methodLink RX6 58 yJ7_fill_53178, Cond.static yJ7_fill_53178, Cond.initialized RJ7, Cond.code yJ7_fill_53178 cJ7_fill_53178 4 none, Cond.static yX7_isIn, Cond.code yX7_isIn cX7_isIn 2 (some .boolean), Cond.methodLink RX6 38 yX6_keyOf, Cond.instanceMethod yX6_keyOf, Cond.selects RX6 yX6_keyOf yX6_keyOf, Cond.code yX6_keyOf cX6_keyOf 6 (some .long)]
def wsX7_rounds : List Cond := .code yX7_rounds cX7_rounds 2 (some .int) :: ((wsX7_rounds_r1 ++ wsX7_rounds_r2) ++ wsX70 ++ wsX60 ++ wsX20 ++ (vx_atS RX7 186 "java/lang/IndexOutOfBoundsException" ["java/lang/RuntimeException", "java/lang/Exception"]).filter goodWord)
def wsX7_leastCode_r1 : List Cond := [Cond.fieldLink RX7 30 "CanonCote" "arranging" "LCanonCote$Arranging;", Cond.instanceMethod yX0_search, Cond.initialized RX0, Cond.selects RX0 yX0_search yX0_search, Cond.code yX0_search cX0_search 2 none, Cond.constant RX0 33 (2147483647), Cond.fieldLink RX0 34 "CanonCote$Arranging" "leastEdges" "I", Cond.methodLink RX0 24 yX0_findTwins, Cond.instanceMethod yX0_findTwins, Cond.selects RX0 yX0_findTwins yX0_findTwins, Cond.code yX0_findTwins cX0_findTwins 4 none, Cond.fieldLink RX0 9 "CanonCote$Arranging" "twins" "[I", Cond.instanceMethod yX2_areTwins, Cond.initialized RX2, Cond.selects RX2 yX2_areTwins yX2_areTwins, Cond.code yX2_areTwins cX2_areTwins 4 (some .boolean), Cond.fieldLink RX2 19 "CanonCote$Graph" "colours" "[I", Cond.fieldLink RX2 15 "CanonCote$Graph" "near" "[I", Cond.methodLink RX0 28 yX0_shareOutByColours, Cond.instanceMethod yX0_shareOutByColours, Cond.selects RX0 yX0_shareOutByColours yX0_shareOutByColours, Cond.code yX0_shareOutByColours cX0_shareOutByColours 6 none, Cond.fieldLink RX0 15 "CanonCote$Arranging" "cells" "[I", Cond.methodLink RX0 54 yJ6_bitCount_0f7a4]
def wsX7_leastCode_r2 : List Cond := [Cond.static yJ6_bitCount_0f7a4, Cond.initialized RJ6, Cond.code yJ6_bitCount_0f7a4 cJ6_bitCount_0f7a4 1 (some .int), Cond.constant RJ6 265 (1431655765), Cond.constant RJ6 266 (858993459), Cond.constant RJ6 267 (252645135), Cond.methodLink RX0 38 yX0_arrange, Cond.static yX0_arrange, Cond.code yX0_arrange cX0_arrange 8 none, Cond.fieldLink RX0 62 "CanonCote$Arranging" "LOWEST_EDGE_BIT" "[I", Cond.fieldLink RX0 18 "CanonCote$Arranging" "vertexAt" "[I", Cond.methodLink RX0 58 yX0_meet, Cond.instanceMethod yX0_meet, Cond.selects RX0 yX0_meet yX0_meet, Cond.code yX0_meet cX0_meet 6 none, Cond.fieldLink RX0 75 "CanonCote$Arranging" "leastPlaces" "I", Cond.fieldLink RX0 78 "CanonCote$Arranging" "met" "I", Cond.fieldLink RX0 21 "CanonCote$Arranging" "seenAt" "[I", Cond.methodLink RX0 90 Lib.Math.min.name, Cond.static Lib.Math.min.name, Cond.initialized "java/lang/Math", Cond.code Lib.Math.min.name Lib.Math.min.code 2 (some .int), Cond.methodLink RX0 81 yJ7_fill_53178, Cond.static yJ7_fill_53178]
def wsX7_leastCode_r3 : List Cond := [Cond.initialized RJ7, Cond.code yJ7_fill_53178 cJ7_fill_53178 4 none, Cond.methodLink RX0 87 yX0_shiftOf, Cond.static yX0_shiftOf, Cond.code yX0_shiftOf cX0_shiftOf 1 (some .int), Cond.static yX7_below, Cond.initialized RX7, Cond.code yX7_below cX7_below 1 (some .int), Cond.methodLink RX0 68 yX0_splitCells, Cond.instanceMethod yX0_splitCells, Cond.selects RX0 yX0_splitCells yX0_splitCells, Cond.code yX0_splitCells cX0_splitCells 11 (some .int), Cond.instanceMethod yX0_leastCode, Cond.selects RX0 yX0_leastCode yX0_leastCode, Cond.code yX0_leastCode cX0_leastCode 6 (some .long), Cond.methodLink RX0 96 yX0_bestPlace, Cond.instanceMethod yX0_bestPlace, Cond.selects RX0 yX0_bestPlace yX0_bestPlace, Cond.code yX0_bestPlace cX0_bestPlace 2 (some .int)]
def wsX7_leastCode : List Cond := .code yX7_leastCode cX7_leastCode 2 (some .long) :: ((wsX7_leastCode_r1 ++ (wsX7_leastCode_r2 ++ wsX7_leastCode_r3)) ++ wsX70 ++ wsX00 ++ wsX20)
def wsX7_form_r1 : List Cond := [Cond.methodLink RX7 48 yX7_graphAt, Cond.instanceMethod yX7_graphAt, Cond.selects RX7 yX7_graphAt yX7_graphAt, Cond.initialized RX7, Cond.code yX7_graphAt cX7_graphAt 2 (some (.object "CanonCote$Graph")), Cond.classLink RX7 182 "java/lang/IndexOutOfBoundsException", Cond.initialized "java/lang/IndexOutOfBoundsException", Cond.fieldLink RX7 11 "CanonCote" "graphs" "[LCanonCote$Graph;", Cond.methodLink RX7 116 yX7_leastCode, Cond.instanceMethod yX7_leastCode, Cond.selects RX7 yX7_leastCode yX7_leastCode, Cond.code yX7_leastCode cX7_leastCode 2 (some .long), Cond.fieldLink RX7 30 "CanonCote" "arranging" "LCanonCote$Arranging;", Cond.instanceMethod yX0_search, Cond.initialized RX0, Cond.selects RX0 yX0_search yX0_search, Cond.code yX0_search cX0_search 2 none, Cond.constant RX0 33 (2147483647), Cond.fieldLink RX0 34 "CanonCote$Arranging" "leastEdges" "I", Cond.methodLink RX0 24 yX0_findTwins, Cond.instanceMethod yX0_findTwins, Cond.selects RX0 yX0_findTwins yX0_findTwins, Cond.code yX0_findTwins cX0_findTwins 4 none, Cond.fieldLink RX0 9 "CanonCote$Arranging" "twins" "[I"]
def wsX7_form_r2 : List Cond := [Cond.instanceMethod yX2_areTwins, Cond.initialized RX2, Cond.selects RX2 yX2_areTwins yX2_areTwins, Cond.code yX2_areTwins cX2_areTwins 4 (some .boolean), Cond.fieldLink RX2 19 "CanonCote$Graph" "colours" "[I", Cond.fieldLink RX2 15 "CanonCote$Graph" "near" "[I", Cond.methodLink RX0 28 yX0_shareOutByColours, Cond.instanceMethod yX0_shareOutByColours, Cond.selects RX0 yX0_shareOutByColours yX0_shareOutByColours, Cond.code yX0_shareOutByColours cX0_shareOutByColours 6 none, Cond.fieldLink RX0 15 "CanonCote$Arranging" "cells" "[I", Cond.methodLink RX0 54 yJ6_bitCount_0f7a4, Cond.static yJ6_bitCount_0f7a4, Cond.initialized RJ6, Cond.code yJ6_bitCount_0f7a4 cJ6_bitCount_0f7a4 1 (some .int), Cond.constant RJ6 265 (1431655765), Cond.constant RJ6 266 (858993459), Cond.constant RJ6 267 (252645135), Cond.methodLink RX0 38 yX0_arrange, Cond.static yX0_arrange, Cond.code yX0_arrange cX0_arrange 8 none, Cond.fieldLink RX0 62 "CanonCote$Arranging" "LOWEST_EDGE_BIT" "[I", Cond.fieldLink RX0 18 "CanonCote$Arranging" "vertexAt" "[I", Cond.methodLink RX0 58 yX0_meet]
def wsX7_form_r3 : List Cond := [Cond.instanceMethod yX0_meet, Cond.selects RX0 yX0_meet yX0_meet, Cond.code yX0_meet cX0_meet 6 none, Cond.fieldLink RX0 75 "CanonCote$Arranging" "leastPlaces" "I", Cond.fieldLink RX0 78 "CanonCote$Arranging" "met" "I", Cond.fieldLink RX0 21 "CanonCote$Arranging" "seenAt" "[I", Cond.methodLink RX0 90 Lib.Math.min.name, Cond.static Lib.Math.min.name, Cond.initialized "java/lang/Math", Cond.code Lib.Math.min.name Lib.Math.min.code 2 (some .int), Cond.methodLink RX0 81 yJ7_fill_53178, Cond.static yJ7_fill_53178, Cond.initialized RJ7, Cond.code yJ7_fill_53178 cJ7_fill_53178 4 none, Cond.methodLink RX0 87 yX0_shiftOf, Cond.static yX0_shiftOf, Cond.code yX0_shiftOf cX0_shiftOf 1 (some .int), Cond.static yX7_below, Cond.code yX7_below cX7_below 1 (some .int), Cond.methodLink RX0 68 yX0_splitCells, Cond.instanceMethod yX0_splitCells, Cond.selects RX0 yX0_splitCells yX0_splitCells, Cond.code yX0_splitCells cX0_splitCells 11 (some .int), Cond.instanceMethod yX0_leastCode]
def wsX7_form_r4 : List Cond := [Cond.selects RX0 yX0_leastCode yX0_leastCode, Cond.code yX0_leastCode cX0_leastCode 6 (some .long), Cond.methodLink RX0 96 yX0_bestPlace, Cond.instanceMethod yX0_bestPlace, Cond.selects RX0 yX0_bestPlace yX0_bestPlace, Cond.code yX0_bestPlace cX0_bestPlace 2 (some .int)]
def wsX7_form : List Cond := .code yX7_form cX7_form 2 (some .long) :: ((wsX7_form_r1 ++ (wsX7_form_r2 ++ (wsX7_form_r3 ++ wsX7_form_r4))) ++ wsX70 ++ wsX00 ++ wsX20 ++ (vx_atS RX7 186 "java/lang/IndexOutOfBoundsException" ["java/lang/RuntimeException", "java/lang/Exception"]).filter goodWord)
def wsX7_placeOf_r1 : List Cond := [Cond.fieldLink RX7 30 "CanonCote" "arranging" "LCanonCote$Arranging;", Cond.methodLink RX7 48 yX7_graphAt, Cond.instanceMethod yX7_graphAt, Cond.selects RX7 yX7_graphAt yX7_graphAt, Cond.initialized RX7, Cond.code yX7_graphAt cX7_graphAt 2 (some (.object "CanonCote$Graph")), Cond.classLink RX7 182 "java/lang/IndexOutOfBoundsException", Cond.initialized "java/lang/IndexOutOfBoundsException", Cond.fieldLink RX7 11 "CanonCote" "graphs" "[LCanonCote$Graph;", Cond.methodLink RX7 67 yX7_checkVertex, Cond.static yX7_checkVertex, Cond.code yX7_checkVertex cX7_checkVertex 2 none, Cond.instanceMethod yX0_search, Cond.initialized RX0, Cond.selects RX0 yX0_search yX0_search, Cond.code yX0_search cX0_search 2 none, Cond.constant RX0 33 (2147483647), Cond.fieldLink RX0 34 "CanonCote$Arranging" "leastEdges" "I", Cond.methodLink RX0 24 yX0_findTwins, Cond.instanceMethod yX0_findTwins, Cond.selects RX0 yX0_findTwins yX0_findTwins, Cond.code yX0_findTwins cX0_findTwins 4 none, Cond.fieldLink RX0 9 "CanonCote$Arranging" "twins" "[I", Cond.instanceMethod yX2_areTwins]
def wsX7_placeOf_r2 : List Cond := [Cond.initialized RX2, Cond.selects RX2 yX2_areTwins yX2_areTwins, Cond.code yX2_areTwins cX2_areTwins 4 (some .boolean), Cond.fieldLink RX2 19 "CanonCote$Graph" "colours" "[I", Cond.fieldLink RX2 15 "CanonCote$Graph" "near" "[I", Cond.methodLink RX0 28 yX0_shareOutByColours, Cond.instanceMethod yX0_shareOutByColours, Cond.selects RX0 yX0_shareOutByColours yX0_shareOutByColours, Cond.code yX0_shareOutByColours cX0_shareOutByColours 6 none, Cond.fieldLink RX0 15 "CanonCote$Arranging" "cells" "[I", Cond.methodLink RX0 54 yJ6_bitCount_0f7a4, Cond.static yJ6_bitCount_0f7a4, Cond.initialized RJ6, Cond.code yJ6_bitCount_0f7a4 cJ6_bitCount_0f7a4 1 (some .int), Cond.constant RJ6 265 (1431655765), Cond.constant RJ6 266 (858993459), Cond.constant RJ6 267 (252645135), Cond.methodLink RX0 38 yX0_arrange, Cond.static yX0_arrange, Cond.code yX0_arrange cX0_arrange 8 none, Cond.fieldLink RX0 62 "CanonCote$Arranging" "LOWEST_EDGE_BIT" "[I", Cond.fieldLink RX0 18 "CanonCote$Arranging" "vertexAt" "[I", Cond.methodLink RX0 58 yX0_meet, Cond.instanceMethod yX0_meet]
def wsX7_placeOf_r3 : List Cond := [Cond.selects RX0 yX0_meet yX0_meet, Cond.code yX0_meet cX0_meet 6 none, Cond.fieldLink RX0 75 "CanonCote$Arranging" "leastPlaces" "I", Cond.fieldLink RX0 78 "CanonCote$Arranging" "met" "I", Cond.fieldLink RX0 21 "CanonCote$Arranging" "seenAt" "[I", Cond.methodLink RX0 90 Lib.Math.min.name, Cond.static Lib.Math.min.name, Cond.initialized "java/lang/Math", Cond.code Lib.Math.min.name Lib.Math.min.code 2 (some .int), Cond.methodLink RX0 81 yJ7_fill_53178, Cond.static yJ7_fill_53178, Cond.initialized RJ7, Cond.code yJ7_fill_53178 cJ7_fill_53178 4 none, Cond.methodLink RX0 87 yX0_shiftOf, Cond.static yX0_shiftOf, Cond.code yX0_shiftOf cX0_shiftOf 1 (some .int), Cond.static yX7_below, Cond.code yX7_below cX7_below 1 (some .int), Cond.methodLink RX0 68 yX0_splitCells, Cond.instanceMethod yX0_splitCells, Cond.selects RX0 yX0_splitCells yX0_splitCells, Cond.code yX0_splitCells cX0_splitCells 11 (some .int), Cond.instanceMethod yX0_bestPlace, Cond.selects RX0 yX0_bestPlace yX0_bestPlace]
def wsX7_placeOf_r4 : List Cond := [Cond.code yX0_bestPlace cX0_bestPlace 2 (some .int)]
def wsX7_placeOf : List Cond := .code yX7_placeOf cX7_placeOf 4 (some .int) :: ((wsX7_placeOf_r1 ++ (wsX7_placeOf_r2 ++ (wsX7_placeOf_r3 ++ wsX7_placeOf_r4))) ++ wsX70 ++ wsX20 ++ wsX00 ++ (vx_atS RX7 186 "java/lang/IndexOutOfBoundsException" ["java/lang/RuntimeException", "java/lang/Exception"]).filter goodWord)
def wsX7_haveOneForm_r1 : List Cond := [Cond.methodLink RX7 116 yX7_leastCode, Cond.instanceMethod yX7_leastCode, Cond.selects RX7 yX7_leastCode yX7_leastCode, Cond.initialized RX7, Cond.code yX7_leastCode cX7_leastCode 2 (some .long), Cond.fieldLink RX7 30 "CanonCote" "arranging" "LCanonCote$Arranging;", Cond.instanceMethod yX0_search, Cond.initialized RX0, Cond.selects RX0 yX0_search yX0_search, Cond.code yX0_search cX0_search 2 none, Cond.constant RX0 33 (2147483647), Cond.fieldLink RX0 34 "CanonCote$Arranging" "leastEdges" "I", Cond.methodLink RX0 24 yX0_findTwins, Cond.instanceMethod yX0_findTwins, Cond.selects RX0 yX0_findTwins yX0_findTwins, Cond.code yX0_findTwins cX0_findTwins 4 none, Cond.fieldLink RX0 9 "CanonCote$Arranging" "twins" "[I", Cond.instanceMethod yX2_areTwins, Cond.initialized RX2, Cond.selects RX2 yX2_areTwins yX2_areTwins, Cond.code yX2_areTwins cX2_areTwins 4 (some .boolean), Cond.fieldLink RX2 19 "CanonCote$Graph" "colours" "[I", Cond.fieldLink RX2 15 "CanonCote$Graph" "near" "[I", Cond.methodLink RX0 28 yX0_shareOutByColours]
def wsX7_haveOneForm_r2 : List Cond := [Cond.instanceMethod yX0_shareOutByColours, Cond.selects RX0 yX0_shareOutByColours yX0_shareOutByColours, Cond.code yX0_shareOutByColours cX0_shareOutByColours 6 none, Cond.fieldLink RX0 15 "CanonCote$Arranging" "cells" "[I", Cond.methodLink RX0 54 yJ6_bitCount_0f7a4, Cond.static yJ6_bitCount_0f7a4, Cond.initialized RJ6, Cond.code yJ6_bitCount_0f7a4 cJ6_bitCount_0f7a4 1 (some .int), Cond.constant RJ6 265 (1431655765), Cond.constant RJ6 266 (858993459), Cond.constant RJ6 267 (252645135), Cond.methodLink RX0 38 yX0_arrange, Cond.static yX0_arrange, Cond.code yX0_arrange cX0_arrange 8 none, Cond.fieldLink RX0 62 "CanonCote$Arranging" "LOWEST_EDGE_BIT" "[I", Cond.fieldLink RX0 18 "CanonCote$Arranging" "vertexAt" "[I", Cond.methodLink RX0 58 yX0_meet, Cond.instanceMethod yX0_meet, Cond.selects RX0 yX0_meet yX0_meet, Cond.code yX0_meet cX0_meet 6 none, Cond.fieldLink RX0 75 "CanonCote$Arranging" "leastPlaces" "I", Cond.fieldLink RX0 78 "CanonCote$Arranging" "met" "I", Cond.fieldLink RX0 21 "CanonCote$Arranging" "seenAt" "[I", Cond.methodLink RX0 90 Lib.Math.min.name]
def wsX7_haveOneForm_r3 : List Cond := [Cond.static Lib.Math.min.name, Cond.initialized "java/lang/Math", Cond.code Lib.Math.min.name Lib.Math.min.code 2 (some .int), Cond.methodLink RX0 81 yJ7_fill_53178, Cond.static yJ7_fill_53178, Cond.initialized RJ7, Cond.code yJ7_fill_53178 cJ7_fill_53178 4 none, Cond.methodLink RX0 87 yX0_shiftOf, Cond.static yX0_shiftOf, Cond.code yX0_shiftOf cX0_shiftOf 1 (some .int), Cond.static yX7_below, Cond.code yX7_below cX7_below 1 (some .int), Cond.methodLink RX0 68 yX0_splitCells, Cond.instanceMethod yX0_splitCells, Cond.selects RX0 yX0_splitCells yX0_splitCells, Cond.code yX0_splitCells cX0_splitCells 11 (some .int), Cond.instanceMethod yX0_leastCode, Cond.selects RX0 yX0_leastCode yX0_leastCode, Cond.code yX0_leastCode cX0_leastCode 6 (some .long), Cond.methodLink RX0 96 yX0_bestPlace, Cond.instanceMethod yX0_bestPlace, Cond.selects RX0 yX0_bestPlace yX0_bestPlace, Cond.code yX0_bestPlace cX0_bestPlace 2 (some .int)]
def wsX7_haveOneForm : List Cond := .code yX7_haveOneForm cX7_haveOneForm 3 (some .boolean) :: ((wsX7_haveOneForm_r1 ++ (wsX7_haveOneForm_r2 ++ wsX7_haveOneForm_r3)) ++ wsX70 ++ wsX00 ++ wsX20)
def wsX7_areAlike_r1 : List Cond := [Cond.methodLink RX7 48 yX7_graphAt, Cond.instanceMethod yX7_graphAt, Cond.selects RX7 yX7_graphAt yX7_graphAt, Cond.initialized RX7, Cond.code yX7_graphAt cX7_graphAt 2 (some (.object "CanonCote$Graph")), Cond.classLink RX7 182 "java/lang/IndexOutOfBoundsException", Cond.initialized "java/lang/IndexOutOfBoundsException", Cond.fieldLink RX7 11 "CanonCote" "graphs" "[LCanonCote$Graph;", Cond.methodLink RX7 127 yX7_haveOneForm, Cond.instanceMethod yX7_haveOneForm, Cond.selects RX7 yX7_haveOneForm yX7_haveOneForm, Cond.code yX7_haveOneForm cX7_haveOneForm 3 (some .boolean), Cond.methodLink RX7 116 yX7_leastCode, Cond.instanceMethod yX7_leastCode, Cond.selects RX7 yX7_leastCode yX7_leastCode, Cond.code yX7_leastCode cX7_leastCode 2 (some .long), Cond.fieldLink RX7 30 "CanonCote" "arranging" "LCanonCote$Arranging;", Cond.instanceMethod yX0_search, Cond.initialized RX0, Cond.selects RX0 yX0_search yX0_search, Cond.code yX0_search cX0_search 2 none, Cond.constant RX0 33 (2147483647), Cond.fieldLink RX0 34 "CanonCote$Arranging" "leastEdges" "I", Cond.methodLink RX0 24 yX0_findTwins]
def wsX7_areAlike_r2 : List Cond := [Cond.instanceMethod yX0_findTwins, Cond.selects RX0 yX0_findTwins yX0_findTwins, Cond.code yX0_findTwins cX0_findTwins 4 none, Cond.fieldLink RX0 9 "CanonCote$Arranging" "twins" "[I", Cond.instanceMethod yX2_areTwins, Cond.initialized RX2, Cond.selects RX2 yX2_areTwins yX2_areTwins, Cond.code yX2_areTwins cX2_areTwins 4 (some .boolean), Cond.fieldLink RX2 19 "CanonCote$Graph" "colours" "[I", Cond.fieldLink RX2 15 "CanonCote$Graph" "near" "[I", Cond.methodLink RX0 28 yX0_shareOutByColours, Cond.instanceMethod yX0_shareOutByColours, Cond.selects RX0 yX0_shareOutByColours yX0_shareOutByColours, Cond.code yX0_shareOutByColours cX0_shareOutByColours 6 none, Cond.fieldLink RX0 15 "CanonCote$Arranging" "cells" "[I", Cond.methodLink RX0 54 yJ6_bitCount_0f7a4, Cond.static yJ6_bitCount_0f7a4, Cond.initialized RJ6, Cond.code yJ6_bitCount_0f7a4 cJ6_bitCount_0f7a4 1 (some .int), Cond.constant RJ6 265 (1431655765), Cond.constant RJ6 266 (858993459), Cond.constant RJ6 267 (252645135), Cond.methodLink RX0 38 yX0_arrange, Cond.static yX0_arrange]
def wsX7_areAlike_r3 : List Cond := [Cond.code yX0_arrange cX0_arrange 8 none, Cond.fieldLink RX0 62 "CanonCote$Arranging" "LOWEST_EDGE_BIT" "[I", Cond.fieldLink RX0 18 "CanonCote$Arranging" "vertexAt" "[I", Cond.methodLink RX0 58 yX0_meet, Cond.instanceMethod yX0_meet, Cond.selects RX0 yX0_meet yX0_meet, Cond.code yX0_meet cX0_meet 6 none, Cond.fieldLink RX0 75 "CanonCote$Arranging" "leastPlaces" "I", Cond.fieldLink RX0 78 "CanonCote$Arranging" "met" "I", Cond.fieldLink RX0 21 "CanonCote$Arranging" "seenAt" "[I", Cond.methodLink RX0 90 Lib.Math.min.name, Cond.static Lib.Math.min.name, Cond.initialized "java/lang/Math", Cond.code Lib.Math.min.name Lib.Math.min.code 2 (some .int), Cond.methodLink RX0 81 yJ7_fill_53178, Cond.static yJ7_fill_53178, Cond.initialized RJ7, Cond.code yJ7_fill_53178 cJ7_fill_53178 4 none, Cond.methodLink RX0 87 yX0_shiftOf, Cond.static yX0_shiftOf, Cond.code yX0_shiftOf cX0_shiftOf 1 (some .int), Cond.static yX7_below, Cond.code yX7_below cX7_below 1 (some .int), Cond.methodLink RX0 68 yX0_splitCells]
def wsX7_areAlike_r4 : List Cond := [Cond.instanceMethod yX0_splitCells, Cond.selects RX0 yX0_splitCells yX0_splitCells, Cond.code yX0_splitCells cX0_splitCells 11 (some .int), Cond.instanceMethod yX0_leastCode, Cond.selects RX0 yX0_leastCode yX0_leastCode, Cond.code yX0_leastCode cX0_leastCode 6 (some .long), Cond.methodLink RX0 96 yX0_bestPlace, Cond.instanceMethod yX0_bestPlace, Cond.selects RX0 yX0_bestPlace yX0_bestPlace, Cond.code yX0_bestPlace cX0_bestPlace 2 (some .int)]
def wsX7_areAlike : List Cond := .code yX7_areAlike cX7_areAlike 4 (some .boolean) :: ((wsX7_areAlike_r1 ++ (wsX7_areAlike_r2 ++ (wsX7_areAlike_r3 ++ wsX7_areAlike_r4))) ++ wsX70 ++ wsX00 ++ wsX20 ++ (vx_atS RX7 186 "java/lang/IndexOutOfBoundsException" ["java/lang/RuntimeException", "java/lang/Exception"]).filter goodWord)
def wsX7_image_r1 : List Cond := [Cond.fieldLink RX7 37 "CanonCote" "mapping" "LCanonCote$Mapping;", Cond.methodLink RX7 48 yX7_graphAt, Cond.instanceMethod yX7_graphAt, Cond.selects RX7 yX7_graphAt yX7_graphAt, Cond.initialized RX7, Cond.code yX7_graphAt cX7_graphAt 2 (some (.object "CanonCote$Graph")), Cond.classLink RX7 182 "java/lang/IndexOutOfBoundsException", Cond.initialized "java/lang/IndexOutOfBoundsException", Cond.fieldLink RX7 11 "CanonCote" "graphs" "[LCanonCote$Graph;", Cond.methodLink RX7 67 yX7_checkVertex, Cond.static yX7_checkVertex, Cond.code yX7_checkVertex cX7_checkVertex 2 none, Cond.methodLink RX7 127 yX7_haveOneForm, Cond.instanceMethod yX7_haveOneForm, Cond.selects RX7 yX7_haveOneForm yX7_haveOneForm, Cond.code yX7_haveOneForm cX7_haveOneForm 3 (some .boolean), Cond.methodLink RX7 116 yX7_leastCode, Cond.instanceMethod yX7_leastCode, Cond.selects RX7 yX7_leastCode yX7_leastCode, Cond.code yX7_leastCode cX7_leastCode 2 (some .long), Cond.fieldLink RX7 30 "CanonCote" "arranging" "LCanonCote$Arranging;", Cond.instanceMethod yX0_search, Cond.initialized RX0, Cond.selects RX0 yX0_search yX0_search]
def wsX7_image_r2 : List Cond := [Cond.code yX0_search cX0_search 2 none, Cond.constant RX0 33 (2147483647), Cond.fieldLink RX0 34 "CanonCote$Arranging" "leastEdges" "I", Cond.methodLink RX0 24 yX0_findTwins, Cond.instanceMethod yX0_findTwins, Cond.selects RX0 yX0_findTwins yX0_findTwins, Cond.code yX0_findTwins cX0_findTwins 4 none, Cond.fieldLink RX0 9 "CanonCote$Arranging" "twins" "[I", Cond.instanceMethod yX2_areTwins, Cond.initialized RX2, Cond.selects RX2 yX2_areTwins yX2_areTwins, Cond.code yX2_areTwins cX2_areTwins 4 (some .boolean), Cond.fieldLink RX2 19 "CanonCote$Graph" "colours" "[I", Cond.fieldLink RX2 15 "CanonCote$Graph" "near" "[I", Cond.methodLink RX0 28 yX0_shareOutByColours, Cond.instanceMethod yX0_shareOutByColours, Cond.selects RX0 yX0_shareOutByColours yX0_shareOutByColours, Cond.code yX0_shareOutByColours cX0_shareOutByColours 6 none, Cond.fieldLink RX0 15 "CanonCote$Arranging" "cells" "[I", Cond.methodLink RX0 54 yJ6_bitCount_0f7a4, Cond.static yJ6_bitCount_0f7a4, Cond.initialized RJ6, Cond.code yJ6_bitCount_0f7a4 cJ6_bitCount_0f7a4 1 (some .int), Cond.constant RJ6 265 (1431655765)]
def wsX7_image_r3 : List Cond := [Cond.constant RJ6 266 (858993459), Cond.constant RJ6 267 (252645135), Cond.methodLink RX0 38 yX0_arrange, Cond.static yX0_arrange, Cond.code yX0_arrange cX0_arrange 8 none, Cond.fieldLink RX0 62 "CanonCote$Arranging" "LOWEST_EDGE_BIT" "[I", Cond.fieldLink RX0 18 "CanonCote$Arranging" "vertexAt" "[I", Cond.methodLink RX0 58 yX0_meet, Cond.instanceMethod yX0_meet, Cond.selects RX0 yX0_meet yX0_meet, Cond.code yX0_meet cX0_meet 6 none, Cond.fieldLink RX0 75 "CanonCote$Arranging" "leastPlaces" "I", Cond.fieldLink RX0 78 "CanonCote$Arranging" "met" "I", Cond.fieldLink RX0 21 "CanonCote$Arranging" "seenAt" "[I", Cond.methodLink RX0 90 Lib.Math.min.name, Cond.static Lib.Math.min.name, Cond.initialized "java/lang/Math", Cond.code Lib.Math.min.name Lib.Math.min.code 2 (some .int), Cond.methodLink RX0 81 yJ7_fill_53178, Cond.static yJ7_fill_53178, Cond.initialized RJ7, Cond.code yJ7_fill_53178 cJ7_fill_53178 4 none, Cond.methodLink RX0 87 yX0_shiftOf, Cond.static yX0_shiftOf]
def wsX7_image_r4 : List Cond := [Cond.code yX0_shiftOf cX0_shiftOf 1 (some .int), Cond.static yX7_below, Cond.code yX7_below cX7_below 1 (some .int), Cond.methodLink RX0 68 yX0_splitCells, Cond.instanceMethod yX0_splitCells, Cond.selects RX0 yX0_splitCells yX0_splitCells, Cond.code yX0_splitCells cX0_splitCells 11 (some .int), Cond.instanceMethod yX0_leastCode, Cond.selects RX0 yX0_leastCode yX0_leastCode, Cond.code yX0_leastCode cX0_leastCode 6 (some .long), Cond.methodLink RX0 96 yX0_bestPlace, Cond.instanceMethod yX0_bestPlace, Cond.selects RX0 yX0_bestPlace yX0_bestPlace, Cond.code yX0_bestPlace cX0_bestPlace 2 (some .int), Cond.instanceMethod yX4_find, Cond.initialized RX4, Cond.selects RX4 yX4_find yX4_find, Cond.code yX4_find cX4_find 3 (some .boolean), Cond.fieldLink RX4 18 "CanonCote$Mapping" "classesHere" "LCanonCote$Refinement;", Cond.fieldLink RX4 22 "CanonCote$Mapping" "classesThere" "LCanonCote$Refinement;", Cond.instanceMethod yX6_refine, Cond.initialized RX6, Cond.selects RX6 yX6_refine yX6_refine, Cond.code yX6_refine cX6_refine 5 none]
def wsX7_image_r5 : List Cond := [Cond.fieldLink RX6 18 "CanonCote$Refinement" "keys" "[J", Cond.fieldLink RX6 35 "CanonCote$Refinement" "count" "I", Cond.fieldLink RX6 42 "CanonCote$Refinement" "lastRound" "I", Cond.methodLink RX6 31 yX6_numberByKeys, Cond.instanceMethod yX6_numberByKeys, Cond.selects RX6 yX6_numberByKeys yX6_numberByKeys, Cond.code yX6_numberByKeys cX6_numberByKeys 6 none, Cond.fieldLink RX6 15 "CanonCote$Refinement" "members" "[I", Cond.fieldLink RX6 9 "CanonCote$Refinement" "numbers" "[I", Cond.methodLink RX6 54 yX6_isFirstOfKey, Cond.instanceMethod yX6_isFirstOfKey, Cond.selects RX6 yX6_isFirstOfKey yX6_isFirstOfKey, Cond.code yX6_isFirstOfKey cX6_isFirstOfKey 3 (some .boolean), Cond.methodLink RX6 48 yJ6_bitCount_0f7a4, Cond.methodLink RX6 58 yJ7_fill_53178, Cond.static yX7_isIn, Cond.code yX7_isIn cX7_isIn 2 (some .boolean), Cond.methodLink RX6 38 yX6_keyOf, Cond.instanceMethod yX6_keyOf, Cond.selects RX6 yX6_keyOf yX6_keyOf, Cond.code yX6_keyOf cX6_keyOf 6 (some .long), Cond.methodLink RX4 35 yX4_extend, Cond.static yX4_extend, Cond.code yX4_extend cX4_extend 6 (some .boolean)]
def wsX7_image_r6 : List Cond := [Cond.fieldLink RX4 9 "CanonCote$Mapping" "images" "[I", Cond.methodLink RX4 43 yX4_fits, Cond.instanceMethod yX4_fits, Cond.selects RX4 yX4_fits yX4_fits, Cond.code yX4_fits cX4_fits 6 (some .boolean), Cond.instanceMethod yX2_hasEdge, Cond.selects RX2 yX2_hasEdge yX2_hasEdge, Cond.code yX2_hasEdge cX2_hasEdge 3 (some .boolean)]
def wsX7_image : List Cond := .code yX7_image cX7_image 6 (some .int) :: ((wsX7_image_r1 ++ (wsX7_image_r2 ++ (wsX7_image_r3 ++ (wsX7_image_r4 ++ (wsX7_image_r5 ++ wsX7_image_r6))))) ++ wsX70 ++ wsX40 ++ wsX20 ++ wsX00 ++ wsX60 ++ (vx_atS RX7 186 "java/lang/IndexOutOfBoundsException" ["java/lang/RuntimeException", "java/lang/Exception"]).filter goodWord)
def wsX7_copies_r1 : List Cond := [Cond.fieldLink RX7 16 "CanonCote" "chosen" "LCanonCote$Graph;", Cond.methodLink RX7 48 yX7_graphAt, Cond.instanceMethod yX7_graphAt, Cond.selects RX7 yX7_graphAt yX7_graphAt, Cond.initialized RX7, Cond.code yX7_graphAt cX7_graphAt 2 (some (.object "CanonCote$Graph")), Cond.classLink RX7 182 "java/lang/IndexOutOfBoundsException", Cond.initialized "java/lang/IndexOutOfBoundsException", Cond.fieldLink RX7 11 "CanonCote" "graphs" "[LCanonCote$Graph;", Cond.methodLink RX7 116 yX7_leastCode, Cond.instanceMethod yX7_leastCode, Cond.selects RX7 yX7_leastCode yX7_leastCode, Cond.code yX7_leastCode cX7_leastCode 2 (some .long), Cond.fieldLink RX7 30 "CanonCote" "arranging" "LCanonCote$Arranging;", Cond.instanceMethod yX0_search, Cond.initialized RX0, Cond.selects RX0 yX0_search yX0_search, Cond.code yX0_search cX0_search 2 none, Cond.constant RX0 33 (2147483647), Cond.fieldLink RX0 34 "CanonCote$Arranging" "leastEdges" "I", Cond.methodLink RX0 24 yX0_findTwins, Cond.instanceMethod yX0_findTwins, Cond.selects RX0 yX0_findTwins yX0_findTwins, Cond.code yX0_findTwins cX0_findTwins 4 none]
def wsX7_copies_r2 : List Cond := [Cond.fieldLink RX0 9 "CanonCote$Arranging" "twins" "[I", Cond.instanceMethod yX2_areTwins, Cond.initialized RX2, Cond.selects RX2 yX2_areTwins yX2_areTwins, Cond.code yX2_areTwins cX2_areTwins 4 (some .boolean), Cond.fieldLink RX2 19 "CanonCote$Graph" "colours" "[I", Cond.fieldLink RX2 15 "CanonCote$Graph" "near" "[I", Cond.methodLink RX0 28 yX0_shareOutByColours, Cond.instanceMethod yX0_shareOutByColours, Cond.selects RX0 yX0_shareOutByColours yX0_shareOutByColours, Cond.code yX0_shareOutByColours cX0_shareOutByColours 6 none, Cond.fieldLink RX0 15 "CanonCote$Arranging" "cells" "[I", Cond.methodLink RX0 54 yJ6_bitCount_0f7a4, Cond.static yJ6_bitCount_0f7a4, Cond.initialized RJ6, Cond.code yJ6_bitCount_0f7a4 cJ6_bitCount_0f7a4 1 (some .int), Cond.constant RJ6 265 (1431655765), Cond.constant RJ6 266 (858993459), Cond.constant RJ6 267 (252645135), Cond.methodLink RX0 38 yX0_arrange, Cond.static yX0_arrange, Cond.code yX0_arrange cX0_arrange 8 none, Cond.fieldLink RX0 62 "CanonCote$Arranging" "LOWEST_EDGE_BIT" "[I", Cond.fieldLink RX0 18 "CanonCote$Arranging" "vertexAt" "[I"]
def wsX7_copies_r3 : List Cond := [Cond.methodLink RX0 58 yX0_meet, Cond.instanceMethod yX0_meet, Cond.selects RX0 yX0_meet yX0_meet, Cond.code yX0_meet cX0_meet 6 none, Cond.fieldLink RX0 75 "CanonCote$Arranging" "leastPlaces" "I", Cond.fieldLink RX0 78 "CanonCote$Arranging" "met" "I", Cond.fieldLink RX0 21 "CanonCote$Arranging" "seenAt" "[I", Cond.methodLink RX0 90 Lib.Math.min.name, Cond.static Lib.Math.min.name, Cond.initialized "java/lang/Math", Cond.code Lib.Math.min.name Lib.Math.min.code 2 (some .int), Cond.methodLink RX0 81 yJ7_fill_53178, Cond.static yJ7_fill_53178, Cond.initialized RJ7, Cond.code yJ7_fill_53178 cJ7_fill_53178 4 none, Cond.methodLink RX0 87 yX0_shiftOf, Cond.static yX0_shiftOf, Cond.code yX0_shiftOf cX0_shiftOf 1 (some .int), Cond.static yX7_below, Cond.code yX7_below cX7_below 1 (some .int), Cond.methodLink RX0 68 yX0_splitCells, Cond.instanceMethod yX0_splitCells, Cond.selects RX0 yX0_splitCells yX0_splitCells, Cond.code yX0_splitCells cX0_splitCells 11 (some .int)]
def wsX7_copies_r4 : List Cond := [Cond.instanceMethod yX0_leastCode, Cond.selects RX0 yX0_leastCode yX0_leastCode, Cond.code yX0_leastCode cX0_leastCode 6 (some .long), Cond.methodLink RX0 96 yX0_bestPlace, Cond.instanceMethod yX0_bestPlace, Cond.selects RX0 yX0_bestPlace yX0_bestPlace, Cond.code yX0_bestPlace cX0_bestPlace 2 (some .int), Cond.methodLink RX7 137 yJ6_bitCount_0f7a4, Cond.instanceMethod yX2_becomePart, Cond.selects RX2 yX2_becomePart yX2_becomePart, Cond.code yX2_becomePart cX2_becomePart 4 none, Cond.fieldLink RX2 9 "CanonCote$Graph" "size" "I", Cond.static yX7_isIn, Cond.code yX7_isIn cX7_isIn 2 (some .boolean), Cond.methodLink RX2 41 yX2_squeeze, Cond.static yX2_squeeze, Cond.code yX2_squeeze cX2_squeeze 5 (some .int), Cond.instanceMethod yX2_countEdges, Cond.selects RX2 yX2_countEdges yX2_countEdges, Cond.code yX2_countEdges cX2_countEdges 3 (some .int), Cond.methodLink RX2 36 yJ6_bitCount_0f7a4]
def wsX7_copies : List Cond := .code yX7_copies cX7_copies 9 (some .int) :: ((wsX7_copies_r1 ++ (wsX7_copies_r2 ++ (wsX7_copies_r3 ++ wsX7_copies_r4))) ++ wsX20 ++ wsX70 ++ wsX00 ++ (vx_atS RX7 186 "java/lang/IndexOutOfBoundsException" ["java/lang/RuntimeException", "java/lang/Exception"]).filter goodWord)
def wsX7_symmetries_r1 : List Cond := [Cond.fieldLink RX7 30 "CanonCote" "arranging" "LCanonCote$Arranging;", Cond.methodLink RX7 48 yX7_graphAt, Cond.instanceMethod yX7_graphAt, Cond.selects RX7 yX7_graphAt yX7_graphAt, Cond.initialized RX7, Cond.code yX7_graphAt cX7_graphAt 2 (some (.object "CanonCote$Graph")), Cond.classLink RX7 182 "java/lang/IndexOutOfBoundsException", Cond.initialized "java/lang/IndexOutOfBoundsException", Cond.fieldLink RX7 11 "CanonCote" "graphs" "[LCanonCote$Graph;", Cond.instanceMethod yX0_search, Cond.initialized RX0, Cond.selects RX0 yX0_search yX0_search, Cond.code yX0_search cX0_search 2 none, Cond.constant RX0 33 (2147483647), Cond.fieldLink RX0 34 "CanonCote$Arranging" "leastEdges" "I", Cond.methodLink RX0 24 yX0_findTwins, Cond.instanceMethod yX0_findTwins, Cond.selects RX0 yX0_findTwins yX0_findTwins, Cond.code yX0_findTwins cX0_findTwins 4 none, Cond.fieldLink RX0 9 "CanonCote$Arranging" "twins" "[I", Cond.instanceMethod yX2_areTwins, Cond.initialized RX2, Cond.selects RX2 yX2_areTwins yX2_areTwins, Cond.code yX2_areTwins cX2_areTwins 4 (some .boolean)]
def wsX7_symmetries_r2 : List Cond := [Cond.fieldLink RX2 19 "CanonCote$Graph" "colours" "[I", Cond.fieldLink RX2 15 "CanonCote$Graph" "near" "[I", Cond.methodLink RX0 28 yX0_shareOutByColours, Cond.instanceMethod yX0_shareOutByColours, Cond.selects RX0 yX0_shareOutByColours yX0_shareOutByColours, Cond.code yX0_shareOutByColours cX0_shareOutByColours 6 none, Cond.fieldLink RX0 15 "CanonCote$Arranging" "cells" "[I", Cond.methodLink RX0 54 yJ6_bitCount_0f7a4, Cond.static yJ6_bitCount_0f7a4, Cond.initialized RJ6, Cond.code yJ6_bitCount_0f7a4 cJ6_bitCount_0f7a4 1 (some .int), Cond.constant RJ6 265 (1431655765), Cond.constant RJ6 266 (858993459), Cond.constant RJ6 267 (252645135), Cond.methodLink RX0 38 yX0_arrange, Cond.static yX0_arrange, Cond.code yX0_arrange cX0_arrange 8 none, Cond.fieldLink RX0 62 "CanonCote$Arranging" "LOWEST_EDGE_BIT" "[I", Cond.fieldLink RX0 18 "CanonCote$Arranging" "vertexAt" "[I", Cond.methodLink RX0 58 yX0_meet, Cond.instanceMethod yX0_meet, Cond.selects RX0 yX0_meet yX0_meet, Cond.code yX0_meet cX0_meet 6 none, Cond.fieldLink RX0 75 "CanonCote$Arranging" "leastPlaces" "I"]
def wsX7_symmetries_r3 : List Cond := [Cond.fieldLink RX0 78 "CanonCote$Arranging" "met" "I", Cond.fieldLink RX0 21 "CanonCote$Arranging" "seenAt" "[I", Cond.methodLink RX0 90 Lib.Math.min.name, Cond.static Lib.Math.min.name, Cond.initialized "java/lang/Math", Cond.code Lib.Math.min.name Lib.Math.min.code 2 (some .int), Cond.methodLink RX0 81 yJ7_fill_53178, Cond.static yJ7_fill_53178, Cond.initialized RJ7, Cond.code yJ7_fill_53178 cJ7_fill_53178 4 none, Cond.methodLink RX0 87 yX0_shiftOf, Cond.static yX0_shiftOf, Cond.code yX0_shiftOf cX0_shiftOf 1 (some .int), Cond.static yX7_below, Cond.code yX7_below cX7_below 1 (some .int), Cond.methodLink RX0 68 yX0_splitCells, Cond.instanceMethod yX0_splitCells, Cond.selects RX0 yX0_splitCells yX0_splitCells, Cond.code yX0_splitCells cX0_splitCells 11 (some .int), Cond.instanceMethod yX0_countBest, Cond.selects RX0 yX0_countBest yX0_countBest, Cond.code yX0_countBest cX0_countBest 4 (some .int)]
def wsX7_symmetries : List Cond := .code yX7_symmetries cX7_symmetries 3 (some .int) :: ((wsX7_symmetries_r1 ++ (wsX7_symmetries_r2 ++ wsX7_symmetries_r3)) ++ wsX70 ++ wsX20 ++ wsX00 ++ (vx_atS RX7 186 "java/lang/IndexOutOfBoundsException" ["java/lang/RuntimeException", "java/lang/Exception"]).filter goodWord)
def wsX7_orbits_r1 : List Cond := [Cond.fieldLink RX7 30 "CanonCote" "arranging" "LCanonCote$Arranging;", Cond.methodLink RX7 48 yX7_graphAt, Cond.instanceMethod yX7_graphAt, Cond.selects RX7 yX7_graphAt yX7_graphAt, Cond.initialized RX7, Cond.code yX7_graphAt cX7_graphAt 2 (some (.object "CanonCote$Graph")), Cond.classLink RX7 182 "java/lang/IndexOutOfBoundsException", Cond.initialized "java/lang/IndexOutOfBoundsException", Cond.fieldLink RX7 11 "CanonCote" "graphs" "[LCanonCote$Graph;", Cond.instanceMethod yX0_search, Cond.initialized RX0, Cond.selects RX0 yX0_search yX0_search, Cond.code yX0_search cX0_search 2 none, Cond.constant RX0 33 (2147483647), Cond.fieldLink RX0 34 "CanonCote$Arranging" "leastEdges" "I", Cond.methodLink RX0 24 yX0_findTwins, Cond.instanceMethod yX0_findTwins, Cond.selects RX0 yX0_findTwins yX0_findTwins, Cond.code yX0_findTwins cX0_findTwins 4 none, Cond.fieldLink RX0 9 "CanonCote$Arranging" "twins" "[I", Cond.instanceMethod yX2_areTwins, Cond.initialized RX2, Cond.selects RX2 yX2_areTwins yX2_areTwins, Cond.code yX2_areTwins cX2_areTwins 4 (some .boolean)]
def wsX7_orbits_r2 : List Cond := [Cond.fieldLink RX2 19 "CanonCote$Graph" "colours" "[I", Cond.fieldLink RX2 15 "CanonCote$Graph" "near" "[I", Cond.methodLink RX0 28 yX0_shareOutByColours, Cond.instanceMethod yX0_shareOutByColours, Cond.selects RX0 yX0_shareOutByColours yX0_shareOutByColours, Cond.code yX0_shareOutByColours cX0_shareOutByColours 6 none, Cond.fieldLink RX0 15 "CanonCote$Arranging" "cells" "[I", Cond.methodLink RX0 54 yJ6_bitCount_0f7a4, Cond.static yJ6_bitCount_0f7a4, Cond.initialized RJ6, Cond.code yJ6_bitCount_0f7a4 cJ6_bitCount_0f7a4 1 (some .int), Cond.constant RJ6 265 (1431655765), Cond.constant RJ6 266 (858993459), Cond.constant RJ6 267 (252645135), Cond.methodLink RX0 38 yX0_arrange, Cond.static yX0_arrange, Cond.code yX0_arrange cX0_arrange 8 none, Cond.fieldLink RX0 62 "CanonCote$Arranging" "LOWEST_EDGE_BIT" "[I", Cond.fieldLink RX0 18 "CanonCote$Arranging" "vertexAt" "[I", Cond.methodLink RX0 58 yX0_meet, Cond.instanceMethod yX0_meet, Cond.selects RX0 yX0_meet yX0_meet, Cond.code yX0_meet cX0_meet 6 none, Cond.fieldLink RX0 75 "CanonCote$Arranging" "leastPlaces" "I"]
def wsX7_orbits_r3 : List Cond := [Cond.fieldLink RX0 78 "CanonCote$Arranging" "met" "I", Cond.fieldLink RX0 21 "CanonCote$Arranging" "seenAt" "[I", Cond.methodLink RX0 90 Lib.Math.min.name, Cond.static Lib.Math.min.name, Cond.initialized "java/lang/Math", Cond.code Lib.Math.min.name Lib.Math.min.code 2 (some .int), Cond.methodLink RX0 81 yJ7_fill_53178, Cond.static yJ7_fill_53178, Cond.initialized RJ7, Cond.code yJ7_fill_53178 cJ7_fill_53178 4 none, Cond.methodLink RX0 87 yX0_shiftOf, Cond.static yX0_shiftOf, Cond.code yX0_shiftOf cX0_shiftOf 1 (some .int), Cond.static yX7_below, Cond.code yX7_below cX7_below 1 (some .int), Cond.methodLink RX0 68 yX0_splitCells, Cond.instanceMethod yX0_splitCells, Cond.selects RX0 yX0_splitCells yX0_splitCells, Cond.code yX0_splitCells cX0_splitCells 11 (some .int), Cond.instanceMethod yX0_exchangeable, Cond.selects RX0 yX0_exchangeable yX0_exchangeable, Cond.code yX0_exchangeable cX0_exchangeable 2 (some .int), Cond.methodLink RX0 96 yX0_bestPlace, Cond.instanceMethod yX0_bestPlace]
def wsX7_orbits_r4 : List Cond := [Cond.selects RX0 yX0_bestPlace yX0_bestPlace, Cond.code yX0_bestPlace cX0_bestPlace 2 (some .int), Cond.methodLink RX7 151 yX7_below]
def wsX7_orbits : List Cond := .code yX7_orbits cX7_orbits 5 (some .int) :: ((wsX7_orbits_r1 ++ (wsX7_orbits_r2 ++ (wsX7_orbits_r3 ++ wsX7_orbits_r4))) ++ wsX70 ++ wsX20 ++ wsX00 ++ (vx_atS RX7 186 "java/lang/IndexOutOfBoundsException" ["java/lang/RuntimeException", "java/lang/Exception"]).filter goodWord)
def wsX7_orbit_r1 : List Cond := [Cond.fieldLink RX7 30 "CanonCote" "arranging" "LCanonCote$Arranging;", Cond.methodLink RX7 48 yX7_graphAt, Cond.instanceMethod yX7_graphAt, Cond.selects RX7 yX7_graphAt yX7_graphAt, Cond.initialized RX7, Cond.code yX7_graphAt cX7_graphAt 2 (some (.object "CanonCote$Graph")), Cond.classLink RX7 182 "java/lang/IndexOutOfBoundsException", Cond.initialized "java/lang/IndexOutOfBoundsException", Cond.fieldLink RX7 11 "CanonCote" "graphs" "[LCanonCote$Graph;", Cond.methodLink RX7 67 yX7_checkVertex, Cond.static yX7_checkVertex, Cond.code yX7_checkVertex cX7_checkVertex 2 none, Cond.instanceMethod yX0_search, Cond.initialized RX0, Cond.selects RX0 yX0_search yX0_search, Cond.code yX0_search cX0_search 2 none, Cond.constant RX0 33 (2147483647), Cond.fieldLink RX0 34 "CanonCote$Arranging" "leastEdges" "I", Cond.methodLink RX0 24 yX0_findTwins, Cond.instanceMethod yX0_findTwins, Cond.selects RX0 yX0_findTwins yX0_findTwins, Cond.code yX0_findTwins cX0_findTwins 4 none, Cond.fieldLink RX0 9 "CanonCote$Arranging" "twins" "[I", Cond.instanceMethod yX2_areTwins]
def wsX7_orbit_r2 : List Cond := [Cond.initialized RX2, Cond.selects RX2 yX2_areTwins yX2_areTwins, Cond.code yX2_areTwins cX2_areTwins 4 (some .boolean), Cond.fieldLink RX2 19 "CanonCote$Graph" "colours" "[I", Cond.fieldLink RX2 15 "CanonCote$Graph" "near" "[I", Cond.methodLink RX0 28 yX0_shareOutByColours, Cond.instanceMethod yX0_shareOutByColours, Cond.selects RX0 yX0_shareOutByColours yX0_shareOutByColours, Cond.code yX0_shareOutByColours cX0_shareOutByColours 6 none, Cond.fieldLink RX0 15 "CanonCote$Arranging" "cells" "[I", Cond.methodLink RX0 54 yJ6_bitCount_0f7a4, Cond.static yJ6_bitCount_0f7a4, Cond.initialized RJ6, Cond.code yJ6_bitCount_0f7a4 cJ6_bitCount_0f7a4 1 (some .int), Cond.constant RJ6 265 (1431655765), Cond.constant RJ6 266 (858993459), Cond.constant RJ6 267 (252645135), Cond.methodLink RX0 38 yX0_arrange, Cond.static yX0_arrange, Cond.code yX0_arrange cX0_arrange 8 none, Cond.fieldLink RX0 62 "CanonCote$Arranging" "LOWEST_EDGE_BIT" "[I", Cond.fieldLink RX0 18 "CanonCote$Arranging" "vertexAt" "[I", Cond.methodLink RX0 58 yX0_meet, Cond.instanceMethod yX0_meet]
def wsX7_orbit_r3 : List Cond := [Cond.selects RX0 yX0_meet yX0_meet, Cond.code yX0_meet cX0_meet 6 none, Cond.fieldLink RX0 75 "CanonCote$Arranging" "leastPlaces" "I", Cond.fieldLink RX0 78 "CanonCote$Arranging" "met" "I", Cond.fieldLink RX0 21 "CanonCote$Arranging" "seenAt" "[I", Cond.methodLink RX0 90 Lib.Math.min.name, Cond.static Lib.Math.min.name, Cond.initialized "java/lang/Math", Cond.code Lib.Math.min.name Lib.Math.min.code 2 (some .int), Cond.methodLink RX0 81 yJ7_fill_53178, Cond.static yJ7_fill_53178, Cond.initialized RJ7, Cond.code yJ7_fill_53178 cJ7_fill_53178 4 none, Cond.methodLink RX0 87 yX0_shiftOf, Cond.static yX0_shiftOf, Cond.code yX0_shiftOf cX0_shiftOf 1 (some .int), Cond.static yX7_below, Cond.code yX7_below cX7_below 1 (some .int), Cond.methodLink RX0 68 yX0_splitCells, Cond.instanceMethod yX0_splitCells, Cond.selects RX0 yX0_splitCells yX0_splitCells, Cond.code yX0_splitCells cX0_splitCells 11 (some .int), Cond.instanceMethod yX0_exchangeable, Cond.selects RX0 yX0_exchangeable yX0_exchangeable]
def wsX7_orbit_r4 : List Cond := [Cond.code yX0_exchangeable cX0_exchangeable 2 (some .int), Cond.methodLink RX0 96 yX0_bestPlace, Cond.instanceMethod yX0_bestPlace, Cond.selects RX0 yX0_bestPlace yX0_bestPlace, Cond.code yX0_bestPlace cX0_bestPlace 2 (some .int)]
def wsX7_orbit : List Cond := .code yX7_orbit cX7_orbit 4 (some .int) :: ((wsX7_orbit_r1 ++ (wsX7_orbit_r2 ++ (wsX7_orbit_r3 ++ wsX7_orbit_r4))) ++ wsX70 ++ wsX20 ++ wsX00 ++ (vx_atS RX7 186 "java/lang/IndexOutOfBoundsException" ["java/lang/RuntimeException", "java/lang/Exception"]).filter goodWord)
def wsX7_checkPermutation : List Cond := .code yX7_checkPermutation cX7_checkPermutation 2 none :: ([.classLink RX7 52 "java/lang/IllegalArgumentException", .initialized "java/lang/IllegalArgumentException", .static yX5_isOne, .initialized RX5, .code yX5_isOne cX5_isOne 4 (some .boolean), .constantLong RX5 11 (15)] ++ (vx_atS RX7 56 "java/lang/IllegalArgumentException" ["java/lang/RuntimeException", "java/lang/Exception"]).filter goodWord)
def wsX7_addGenerator_r1 : List Cond := [Cond.classLink RX7 159 "java/lang/IllegalStateException", Cond.initialized "java/lang/IllegalStateException", Cond.fieldLink RX7 44 "CanonCote" "group" "LCanonCote$Group;", Cond.methodLink RX7 154 yX7_checkPermutation, Cond.static yX7_checkPermutation, Cond.initialized RX7, Cond.code yX7_checkPermutation cX7_checkPermutation 2 none, Cond.classLink RX7 52 "java/lang/IllegalArgumentException", Cond.initialized "java/lang/IllegalArgumentException", Cond.static yX5_isOne, Cond.initialized RX5, Cond.code yX5_isOne cX5_isOne 4 (some .boolean), Cond.constantLong RX5 11 (15), Cond.instanceMethod yX3_add, Cond.initialized RX3, Cond.selects RX3 yX3_add yX3_add, Cond.code yX3_add cX3_add 3 none, Cond.fieldLink RX3 28 "CanonCote$Group" "count" "I", Cond.fieldLink RX3 9 "CanonCote$Group" "generators" "[J", Cond.fieldLink RX3 18 "CanonCote$Group" "chain" "LCanonCote$Chain;", Cond.constant RX3 36 (40320), Cond.instanceMethod yX1_add, Cond.initialized RX1, Cond.selects RX1 yX1_add yX1_add]
def wsX7_addGenerator_r2 : List Cond := [Cond.code yX1_add cX1_add 6 none, Cond.fieldLink RX1 26 "CanonCote$Chain" "closedCount" "I", Cond.fieldLink RX1 22 "CanonCote$Chain" "keptCount" "I", Cond.fieldLink RX1 49 "CanonCote$Chain" "members" "I", Cond.fieldLink RX1 15 "CanonCote$Chain" "kept" "[J", Cond.methodLink RX1 52 yX1_keep, Cond.instanceMethod yX1_keep, Cond.selects RX1 yX1_keep yX1_keep, Cond.code yX1_keep cX1_keep 7 none, Cond.constantLong RX1 47 (1985229328), Cond.fieldLink RX1 9 "CanonCote$Chain" "base" "[I", Cond.fieldLink RX1 19 "CanonCote$Chain" "back" "[J", Cond.methodLink RX1 60 yX1_restOf, Cond.instanceMethod yX1_restOf, Cond.selects RX1 yX1_restOf yX1_restOf, Cond.code yX1_restOf cX1_restOf 9 (some .long), Cond.static yX5_imageOf, Cond.code yX5_imageOf cX5_imageOf 3 (some .int), Cond.static yX5_oneThenOther, Cond.code yX5_oneThenOther cX5_oneThenOther 7 (some .long), Cond.methodLink RX5 13 yX5_imageOf, Cond.methodLink RX5 17 yX5_carrying, Cond.static yX5_carrying, Cond.code yX5_carrying cX5_carrying 2 (some .long)]
def wsX7_addGenerator_r3 : List Cond := [Cond.methodLink RX1 64 yX1_firstMoved, Cond.instanceMethod yX1_firstMoved, Cond.selects RX1 yX1_firstMoved yX1_firstMoved, Cond.code yX1_firstMoved cX1_firstMoved 4 (some .int), Cond.static yX5_inverse, Cond.code yX5_inverse cX5_inverse 5 (some .long), Cond.methodLink RX1 75 yX1_countFrom, Cond.instanceMethod yX1_countFrom, Cond.selects RX1 yX1_countFrom yX1_countFrom, Cond.code yX1_countFrom cX1_countFrom 6 (some .int)]
def wsX7_addGenerator : List Cond := .code yX7_addGenerator cX7_addGenerator 3 (some .int) :: ((wsX7_addGenerator_r1 ++ (wsX7_addGenerator_r2 ++ wsX7_addGenerator_r3)) ++ wsX70 ++ wsX30 ++ wsX10 ++ (vx_atS RX7 163 "java/lang/IllegalStateException" ["java/lang/RuntimeException", "java/lang/Exception"]).filter goodWord ++ (vx_atS RX7 56 "java/lang/IllegalArgumentException" ["java/lang/RuntimeException", "java/lang/Exception"]).filter goodWord)
def wsX7_forgetGenerators_r1 : List Cond := [Cond.fieldLink RX7 44 "CanonCote" "group" "LCanonCote$Group;", Cond.instanceMethod yX3_clear, Cond.initialized RX3, Cond.selects RX3 yX3_clear yX3_clear, Cond.code yX3_clear cX3_clear 1 none, Cond.fieldLink RX3 28 "CanonCote$Group" "count" "I", Cond.fieldLink RX3 18 "CanonCote$Group" "chain" "LCanonCote$Chain;", Cond.instanceMethod yX1_restart, Cond.initialized RX1, Cond.selects RX1 yX1_restart yX1_restart, Cond.code yX1_restart cX1_restart 6 none, Cond.fieldLink RX1 22 "CanonCote$Chain" "keptCount" "I", Cond.fieldLink RX1 26 "CanonCote$Chain" "closedCount" "I", Cond.fieldLink RX1 19 "CanonCote$Chain" "back" "[J", Cond.fieldLink RX1 9 "CanonCote$Chain" "base" "[I", Cond.constantLong RX1 47 (1985229328), Cond.fieldLink RX1 49 "CanonCote$Chain" "members" "I", Cond.methodLink RX1 29 yJ7_fill_d0a16, Cond.static yJ7_fill_d0a16, Cond.initialized RJ7, Cond.code yJ7_fill_d0a16 cJ7_fill_d0a16 5 none, Cond.methodLink RX1 35 yJ6_bitCount_0f7a4, Cond.static yJ6_bitCount_0f7a4, Cond.initialized RJ6]
def wsX7_forgetGenerators_r2 : List Cond := [Cond.code yJ6_bitCount_0f7a4 cJ6_bitCount_0f7a4 1 (some .int), Cond.constant RJ6 265 (1431655765), Cond.constant RJ6 266 (858993459), Cond.constant RJ6 267 (252645135), Cond.static yX7_isIn, Cond.initialized RX7, Cond.code yX7_isIn cX7_isIn 2 (some .boolean)]
def wsX7_forgetGenerators : List Cond := .code yX7_forgetGenerators cX7_forgetGenerators 2 (some .int) :: ((wsX7_forgetGenerators_r1 ++ wsX7_forgetGenerators_r2) ++ wsX70 ++ wsX30 ++ wsX10)
def wsX7_order : List Cond := .code yX7_order cX7_order 1 (some .int) :: ([.fieldLink RX7 44 "CanonCote" "group" "LCanonCote$Group;"] ++ wsX70 ++ wsX30 ++ wsX10)
def wsX7_isInGroup_r1 : List Cond := [Cond.fieldLink RX7 44 "CanonCote" "group" "LCanonCote$Group;", Cond.methodLink RX7 154 yX7_checkPermutation, Cond.static yX7_checkPermutation, Cond.initialized RX7, Cond.code yX7_checkPermutation cX7_checkPermutation 2 none, Cond.classLink RX7 52 "java/lang/IllegalArgumentException", Cond.initialized "java/lang/IllegalArgumentException", Cond.static yX5_isOne, Cond.initialized RX5, Cond.code yX5_isOne cX5_isOne 4 (some .boolean), Cond.constantLong RX5 11 (15), Cond.instanceMethod yX1_holds, Cond.initialized RX1, Cond.selects RX1 yX1_holds yX1_holds, Cond.code yX1_holds cX1_holds 3 (some .boolean), Cond.constantLong RX1 47 (1985229328), Cond.methodLink RX1 60 yX1_restOf, Cond.instanceMethod yX1_restOf, Cond.selects RX1 yX1_restOf yX1_restOf, Cond.code yX1_restOf cX1_restOf 9 (some .long), Cond.fieldLink RX1 9 "CanonCote$Chain" "base" "[I", Cond.fieldLink RX1 19 "CanonCote$Chain" "back" "[J", Cond.static yX5_imageOf, Cond.code yX5_imageOf cX5_imageOf 3 (some .int)]
def wsX7_isInGroup_r2 : List Cond := [Cond.static yX5_oneThenOther, Cond.code yX5_oneThenOther cX5_oneThenOther 7 (some .long), Cond.methodLink RX5 13 yX5_imageOf, Cond.methodLink RX5 17 yX5_carrying, Cond.static yX5_carrying, Cond.code yX5_carrying cX5_carrying 2 (some .long)]
def wsX7_isInGroup : List Cond := .code yX7_isInGroup cX7_isInGroup 3 (some .boolean) :: ((wsX7_isInGroup_r1 ++ wsX7_isInGroup_r2) ++ wsX70 ++ wsX30 ++ wsX10 ++ (vx_atS RX7 56 "java/lang/IllegalArgumentException" ["java/lang/RuntimeException", "java/lang/Exception"]).filter goodWord)
def wsX7_moves : List Cond := .code yX7_moves cX7_moves 2 (some .int) :: ([.classLink RX7 182 "java/lang/IndexOutOfBoundsException", .initialized "java/lang/IndexOutOfBoundsException", .fieldLink RX7 44 "CanonCote" "group" "LCanonCote$Group;", .instanceMethod yX3_reach, .initialized RX3, .selects RX3 yX3_reach yX3_reach, .code yX3_reach cX3_reach 5 (some .int), .fieldLink RX3 28 "CanonCote$Group" "count" "I", .fieldLink RX3 9 "CanonCote$Group" "generators" "[J", .methodLink RX3 41 yX3_imagesOf, .static yX3_imagesOf, .code yX3_imagesOf cX3_imagesOf 5 (some .int), .static yX7_isIn, .initialized RX7, .code yX7_isIn cX7_isIn 2 (some .boolean), .static yX5_imageOf, .initialized RX5, .code yX5_imageOf cX5_imageOf 3 (some .int)] ++ wsX70 ++ wsX30 ++ (vx_atS RX7 186 "java/lang/IndexOutOfBoundsException" ["java/lang/RuntimeException", "java/lang/Exception"]).filter goodWord)
def wsX7_fixing_r1 : List Cond := [Cond.classLink RX7 52 "java/lang/IllegalArgumentException", Cond.initialized "java/lang/IllegalArgumentException", Cond.fieldLink RX7 44 "CanonCote" "group" "LCanonCote$Group;", Cond.instanceMethod yX3_countFixing, Cond.initialized RX3, Cond.selects RX3 yX3_countFixing yX3_countFixing, Cond.code yX3_countFixing cX3_countFixing 3 (some .int), Cond.fieldLink RX3 22 "CanonCote$Group" "fixingChain" "LCanonCote$Chain;", Cond.fieldLink RX3 28 "CanonCote$Group" "count" "I", Cond.fieldLink RX3 9 "CanonCote$Group" "generators" "[J", Cond.fieldLink RX3 18 "CanonCote$Group" "chain" "LCanonCote$Chain;", Cond.instanceMethod yX1_restart, Cond.initialized RX1, Cond.selects RX1 yX1_restart yX1_restart, Cond.code yX1_restart cX1_restart 6 none, Cond.fieldLink RX1 22 "CanonCote$Chain" "keptCount" "I", Cond.fieldLink RX1 26 "CanonCote$Chain" "closedCount" "I", Cond.fieldLink RX1 19 "CanonCote$Chain" "back" "[J", Cond.fieldLink RX1 9 "CanonCote$Chain" "base" "[I", Cond.constantLong RX1 47 (1985229328), Cond.fieldLink RX1 49 "CanonCote$Chain" "members" "I", Cond.methodLink RX1 29 yJ7_fill_d0a16, Cond.static yJ7_fill_d0a16, Cond.initialized RJ7]
def wsX7_fixing_r2 : List Cond := [Cond.code yJ7_fill_d0a16 cJ7_fill_d0a16 5 none, Cond.methodLink RX1 35 yJ6_bitCount_0f7a4, Cond.static yJ6_bitCount_0f7a4, Cond.initialized RJ6, Cond.code yJ6_bitCount_0f7a4 cJ6_bitCount_0f7a4 1 (some .int), Cond.constant RJ6 265 (1431655765), Cond.constant RJ6 266 (858993459), Cond.constant RJ6 267 (252645135), Cond.static yX7_isIn, Cond.initialized RX7, Cond.code yX7_isIn cX7_isIn 2 (some .boolean), Cond.instanceMethod yX1_add, Cond.selects RX1 yX1_add yX1_add, Cond.code yX1_add cX1_add 6 none, Cond.fieldLink RX1 15 "CanonCote$Chain" "kept" "[J", Cond.methodLink RX1 52 yX1_keep, Cond.instanceMethod yX1_keep, Cond.selects RX1 yX1_keep yX1_keep, Cond.code yX1_keep cX1_keep 7 none, Cond.methodLink RX1 60 yX1_restOf, Cond.instanceMethod yX1_restOf, Cond.selects RX1 yX1_restOf yX1_restOf, Cond.code yX1_restOf cX1_restOf 9 (some .long), Cond.static yX5_imageOf]
def wsX7_fixing_r3 : List Cond := [Cond.initialized RX5, Cond.code yX5_imageOf cX5_imageOf 3 (some .int), Cond.static yX5_oneThenOther, Cond.code yX5_oneThenOther cX5_oneThenOther 7 (some .long), Cond.methodLink RX5 13 yX5_imageOf, Cond.methodLink RX5 17 yX5_carrying, Cond.static yX5_carrying, Cond.code yX5_carrying cX5_carrying 2 (some .long), Cond.methodLink RX1 64 yX1_firstMoved, Cond.instanceMethod yX1_firstMoved, Cond.selects RX1 yX1_firstMoved yX1_firstMoved, Cond.code yX1_firstMoved cX1_firstMoved 4 (some .int), Cond.static yX5_inverse, Cond.code yX5_inverse cX5_inverse 5 (some .long), Cond.methodLink RX1 75 yX1_countFrom, Cond.instanceMethod yX1_countFrom, Cond.selects RX1 yX1_countFrom yX1_countFrom, Cond.code yX1_countFrom cX1_countFrom 6 (some .int), Cond.methodLink RX3 57 yJ6_bitCount_0f7a4]
def wsX7_fixing : List Cond := .code yX7_fixing cX7_fixing 2 (some .int) :: ((wsX7_fixing_r1 ++ (wsX7_fixing_r2 ++ wsX7_fixing_r3)) ++ wsX70 ++ wsX30 ++ wsX10 ++ (vx_atS RX7 56 "java/lang/IllegalArgumentException" ["java/lang/RuntimeException", "java/lang/Exception"]).filter goodWord)
def wsX8_numbered : List Cond := .code yX8_numbered cX8_numbered 5 (some .int) :: ([.fieldLink RX8 48 "CanonCoteModel" "images" "[I"] ++ wsX80)
def wsX8_finds : List Cond := .code yX8_finds cX8_finds 4 none :: ([.fieldLink RX8 44 "CanonCoteModel" "has" "[Z", .fieldLink RX8 48 "CanonCoteModel" "images" "[I", .fieldLink RX8 41 "CanonCoteModel" "found" "[I", .fieldLink RX8 153 "CanonCoteModel" "order" "I", .methodLink RX8 149 yX8_numbered, .instanceMethod yX8_numbered, .selects RX8 yX8_numbered yX8_numbered, .initialized RX8, .code yX8_numbered cX8_numbered 5 (some .int)] ++ wsX80)
def wsX8_closes : List Cond := .code yX8_closes cX8_closes 4 none :: ([.constant RX8 40 (40320), .fieldLink RX8 44 "CanonCoteModel" "has" "[Z", .fieldLink RX8 153 "CanonCoteModel" "order" "I", .fieldLink RX8 48 "CanonCoteModel" "images" "[I", .fieldLink RX8 159 "CanonCoteModel" "generated" "I", .fieldLink RX8 37 "CanonCoteModel" "generators" "[I", .fieldLink RX8 41 "CanonCoteModel" "found" "[I", .methodLink RX8 156 yX8_finds, .instanceMethod yX8_finds, .selects RX8 yX8_finds yX8_finds, .initialized RX8, .code yX8_finds cX8_finds 4 none, .methodLink RX8 149 yX8_numbered, .instanceMethod yX8_numbered, .selects RX8 yX8_numbered yX8_numbered, .code yX8_numbered cX8_numbered 5 (some .int)] ++ wsX80)
def wsX8_init_r1 : List Cond := [Cond.methodLink RX8 1 objectInit, Cond.instanceMethod objectInit, Cond.code objectInit ⟨#[0xb1]⟩ 1 none, Cond.arrayClass .int, Cond.fieldLink RX8 7 "CanonCoteModel" "sizes" "[I", Cond.fieldLink RX8 13 "CanonCoteModel" "sides" "[I", Cond.fieldLink RX8 16 "CanonCoteModel" "colours" "[I", Cond.fieldLink RX8 19 "CanonCoteModel" "map" "[I", Cond.fieldLink RX8 22 "CanonCoteModel" "chosen" "[I", Cond.fieldLink RX8 25 "CanonCoteModel" "best" "[I", Cond.fieldLink RX8 28 "CanonCoteModel" "old" "[I", Cond.fieldLink RX8 31 "CanonCoteModel" "anew" "[I", Cond.fieldLink RX8 34 "CanonCoteModel" "orbits" "[I", Cond.fieldLink RX8 37 "CanonCoteModel" "generators" "[I", Cond.constant RX8 40 (40320), Cond.fieldLink RX8 41 "CanonCoteModel" "found" "[I", Cond.arrayClass .boolean, Cond.fieldLink RX8 44 "CanonCoteModel" "has" "[Z", Cond.fieldLink RX8 48 "CanonCoteModel" "images" "[I", Cond.methodLink RX8 51 yX8_closes, Cond.instanceMethod yX8_closes, Cond.selects RX8 yX8_closes yX8_closes, Cond.initialized RX8, Cond.code yX8_closes cX8_closes 4 none]
def wsX8_init_r2 : List Cond := [Cond.fieldLink RX8 153 "CanonCoteModel" "order" "I", Cond.fieldLink RX8 159 "CanonCoteModel" "generated" "I", Cond.methodLink RX8 156 yX8_finds, Cond.instanceMethod yX8_finds, Cond.selects RX8 yX8_finds yX8_finds, Cond.code yX8_finds cX8_finds 4 none, Cond.methodLink RX8 149 yX8_numbered, Cond.instanceMethod yX8_numbered, Cond.selects RX8 yX8_numbered yX8_numbered, Cond.code yX8_numbered cX8_numbered 5 (some .int)]
def wsX8_init : List Cond := .code yX8_init cX8_init 2 none :: ((wsX8_init_r1 ++ wsX8_init_r2) ++ wsX80)
def wsX8_thrown : List Cond := .code yX8_thrown cX8_thrown 1 (some .int) :: ([.fieldLink RX8 54 "CanonCoteModel" "last" "I"] ++ wsX80)
def wsX8_in : List Cond := .code yX8_in cX8_in 3 (some .boolean) :: ([])
def wsX8_goes : List Cond := .code yX8_goes cX8_goes 3 (some .boolean) :: ([.fieldLink RX8 54 "CanonCoteModel" "last" "I"] ++ wsX80)
def wsX8_isGraph : List Cond := .code yX8_isGraph cX8_isGraph 1 (some .boolean) :: ([.methodLink RX8 58 yX8_in, .static yX8_in, .initialized RX8, .code yX8_in cX8_in 3 (some .boolean)])
def wsX8_isVertex : List Cond := .code yX8_isVertex cX8_isVertex 3 (some .boolean) :: ([.fieldLink RX8 7 "CanonCoteModel" "sizes" "[I", .methodLink RX8 62 yX8_isGraph, .static yX8_isGraph, .initialized RX8, .code yX8_isGraph cX8_isGraph 1 (some .boolean), .methodLink RX8 58 yX8_in, .static yX8_in, .code yX8_in cX8_in 3 (some .boolean)] ++ wsX80)
def wsX8_areVertices : List Cond := .code yX8_areVertices cX8_areVertices 4 (some .boolean) :: ([.methodLink RX8 66 yX8_isVertex, .instanceMethod yX8_isVertex, .selects RX8 yX8_isVertex yX8_isVertex, .initialized RX8, .code yX8_isVertex cX8_isVertex 3 (some .boolean), .fieldLink RX8 7 "CanonCoteModel" "sizes" "[I", .methodLink RX8 62 yX8_isGraph, .static yX8_isGraph, .code yX8_isGraph cX8_isGraph 1 (some .boolean), .methodLink RX8 58 yX8_in, .static yX8_in, .code yX8_in cX8_in 3 (some .boolean)] ++ wsX80)
def wsX8_hasEdge : List Cond := .code yX8_hasEdge cX8_hasEdge 4 (some .boolean) :: ([.fieldLink RX8 13 "CanonCoteModel" "sides" "[I"] ++ wsX80)
def wsX8_countEdges : List Cond := .code yX8_countEdges cX8_countEdges 4 (some .int) :: ([.methodLink RX8 70 yX8_hasEdge, .instanceMethod yX8_hasEdge, .selects RX8 yX8_hasEdge yX8_hasEdge, .initialized RX8, .code yX8_hasEdge cX8_hasEdge 4 (some .boolean), .fieldLink RX8 13 "CanonCoteModel" "sides" "[I"] ++ wsX80)
def wsX8_begin : List Cond := .code yX8_begin cX8_begin 5 (some .int) :: ([.fieldLink RX8 7 "CanonCoteModel" "sizes" "[I", .fieldLink RX8 13 "CanonCoteModel" "sides" "[I", .fieldLink RX8 16 "CanonCoteModel" "colours" "[I", .methodLink RX8 62 yX8_isGraph, .static yX8_isGraph, .initialized RX8, .code yX8_isGraph cX8_isGraph 1 (some .boolean), .methodLink RX8 58 yX8_in, .static yX8_in, .code yX8_in cX8_in 3 (some .boolean), .methodLink RX8 73 yX8_goes, .instanceMethod yX8_goes, .selects RX8 yX8_goes yX8_goes, .code yX8_goes cX8_goes 3 (some .boolean), .fieldLink RX8 54 "CanonCoteModel" "last" "I"] ++ wsX80)
def wsX8_toggle_r1 : List Cond := [Cond.fieldLink RX8 13 "CanonCoteModel" "sides" "[I", Cond.methodLink RX8 77 yX8_areVertices, Cond.instanceMethod yX8_areVertices, Cond.selects RX8 yX8_areVertices yX8_areVertices, Cond.initialized RX8, Cond.code yX8_areVertices cX8_areVertices 4 (some .boolean), Cond.methodLink RX8 66 yX8_isVertex, Cond.instanceMethod yX8_isVertex, Cond.selects RX8 yX8_isVertex yX8_isVertex, Cond.code yX8_isVertex cX8_isVertex 3 (some .boolean), Cond.fieldLink RX8 7 "CanonCoteModel" "sizes" "[I", Cond.methodLink RX8 62 yX8_isGraph, Cond.static yX8_isGraph, Cond.code yX8_isGraph cX8_isGraph 1 (some .boolean), Cond.methodLink RX8 58 yX8_in, Cond.static yX8_in, Cond.code yX8_in cX8_in 3 (some .boolean), Cond.methodLink RX8 73 yX8_goes, Cond.instanceMethod yX8_goes, Cond.selects RX8 yX8_goes yX8_goes, Cond.code yX8_goes cX8_goes 3 (some .boolean), Cond.fieldLink RX8 54 "CanonCoteModel" "last" "I", Cond.methodLink RX8 70 yX8_hasEdge, Cond.instanceMethod yX8_hasEdge]
def wsX8_toggle_r2 : List Cond := [Cond.selects RX8 yX8_hasEdge yX8_hasEdge, Cond.code yX8_hasEdge cX8_hasEdge 4 (some .boolean)]
def wsX8_toggle : List Cond := .code yX8_toggle cX8_toggle 4 (some .boolean) :: ((wsX8_toggle_r1 ++ wsX8_toggle_r2) ++ wsX80)
def wsX8_setColour : List Cond := .code yX8_setColour cX8_setColour 5 (some .int) :: ([.fieldLink RX8 16 "CanonCoteModel" "colours" "[I", .methodLink RX8 66 yX8_isVertex, .instanceMethod yX8_isVertex, .selects RX8 yX8_isVertex yX8_isVertex, .initialized RX8, .code yX8_isVertex cX8_isVertex 3 (some .boolean), .fieldLink RX8 7 "CanonCoteModel" "sizes" "[I", .methodLink RX8 62 yX8_isGraph, .static yX8_isGraph, .code yX8_isGraph cX8_isGraph 1 (some .boolean), .methodLink RX8 58 yX8_in, .static yX8_in, .code yX8_in cX8_in 3 (some .boolean), .methodLink RX8 73 yX8_goes, .instanceMethod yX8_goes, .selects RX8 yX8_goes yX8_goes, .code yX8_goes cX8_goes 3 (some .boolean), .fieldLink RX8 54 "CanonCoteModel" "last" "I"] ++ wsX80)
def wsX8_swapped : List Cond := .code yX8_swapped cX8_swapped 4 (some .int) :: ([])
def wsX8_swap_r1 : List Cond := [Cond.fieldLink RX8 13 "CanonCoteModel" "sides" "[I", Cond.fieldLink RX8 16 "CanonCoteModel" "colours" "[I", Cond.methodLink RX8 77 yX8_areVertices, Cond.instanceMethod yX8_areVertices, Cond.selects RX8 yX8_areVertices yX8_areVertices, Cond.initialized RX8, Cond.code yX8_areVertices cX8_areVertices 4 (some .boolean), Cond.methodLink RX8 66 yX8_isVertex, Cond.instanceMethod yX8_isVertex, Cond.selects RX8 yX8_isVertex yX8_isVertex, Cond.code yX8_isVertex cX8_isVertex 3 (some .boolean), Cond.fieldLink RX8 7 "CanonCoteModel" "sizes" "[I", Cond.methodLink RX8 62 yX8_isGraph, Cond.static yX8_isGraph, Cond.code yX8_isGraph cX8_isGraph 1 (some .boolean), Cond.methodLink RX8 58 yX8_in, Cond.static yX8_in, Cond.code yX8_in cX8_in 3 (some .boolean), Cond.methodLink RX8 73 yX8_goes, Cond.instanceMethod yX8_goes, Cond.selects RX8 yX8_goes yX8_goes, Cond.code yX8_goes cX8_goes 3 (some .boolean), Cond.fieldLink RX8 54 "CanonCoteModel" "last" "I", Cond.methodLink RX8 80 yX8_swapped]
def wsX8_swap_r2 : List Cond := [Cond.static yX8_swapped, Cond.code yX8_swapped cX8_swapped 4 (some .int)]
def wsX8_swap : List Cond := .code yX8_swap cX8_swap 9 none :: ((wsX8_swap_r1 ++ wsX8_swap_r2) ++ wsX80)
def wsX8_copy : List Cond := .code yX8_copy cX8_copy 4 none :: ([.fieldLink RX8 7 "CanonCoteModel" "sizes" "[I", .fieldLink RX8 13 "CanonCoteModel" "sides" "[I", .fieldLink RX8 16 "CanonCoteModel" "colours" "[I", .methodLink RX8 62 yX8_isGraph, .static yX8_isGraph, .initialized RX8, .code yX8_isGraph cX8_isGraph 1 (some .boolean), .methodLink RX8 58 yX8_in, .static yX8_in, .code yX8_in cX8_in 3 (some .boolean), .methodLink RX8 73 yX8_goes, .instanceMethod yX8_goes, .selects RX8 yX8_goes yX8_goes, .code yX8_goes cX8_goes 3 (some .boolean), .fieldLink RX8 54 "CanonCoteModel" "last" "I"] ++ wsX80)
def wsX8_complement : List Cond := .code yX8_complement cX8_complement 4 (some .int) :: ([.fieldLink RX8 7 "CanonCoteModel" "sizes" "[I", .fieldLink RX8 13 "CanonCoteModel" "sides" "[I", .methodLink RX8 62 yX8_isGraph, .static yX8_isGraph, .initialized RX8, .code yX8_isGraph cX8_isGraph 1 (some .boolean), .methodLink RX8 58 yX8_in, .static yX8_in, .code yX8_in cX8_in 3 (some .boolean), .methodLink RX8 73 yX8_goes, .instanceMethod yX8_goes, .selects RX8 yX8_goes yX8_goes, .code yX8_goes cX8_goes 3 (some .boolean), .fieldLink RX8 54 "CanonCoteModel" "last" "I", .methodLink RX8 84 yX8_countEdges, .instanceMethod yX8_countEdges, .selects RX8 yX8_countEdges yX8_countEdges, .code yX8_countEdges cX8_countEdges 4 (some .int), .methodLink RX8 70 yX8_hasEdge, .instanceMethod yX8_hasEdge, .selects RX8 yX8_hasEdge yX8_hasEdge, .code yX8_hasEdge cX8_hasEdge 4 (some .boolean)] ++ wsX80)
def wsX8_size : List Cond := .code yX8_size cX8_size 2 (some .int) :: ([.fieldLink RX8 7 "CanonCoteModel" "sizes" "[I", .methodLink RX8 62 yX8_isGraph, .static yX8_isGraph, .initialized RX8, .code yX8_isGraph cX8_isGraph 1 (some .boolean), .methodLink RX8 58 yX8_in, .static yX8_in, .code yX8_in cX8_in 3 (some .boolean), .methodLink RX8 73 yX8_goes, .instanceMethod yX8_goes, .selects RX8 yX8_goes yX8_goes, .code yX8_goes cX8_goes 3 (some .boolean), .fieldLink RX8 54 "CanonCoteModel" "last" "I"] ++ wsX80)
def wsX8_edges : List Cond := .code yX8_edges cX8_edges 2 (some .int) :: ([.methodLink RX8 62 yX8_isGraph, .static yX8_isGraph, .initialized RX8, .code yX8_isGraph cX8_isGraph 1 (some .boolean), .methodLink RX8 58 yX8_in, .static yX8_in, .code yX8_in cX8_in 3 (some .boolean), .methodLink RX8 73 yX8_goes, .instanceMethod yX8_goes, .selects RX8 yX8_goes yX8_goes, .code yX8_goes cX8_goes 3 (some .boolean), .fieldLink RX8 54 "CanonCoteModel" "last" "I", .methodLink RX8 84 yX8_countEdges, .instanceMethod yX8_countEdges, .selects RX8 yX8_countEdges yX8_countEdges, .code yX8_countEdges cX8_countEdges 4 (some .int), .methodLink RX8 70 yX8_hasEdge, .instanceMethod yX8_hasEdge, .selects RX8 yX8_hasEdge yX8_hasEdge, .code yX8_hasEdge cX8_hasEdge 4 (some .boolean), .fieldLink RX8 13 "CanonCoteModel" "sides" "[I"] ++ wsX80)
def wsX8_neighbours : List Cond := .code yX8_neighbours cX8_neighbours 3 (some .int) :: ([.fieldLink RX8 13 "CanonCoteModel" "sides" "[I", .methodLink RX8 66 yX8_isVertex, .instanceMethod yX8_isVertex, .selects RX8 yX8_isVertex yX8_isVertex, .initialized RX8, .code yX8_isVertex cX8_isVertex 3 (some .boolean), .fieldLink RX8 7 "CanonCoteModel" "sizes" "[I", .methodLink RX8 62 yX8_isGraph, .static yX8_isGraph, .code yX8_isGraph cX8_isGraph 1 (some .boolean), .methodLink RX8 58 yX8_in, .static yX8_in, .code yX8_in cX8_in 3 (some .boolean), .methodLink RX8 73 yX8_goes, .instanceMethod yX8_goes, .selects RX8 yX8_goes yX8_goes, .code yX8_goes cX8_goes 3 (some .boolean), .fieldLink RX8 54 "CanonCoteModel" "last" "I"] ++ wsX80)
def wsX8_colour : List Cond := .code yX8_colour cX8_colour 3 (some .int) :: ([.fieldLink RX8 16 "CanonCoteModel" "colours" "[I", .methodLink RX8 66 yX8_isVertex, .instanceMethod yX8_isVertex, .selects RX8 yX8_isVertex yX8_isVertex, .initialized RX8, .code yX8_isVertex cX8_isVertex 3 (some .boolean), .fieldLink RX8 7 "CanonCoteModel" "sizes" "[I", .methodLink RX8 62 yX8_isGraph, .static yX8_isGraph, .code yX8_isGraph cX8_isGraph 1 (some .boolean), .methodLink RX8 58 yX8_in, .static yX8_in, .code yX8_in cX8_in 3 (some .boolean), .methodLink RX8 73 yX8_goes, .instanceMethod yX8_goes, .selects RX8 yX8_goes yX8_goes, .code yX8_goes cX8_goes 3 (some .boolean), .fieldLink RX8 54 "CanonCoteModel" "last" "I"] ++ wsX80)
def wsX8_bits : List Cond := .code yX8_bits cX8_bits 3 (some .int) :: ([])
def wsX8_neighboursIn : List Cond := .code yX8_neighboursIn cX8_neighboursIn 6 (some .int) :: ([.fieldLink RX8 7 "CanonCoteModel" "sizes" "[I", .fieldLink RX8 28 "CanonCoteModel" "old" "[I", .fieldLink RX8 13 "CanonCoteModel" "sides" "[I", .methodLink RX8 88 yX8_bits, .static yX8_bits, .initialized RX8, .code yX8_bits cX8_bits 3 (some .int)] ++ wsX80)
def wsX8_compares : List Cond := .code yX8_compares cX8_compares 7 (some .int) :: ([.fieldLink RX8 16 "CanonCoteModel" "colours" "[I", .fieldLink RX8 28 "CanonCoteModel" "old" "[I", .fieldLink RX8 7 "CanonCoteModel" "sizes" "[I", .methodLink RX8 91 yX8_neighboursIn, .instanceMethod yX8_neighboursIn, .selects RX8 yX8_neighboursIn yX8_neighboursIn, .initialized RX8, .code yX8_neighboursIn cX8_neighboursIn 6 (some .int), .fieldLink RX8 13 "CanonCoteModel" "sides" "[I", .methodLink RX8 88 yX8_bits, .static yX8_bits, .code yX8_bits cX8_bits 3 (some .int)] ++ wsX80)
def wsX8_sorts : List Cond := .code yX8_sorts cX8_sorts 9 (some .int) :: ([.fieldLink RX8 7 "CanonCoteModel" "sizes" "[I", .fieldLink RX8 31 "CanonCoteModel" "anew" "[I", .fieldLink RX8 28 "CanonCoteModel" "old" "[I", .methodLink RX8 94 yX8_compares, .instanceMethod yX8_compares, .selects RX8 yX8_compares yX8_compares, .initialized RX8, .code yX8_compares cX8_compares 7 (some .int), .fieldLink RX8 16 "CanonCoteModel" "colours" "[I", .methodLink RX8 91 yX8_neighboursIn, .instanceMethod yX8_neighboursIn, .selects RX8 yX8_neighboursIn yX8_neighboursIn, .code yX8_neighboursIn cX8_neighboursIn 6 (some .int), .fieldLink RX8 13 "CanonCoteModel" "sides" "[I", .methodLink RX8 88 yX8_bits, .static yX8_bits, .code yX8_bits cX8_bits 3 (some .int)] ++ wsX80)
def wsX8_refines : List Cond := .code yX8_refines cX8_refines 4 (some .int) :: ([.fieldLink RX8 102 "CanonCoteModel" "rounds" "I", .methodLink RX8 98 yX8_sorts, .instanceMethod yX8_sorts, .selects RX8 yX8_sorts yX8_sorts, .initialized RX8, .code yX8_sorts cX8_sorts 9 (some .int), .fieldLink RX8 7 "CanonCoteModel" "sizes" "[I", .fieldLink RX8 31 "CanonCoteModel" "anew" "[I", .fieldLink RX8 28 "CanonCoteModel" "old" "[I", .methodLink RX8 94 yX8_compares, .instanceMethod yX8_compares, .selects RX8 yX8_compares yX8_compares, .code yX8_compares cX8_compares 7 (some .int), .fieldLink RX8 16 "CanonCoteModel" "colours" "[I", .methodLink RX8 91 yX8_neighboursIn, .instanceMethod yX8_neighboursIn, .selects RX8 yX8_neighboursIn yX8_neighboursIn, .code yX8_neighboursIn cX8_neighboursIn 6 (some .int), .fieldLink RX8 13 "CanonCoteModel" "sides" "[I", .methodLink RX8 88 yX8_bits, .static yX8_bits, .code yX8_bits cX8_bits 3 (some .int)] ++ wsX80)
def wsX8_classes_r1 : List Cond := [Cond.methodLink RX8 62 yX8_isGraph, Cond.static yX8_isGraph, Cond.initialized RX8, Cond.code yX8_isGraph cX8_isGraph 1 (some .boolean), Cond.methodLink RX8 58 yX8_in, Cond.static yX8_in, Cond.code yX8_in cX8_in 3 (some .boolean), Cond.methodLink RX8 73 yX8_goes, Cond.instanceMethod yX8_goes, Cond.selects RX8 yX8_goes yX8_goes, Cond.code yX8_goes cX8_goes 3 (some .boolean), Cond.fieldLink RX8 54 "CanonCoteModel" "last" "I", Cond.methodLink RX8 105 yX8_refines, Cond.instanceMethod yX8_refines, Cond.selects RX8 yX8_refines yX8_refines, Cond.code yX8_refines cX8_refines 4 (some .int), Cond.fieldLink RX8 102 "CanonCoteModel" "rounds" "I", Cond.methodLink RX8 98 yX8_sorts, Cond.instanceMethod yX8_sorts, Cond.selects RX8 yX8_sorts yX8_sorts, Cond.code yX8_sorts cX8_sorts 9 (some .int), Cond.fieldLink RX8 7 "CanonCoteModel" "sizes" "[I", Cond.fieldLink RX8 31 "CanonCoteModel" "anew" "[I", Cond.fieldLink RX8 28 "CanonCoteModel" "old" "[I"]
def wsX8_classes_r2 : List Cond := [Cond.methodLink RX8 94 yX8_compares, Cond.instanceMethod yX8_compares, Cond.selects RX8 yX8_compares yX8_compares, Cond.code yX8_compares cX8_compares 7 (some .int), Cond.fieldLink RX8 16 "CanonCoteModel" "colours" "[I", Cond.methodLink RX8 91 yX8_neighboursIn, Cond.instanceMethod yX8_neighboursIn, Cond.selects RX8 yX8_neighboursIn yX8_neighboursIn, Cond.code yX8_neighboursIn cX8_neighboursIn 6 (some .int), Cond.fieldLink RX8 13 "CanonCoteModel" "sides" "[I", Cond.methodLink RX8 88 yX8_bits, Cond.static yX8_bits, Cond.code yX8_bits cX8_bits 3 (some .int)]
def wsX8_classes : List Cond := .code yX8_classes cX8_classes 2 (some .int) :: ((wsX8_classes_r1 ++ wsX8_classes_r2) ++ wsX80)
def wsX8_classOf_r1 : List Cond := [Cond.fieldLink RX8 28 "CanonCoteModel" "old" "[I", Cond.methodLink RX8 66 yX8_isVertex, Cond.instanceMethod yX8_isVertex, Cond.selects RX8 yX8_isVertex yX8_isVertex, Cond.initialized RX8, Cond.code yX8_isVertex cX8_isVertex 3 (some .boolean), Cond.fieldLink RX8 7 "CanonCoteModel" "sizes" "[I", Cond.methodLink RX8 62 yX8_isGraph, Cond.static yX8_isGraph, Cond.code yX8_isGraph cX8_isGraph 1 (some .boolean), Cond.methodLink RX8 58 yX8_in, Cond.static yX8_in, Cond.code yX8_in cX8_in 3 (some .boolean), Cond.methodLink RX8 73 yX8_goes, Cond.instanceMethod yX8_goes, Cond.selects RX8 yX8_goes yX8_goes, Cond.code yX8_goes cX8_goes 3 (some .boolean), Cond.fieldLink RX8 54 "CanonCoteModel" "last" "I", Cond.methodLink RX8 105 yX8_refines, Cond.instanceMethod yX8_refines, Cond.selects RX8 yX8_refines yX8_refines, Cond.code yX8_refines cX8_refines 4 (some .int), Cond.fieldLink RX8 102 "CanonCoteModel" "rounds" "I", Cond.methodLink RX8 98 yX8_sorts]
def wsX8_classOf_r2 : List Cond := [Cond.instanceMethod yX8_sorts, Cond.selects RX8 yX8_sorts yX8_sorts, Cond.code yX8_sorts cX8_sorts 9 (some .int), Cond.fieldLink RX8 31 "CanonCoteModel" "anew" "[I", Cond.methodLink RX8 94 yX8_compares, Cond.instanceMethod yX8_compares, Cond.selects RX8 yX8_compares yX8_compares, Cond.code yX8_compares cX8_compares 7 (some .int), Cond.fieldLink RX8 16 "CanonCoteModel" "colours" "[I", Cond.methodLink RX8 91 yX8_neighboursIn, Cond.instanceMethod yX8_neighboursIn, Cond.selects RX8 yX8_neighboursIn yX8_neighboursIn, Cond.code yX8_neighboursIn cX8_neighboursIn 6 (some .int), Cond.fieldLink RX8 13 "CanonCoteModel" "sides" "[I", Cond.methodLink RX8 88 yX8_bits, Cond.static yX8_bits, Cond.code yX8_bits cX8_bits 3 (some .int)]
def wsX8_classOf : List Cond := .code yX8_classOf cX8_classOf 3 (some .int) :: ((wsX8_classOf_r1 ++ wsX8_classOf_r2) ++ wsX80)
def wsX8_rounds_r1 : List Cond := [Cond.fieldLink RX8 102 "CanonCoteModel" "rounds" "I", Cond.methodLink RX8 62 yX8_isGraph, Cond.static yX8_isGraph, Cond.initialized RX8, Cond.code yX8_isGraph cX8_isGraph 1 (some .boolean), Cond.methodLink RX8 58 yX8_in, Cond.static yX8_in, Cond.code yX8_in cX8_in 3 (some .boolean), Cond.methodLink RX8 73 yX8_goes, Cond.instanceMethod yX8_goes, Cond.selects RX8 yX8_goes yX8_goes, Cond.code yX8_goes cX8_goes 3 (some .boolean), Cond.fieldLink RX8 54 "CanonCoteModel" "last" "I", Cond.methodLink RX8 105 yX8_refines, Cond.instanceMethod yX8_refines, Cond.selects RX8 yX8_refines yX8_refines, Cond.code yX8_refines cX8_refines 4 (some .int), Cond.methodLink RX8 98 yX8_sorts, Cond.instanceMethod yX8_sorts, Cond.selects RX8 yX8_sorts yX8_sorts, Cond.code yX8_sorts cX8_sorts 9 (some .int), Cond.fieldLink RX8 7 "CanonCoteModel" "sizes" "[I", Cond.fieldLink RX8 31 "CanonCoteModel" "anew" "[I", Cond.fieldLink RX8 28 "CanonCoteModel" "old" "[I"]
def wsX8_rounds_r2 : List Cond := [Cond.methodLink RX8 94 yX8_compares, Cond.instanceMethod yX8_compares, Cond.selects RX8 yX8_compares yX8_compares, Cond.code yX8_compares cX8_compares 7 (some .int), Cond.fieldLink RX8 16 "CanonCoteModel" "colours" "[I", Cond.methodLink RX8 91 yX8_neighboursIn, Cond.instanceMethod yX8_neighboursIn, Cond.selects RX8 yX8_neighboursIn yX8_neighboursIn, Cond.code yX8_neighboursIn cX8_neighboursIn 6 (some .int), Cond.fieldLink RX8 13 "CanonCoteModel" "sides" "[I", Cond.methodLink RX8 88 yX8_bits, Cond.static yX8_bits, Cond.code yX8_bits cX8_bits 3 (some .int)]
def wsX8_rounds : List Cond := .code yX8_rounds cX8_rounds 2 (some .int) :: ((wsX8_rounds_r1 ++ wsX8_rounds_r2) ++ wsX80)
def wsX8_beginsMaps : List Cond := .code yX8_beginsMaps cX8_beginsMaps 3 none :: ([.fieldLink RX8 19 "CanonCoteModel" "map" "[I"] ++ wsX80)
def wsX8_nextMap : List Cond := .code yX8_nextMap cX8_nextMap 8 (some .boolean) :: ([.fieldLink RX8 19 "CanonCoteModel" "map" "[I"] ++ wsX80)
def wsX8_bitOf : List Cond := .code yX8_bitOf cX8_bitOf 4 (some .int) :: ([])
def wsX8_codeOf : List Cond := .code yX8_codeOf cX8_codeOf 8 (some .long) :: ([.fieldLink RX8 7 "CanonCoteModel" "sizes" "[I", .fieldLink RX8 16 "CanonCoteModel" "colours" "[I", .fieldLink RX8 19 "CanonCoteModel" "map" "[I", .methodLink RX8 70 yX8_hasEdge, .instanceMethod yX8_hasEdge, .selects RX8 yX8_hasEdge yX8_hasEdge, .initialized RX8, .code yX8_hasEdge cX8_hasEdge 4 (some .boolean), .fieldLink RX8 13 "CanonCoteModel" "sides" "[I", .methodLink RX8 108 yX8_bitOf, .static yX8_bitOf, .code yX8_bitOf cX8_bitOf 4 (some .int)] ++ wsX80)
def wsX8_formOf_r1 : List Cond := [Cond.constantLong RX8 112 (9223372036854775807), Cond.fieldLink RX8 7 "CanonCoteModel" "sizes" "[I", Cond.fieldLink RX8 25 "CanonCoteModel" "best" "[I", Cond.fieldLink RX8 19 "CanonCoteModel" "map" "[I", Cond.methodLink RX8 114 yX8_beginsMaps, Cond.instanceMethod yX8_beginsMaps, Cond.selects RX8 yX8_beginsMaps yX8_beginsMaps, Cond.initialized RX8, Cond.code yX8_beginsMaps cX8_beginsMaps 3 none, Cond.methodLink RX8 118 yX8_codeOf, Cond.instanceMethod yX8_codeOf, Cond.selects RX8 yX8_codeOf yX8_codeOf, Cond.code yX8_codeOf cX8_codeOf 8 (some .long), Cond.fieldLink RX8 16 "CanonCoteModel" "colours" "[I", Cond.methodLink RX8 70 yX8_hasEdge, Cond.instanceMethod yX8_hasEdge, Cond.selects RX8 yX8_hasEdge yX8_hasEdge, Cond.code yX8_hasEdge cX8_hasEdge 4 (some .boolean), Cond.fieldLink RX8 13 "CanonCoteModel" "sides" "[I", Cond.methodLink RX8 108 yX8_bitOf, Cond.static yX8_bitOf, Cond.code yX8_bitOf cX8_bitOf 4 (some .int), Cond.methodLink RX8 122 yX8_nextMap, Cond.instanceMethod yX8_nextMap]
def wsX8_formOf_r2 : List Cond := [Cond.selects RX8 yX8_nextMap yX8_nextMap, Cond.code yX8_nextMap cX8_nextMap 8 (some .boolean)]
def wsX8_formOf : List Cond := .code yX8_formOf cX8_formOf 8 (some .long) :: ((wsX8_formOf_r1 ++ wsX8_formOf_r2) ++ wsX80)
def wsX8_form_r1 : List Cond := [Cond.methodLink RX8 62 yX8_isGraph, Cond.static yX8_isGraph, Cond.initialized RX8, Cond.code yX8_isGraph cX8_isGraph 1 (some .boolean), Cond.methodLink RX8 58 yX8_in, Cond.static yX8_in, Cond.code yX8_in cX8_in 3 (some .boolean), Cond.methodLink RX8 73 yX8_goes, Cond.instanceMethod yX8_goes, Cond.selects RX8 yX8_goes yX8_goes, Cond.code yX8_goes cX8_goes 3 (some .boolean), Cond.fieldLink RX8 54 "CanonCoteModel" "last" "I", Cond.methodLink RX8 125 yX8_formOf, Cond.instanceMethod yX8_formOf, Cond.selects RX8 yX8_formOf yX8_formOf, Cond.code yX8_formOf cX8_formOf 8 (some .long), Cond.constantLong RX8 112 (9223372036854775807), Cond.fieldLink RX8 7 "CanonCoteModel" "sizes" "[I", Cond.fieldLink RX8 25 "CanonCoteModel" "best" "[I", Cond.fieldLink RX8 19 "CanonCoteModel" "map" "[I", Cond.methodLink RX8 114 yX8_beginsMaps, Cond.instanceMethod yX8_beginsMaps, Cond.selects RX8 yX8_beginsMaps yX8_beginsMaps, Cond.code yX8_beginsMaps cX8_beginsMaps 3 none]
def wsX8_form_r2 : List Cond := [Cond.methodLink RX8 118 yX8_codeOf, Cond.instanceMethod yX8_codeOf, Cond.selects RX8 yX8_codeOf yX8_codeOf, Cond.code yX8_codeOf cX8_codeOf 8 (some .long), Cond.fieldLink RX8 16 "CanonCoteModel" "colours" "[I", Cond.methodLink RX8 70 yX8_hasEdge, Cond.instanceMethod yX8_hasEdge, Cond.selects RX8 yX8_hasEdge yX8_hasEdge, Cond.code yX8_hasEdge cX8_hasEdge 4 (some .boolean), Cond.fieldLink RX8 13 "CanonCoteModel" "sides" "[I", Cond.methodLink RX8 108 yX8_bitOf, Cond.static yX8_bitOf, Cond.code yX8_bitOf cX8_bitOf 4 (some .int), Cond.methodLink RX8 122 yX8_nextMap, Cond.instanceMethod yX8_nextMap, Cond.selects RX8 yX8_nextMap yX8_nextMap, Cond.code yX8_nextMap cX8_nextMap 8 (some .boolean)]
def wsX8_form : List Cond := .code yX8_form cX8_form 2 (some .long) :: ((wsX8_form_r1 ++ wsX8_form_r2) ++ wsX80)
def wsX8_placeOf_r1 : List Cond := [Cond.fieldLink RX8 25 "CanonCoteModel" "best" "[I", Cond.methodLink RX8 66 yX8_isVertex, Cond.instanceMethod yX8_isVertex, Cond.selects RX8 yX8_isVertex yX8_isVertex, Cond.initialized RX8, Cond.code yX8_isVertex cX8_isVertex 3 (some .boolean), Cond.fieldLink RX8 7 "CanonCoteModel" "sizes" "[I", Cond.methodLink RX8 62 yX8_isGraph, Cond.static yX8_isGraph, Cond.code yX8_isGraph cX8_isGraph 1 (some .boolean), Cond.methodLink RX8 58 yX8_in, Cond.static yX8_in, Cond.code yX8_in cX8_in 3 (some .boolean), Cond.methodLink RX8 73 yX8_goes, Cond.instanceMethod yX8_goes, Cond.selects RX8 yX8_goes yX8_goes, Cond.code yX8_goes cX8_goes 3 (some .boolean), Cond.fieldLink RX8 54 "CanonCoteModel" "last" "I", Cond.methodLink RX8 125 yX8_formOf, Cond.instanceMethod yX8_formOf, Cond.selects RX8 yX8_formOf yX8_formOf, Cond.code yX8_formOf cX8_formOf 8 (some .long), Cond.constantLong RX8 112 (9223372036854775807), Cond.fieldLink RX8 19 "CanonCoteModel" "map" "[I"]
def wsX8_placeOf_r2 : List Cond := [Cond.methodLink RX8 114 yX8_beginsMaps, Cond.instanceMethod yX8_beginsMaps, Cond.selects RX8 yX8_beginsMaps yX8_beginsMaps, Cond.code yX8_beginsMaps cX8_beginsMaps 3 none, Cond.methodLink RX8 118 yX8_codeOf, Cond.instanceMethod yX8_codeOf, Cond.selects RX8 yX8_codeOf yX8_codeOf, Cond.code yX8_codeOf cX8_codeOf 8 (some .long), Cond.fieldLink RX8 16 "CanonCoteModel" "colours" "[I", Cond.methodLink RX8 70 yX8_hasEdge, Cond.instanceMethod yX8_hasEdge, Cond.selects RX8 yX8_hasEdge yX8_hasEdge, Cond.code yX8_hasEdge cX8_hasEdge 4 (some .boolean), Cond.fieldLink RX8 13 "CanonCoteModel" "sides" "[I", Cond.methodLink RX8 108 yX8_bitOf, Cond.static yX8_bitOf, Cond.code yX8_bitOf cX8_bitOf 4 (some .int), Cond.methodLink RX8 122 yX8_nextMap, Cond.instanceMethod yX8_nextMap, Cond.selects RX8 yX8_nextMap yX8_nextMap, Cond.code yX8_nextMap cX8_nextMap 8 (some .boolean)]
def wsX8_placeOf : List Cond := .code yX8_placeOf cX8_placeOf 3 (some .int) :: ((wsX8_placeOf_r1 ++ wsX8_placeOf_r2) ++ wsX80)
def wsX8_keeps : List Cond := .code yX8_keeps cX8_keeps 6 (some .boolean) :: ([.fieldLink RX8 7 "CanonCoteModel" "sizes" "[I", .fieldLink RX8 16 "CanonCoteModel" "colours" "[I", .fieldLink RX8 22 "CanonCoteModel" "chosen" "[I", .fieldLink RX8 19 "CanonCoteModel" "map" "[I", .methodLink RX8 70 yX8_hasEdge, .instanceMethod yX8_hasEdge, .selects RX8 yX8_hasEdge yX8_hasEdge, .initialized RX8, .code yX8_hasEdge cX8_hasEdge 4 (some .boolean), .fieldLink RX8 13 "CanonCoteModel" "sides" "[I"] ++ wsX80)
def wsX8_chooses : List Cond := .code yX8_chooses cX8_chooses 4 (some .int) :: ([.fieldLink RX8 22 "CanonCoteModel" "chosen" "[I"] ++ wsX80)
def wsX8_isMapped : List Cond := .code yX8_isMapped cX8_isMapped 4 (some .boolean) :: ([.fieldLink RX8 7 "CanonCoteModel" "sizes" "[I", .methodLink RX8 114 yX8_beginsMaps, .instanceMethod yX8_beginsMaps, .selects RX8 yX8_beginsMaps yX8_beginsMaps, .initialized RX8, .code yX8_beginsMaps cX8_beginsMaps 3 none, .fieldLink RX8 19 "CanonCoteModel" "map" "[I", .methodLink RX8 128 yX8_keeps, .instanceMethod yX8_keeps, .selects RX8 yX8_keeps yX8_keeps, .code yX8_keeps cX8_keeps 6 (some .boolean), .fieldLink RX8 16 "CanonCoteModel" "colours" "[I", .fieldLink RX8 22 "CanonCoteModel" "chosen" "[I", .methodLink RX8 70 yX8_hasEdge, .instanceMethod yX8_hasEdge, .selects RX8 yX8_hasEdge yX8_hasEdge, .code yX8_hasEdge cX8_hasEdge 4 (some .boolean), .fieldLink RX8 13 "CanonCoteModel" "sides" "[I", .methodLink RX8 122 yX8_nextMap, .instanceMethod yX8_nextMap, .selects RX8 yX8_nextMap yX8_nextMap, .code yX8_nextMap cX8_nextMap 8 (some .boolean)] ++ wsX80)
def wsX8_alike_r1 : List Cond := [Cond.fieldLink RX8 7 "CanonCoteModel" "sizes" "[I", Cond.methodLink RX8 131 yX8_chooses, Cond.instanceMethod yX8_chooses, Cond.selects RX8 yX8_chooses yX8_chooses, Cond.initialized RX8, Cond.code yX8_chooses cX8_chooses 4 (some .int), Cond.fieldLink RX8 22 "CanonCoteModel" "chosen" "[I", Cond.methodLink RX8 134 yX8_isMapped, Cond.instanceMethod yX8_isMapped, Cond.selects RX8 yX8_isMapped yX8_isMapped, Cond.code yX8_isMapped cX8_isMapped 4 (some .boolean), Cond.methodLink RX8 114 yX8_beginsMaps, Cond.instanceMethod yX8_beginsMaps, Cond.selects RX8 yX8_beginsMaps yX8_beginsMaps, Cond.code yX8_beginsMaps cX8_beginsMaps 3 none, Cond.fieldLink RX8 19 "CanonCoteModel" "map" "[I", Cond.methodLink RX8 128 yX8_keeps, Cond.instanceMethod yX8_keeps, Cond.selects RX8 yX8_keeps yX8_keeps, Cond.code yX8_keeps cX8_keeps 6 (some .boolean), Cond.fieldLink RX8 16 "CanonCoteModel" "colours" "[I", Cond.methodLink RX8 70 yX8_hasEdge, Cond.instanceMethod yX8_hasEdge, Cond.selects RX8 yX8_hasEdge yX8_hasEdge]
def wsX8_alike_r2 : List Cond := [Cond.code yX8_hasEdge cX8_hasEdge 4 (some .boolean), Cond.fieldLink RX8 13 "CanonCoteModel" "sides" "[I", Cond.methodLink RX8 122 yX8_nextMap, Cond.instanceMethod yX8_nextMap, Cond.selects RX8 yX8_nextMap yX8_nextMap, Cond.code yX8_nextMap cX8_nextMap 8 (some .boolean)]
def wsX8_alike : List Cond := .code yX8_alike cX8_alike 3 (some .boolean) :: ((wsX8_alike_r1 ++ wsX8_alike_r2) ++ wsX80)
def wsX8_areAlike_r1 : List Cond := [Cond.methodLink RX8 62 yX8_isGraph, Cond.static yX8_isGraph, Cond.initialized RX8, Cond.code yX8_isGraph cX8_isGraph 1 (some .boolean), Cond.methodLink RX8 58 yX8_in, Cond.static yX8_in, Cond.code yX8_in cX8_in 3 (some .boolean), Cond.methodLink RX8 73 yX8_goes, Cond.instanceMethod yX8_goes, Cond.selects RX8 yX8_goes yX8_goes, Cond.code yX8_goes cX8_goes 3 (some .boolean), Cond.fieldLink RX8 54 "CanonCoteModel" "last" "I", Cond.methodLink RX8 137 yX8_alike, Cond.instanceMethod yX8_alike, Cond.selects RX8 yX8_alike yX8_alike, Cond.code yX8_alike cX8_alike 3 (some .boolean), Cond.fieldLink RX8 7 "CanonCoteModel" "sizes" "[I", Cond.methodLink RX8 131 yX8_chooses, Cond.instanceMethod yX8_chooses, Cond.selects RX8 yX8_chooses yX8_chooses, Cond.code yX8_chooses cX8_chooses 4 (some .int), Cond.fieldLink RX8 22 "CanonCoteModel" "chosen" "[I", Cond.methodLink RX8 134 yX8_isMapped, Cond.instanceMethod yX8_isMapped]
def wsX8_areAlike_r2 : List Cond := [Cond.selects RX8 yX8_isMapped yX8_isMapped, Cond.code yX8_isMapped cX8_isMapped 4 (some .boolean), Cond.methodLink RX8 114 yX8_beginsMaps, Cond.instanceMethod yX8_beginsMaps, Cond.selects RX8 yX8_beginsMaps yX8_beginsMaps, Cond.code yX8_beginsMaps cX8_beginsMaps 3 none, Cond.fieldLink RX8 19 "CanonCoteModel" "map" "[I", Cond.methodLink RX8 128 yX8_keeps, Cond.instanceMethod yX8_keeps, Cond.selects RX8 yX8_keeps yX8_keeps, Cond.code yX8_keeps cX8_keeps 6 (some .boolean), Cond.fieldLink RX8 16 "CanonCoteModel" "colours" "[I", Cond.methodLink RX8 70 yX8_hasEdge, Cond.instanceMethod yX8_hasEdge, Cond.selects RX8 yX8_hasEdge yX8_hasEdge, Cond.code yX8_hasEdge cX8_hasEdge 4 (some .boolean), Cond.fieldLink RX8 13 "CanonCoteModel" "sides" "[I", Cond.methodLink RX8 122 yX8_nextMap, Cond.instanceMethod yX8_nextMap, Cond.selects RX8 yX8_nextMap yX8_nextMap, Cond.code yX8_nextMap cX8_nextMap 8 (some .boolean)]
def wsX8_areAlike : List Cond := .code yX8_areAlike cX8_areAlike 3 (some .boolean) :: ((wsX8_areAlike_r1 ++ wsX8_areAlike_r2) ++ wsX80)
def wsX8_image_r1 : List Cond := [Cond.fieldLink RX8 19 "CanonCoteModel" "map" "[I", Cond.methodLink RX8 62 yX8_isGraph, Cond.static yX8_isGraph, Cond.initialized RX8, Cond.code yX8_isGraph cX8_isGraph 1 (some .boolean), Cond.methodLink RX8 58 yX8_in, Cond.static yX8_in, Cond.code yX8_in cX8_in 3 (some .boolean), Cond.methodLink RX8 66 yX8_isVertex, Cond.instanceMethod yX8_isVertex, Cond.selects RX8 yX8_isVertex yX8_isVertex, Cond.code yX8_isVertex cX8_isVertex 3 (some .boolean), Cond.fieldLink RX8 7 "CanonCoteModel" "sizes" "[I", Cond.methodLink RX8 73 yX8_goes, Cond.instanceMethod yX8_goes, Cond.selects RX8 yX8_goes yX8_goes, Cond.code yX8_goes cX8_goes 3 (some .boolean), Cond.fieldLink RX8 54 "CanonCoteModel" "last" "I", Cond.methodLink RX8 137 yX8_alike, Cond.instanceMethod yX8_alike, Cond.selects RX8 yX8_alike yX8_alike, Cond.code yX8_alike cX8_alike 3 (some .boolean), Cond.methodLink RX8 131 yX8_chooses, Cond.instanceMethod yX8_chooses]
def wsX8_image_r2 : List Cond := [Cond.selects RX8 yX8_chooses yX8_chooses, Cond.code yX8_chooses cX8_chooses 4 (some .int), Cond.fieldLink RX8 22 "CanonCoteModel" "chosen" "[I", Cond.methodLink RX8 134 yX8_isMapped, Cond.instanceMethod yX8_isMapped, Cond.selects RX8 yX8_isMapped yX8_isMapped, Cond.code yX8_isMapped cX8_isMapped 4 (some .boolean), Cond.methodLink RX8 114 yX8_beginsMaps, Cond.instanceMethod yX8_beginsMaps, Cond.selects RX8 yX8_beginsMaps yX8_beginsMaps, Cond.code yX8_beginsMaps cX8_beginsMaps 3 none, Cond.methodLink RX8 128 yX8_keeps, Cond.instanceMethod yX8_keeps, Cond.selects RX8 yX8_keeps yX8_keeps, Cond.code yX8_keeps cX8_keeps 6 (some .boolean), Cond.fieldLink RX8 16 "CanonCoteModel" "colours" "[I", Cond.methodLink RX8 70 yX8_hasEdge, Cond.instanceMethod yX8_hasEdge, Cond.selects RX8 yX8_hasEdge yX8_hasEdge, Cond.code yX8_hasEdge cX8_hasEdge 4 (some .boolean), Cond.fieldLink RX8 13 "CanonCoteModel" "sides" "[I", Cond.methodLink RX8 122 yX8_nextMap, Cond.instanceMethod yX8_nextMap, Cond.selects RX8 yX8_nextMap yX8_nextMap]
def wsX8_image_r3 : List Cond := [Cond.code yX8_nextMap cX8_nextMap 8 (some .boolean)]
def wsX8_image : List Cond := .code yX8_image cX8_image 4 (some .int) :: ((wsX8_image_r1 ++ (wsX8_image_r2 ++ wsX8_image_r3)) ++ wsX80)
def wsX8_copies_r1 : List Cond := [Cond.fieldLink RX8 7 "CanonCoteModel" "sizes" "[I", Cond.methodLink RX8 62 yX8_isGraph, Cond.static yX8_isGraph, Cond.initialized RX8, Cond.code yX8_isGraph cX8_isGraph 1 (some .boolean), Cond.methodLink RX8 58 yX8_in, Cond.static yX8_in, Cond.code yX8_in cX8_in 3 (some .boolean), Cond.methodLink RX8 73 yX8_goes, Cond.instanceMethod yX8_goes, Cond.selects RX8 yX8_goes yX8_goes, Cond.code yX8_goes cX8_goes 3 (some .boolean), Cond.fieldLink RX8 54 "CanonCoteModel" "last" "I", Cond.methodLink RX8 131 yX8_chooses, Cond.instanceMethod yX8_chooses, Cond.selects RX8 yX8_chooses yX8_chooses, Cond.code yX8_chooses cX8_chooses 4 (some .int), Cond.fieldLink RX8 22 "CanonCoteModel" "chosen" "[I", Cond.methodLink RX8 134 yX8_isMapped, Cond.instanceMethod yX8_isMapped, Cond.selects RX8 yX8_isMapped yX8_isMapped, Cond.code yX8_isMapped cX8_isMapped 4 (some .boolean), Cond.methodLink RX8 114 yX8_beginsMaps, Cond.instanceMethod yX8_beginsMaps]
def wsX8_copies_r2 : List Cond := [Cond.selects RX8 yX8_beginsMaps yX8_beginsMaps, Cond.code yX8_beginsMaps cX8_beginsMaps 3 none, Cond.fieldLink RX8 19 "CanonCoteModel" "map" "[I", Cond.methodLink RX8 128 yX8_keeps, Cond.instanceMethod yX8_keeps, Cond.selects RX8 yX8_keeps yX8_keeps, Cond.code yX8_keeps cX8_keeps 6 (some .boolean), Cond.fieldLink RX8 16 "CanonCoteModel" "colours" "[I", Cond.methodLink RX8 70 yX8_hasEdge, Cond.instanceMethod yX8_hasEdge, Cond.selects RX8 yX8_hasEdge yX8_hasEdge, Cond.code yX8_hasEdge cX8_hasEdge 4 (some .boolean), Cond.fieldLink RX8 13 "CanonCoteModel" "sides" "[I", Cond.methodLink RX8 122 yX8_nextMap, Cond.instanceMethod yX8_nextMap, Cond.selects RX8 yX8_nextMap yX8_nextMap, Cond.code yX8_nextMap cX8_nextMap 8 (some .boolean)]
def wsX8_copies : List Cond := .code yX8_copies cX8_copies 5 (some .int) :: ((wsX8_copies_r1 ++ wsX8_copies_r2) ++ wsX80)
def wsX8_turns_r1 : List Cond := [Cond.fieldLink RX8 7 "CanonCoteModel" "sizes" "[I", Cond.fieldLink RX8 34 "CanonCoteModel" "orbits" "[I", Cond.fieldLink RX8 19 "CanonCoteModel" "map" "[I", Cond.methodLink RX8 131 yX8_chooses, Cond.instanceMethod yX8_chooses, Cond.selects RX8 yX8_chooses yX8_chooses, Cond.initialized RX8, Cond.code yX8_chooses cX8_chooses 4 (some .int), Cond.fieldLink RX8 22 "CanonCoteModel" "chosen" "[I", Cond.methodLink RX8 114 yX8_beginsMaps, Cond.instanceMethod yX8_beginsMaps, Cond.selects RX8 yX8_beginsMaps yX8_beginsMaps, Cond.code yX8_beginsMaps cX8_beginsMaps 3 none, Cond.methodLink RX8 128 yX8_keeps, Cond.instanceMethod yX8_keeps, Cond.selects RX8 yX8_keeps yX8_keeps, Cond.code yX8_keeps cX8_keeps 6 (some .boolean), Cond.fieldLink RX8 16 "CanonCoteModel" "colours" "[I", Cond.methodLink RX8 70 yX8_hasEdge, Cond.instanceMethod yX8_hasEdge, Cond.selects RX8 yX8_hasEdge yX8_hasEdge, Cond.code yX8_hasEdge cX8_hasEdge 4 (some .boolean), Cond.fieldLink RX8 13 "CanonCoteModel" "sides" "[I", Cond.methodLink RX8 122 yX8_nextMap]
def wsX8_turns_r2 : List Cond := [Cond.instanceMethod yX8_nextMap, Cond.selects RX8 yX8_nextMap yX8_nextMap, Cond.code yX8_nextMap cX8_nextMap 8 (some .boolean)]
def wsX8_turns : List Cond := .code yX8_turns cX8_turns 5 (some .int) :: ((wsX8_turns_r1 ++ wsX8_turns_r2) ++ wsX80)
def wsX8_symmetries_r1 : List Cond := [Cond.methodLink RX8 62 yX8_isGraph, Cond.static yX8_isGraph, Cond.initialized RX8, Cond.code yX8_isGraph cX8_isGraph 1 (some .boolean), Cond.methodLink RX8 58 yX8_in, Cond.static yX8_in, Cond.code yX8_in cX8_in 3 (some .boolean), Cond.methodLink RX8 73 yX8_goes, Cond.instanceMethod yX8_goes, Cond.selects RX8 yX8_goes yX8_goes, Cond.code yX8_goes cX8_goes 3 (some .boolean), Cond.fieldLink RX8 54 "CanonCoteModel" "last" "I", Cond.methodLink RX8 140 yX8_turns, Cond.instanceMethod yX8_turns, Cond.selects RX8 yX8_turns yX8_turns, Cond.code yX8_turns cX8_turns 5 (some .int), Cond.fieldLink RX8 7 "CanonCoteModel" "sizes" "[I", Cond.fieldLink RX8 34 "CanonCoteModel" "orbits" "[I", Cond.fieldLink RX8 19 "CanonCoteModel" "map" "[I", Cond.methodLink RX8 131 yX8_chooses, Cond.instanceMethod yX8_chooses, Cond.selects RX8 yX8_chooses yX8_chooses, Cond.code yX8_chooses cX8_chooses 4 (some .int), Cond.fieldLink RX8 22 "CanonCoteModel" "chosen" "[I"]
def wsX8_symmetries_r2 : List Cond := [Cond.methodLink RX8 114 yX8_beginsMaps, Cond.instanceMethod yX8_beginsMaps, Cond.selects RX8 yX8_beginsMaps yX8_beginsMaps, Cond.code yX8_beginsMaps cX8_beginsMaps 3 none, Cond.methodLink RX8 128 yX8_keeps, Cond.instanceMethod yX8_keeps, Cond.selects RX8 yX8_keeps yX8_keeps, Cond.code yX8_keeps cX8_keeps 6 (some .boolean), Cond.fieldLink RX8 16 "CanonCoteModel" "colours" "[I", Cond.methodLink RX8 70 yX8_hasEdge, Cond.instanceMethod yX8_hasEdge, Cond.selects RX8 yX8_hasEdge yX8_hasEdge, Cond.code yX8_hasEdge cX8_hasEdge 4 (some .boolean), Cond.fieldLink RX8 13 "CanonCoteModel" "sides" "[I", Cond.methodLink RX8 122 yX8_nextMap, Cond.instanceMethod yX8_nextMap, Cond.selects RX8 yX8_nextMap yX8_nextMap, Cond.code yX8_nextMap cX8_nextMap 8 (some .boolean)]
def wsX8_symmetries : List Cond := .code yX8_symmetries cX8_symmetries 2 (some .int) :: ((wsX8_symmetries_r1 ++ wsX8_symmetries_r2) ++ wsX80)
def wsX8_orbits_r1 : List Cond := [Cond.fieldLink RX8 7 "CanonCoteModel" "sizes" "[I", Cond.fieldLink RX8 34 "CanonCoteModel" "orbits" "[I", Cond.methodLink RX8 62 yX8_isGraph, Cond.static yX8_isGraph, Cond.initialized RX8, Cond.code yX8_isGraph cX8_isGraph 1 (some .boolean), Cond.methodLink RX8 58 yX8_in, Cond.static yX8_in, Cond.code yX8_in cX8_in 3 (some .boolean), Cond.methodLink RX8 73 yX8_goes, Cond.instanceMethod yX8_goes, Cond.selects RX8 yX8_goes yX8_goes, Cond.code yX8_goes cX8_goes 3 (some .boolean), Cond.fieldLink RX8 54 "CanonCoteModel" "last" "I", Cond.methodLink RX8 140 yX8_turns, Cond.instanceMethod yX8_turns, Cond.selects RX8 yX8_turns yX8_turns, Cond.code yX8_turns cX8_turns 5 (some .int), Cond.fieldLink RX8 19 "CanonCoteModel" "map" "[I", Cond.methodLink RX8 131 yX8_chooses, Cond.instanceMethod yX8_chooses, Cond.selects RX8 yX8_chooses yX8_chooses, Cond.code yX8_chooses cX8_chooses 4 (some .int), Cond.fieldLink RX8 22 "CanonCoteModel" "chosen" "[I"]
def wsX8_orbits_r2 : List Cond := [Cond.methodLink RX8 114 yX8_beginsMaps, Cond.instanceMethod yX8_beginsMaps, Cond.selects RX8 yX8_beginsMaps yX8_beginsMaps, Cond.code yX8_beginsMaps cX8_beginsMaps 3 none, Cond.methodLink RX8 128 yX8_keeps, Cond.instanceMethod yX8_keeps, Cond.selects RX8 yX8_keeps yX8_keeps, Cond.code yX8_keeps cX8_keeps 6 (some .boolean), Cond.fieldLink RX8 16 "CanonCoteModel" "colours" "[I", Cond.methodLink RX8 70 yX8_hasEdge, Cond.instanceMethod yX8_hasEdge, Cond.selects RX8 yX8_hasEdge yX8_hasEdge, Cond.code yX8_hasEdge cX8_hasEdge 4 (some .boolean), Cond.fieldLink RX8 13 "CanonCoteModel" "sides" "[I", Cond.methodLink RX8 122 yX8_nextMap, Cond.instanceMethod yX8_nextMap, Cond.selects RX8 yX8_nextMap yX8_nextMap, Cond.code yX8_nextMap cX8_nextMap 8 (some .boolean)]
def wsX8_orbits : List Cond := .code yX8_orbits cX8_orbits 4 (some .int) :: ((wsX8_orbits_r1 ++ wsX8_orbits_r2) ++ wsX80)
def wsX8_orbit_r1 : List Cond := [Cond.fieldLink RX8 34 "CanonCoteModel" "orbits" "[I", Cond.methodLink RX8 66 yX8_isVertex, Cond.instanceMethod yX8_isVertex, Cond.selects RX8 yX8_isVertex yX8_isVertex, Cond.initialized RX8, Cond.code yX8_isVertex cX8_isVertex 3 (some .boolean), Cond.fieldLink RX8 7 "CanonCoteModel" "sizes" "[I", Cond.methodLink RX8 62 yX8_isGraph, Cond.static yX8_isGraph, Cond.code yX8_isGraph cX8_isGraph 1 (some .boolean), Cond.methodLink RX8 58 yX8_in, Cond.static yX8_in, Cond.code yX8_in cX8_in 3 (some .boolean), Cond.methodLink RX8 73 yX8_goes, Cond.instanceMethod yX8_goes, Cond.selects RX8 yX8_goes yX8_goes, Cond.code yX8_goes cX8_goes 3 (some .boolean), Cond.fieldLink RX8 54 "CanonCoteModel" "last" "I", Cond.methodLink RX8 140 yX8_turns, Cond.instanceMethod yX8_turns, Cond.selects RX8 yX8_turns yX8_turns, Cond.code yX8_turns cX8_turns 5 (some .int), Cond.fieldLink RX8 19 "CanonCoteModel" "map" "[I", Cond.methodLink RX8 131 yX8_chooses]
def wsX8_orbit_r2 : List Cond := [Cond.instanceMethod yX8_chooses, Cond.selects RX8 yX8_chooses yX8_chooses, Cond.code yX8_chooses cX8_chooses 4 (some .int), Cond.fieldLink RX8 22 "CanonCoteModel" "chosen" "[I", Cond.methodLink RX8 114 yX8_beginsMaps, Cond.instanceMethod yX8_beginsMaps, Cond.selects RX8 yX8_beginsMaps yX8_beginsMaps, Cond.code yX8_beginsMaps cX8_beginsMaps 3 none, Cond.methodLink RX8 128 yX8_keeps, Cond.instanceMethod yX8_keeps, Cond.selects RX8 yX8_keeps yX8_keeps, Cond.code yX8_keeps cX8_keeps 6 (some .boolean), Cond.fieldLink RX8 16 "CanonCoteModel" "colours" "[I", Cond.methodLink RX8 70 yX8_hasEdge, Cond.instanceMethod yX8_hasEdge, Cond.selects RX8 yX8_hasEdge yX8_hasEdge, Cond.code yX8_hasEdge cX8_hasEdge 4 (some .boolean), Cond.fieldLink RX8 13 "CanonCoteModel" "sides" "[I", Cond.methodLink RX8 122 yX8_nextMap, Cond.instanceMethod yX8_nextMap, Cond.selects RX8 yX8_nextMap yX8_nextMap, Cond.code yX8_nextMap cX8_nextMap 8 (some .boolean)]
def wsX8_orbit : List Cond := .code yX8_orbit cX8_orbit 3 (some .int) :: ((wsX8_orbit_r1 ++ wsX8_orbit_r2) ++ wsX80)
def wsX8_isPermutation : List Cond := .code yX8_isPermutation cX8_isPermutation 6 (some .boolean) :: ([.constantLong RX8 143 (15), .constantLong RX8 145 (8), .constantLong RX8 147 (4294967296)])
def wsX8_images : List Cond := .code yX8_images cX8_images 4 none :: ([.fieldLink RX8 48 "CanonCoteModel" "images" "[I", .constantLong RX8 143 (15)] ++ wsX80)
def wsX8_addGenerator_r1 : List Cond := [Cond.fieldLink RX8 159 "CanonCoteModel" "generated" "I", Cond.fieldLink RX8 54 "CanonCoteModel" "last" "I", Cond.fieldLink RX8 37 "CanonCoteModel" "generators" "[I", Cond.fieldLink RX8 48 "CanonCoteModel" "images" "[I", Cond.fieldLink RX8 153 "CanonCoteModel" "order" "I", Cond.methodLink RX8 162 yX8_isPermutation, Cond.static yX8_isPermutation, Cond.initialized RX8, Cond.code yX8_isPermutation cX8_isPermutation 6 (some .boolean), Cond.constantLong RX8 143 (15), Cond.constantLong RX8 145 (8), Cond.constantLong RX8 147 (4294967296), Cond.methodLink RX8 166 yX8_images, Cond.instanceMethod yX8_images, Cond.selects RX8 yX8_images yX8_images, Cond.code yX8_images cX8_images 4 none, Cond.methodLink RX8 51 yX8_closes, Cond.instanceMethod yX8_closes, Cond.selects RX8 yX8_closes yX8_closes, Cond.code yX8_closes cX8_closes 4 none, Cond.constant RX8 40 (40320), Cond.fieldLink RX8 44 "CanonCoteModel" "has" "[Z", Cond.fieldLink RX8 41 "CanonCoteModel" "found" "[I", Cond.methodLink RX8 156 yX8_finds]
def wsX8_addGenerator_r2 : List Cond := [Cond.instanceMethod yX8_finds, Cond.selects RX8 yX8_finds yX8_finds, Cond.code yX8_finds cX8_finds 4 none, Cond.methodLink RX8 149 yX8_numbered, Cond.instanceMethod yX8_numbered, Cond.selects RX8 yX8_numbered yX8_numbered, Cond.code yX8_numbered cX8_numbered 5 (some .int)]
def wsX8_addGenerator : List Cond := .code yX8_addGenerator cX8_addGenerator 4 (some .int) :: ((wsX8_addGenerator_r1 ++ wsX8_addGenerator_r2) ++ wsX80)
def wsX8_forgetGenerators : List Cond := .code yX8_forgetGenerators cX8_forgetGenerators 2 (some .int) :: ([.fieldLink RX8 54 "CanonCoteModel" "last" "I", .fieldLink RX8 159 "CanonCoteModel" "generated" "I", .methodLink RX8 51 yX8_closes, .instanceMethod yX8_closes, .selects RX8 yX8_closes yX8_closes, .initialized RX8, .code yX8_closes cX8_closes 4 none, .constant RX8 40 (40320), .fieldLink RX8 44 "CanonCoteModel" "has" "[Z", .fieldLink RX8 153 "CanonCoteModel" "order" "I", .fieldLink RX8 48 "CanonCoteModel" "images" "[I", .fieldLink RX8 37 "CanonCoteModel" "generators" "[I", .fieldLink RX8 41 "CanonCoteModel" "found" "[I", .methodLink RX8 156 yX8_finds, .instanceMethod yX8_finds, .selects RX8 yX8_finds yX8_finds, .code yX8_finds cX8_finds 4 none, .methodLink RX8 149 yX8_numbered, .instanceMethod yX8_numbered, .selects RX8 yX8_numbered yX8_numbered, .code yX8_numbered cX8_numbered 5 (some .int)] ++ wsX80)
def wsX8_order : List Cond := .code yX8_order cX8_order 1 (some .int) :: ([.fieldLink RX8 54 "CanonCoteModel" "last" "I", .fieldLink RX8 153 "CanonCoteModel" "order" "I"] ++ wsX80)
def wsX8_isInGroup : List Cond := .code yX8_isInGroup cX8_isInGroup 3 (some .boolean) :: ([.fieldLink RX8 54 "CanonCoteModel" "last" "I", .fieldLink RX8 44 "CanonCoteModel" "has" "[Z", .methodLink RX8 162 yX8_isPermutation, .static yX8_isPermutation, .initialized RX8, .code yX8_isPermutation cX8_isPermutation 6 (some .boolean), .constantLong RX8 143 (15), .constantLong RX8 145 (8), .constantLong RX8 147 (4294967296), .methodLink RX8 166 yX8_images, .instanceMethod yX8_images, .selects RX8 yX8_images yX8_images, .code yX8_images cX8_images 4 none, .fieldLink RX8 48 "CanonCoteModel" "images" "[I", .methodLink RX8 149 yX8_numbered, .instanceMethod yX8_numbered, .selects RX8 yX8_numbered yX8_numbered, .code yX8_numbered cX8_numbered 5 (some .int)] ++ wsX80)
def wsX8_moves : List Cond := .code yX8_moves cX8_moves 5 (some .int) :: ([.fieldLink RX8 153 "CanonCoteModel" "order" "I", .fieldLink RX8 41 "CanonCoteModel" "found" "[I", .methodLink RX8 58 yX8_in, .static yX8_in, .initialized RX8, .code yX8_in cX8_in 3 (some .boolean), .methodLink RX8 73 yX8_goes, .instanceMethod yX8_goes, .selects RX8 yX8_goes yX8_goes, .code yX8_goes cX8_goes 3 (some .boolean), .fieldLink RX8 54 "CanonCoteModel" "last" "I"] ++ wsX80)
def wsX8_fixing : List Cond := .code yX8_fixing cX8_fixing 7 (some .int) :: ([.fieldLink RX8 153 "CanonCoteModel" "order" "I", .fieldLink RX8 41 "CanonCoteModel" "found" "[I", .methodLink RX8 58 yX8_in, .static yX8_in, .initialized RX8, .code yX8_in cX8_in 3 (some .boolean), .methodLink RX8 73 yX8_goes, .instanceMethod yX8_goes, .selects RX8 yX8_goes yX8_goes, .code yX8_goes cX8_goes 3 (some .boolean), .fieldLink RX8 54 "CanonCoteModel" "last" "I"] ++ wsX80)
def wsJ9_min_7cf53 : List Cond := .code yJ9_min_7cf53 cJ9_min_7cf53 2 (some .int) :: ([])
def wsL_begin_r1 : List Cond := [Cond.classLink RL 13 "java/lang/IndexOutOfBoundsException", Cond.classLink RL 15 "java/lang/IllegalArgumentException", Cond.methodLink RL 7 yX7_begin, Cond.instanceMethod yX7_begin, Cond.selects RX7 yX7_begin yX7_begin, Cond.initialized RX7, Cond.code yX7_begin cX7_begin 5 (some .int), Cond.classLink RX7 52 "java/lang/IllegalArgumentException", Cond.initialized "java/lang/IllegalArgumentException", Cond.methodLink RX7 48 yX7_graphAt, Cond.instanceMethod yX7_graphAt, Cond.selects RX7 yX7_graphAt yX7_graphAt, Cond.code yX7_graphAt cX7_graphAt 2 (some (.object "CanonCote$Graph")), Cond.classLink RX7 182 "java/lang/IndexOutOfBoundsException", Cond.initialized "java/lang/IndexOutOfBoundsException", Cond.fieldLink RX7 11 "CanonCote" "graphs" "[LCanonCote$Graph;", Cond.instanceMethod yX2_clear, Cond.initialized RX2, Cond.selects RX2 yX2_clear yX2_clear, Cond.code yX2_clear cX2_clear 2 none, Cond.fieldLink RX2 9 "CanonCote$Graph" "size" "I", Cond.fieldLink RX2 15 "CanonCote$Graph" "near" "[I", Cond.fieldLink RX2 19 "CanonCote$Graph" "colours" "[I", Cond.methodLink RX2 22 yJ7_fill_53178]
def wsL_begin_r2 : List Cond := [Cond.static yJ7_fill_53178, Cond.initialized RJ7, Cond.code yJ7_fill_53178 cJ7_fill_53178 4 none]
def wsL_begin : List Cond := .codeWith yL_begin cL_begin 5 (some .int) [(0, 10, 13, 13), (0, 10, 17, 15)] :: ((wsL_begin_r1 ++ wsL_begin_r2) ++ wsX20 ++ wsX70 ++ (vx_atS RX7 56 "java/lang/IllegalArgumentException" ["java/lang/RuntimeException", "java/lang/Exception"]).filter goodWord ++ (vx_atS RX7 186 "java/lang/IndexOutOfBoundsException" ["java/lang/RuntimeException", "java/lang/Exception"]).filter goodWord)
def wsL_toggle_r1 : List Cond := [Cond.classLink RL 13 "java/lang/IndexOutOfBoundsException", Cond.classLink RL 15 "java/lang/IllegalArgumentException", Cond.methodLink RL 17 yX7_toggle, Cond.instanceMethod yX7_toggle, Cond.selects RX7 yX7_toggle yX7_toggle, Cond.initialized RX7, Cond.code yX7_toggle cX7_toggle 5 (some .boolean), Cond.classLink RX7 52 "java/lang/IllegalArgumentException", Cond.initialized "java/lang/IllegalArgumentException", Cond.methodLink RX7 48 yX7_graphAt, Cond.instanceMethod yX7_graphAt, Cond.selects RX7 yX7_graphAt yX7_graphAt, Cond.code yX7_graphAt cX7_graphAt 2 (some (.object "CanonCote$Graph")), Cond.classLink RX7 182 "java/lang/IndexOutOfBoundsException", Cond.initialized "java/lang/IndexOutOfBoundsException", Cond.fieldLink RX7 11 "CanonCote" "graphs" "[LCanonCote$Graph;", Cond.methodLink RX7 67 yX7_checkVertex, Cond.static yX7_checkVertex, Cond.code yX7_checkVertex cX7_checkVertex 2 none, Cond.instanceMethod yX2_flipEdge, Cond.initialized RX2, Cond.selects RX2 yX2_flipEdge yX2_flipEdge, Cond.code yX2_flipEdge cX2_flipEdge 3 none, Cond.fieldLink RX2 15 "CanonCote$Graph" "near" "[I"]
def wsL_toggle_r2 : List Cond := [Cond.instanceMethod yX2_hasEdge, Cond.selects RX2 yX2_hasEdge yX2_hasEdge, Cond.code yX2_hasEdge cX2_hasEdge 3 (some .boolean), Cond.static yX7_isIn, Cond.code yX7_isIn cX7_isIn 2 (some .boolean)]
def wsL_toggle : List Cond := .codeWith yL_toggle cL_toggle 6 (some .int) [(0, 19, 22, 13), (0, 19, 26, 15)] :: ((wsL_toggle_r1 ++ wsL_toggle_r2) ++ wsX70 ++ wsX20 ++ (vx_atS RX7 56 "java/lang/IllegalArgumentException" ["java/lang/RuntimeException", "java/lang/Exception"]).filter goodWord ++ (vx_atS RX7 186 "java/lang/IndexOutOfBoundsException" ["java/lang/RuntimeException", "java/lang/Exception"]).filter goodWord)
def wsL_setColour : List Cond := .codeWith yL_setColour cL_setColour 6 (some .int) [(0, 12, 15, 13), (0, 12, 19, 15)] :: ([.classLink RL 13 "java/lang/IndexOutOfBoundsException", .classLink RL 15 "java/lang/IllegalArgumentException", .methodLink RL 21 yX7_setColour, .instanceMethod yX7_setColour, .selects RX7 yX7_setColour yX7_setColour, .initialized RX7, .code yX7_setColour cX7_setColour 6 (some .int), .classLink RX7 52 "java/lang/IllegalArgumentException", .initialized "java/lang/IllegalArgumentException", .methodLink RX7 48 yX7_graphAt, .instanceMethod yX7_graphAt, .selects RX7 yX7_graphAt yX7_graphAt, .code yX7_graphAt cX7_graphAt 2 (some (.object "CanonCote$Graph")), .classLink RX7 182 "java/lang/IndexOutOfBoundsException", .initialized "java/lang/IndexOutOfBoundsException", .fieldLink RX7 11 "CanonCote" "graphs" "[LCanonCote$Graph;", .methodLink RX7 67 yX7_checkVertex, .static yX7_checkVertex, .code yX7_checkVertex cX7_checkVertex 2 none] ++ wsX20 ++ wsX70 ++ (vx_atS RX7 56 "java/lang/IllegalArgumentException" ["java/lang/RuntimeException", "java/lang/Exception"]).filter goodWord ++ (vx_atS RX7 186 "java/lang/IndexOutOfBoundsException" ["java/lang/RuntimeException", "java/lang/Exception"]).filter goodWord)
def wsL_swap_r1 : List Cond := [Cond.classLink RL 13 "java/lang/IndexOutOfBoundsException", Cond.methodLink RL 25 yX7_swap, Cond.instanceMethod yX7_swap, Cond.selects RX7 yX7_swap yX7_swap, Cond.initialized RX7, Cond.code yX7_swap cX7_swap 5 none, Cond.methodLink RX7 48 yX7_graphAt, Cond.instanceMethod yX7_graphAt, Cond.selects RX7 yX7_graphAt yX7_graphAt, Cond.code yX7_graphAt cX7_graphAt 2 (some (.object "CanonCote$Graph")), Cond.classLink RX7 182 "java/lang/IndexOutOfBoundsException", Cond.initialized "java/lang/IndexOutOfBoundsException", Cond.fieldLink RX7 11 "CanonCote" "graphs" "[LCanonCote$Graph;", Cond.methodLink RX7 67 yX7_checkVertex, Cond.static yX7_checkVertex, Cond.code yX7_checkVertex cX7_checkVertex 2 none, Cond.instanceMethod yX2_exchange, Cond.initialized RX2, Cond.selects RX2 yX2_exchange yX2_exchange, Cond.code yX2_exchange cX2_exchange 6 none, Cond.fieldLink RX2 19 "CanonCote$Graph" "colours" "[I", Cond.fieldLink RX2 15 "CanonCote$Graph" "near" "[I", Cond.fieldLink RX2 9 "CanonCote$Graph" "size" "I", Cond.static yX7_isIn]
def wsL_swap_r2 : List Cond := [Cond.code yX7_isIn cX7_isIn 2 (some .boolean)]
def wsL_swap : List Cond := .codeWith yL_swap cL_swap 5 (some .int) [(0, 7, 10, 13)] :: ((wsL_swap_r1 ++ wsL_swap_r2) ++ wsX70 ++ wsX20 ++ (vx_atS RX7 186 "java/lang/IndexOutOfBoundsException" ["java/lang/RuntimeException", "java/lang/Exception"]).filter goodWord)
def wsL_copy : List Cond := .codeWith yL_copy cL_copy 4 (some .int) [(0, 6, 9, 13)] :: ([.classLink RL 13 "java/lang/IndexOutOfBoundsException", .methodLink RL 29 yX7_copy, .instanceMethod yX7_copy, .selects RX7 yX7_copy yX7_copy, .initialized RX7, .code yX7_copy cX7_copy 4 none, .methodLink RX7 48 yX7_graphAt, .instanceMethod yX7_graphAt, .selects RX7 yX7_graphAt yX7_graphAt, .code yX7_graphAt cX7_graphAt 2 (some (.object "CanonCote$Graph")), .classLink RX7 182 "java/lang/IndexOutOfBoundsException", .initialized "java/lang/IndexOutOfBoundsException", .fieldLink RX7 11 "CanonCote" "graphs" "[LCanonCote$Graph;", .instanceMethod yX2_become, .initialized RX2, .selects RX2 yX2_become yX2_become, .code yX2_become cX2_become 3 none, .fieldLink RX2 9 "CanonCote$Graph" "size" "I", .fieldLink RX2 15 "CanonCote$Graph" "near" "[I", .fieldLink RX2 19 "CanonCote$Graph" "colours" "[I"] ++ wsX70 ++ wsX20 ++ (vx_atS RX7 186 "java/lang/IndexOutOfBoundsException" ["java/lang/RuntimeException", "java/lang/Exception"]).filter goodWord)
def wsL_complement_r1 : List Cond := [Cond.classLink RL 13 "java/lang/IndexOutOfBoundsException", Cond.methodLink RL 33 yX7_complement, Cond.instanceMethod yX7_complement, Cond.selects RX7 yX7_complement yX7_complement, Cond.initialized RX7, Cond.code yX7_complement cX7_complement 3 (some .int), Cond.methodLink RX7 48 yX7_graphAt, Cond.instanceMethod yX7_graphAt, Cond.selects RX7 yX7_graphAt yX7_graphAt, Cond.code yX7_graphAt cX7_graphAt 2 (some (.object "CanonCote$Graph")), Cond.classLink RX7 182 "java/lang/IndexOutOfBoundsException", Cond.initialized "java/lang/IndexOutOfBoundsException", Cond.fieldLink RX7 11 "CanonCote" "graphs" "[LCanonCote$Graph;", Cond.instanceMethod yX2_invertEdges, Cond.initialized RX2, Cond.selects RX2 yX2_invertEdges yX2_invertEdges, Cond.code yX2_invertEdges cX2_invertEdges 2 none, Cond.fieldLink RX2 9 "CanonCote$Graph" "size" "I", Cond.fieldLink RX2 15 "CanonCote$Graph" "near" "[I", Cond.static yX7_below, Cond.code yX7_below cX7_below 1 (some .int), Cond.instanceMethod yX2_countEdges, Cond.selects RX2 yX2_countEdges yX2_countEdges, Cond.code yX2_countEdges cX2_countEdges 3 (some .int)]
def wsL_complement_r2 : List Cond := [Cond.methodLink RX2 36 yJ6_bitCount_0f7a4, Cond.static yJ6_bitCount_0f7a4, Cond.initialized RJ6, Cond.code yJ6_bitCount_0f7a4 cJ6_bitCount_0f7a4 1 (some .int), Cond.constant RJ6 265 (1431655765), Cond.constant RJ6 266 (858993459), Cond.constant RJ6 267 (252645135)]
def wsL_complement : List Cond := .codeWith yL_complement cL_complement 4 (some .int) [(0, 9, 12, 13)] :: ((wsL_complement_r1 ++ wsL_complement_r2) ++ wsX70 ++ wsX20 ++ (vx_atS RX7 186 "java/lang/IndexOutOfBoundsException" ["java/lang/RuntimeException", "java/lang/Exception"]).filter goodWord)
def wsL_size : List Cond := .codeWith yL_size cL_size 4 (some .int) [(0, 9, 12, 13)] :: ([.classLink RL 13 "java/lang/IndexOutOfBoundsException", .methodLink RL 37 yX7_size, .instanceMethod yX7_size, .selects RX7 yX7_size yX7_size, .initialized RX7, .code yX7_size cX7_size 2 (some .int), .methodLink RX7 48 yX7_graphAt, .instanceMethod yX7_graphAt, .selects RX7 yX7_graphAt yX7_graphAt, .code yX7_graphAt cX7_graphAt 2 (some (.object "CanonCote$Graph")), .classLink RX7 182 "java/lang/IndexOutOfBoundsException", .initialized "java/lang/IndexOutOfBoundsException", .fieldLink RX7 11 "CanonCote" "graphs" "[LCanonCote$Graph;"] ++ wsX20 ++ wsX70 ++ (vx_atS RX7 186 "java/lang/IndexOutOfBoundsException" ["java/lang/RuntimeException", "java/lang/Exception"]).filter goodWord)
def wsL_edges_r1 : List Cond := [Cond.classLink RL 13 "java/lang/IndexOutOfBoundsException", Cond.methodLink RL 40 yX7_edges, Cond.instanceMethod yX7_edges, Cond.selects RX7 yX7_edges yX7_edges, Cond.initialized RX7, Cond.code yX7_edges cX7_edges 2 (some .int), Cond.methodLink RX7 48 yX7_graphAt, Cond.instanceMethod yX7_graphAt, Cond.selects RX7 yX7_graphAt yX7_graphAt, Cond.code yX7_graphAt cX7_graphAt 2 (some (.object "CanonCote$Graph")), Cond.classLink RX7 182 "java/lang/IndexOutOfBoundsException", Cond.initialized "java/lang/IndexOutOfBoundsException", Cond.fieldLink RX7 11 "CanonCote" "graphs" "[LCanonCote$Graph;", Cond.instanceMethod yX2_countEdges, Cond.initialized RX2, Cond.selects RX2 yX2_countEdges yX2_countEdges, Cond.code yX2_countEdges cX2_countEdges 3 (some .int), Cond.fieldLink RX2 9 "CanonCote$Graph" "size" "I", Cond.fieldLink RX2 15 "CanonCote$Graph" "near" "[I", Cond.methodLink RX2 36 yJ6_bitCount_0f7a4, Cond.static yJ6_bitCount_0f7a4, Cond.initialized RJ6, Cond.code yJ6_bitCount_0f7a4 cJ6_bitCount_0f7a4 1 (some .int), Cond.constant RJ6 265 (1431655765)]
def wsL_edges_r2 : List Cond := [Cond.constant RJ6 266 (858993459), Cond.constant RJ6 267 (252645135)]
def wsL_edges : List Cond := .codeWith yL_edges cL_edges 4 (some .int) [(0, 9, 12, 13)] :: ((wsL_edges_r1 ++ wsL_edges_r2) ++ wsX70 ++ wsX20 ++ (vx_atS RX7 186 "java/lang/IndexOutOfBoundsException" ["java/lang/RuntimeException", "java/lang/Exception"]).filter goodWord)
def wsL_neighbours : List Cond := .codeWith yL_neighbours cL_neighbours 5 (some .int) [(0, 10, 13, 13)] :: ([.classLink RL 13 "java/lang/IndexOutOfBoundsException", .methodLink RL 43 yX7_neighbours, .instanceMethod yX7_neighbours, .selects RX7 yX7_neighbours yX7_neighbours, .initialized RX7, .code yX7_neighbours cX7_neighbours 4 (some .int), .methodLink RX7 48 yX7_graphAt, .instanceMethod yX7_graphAt, .selects RX7 yX7_graphAt yX7_graphAt, .code yX7_graphAt cX7_graphAt 2 (some (.object "CanonCote$Graph")), .classLink RX7 182 "java/lang/IndexOutOfBoundsException", .initialized "java/lang/IndexOutOfBoundsException", .fieldLink RX7 11 "CanonCote" "graphs" "[LCanonCote$Graph;", .methodLink RX7 67 yX7_checkVertex, .static yX7_checkVertex, .code yX7_checkVertex cX7_checkVertex 2 none] ++ wsX20 ++ wsX70 ++ (vx_atS RX7 186 "java/lang/IndexOutOfBoundsException" ["java/lang/RuntimeException", "java/lang/Exception"]).filter goodWord)
def wsL_colour : List Cond := .codeWith yL_colour cL_colour 5 (some .int) [(0, 10, 13, 13)] :: ([.classLink RL 13 "java/lang/IndexOutOfBoundsException", .methodLink RL 46 yX7_colour, .instanceMethod yX7_colour, .selects RX7 yX7_colour yX7_colour, .initialized RX7, .code yX7_colour cX7_colour 4 (some .int), .methodLink RX7 48 yX7_graphAt, .instanceMethod yX7_graphAt, .selects RX7 yX7_graphAt yX7_graphAt, .code yX7_graphAt cX7_graphAt 2 (some (.object "CanonCote$Graph")), .classLink RX7 182 "java/lang/IndexOutOfBoundsException", .initialized "java/lang/IndexOutOfBoundsException", .fieldLink RX7 11 "CanonCote" "graphs" "[LCanonCote$Graph;", .methodLink RX7 67 yX7_checkVertex, .static yX7_checkVertex, .code yX7_checkVertex cX7_checkVertex 2 none] ++ wsX20 ++ wsX70 ++ (vx_atS RX7 186 "java/lang/IndexOutOfBoundsException" ["java/lang/RuntimeException", "java/lang/Exception"]).filter goodWord)
def wsL_classes_r1 : List Cond := [Cond.classLink RL 13 "java/lang/IndexOutOfBoundsException", Cond.methodLink RL 49 yX7_classes, Cond.instanceMethod yX7_classes, Cond.selects RX7 yX7_classes yX7_classes, Cond.initialized RX7, Cond.code yX7_classes cX7_classes 2 (some .int), Cond.fieldLink RX7 23 "CanonCote" "refinement" "LCanonCote$Refinement;", Cond.methodLink RX7 48 yX7_graphAt, Cond.instanceMethod yX7_graphAt, Cond.selects RX7 yX7_graphAt yX7_graphAt, Cond.code yX7_graphAt cX7_graphAt 2 (some (.object "CanonCote$Graph")), Cond.classLink RX7 182 "java/lang/IndexOutOfBoundsException", Cond.initialized "java/lang/IndexOutOfBoundsException", Cond.fieldLink RX7 11 "CanonCote" "graphs" "[LCanonCote$Graph;", Cond.instanceMethod yX6_refine, Cond.initialized RX6, Cond.selects RX6 yX6_refine yX6_refine, Cond.code yX6_refine cX6_refine 5 none, Cond.fieldLink RX6 18 "CanonCote$Refinement" "keys" "[J", Cond.fieldLink RX6 35 "CanonCote$Refinement" "count" "I", Cond.fieldLink RX6 42 "CanonCote$Refinement" "lastRound" "I", Cond.methodLink RX6 31 yX6_numberByKeys, Cond.instanceMethod yX6_numberByKeys, Cond.selects RX6 yX6_numberByKeys yX6_numberByKeys]
def wsL_classes_r2 : List Cond := [Cond.code yX6_numberByKeys cX6_numberByKeys 6 none, Cond.fieldLink RX6 15 "CanonCote$Refinement" "members" "[I", Cond.fieldLink RX6 9 "CanonCote$Refinement" "numbers" "[I", Cond.methodLink RX6 54 yX6_isFirstOfKey, Cond.instanceMethod yX6_isFirstOfKey, Cond.selects RX6 yX6_isFirstOfKey yX6_isFirstOfKey, Cond.code yX6_isFirstOfKey cX6_isFirstOfKey 3 (some .boolean), Cond.methodLink RX6 48 yJ6_bitCount_0f7a4, Cond.static yJ6_bitCount_0f7a4, Cond.initialized RJ6, Cond.code yJ6_bitCount_0f7a4 cJ6_bitCount_0f7a4 1 (some .int), Cond.constant RJ6 265 (1431655765), Cond.constant RJ6 266 (858993459), Cond.constant RJ6 267 (252645135), Cond.methodLink RX6 58 yJ7_fill_53178, Cond.static yJ7_fill_53178, Cond.initialized RJ7, Cond.code yJ7_fill_53178 cJ7_fill_53178 4 none, Cond.static yX7_isIn, Cond.code yX7_isIn cX7_isIn 2 (some .boolean), Cond.methodLink RX6 38 yX6_keyOf, Cond.instanceMethod yX6_keyOf, Cond.selects RX6 yX6_keyOf yX6_keyOf, Cond.code yX6_keyOf cX6_keyOf 6 (some .long)]
def wsL_classes : List Cond := .codeWith yL_classes cL_classes 4 (some .int) [(0, 9, 12, 13)] :: ((wsL_classes_r1 ++ wsL_classes_r2) ++ wsX70 ++ wsX60 ++ wsX20 ++ (vx_atS RX7 186 "java/lang/IndexOutOfBoundsException" ["java/lang/RuntimeException", "java/lang/Exception"]).filter goodWord)
def wsL_classOf_r1 : List Cond := [Cond.classLink RL 13 "java/lang/IndexOutOfBoundsException", Cond.methodLink RL 52 yX7_classOf, Cond.instanceMethod yX7_classOf, Cond.selects RX7 yX7_classOf yX7_classOf, Cond.initialized RX7, Cond.code yX7_classOf cX7_classOf 4 (some .int), Cond.fieldLink RX7 23 "CanonCote" "refinement" "LCanonCote$Refinement;", Cond.methodLink RX7 48 yX7_graphAt, Cond.instanceMethod yX7_graphAt, Cond.selects RX7 yX7_graphAt yX7_graphAt, Cond.code yX7_graphAt cX7_graphAt 2 (some (.object "CanonCote$Graph")), Cond.classLink RX7 182 "java/lang/IndexOutOfBoundsException", Cond.initialized "java/lang/IndexOutOfBoundsException", Cond.fieldLink RX7 11 "CanonCote" "graphs" "[LCanonCote$Graph;", Cond.methodLink RX7 67 yX7_checkVertex, Cond.static yX7_checkVertex, Cond.code yX7_checkVertex cX7_checkVertex 2 none, Cond.instanceMethod yX6_refine, Cond.initialized RX6, Cond.selects RX6 yX6_refine yX6_refine, Cond.code yX6_refine cX6_refine 5 none, Cond.fieldLink RX6 18 "CanonCote$Refinement" "keys" "[J", Cond.fieldLink RX6 35 "CanonCote$Refinement" "count" "I", Cond.fieldLink RX6 42 "CanonCote$Refinement" "lastRound" "I"]
def wsL_classOf_r2 : List Cond := [Cond.methodLink RX6 31 yX6_numberByKeys, Cond.instanceMethod yX6_numberByKeys, Cond.selects RX6 yX6_numberByKeys yX6_numberByKeys, Cond.code yX6_numberByKeys cX6_numberByKeys 6 none, Cond.fieldLink RX6 15 "CanonCote$Refinement" "members" "[I", Cond.fieldLink RX6 9 "CanonCote$Refinement" "numbers" "[I", Cond.methodLink RX6 54 yX6_isFirstOfKey, Cond.instanceMethod yX6_isFirstOfKey, Cond.selects RX6 yX6_isFirstOfKey yX6_isFirstOfKey, Cond.code yX6_isFirstOfKey cX6_isFirstOfKey 3 (some .boolean), Cond.methodLink RX6 48 yJ6_bitCount_0f7a4, Cond.static yJ6_bitCount_0f7a4, Cond.initialized RJ6, Cond.code yJ6_bitCount_0f7a4 cJ6_bitCount_0f7a4 1 (some .int), Cond.constant RJ6 265 (1431655765), Cond.constant RJ6 266 (858993459), Cond.constant RJ6 267 (252645135), Cond.methodLink RX6 58 yJ7_fill_53178, Cond.static yJ7_fill_53178, Cond.initialized RJ7, Cond.code yJ7_fill_53178 cJ7_fill_53178 4 none, Cond.static yX7_isIn, Cond.code yX7_isIn cX7_isIn 2 (some .boolean), Cond.methodLink RX6 38 yX6_keyOf]
def wsL_classOf_r3 : List Cond := [Cond.instanceMethod yX6_keyOf, Cond.selects RX6 yX6_keyOf yX6_keyOf, Cond.code yX6_keyOf cX6_keyOf 6 (some .long)]
def wsL_classOf : List Cond := .codeWith yL_classOf cL_classOf 5 (some .int) [(0, 10, 13, 13)] :: ((wsL_classOf_r1 ++ (wsL_classOf_r2 ++ wsL_classOf_r3)) ++ wsX70 ++ wsX60 ++ wsX20 ++ (vx_atS RX7 186 "java/lang/IndexOutOfBoundsException" ["java/lang/RuntimeException", "java/lang/Exception"]).filter goodWord)
def wsL_rounds_r1 : List Cond := [Cond.classLink RL 13 "java/lang/IndexOutOfBoundsException", Cond.methodLink RL 55 yX7_rounds, Cond.instanceMethod yX7_rounds, Cond.selects RX7 yX7_rounds yX7_rounds, Cond.initialized RX7, Cond.code yX7_rounds cX7_rounds 2 (some .int), Cond.fieldLink RX7 23 "CanonCote" "refinement" "LCanonCote$Refinement;", Cond.methodLink RX7 48 yX7_graphAt, Cond.instanceMethod yX7_graphAt, Cond.selects RX7 yX7_graphAt yX7_graphAt, Cond.code yX7_graphAt cX7_graphAt 2 (some (.object "CanonCote$Graph")), Cond.classLink RX7 182 "java/lang/IndexOutOfBoundsException", Cond.initialized "java/lang/IndexOutOfBoundsException", Cond.fieldLink RX7 11 "CanonCote" "graphs" "[LCanonCote$Graph;", Cond.instanceMethod yX6_refine, Cond.initialized RX6, Cond.selects RX6 yX6_refine yX6_refine, Cond.code yX6_refine cX6_refine 5 none, Cond.fieldLink RX6 18 "CanonCote$Refinement" "keys" "[J", Cond.fieldLink RX6 35 "CanonCote$Refinement" "count" "I", Cond.fieldLink RX6 42 "CanonCote$Refinement" "lastRound" "I", Cond.methodLink RX6 31 yX6_numberByKeys, Cond.instanceMethod yX6_numberByKeys, Cond.selects RX6 yX6_numberByKeys yX6_numberByKeys]
def wsL_rounds_r2 : List Cond := [Cond.code yX6_numberByKeys cX6_numberByKeys 6 none, Cond.fieldLink RX6 15 "CanonCote$Refinement" "members" "[I", Cond.fieldLink RX6 9 "CanonCote$Refinement" "numbers" "[I", Cond.methodLink RX6 54 yX6_isFirstOfKey, Cond.instanceMethod yX6_isFirstOfKey, Cond.selects RX6 yX6_isFirstOfKey yX6_isFirstOfKey, Cond.code yX6_isFirstOfKey cX6_isFirstOfKey 3 (some .boolean), Cond.methodLink RX6 48 yJ6_bitCount_0f7a4, Cond.static yJ6_bitCount_0f7a4, Cond.initialized RJ6, Cond.code yJ6_bitCount_0f7a4 cJ6_bitCount_0f7a4 1 (some .int), Cond.constant RJ6 265 (1431655765), Cond.constant RJ6 266 (858993459), Cond.constant RJ6 267 (252645135), Cond.methodLink RX6 58 yJ7_fill_53178, Cond.static yJ7_fill_53178, Cond.initialized RJ7, Cond.code yJ7_fill_53178 cJ7_fill_53178 4 none, Cond.static yX7_isIn, Cond.code yX7_isIn cX7_isIn 2 (some .boolean), Cond.methodLink RX6 38 yX6_keyOf, Cond.instanceMethod yX6_keyOf, Cond.selects RX6 yX6_keyOf yX6_keyOf, Cond.code yX6_keyOf cX6_keyOf 6 (some .long)]
def wsL_rounds : List Cond := .codeWith yL_rounds cL_rounds 4 (some .int) [(0, 9, 12, 13)] :: ((wsL_rounds_r1 ++ wsL_rounds_r2) ++ wsX70 ++ wsX60 ++ wsX20 ++ (vx_atS RX7 186 "java/lang/IndexOutOfBoundsException" ["java/lang/RuntimeException", "java/lang/Exception"]).filter goodWord)
def wsL_form_r1 : List Cond := [Cond.classLink RL 13 "java/lang/IndexOutOfBoundsException", Cond.methodLink RL 58 yX7_form, Cond.instanceMethod yX7_form, Cond.selects RX7 yX7_form yX7_form, Cond.initialized RX7, Cond.code yX7_form cX7_form 2 (some .long), Cond.methodLink RX7 48 yX7_graphAt, Cond.instanceMethod yX7_graphAt, Cond.selects RX7 yX7_graphAt yX7_graphAt, Cond.code yX7_graphAt cX7_graphAt 2 (some (.object "CanonCote$Graph")), Cond.classLink RX7 182 "java/lang/IndexOutOfBoundsException", Cond.initialized "java/lang/IndexOutOfBoundsException", Cond.fieldLink RX7 11 "CanonCote" "graphs" "[LCanonCote$Graph;", Cond.methodLink RX7 116 yX7_leastCode, Cond.instanceMethod yX7_leastCode, Cond.selects RX7 yX7_leastCode yX7_leastCode, Cond.code yX7_leastCode cX7_leastCode 2 (some .long), Cond.fieldLink RX7 30 "CanonCote" "arranging" "LCanonCote$Arranging;", Cond.instanceMethod yX0_search, Cond.initialized RX0, Cond.selects RX0 yX0_search yX0_search, Cond.code yX0_search cX0_search 2 none, Cond.constant RX0 33 (2147483647), Cond.fieldLink RX0 34 "CanonCote$Arranging" "leastEdges" "I"]
def wsL_form_r2 : List Cond := [Cond.methodLink RX0 24 yX0_findTwins, Cond.instanceMethod yX0_findTwins, Cond.selects RX0 yX0_findTwins yX0_findTwins, Cond.code yX0_findTwins cX0_findTwins 4 none, Cond.fieldLink RX0 9 "CanonCote$Arranging" "twins" "[I", Cond.instanceMethod yX2_areTwins, Cond.initialized RX2, Cond.selects RX2 yX2_areTwins yX2_areTwins, Cond.code yX2_areTwins cX2_areTwins 4 (some .boolean), Cond.fieldLink RX2 19 "CanonCote$Graph" "colours" "[I", Cond.fieldLink RX2 15 "CanonCote$Graph" "near" "[I", Cond.methodLink RX0 28 yX0_shareOutByColours, Cond.instanceMethod yX0_shareOutByColours, Cond.selects RX0 yX0_shareOutByColours yX0_shareOutByColours, Cond.code yX0_shareOutByColours cX0_shareOutByColours 6 none, Cond.fieldLink RX0 15 "CanonCote$Arranging" "cells" "[I", Cond.methodLink RX0 54 yJ6_bitCount_0f7a4, Cond.static yJ6_bitCount_0f7a4, Cond.initialized RJ6, Cond.code yJ6_bitCount_0f7a4 cJ6_bitCount_0f7a4 1 (some .int), Cond.constant RJ6 265 (1431655765), Cond.constant RJ6 266 (858993459), Cond.constant RJ6 267 (252645135), Cond.methodLink RX0 38 yX0_arrange]
def wsL_form_r3 : List Cond := [Cond.static yX0_arrange, Cond.code yX0_arrange cX0_arrange 8 none, Cond.fieldLink RX0 62 "CanonCote$Arranging" "LOWEST_EDGE_BIT" "[I", Cond.fieldLink RX0 18 "CanonCote$Arranging" "vertexAt" "[I", Cond.methodLink RX0 58 yX0_meet, Cond.instanceMethod yX0_meet, Cond.selects RX0 yX0_meet yX0_meet, Cond.code yX0_meet cX0_meet 6 none, Cond.fieldLink RX0 75 "CanonCote$Arranging" "leastPlaces" "I", Cond.fieldLink RX0 78 "CanonCote$Arranging" "met" "I", Cond.fieldLink RX0 21 "CanonCote$Arranging" "seenAt" "[I", Cond.methodLink RX0 90 Lib.Math.min.name, Cond.static Lib.Math.min.name, Cond.initialized "java/lang/Math", Cond.code Lib.Math.min.name Lib.Math.min.code 2 (some .int), Cond.methodLink RX0 81 yJ7_fill_53178, Cond.static yJ7_fill_53178, Cond.initialized RJ7, Cond.code yJ7_fill_53178 cJ7_fill_53178 4 none, Cond.methodLink RX0 87 yX0_shiftOf, Cond.static yX0_shiftOf, Cond.code yX0_shiftOf cX0_shiftOf 1 (some .int), Cond.static yX7_below, Cond.code yX7_below cX7_below 1 (some .int)]
def wsL_form_r4 : List Cond := [Cond.methodLink RX0 68 yX0_splitCells, Cond.instanceMethod yX0_splitCells, Cond.selects RX0 yX0_splitCells yX0_splitCells, Cond.code yX0_splitCells cX0_splitCells 11 (some .int), Cond.instanceMethod yX0_leastCode, Cond.selects RX0 yX0_leastCode yX0_leastCode, Cond.code yX0_leastCode cX0_leastCode 6 (some .long), Cond.methodLink RX0 96 yX0_bestPlace, Cond.instanceMethod yX0_bestPlace, Cond.selects RX0 yX0_bestPlace yX0_bestPlace, Cond.code yX0_bestPlace cX0_bestPlace 2 (some .int)]
def wsL_form : List Cond := .codeWith yL_form cL_form 4 (some .int) [(0, 8, 11, 13)] :: ((wsL_form_r1 ++ (wsL_form_r2 ++ (wsL_form_r3 ++ wsL_form_r4))) ++ wsX70 ++ wsX00 ++ wsX20 ++ (vx_atS RX7 186 "java/lang/IndexOutOfBoundsException" ["java/lang/RuntimeException", "java/lang/Exception"]).filter goodWord)
def wsL_placeOf_r1 : List Cond := [Cond.classLink RL 13 "java/lang/IndexOutOfBoundsException", Cond.methodLink RL 62 yX7_placeOf, Cond.instanceMethod yX7_placeOf, Cond.selects RX7 yX7_placeOf yX7_placeOf, Cond.initialized RX7, Cond.code yX7_placeOf cX7_placeOf 4 (some .int), Cond.fieldLink RX7 30 "CanonCote" "arranging" "LCanonCote$Arranging;", Cond.methodLink RX7 48 yX7_graphAt, Cond.instanceMethod yX7_graphAt, Cond.selects RX7 yX7_graphAt yX7_graphAt, Cond.code yX7_graphAt cX7_graphAt 2 (some (.object "CanonCote$Graph")), Cond.classLink RX7 182 "java/lang/IndexOutOfBoundsException", Cond.initialized "java/lang/IndexOutOfBoundsException", Cond.fieldLink RX7 11 "CanonCote" "graphs" "[LCanonCote$Graph;", Cond.methodLink RX7 67 yX7_checkVertex, Cond.static yX7_checkVertex, Cond.code yX7_checkVertex cX7_checkVertex 2 none, Cond.instanceMethod yX0_search, Cond.initialized RX0, Cond.selects RX0 yX0_search yX0_search, Cond.code yX0_search cX0_search 2 none, Cond.constant RX0 33 (2147483647), Cond.fieldLink RX0 34 "CanonCote$Arranging" "leastEdges" "I", Cond.methodLink RX0 24 yX0_findTwins]
def wsL_placeOf_r2 : List Cond := [Cond.instanceMethod yX0_findTwins, Cond.selects RX0 yX0_findTwins yX0_findTwins, Cond.code yX0_findTwins cX0_findTwins 4 none, Cond.fieldLink RX0 9 "CanonCote$Arranging" "twins" "[I", Cond.instanceMethod yX2_areTwins, Cond.initialized RX2, Cond.selects RX2 yX2_areTwins yX2_areTwins, Cond.code yX2_areTwins cX2_areTwins 4 (some .boolean), Cond.fieldLink RX2 19 "CanonCote$Graph" "colours" "[I", Cond.fieldLink RX2 15 "CanonCote$Graph" "near" "[I", Cond.methodLink RX0 28 yX0_shareOutByColours, Cond.instanceMethod yX0_shareOutByColours, Cond.selects RX0 yX0_shareOutByColours yX0_shareOutByColours, Cond.code yX0_shareOutByColours cX0_shareOutByColours 6 none, Cond.fieldLink RX0 15 "CanonCote$Arranging" "cells" "[I", Cond.methodLink RX0 54 yJ6_bitCount_0f7a4, Cond.static yJ6_bitCount_0f7a4, Cond.initialized RJ6, Cond.code yJ6_bitCount_0f7a4 cJ6_bitCount_0f7a4 1 (some .int), Cond.constant RJ6 265 (1431655765), Cond.constant RJ6 266 (858993459), Cond.constant RJ6 267 (252645135), Cond.methodLink RX0 38 yX0_arrange, Cond.static yX0_arrange]
def wsL_placeOf_r3 : List Cond := [Cond.code yX0_arrange cX0_arrange 8 none, Cond.fieldLink RX0 62 "CanonCote$Arranging" "LOWEST_EDGE_BIT" "[I", Cond.fieldLink RX0 18 "CanonCote$Arranging" "vertexAt" "[I", Cond.methodLink RX0 58 yX0_meet, Cond.instanceMethod yX0_meet, Cond.selects RX0 yX0_meet yX0_meet, Cond.code yX0_meet cX0_meet 6 none, Cond.fieldLink RX0 75 "CanonCote$Arranging" "leastPlaces" "I", Cond.fieldLink RX0 78 "CanonCote$Arranging" "met" "I", Cond.fieldLink RX0 21 "CanonCote$Arranging" "seenAt" "[I", Cond.methodLink RX0 90 Lib.Math.min.name, Cond.static Lib.Math.min.name, Cond.initialized "java/lang/Math", Cond.code Lib.Math.min.name Lib.Math.min.code 2 (some .int), Cond.methodLink RX0 81 yJ7_fill_53178, Cond.static yJ7_fill_53178, Cond.initialized RJ7, Cond.code yJ7_fill_53178 cJ7_fill_53178 4 none, Cond.methodLink RX0 87 yX0_shiftOf, Cond.static yX0_shiftOf, Cond.code yX0_shiftOf cX0_shiftOf 1 (some .int), Cond.static yX7_below, Cond.code yX7_below cX7_below 1 (some .int), Cond.methodLink RX0 68 yX0_splitCells]
def wsL_placeOf_r4 : List Cond := [Cond.instanceMethod yX0_splitCells, Cond.selects RX0 yX0_splitCells yX0_splitCells, Cond.code yX0_splitCells cX0_splitCells 11 (some .int), Cond.instanceMethod yX0_bestPlace, Cond.selects RX0 yX0_bestPlace yX0_bestPlace, Cond.code yX0_bestPlace cX0_bestPlace 2 (some .int)]
def wsL_placeOf : List Cond := .codeWith yL_placeOf cL_placeOf 5 (some .int) [(0, 10, 13, 13)] :: ((wsL_placeOf_r1 ++ (wsL_placeOf_r2 ++ (wsL_placeOf_r3 ++ wsL_placeOf_r4))) ++ wsX70 ++ wsX20 ++ wsX00 ++ (vx_atS RX7 186 "java/lang/IndexOutOfBoundsException" ["java/lang/RuntimeException", "java/lang/Exception"]).filter goodWord)
def wsL_areAlike_r1 : List Cond := [Cond.classLink RL 13 "java/lang/IndexOutOfBoundsException", Cond.methodLink RL 65 yX7_areAlike, Cond.instanceMethod yX7_areAlike, Cond.selects RX7 yX7_areAlike yX7_areAlike, Cond.initialized RX7, Cond.code yX7_areAlike cX7_areAlike 4 (some .boolean), Cond.methodLink RX7 48 yX7_graphAt, Cond.instanceMethod yX7_graphAt, Cond.selects RX7 yX7_graphAt yX7_graphAt, Cond.code yX7_graphAt cX7_graphAt 2 (some (.object "CanonCote$Graph")), Cond.classLink RX7 182 "java/lang/IndexOutOfBoundsException", Cond.initialized "java/lang/IndexOutOfBoundsException", Cond.fieldLink RX7 11 "CanonCote" "graphs" "[LCanonCote$Graph;", Cond.methodLink RX7 127 yX7_haveOneForm, Cond.instanceMethod yX7_haveOneForm, Cond.selects RX7 yX7_haveOneForm yX7_haveOneForm, Cond.code yX7_haveOneForm cX7_haveOneForm 3 (some .boolean), Cond.methodLink RX7 116 yX7_leastCode, Cond.instanceMethod yX7_leastCode, Cond.selects RX7 yX7_leastCode yX7_leastCode, Cond.code yX7_leastCode cX7_leastCode 2 (some .long), Cond.fieldLink RX7 30 "CanonCote" "arranging" "LCanonCote$Arranging;", Cond.instanceMethod yX0_search, Cond.initialized RX0]
def wsL_areAlike_r2 : List Cond := [Cond.selects RX0 yX0_search yX0_search, Cond.code yX0_search cX0_search 2 none, Cond.constant RX0 33 (2147483647), Cond.fieldLink RX0 34 "CanonCote$Arranging" "leastEdges" "I", Cond.methodLink RX0 24 yX0_findTwins, Cond.instanceMethod yX0_findTwins, Cond.selects RX0 yX0_findTwins yX0_findTwins, Cond.code yX0_findTwins cX0_findTwins 4 none, Cond.fieldLink RX0 9 "CanonCote$Arranging" "twins" "[I", Cond.instanceMethod yX2_areTwins, Cond.initialized RX2, Cond.selects RX2 yX2_areTwins yX2_areTwins, Cond.code yX2_areTwins cX2_areTwins 4 (some .boolean), Cond.fieldLink RX2 19 "CanonCote$Graph" "colours" "[I", Cond.fieldLink RX2 15 "CanonCote$Graph" "near" "[I", Cond.methodLink RX0 28 yX0_shareOutByColours, Cond.instanceMethod yX0_shareOutByColours, Cond.selects RX0 yX0_shareOutByColours yX0_shareOutByColours, Cond.code yX0_shareOutByColours cX0_shareOutByColours 6 none, Cond.fieldLink RX0 15 "CanonCote$Arranging" "cells" "[I", Cond.methodLink RX0 54 yJ6_bitCount_0f7a4, Cond.static yJ6_bitCount_0f7a4, Cond.initialized RJ6, Cond.code yJ6_bitCount_0f7a4 cJ6_bitCount_0f7a4 1 (some .int)]
def wsL_areAlike_r3 : List Cond := [Cond.constant RJ6 265 (1431655765), Cond.constant RJ6 266 (858993459), Cond.constant RJ6 267 (252645135), Cond.methodLink RX0 38 yX0_arrange, Cond.static yX0_arrange, Cond.code yX0_arrange cX0_arrange 8 none, Cond.fieldLink RX0 62 "CanonCote$Arranging" "LOWEST_EDGE_BIT" "[I", Cond.fieldLink RX0 18 "CanonCote$Arranging" "vertexAt" "[I", Cond.methodLink RX0 58 yX0_meet, Cond.instanceMethod yX0_meet, Cond.selects RX0 yX0_meet yX0_meet, Cond.code yX0_meet cX0_meet 6 none, Cond.fieldLink RX0 75 "CanonCote$Arranging" "leastPlaces" "I", Cond.fieldLink RX0 78 "CanonCote$Arranging" "met" "I", Cond.fieldLink RX0 21 "CanonCote$Arranging" "seenAt" "[I", Cond.methodLink RX0 90 Lib.Math.min.name, Cond.static Lib.Math.min.name, Cond.initialized "java/lang/Math", Cond.code Lib.Math.min.name Lib.Math.min.code 2 (some .int), Cond.methodLink RX0 81 yJ7_fill_53178, Cond.static yJ7_fill_53178, Cond.initialized RJ7, Cond.code yJ7_fill_53178 cJ7_fill_53178 4 none, Cond.methodLink RX0 87 yX0_shiftOf]
def wsL_areAlike_r4 : List Cond := [Cond.static yX0_shiftOf, Cond.code yX0_shiftOf cX0_shiftOf 1 (some .int), Cond.static yX7_below, Cond.code yX7_below cX7_below 1 (some .int), Cond.methodLink RX0 68 yX0_splitCells, Cond.instanceMethod yX0_splitCells, Cond.selects RX0 yX0_splitCells yX0_splitCells, Cond.code yX0_splitCells cX0_splitCells 11 (some .int), Cond.instanceMethod yX0_leastCode, Cond.selects RX0 yX0_leastCode yX0_leastCode, Cond.code yX0_leastCode cX0_leastCode 6 (some .long), Cond.methodLink RX0 96 yX0_bestPlace, Cond.instanceMethod yX0_bestPlace, Cond.selects RX0 yX0_bestPlace yX0_bestPlace, Cond.code yX0_bestPlace cX0_bestPlace 2 (some .int)]
def wsL_areAlike : List Cond := .codeWith yL_areAlike cL_areAlike 5 (some .int) [(0, 17, 20, 13)] :: ((wsL_areAlike_r1 ++ (wsL_areAlike_r2 ++ (wsL_areAlike_r3 ++ wsL_areAlike_r4))) ++ wsX70 ++ wsX00 ++ wsX20 ++ (vx_atS RX7 186 "java/lang/IndexOutOfBoundsException" ["java/lang/RuntimeException", "java/lang/Exception"]).filter goodWord)
def wsL_image_r1 : List Cond := [Cond.classLink RL 13 "java/lang/IndexOutOfBoundsException", Cond.methodLink RL 69 yX7_image, Cond.instanceMethod yX7_image, Cond.selects RX7 yX7_image yX7_image, Cond.initialized RX7, Cond.code yX7_image cX7_image 6 (some .int), Cond.fieldLink RX7 37 "CanonCote" "mapping" "LCanonCote$Mapping;", Cond.methodLink RX7 48 yX7_graphAt, Cond.instanceMethod yX7_graphAt, Cond.selects RX7 yX7_graphAt yX7_graphAt, Cond.code yX7_graphAt cX7_graphAt 2 (some (.object "CanonCote$Graph")), Cond.classLink RX7 182 "java/lang/IndexOutOfBoundsException", Cond.initialized "java/lang/IndexOutOfBoundsException", Cond.fieldLink RX7 11 "CanonCote" "graphs" "[LCanonCote$Graph;", Cond.methodLink RX7 67 yX7_checkVertex, Cond.static yX7_checkVertex, Cond.code yX7_checkVertex cX7_checkVertex 2 none, Cond.methodLink RX7 127 yX7_haveOneForm, Cond.instanceMethod yX7_haveOneForm, Cond.selects RX7 yX7_haveOneForm yX7_haveOneForm, Cond.code yX7_haveOneForm cX7_haveOneForm 3 (some .boolean), Cond.methodLink RX7 116 yX7_leastCode, Cond.instanceMethod yX7_leastCode, Cond.selects RX7 yX7_leastCode yX7_leastCode]
def wsL_image_r2 : List Cond := [Cond.code yX7_leastCode cX7_leastCode 2 (some .long), Cond.fieldLink RX7 30 "CanonCote" "arranging" "LCanonCote$Arranging;", Cond.instanceMethod yX0_search, Cond.initialized RX0, Cond.selects RX0 yX0_search yX0_search, Cond.code yX0_search cX0_search 2 none, Cond.constant RX0 33 (2147483647), Cond.fieldLink RX0 34 "CanonCote$Arranging" "leastEdges" "I", Cond.methodLink RX0 24 yX0_findTwins, Cond.instanceMethod yX0_findTwins, Cond.selects RX0 yX0_findTwins yX0_findTwins, Cond.code yX0_findTwins cX0_findTwins 4 none, Cond.fieldLink RX0 9 "CanonCote$Arranging" "twins" "[I", Cond.instanceMethod yX2_areTwins, Cond.initialized RX2, Cond.selects RX2 yX2_areTwins yX2_areTwins, Cond.code yX2_areTwins cX2_areTwins 4 (some .boolean), Cond.fieldLink RX2 19 "CanonCote$Graph" "colours" "[I", Cond.fieldLink RX2 15 "CanonCote$Graph" "near" "[I", Cond.methodLink RX0 28 yX0_shareOutByColours, Cond.instanceMethod yX0_shareOutByColours, Cond.selects RX0 yX0_shareOutByColours yX0_shareOutByColours, Cond.code yX0_shareOutByColours cX0_shareOutByColours 6 none, Cond.fieldLink RX0 15 "CanonCote$Arranging" "cells" "[I"]
def wsL_image_r3 : List Cond := [Cond.methodLink RX0 54 yJ6_bitCount_0f7a4, Cond.static yJ6_bitCount_0f7a4, Cond.initialized RJ6, Cond.code yJ6_bitCount_0f7a4 cJ6_bitCount_0f7a4 1 (some .int), Cond.constant RJ6 265 (1431655765), Cond.constant RJ6 266 (858993459), Cond.constant RJ6 267 (252645135), Cond.methodLink RX0 38 yX0_arrange, Cond.static yX0_arrange, Cond.code yX0_arrange cX0_arrange 8 none, Cond.fieldLink RX0 62 "CanonCote$Arranging" "LOWEST_EDGE_BIT" "[I", Cond.fieldLink RX0 18 "CanonCote$Arranging" "vertexAt" "[I", Cond.methodLink RX0 58 yX0_meet, Cond.instanceMethod yX0_meet, Cond.selects RX0 yX0_meet yX0_meet, Cond.code yX0_meet cX0_meet 6 none, Cond.fieldLink RX0 75 "CanonCote$Arranging" "leastPlaces" "I", Cond.fieldLink RX0 78 "CanonCote$Arranging" "met" "I", Cond.fieldLink RX0 21 "CanonCote$Arranging" "seenAt" "[I", Cond.methodLink RX0 90 Lib.Math.min.name, Cond.static Lib.Math.min.name, Cond.initialized "java/lang/Math", Cond.code Lib.Math.min.name Lib.Math.min.code 2 (some .int), Cond.methodLink RX0 81 yJ7_fill_53178]
def wsL_image_r4 : List Cond := [Cond.static yJ7_fill_53178, Cond.initialized RJ7, Cond.code yJ7_fill_53178 cJ7_fill_53178 4 none, Cond.methodLink RX0 87 yX0_shiftOf, Cond.static yX0_shiftOf, Cond.code yX0_shiftOf cX0_shiftOf 1 (some .int), Cond.static yX7_below, Cond.code yX7_below cX7_below 1 (some .int), Cond.methodLink RX0 68 yX0_splitCells, Cond.instanceMethod yX0_splitCells, Cond.selects RX0 yX0_splitCells yX0_splitCells, Cond.code yX0_splitCells cX0_splitCells 11 (some .int), Cond.instanceMethod yX0_leastCode, Cond.selects RX0 yX0_leastCode yX0_leastCode, Cond.code yX0_leastCode cX0_leastCode 6 (some .long), Cond.methodLink RX0 96 yX0_bestPlace, Cond.instanceMethod yX0_bestPlace, Cond.selects RX0 yX0_bestPlace yX0_bestPlace, Cond.code yX0_bestPlace cX0_bestPlace 2 (some .int), Cond.instanceMethod yX4_find, Cond.initialized RX4, Cond.selects RX4 yX4_find yX4_find, Cond.code yX4_find cX4_find 3 (some .boolean), Cond.fieldLink RX4 18 "CanonCote$Mapping" "classesHere" "LCanonCote$Refinement;"]
def wsL_image_r5 : List Cond := [Cond.fieldLink RX4 22 "CanonCote$Mapping" "classesThere" "LCanonCote$Refinement;", Cond.instanceMethod yX6_refine, Cond.initialized RX6, Cond.selects RX6 yX6_refine yX6_refine, Cond.code yX6_refine cX6_refine 5 none, Cond.fieldLink RX6 18 "CanonCote$Refinement" "keys" "[J", Cond.fieldLink RX6 35 "CanonCote$Refinement" "count" "I", Cond.fieldLink RX6 42 "CanonCote$Refinement" "lastRound" "I", Cond.methodLink RX6 31 yX6_numberByKeys, Cond.instanceMethod yX6_numberByKeys, Cond.selects RX6 yX6_numberByKeys yX6_numberByKeys, Cond.code yX6_numberByKeys cX6_numberByKeys 6 none, Cond.fieldLink RX6 15 "CanonCote$Refinement" "members" "[I", Cond.fieldLink RX6 9 "CanonCote$Refinement" "numbers" "[I", Cond.methodLink RX6 54 yX6_isFirstOfKey, Cond.instanceMethod yX6_isFirstOfKey, Cond.selects RX6 yX6_isFirstOfKey yX6_isFirstOfKey, Cond.code yX6_isFirstOfKey cX6_isFirstOfKey 3 (some .boolean), Cond.methodLink RX6 48 yJ6_bitCount_0f7a4, Cond.methodLink RX6 58 yJ7_fill_53178, Cond.static yX7_isIn, Cond.code yX7_isIn cX7_isIn 2 (some .boolean), Cond.methodLink RX6 38 yX6_keyOf, Cond.instanceMethod yX6_keyOf]
def wsL_image_r6 : List Cond := [Cond.selects RX6 yX6_keyOf yX6_keyOf, Cond.code yX6_keyOf cX6_keyOf 6 (some .long), Cond.methodLink RX4 35 yX4_extend, Cond.static yX4_extend, Cond.code yX4_extend cX4_extend 6 (some .boolean), Cond.fieldLink RX4 9 "CanonCote$Mapping" "images" "[I", Cond.methodLink RX4 43 yX4_fits, Cond.instanceMethod yX4_fits, Cond.selects RX4 yX4_fits yX4_fits, Cond.code yX4_fits cX4_fits 6 (some .boolean), Cond.instanceMethod yX2_hasEdge, Cond.selects RX2 yX2_hasEdge yX2_hasEdge, Cond.code yX2_hasEdge cX2_hasEdge 3 (some .boolean)]
def wsL_image : List Cond := .codeWith yL_image cL_image 6 (some .int) [(0, 12, 15, 13)] :: ((wsL_image_r1 ++ (wsL_image_r2 ++ (wsL_image_r3 ++ (wsL_image_r4 ++ (wsL_image_r5 ++ wsL_image_r6))))) ++ wsX70 ++ wsX40 ++ wsX20 ++ wsX00 ++ wsX60 ++ (vx_atS RX7 186 "java/lang/IndexOutOfBoundsException" ["java/lang/RuntimeException", "java/lang/Exception"]).filter goodWord)
def wsL_copies_r1 : List Cond := [Cond.classLink RL 13 "java/lang/IndexOutOfBoundsException", Cond.methodLink RL 72 yX7_copies, Cond.instanceMethod yX7_copies, Cond.selects RX7 yX7_copies yX7_copies, Cond.initialized RX7, Cond.code yX7_copies cX7_copies 9 (some .int), Cond.fieldLink RX7 16 "CanonCote" "chosen" "LCanonCote$Graph;", Cond.methodLink RX7 48 yX7_graphAt, Cond.instanceMethod yX7_graphAt, Cond.selects RX7 yX7_graphAt yX7_graphAt, Cond.code yX7_graphAt cX7_graphAt 2 (some (.object "CanonCote$Graph")), Cond.classLink RX7 182 "java/lang/IndexOutOfBoundsException", Cond.initialized "java/lang/IndexOutOfBoundsException", Cond.fieldLink RX7 11 "CanonCote" "graphs" "[LCanonCote$Graph;", Cond.methodLink RX7 116 yX7_leastCode, Cond.instanceMethod yX7_leastCode, Cond.selects RX7 yX7_leastCode yX7_leastCode, Cond.code yX7_leastCode cX7_leastCode 2 (some .long), Cond.fieldLink RX7 30 "CanonCote" "arranging" "LCanonCote$Arranging;", Cond.instanceMethod yX0_search, Cond.initialized RX0, Cond.selects RX0 yX0_search yX0_search, Cond.code yX0_search cX0_search 2 none, Cond.constant RX0 33 (2147483647)]
def wsL_copies_r2 : List Cond := [Cond.fieldLink RX0 34 "CanonCote$Arranging" "leastEdges" "I", Cond.methodLink RX0 24 yX0_findTwins, Cond.instanceMethod yX0_findTwins, Cond.selects RX0 yX0_findTwins yX0_findTwins, Cond.code yX0_findTwins cX0_findTwins 4 none, Cond.fieldLink RX0 9 "CanonCote$Arranging" "twins" "[I", Cond.instanceMethod yX2_areTwins, Cond.initialized RX2, Cond.selects RX2 yX2_areTwins yX2_areTwins, Cond.code yX2_areTwins cX2_areTwins 4 (some .boolean), Cond.fieldLink RX2 19 "CanonCote$Graph" "colours" "[I", Cond.fieldLink RX2 15 "CanonCote$Graph" "near" "[I", Cond.methodLink RX0 28 yX0_shareOutByColours, Cond.instanceMethod yX0_shareOutByColours, Cond.selects RX0 yX0_shareOutByColours yX0_shareOutByColours, Cond.code yX0_shareOutByColours cX0_shareOutByColours 6 none, Cond.fieldLink RX0 15 "CanonCote$Arranging" "cells" "[I", Cond.methodLink RX0 54 yJ6_bitCount_0f7a4, Cond.static yJ6_bitCount_0f7a4, Cond.initialized RJ6, Cond.code yJ6_bitCount_0f7a4 cJ6_bitCount_0f7a4 1 (some .int), Cond.constant RJ6 265 (1431655765), Cond.constant RJ6 266 (858993459), Cond.constant RJ6 267 (252645135)]
def wsL_copies_r3 : List Cond := [Cond.methodLink RX0 38 yX0_arrange, Cond.static yX0_arrange, Cond.code yX0_arrange cX0_arrange 8 none, Cond.fieldLink RX0 62 "CanonCote$Arranging" "LOWEST_EDGE_BIT" "[I", Cond.fieldLink RX0 18 "CanonCote$Arranging" "vertexAt" "[I", Cond.methodLink RX0 58 yX0_meet, Cond.instanceMethod yX0_meet, Cond.selects RX0 yX0_meet yX0_meet, Cond.code yX0_meet cX0_meet 6 none, Cond.fieldLink RX0 75 "CanonCote$Arranging" "leastPlaces" "I", Cond.fieldLink RX0 78 "CanonCote$Arranging" "met" "I", Cond.fieldLink RX0 21 "CanonCote$Arranging" "seenAt" "[I", Cond.methodLink RX0 90 Lib.Math.min.name, Cond.static Lib.Math.min.name, Cond.initialized "java/lang/Math", Cond.code Lib.Math.min.name Lib.Math.min.code 2 (some .int), Cond.methodLink RX0 81 yJ7_fill_53178, Cond.static yJ7_fill_53178, Cond.initialized RJ7, Cond.code yJ7_fill_53178 cJ7_fill_53178 4 none, Cond.methodLink RX0 87 yX0_shiftOf, Cond.static yX0_shiftOf, Cond.code yX0_shiftOf cX0_shiftOf 1 (some .int), Cond.static yX7_below]
def wsL_copies_r4 : List Cond := [Cond.code yX7_below cX7_below 1 (some .int), Cond.methodLink RX0 68 yX0_splitCells, Cond.instanceMethod yX0_splitCells, Cond.selects RX0 yX0_splitCells yX0_splitCells, Cond.code yX0_splitCells cX0_splitCells 11 (some .int), Cond.instanceMethod yX0_leastCode, Cond.selects RX0 yX0_leastCode yX0_leastCode, Cond.code yX0_leastCode cX0_leastCode 6 (some .long), Cond.methodLink RX0 96 yX0_bestPlace, Cond.instanceMethod yX0_bestPlace, Cond.selects RX0 yX0_bestPlace yX0_bestPlace, Cond.code yX0_bestPlace cX0_bestPlace 2 (some .int), Cond.methodLink RX7 137 yJ6_bitCount_0f7a4, Cond.instanceMethod yX2_becomePart, Cond.selects RX2 yX2_becomePart yX2_becomePart, Cond.code yX2_becomePart cX2_becomePart 4 none, Cond.fieldLink RX2 9 "CanonCote$Graph" "size" "I", Cond.static yX7_isIn, Cond.code yX7_isIn cX7_isIn 2 (some .boolean), Cond.methodLink RX2 41 yX2_squeeze, Cond.static yX2_squeeze, Cond.code yX2_squeeze cX2_squeeze 5 (some .int), Cond.instanceMethod yX2_countEdges, Cond.selects RX2 yX2_countEdges yX2_countEdges]
def wsL_copies_r5 : List Cond := [Cond.code yX2_countEdges cX2_countEdges 3 (some .int), Cond.methodLink RX2 36 yJ6_bitCount_0f7a4]
def wsL_copies : List Cond := .codeWith yL_copies cL_copies 5 (some .int) [(0, 10, 13, 13)] :: ((wsL_copies_r1 ++ (wsL_copies_r2 ++ (wsL_copies_r3 ++ (wsL_copies_r4 ++ wsL_copies_r5)))) ++ wsX20 ++ wsX70 ++ wsX00 ++ (vx_atS RX7 186 "java/lang/IndexOutOfBoundsException" ["java/lang/RuntimeException", "java/lang/Exception"]).filter goodWord)
def wsL_symmetries_r1 : List Cond := [Cond.classLink RL 13 "java/lang/IndexOutOfBoundsException", Cond.methodLink RL 75 yX7_symmetries, Cond.instanceMethod yX7_symmetries, Cond.selects RX7 yX7_symmetries yX7_symmetries, Cond.initialized RX7, Cond.code yX7_symmetries cX7_symmetries 3 (some .int), Cond.fieldLink RX7 30 "CanonCote" "arranging" "LCanonCote$Arranging;", Cond.methodLink RX7 48 yX7_graphAt, Cond.instanceMethod yX7_graphAt, Cond.selects RX7 yX7_graphAt yX7_graphAt, Cond.code yX7_graphAt cX7_graphAt 2 (some (.object "CanonCote$Graph")), Cond.classLink RX7 182 "java/lang/IndexOutOfBoundsException", Cond.initialized "java/lang/IndexOutOfBoundsException", Cond.fieldLink RX7 11 "CanonCote" "graphs" "[LCanonCote$Graph;", Cond.instanceMethod yX0_search, Cond.initialized RX0, Cond.selects RX0 yX0_search yX0_search, Cond.code yX0_search cX0_search 2 none, Cond.constant RX0 33 (2147483647), Cond.fieldLink RX0 34 "CanonCote$Arranging" "leastEdges" "I", Cond.methodLink RX0 24 yX0_findTwins, Cond.instanceMethod yX0_findTwins, Cond.selects RX0 yX0_findTwins yX0_findTwins, Cond.code yX0_findTwins cX0_findTwins 4 none]
def wsL_symmetries_r2 : List Cond := [Cond.fieldLink RX0 9 "CanonCote$Arranging" "twins" "[I", Cond.instanceMethod yX2_areTwins, Cond.initialized RX2, Cond.selects RX2 yX2_areTwins yX2_areTwins, Cond.code yX2_areTwins cX2_areTwins 4 (some .boolean), Cond.fieldLink RX2 19 "CanonCote$Graph" "colours" "[I", Cond.fieldLink RX2 15 "CanonCote$Graph" "near" "[I", Cond.methodLink RX0 28 yX0_shareOutByColours, Cond.instanceMethod yX0_shareOutByColours, Cond.selects RX0 yX0_shareOutByColours yX0_shareOutByColours, Cond.code yX0_shareOutByColours cX0_shareOutByColours 6 none, Cond.fieldLink RX0 15 "CanonCote$Arranging" "cells" "[I", Cond.methodLink RX0 54 yJ6_bitCount_0f7a4, Cond.static yJ6_bitCount_0f7a4, Cond.initialized RJ6, Cond.code yJ6_bitCount_0f7a4 cJ6_bitCount_0f7a4 1 (some .int), Cond.constant RJ6 265 (1431655765), Cond.constant RJ6 266 (858993459), Cond.constant RJ6 267 (252645135), Cond.methodLink RX0 38 yX0_arrange, Cond.static yX0_arrange, Cond.code yX0_arrange cX0_arrange 8 none, Cond.fieldLink RX0 62 "CanonCote$Arranging" "LOWEST_EDGE_BIT" "[I", Cond.fieldLink RX0 18 "CanonCote$Arranging" "vertexAt" "[I"]
def wsL_symmetries_r3 : List Cond := [Cond.methodLink RX0 58 yX0_meet, Cond.instanceMethod yX0_meet, Cond.selects RX0 yX0_meet yX0_meet, Cond.code yX0_meet cX0_meet 6 none, Cond.fieldLink RX0 75 "CanonCote$Arranging" "leastPlaces" "I", Cond.fieldLink RX0 78 "CanonCote$Arranging" "met" "I", Cond.fieldLink RX0 21 "CanonCote$Arranging" "seenAt" "[I", Cond.methodLink RX0 90 Lib.Math.min.name, Cond.static Lib.Math.min.name, Cond.initialized "java/lang/Math", Cond.code Lib.Math.min.name Lib.Math.min.code 2 (some .int), Cond.methodLink RX0 81 yJ7_fill_53178, Cond.static yJ7_fill_53178, Cond.initialized RJ7, Cond.code yJ7_fill_53178 cJ7_fill_53178 4 none, Cond.methodLink RX0 87 yX0_shiftOf, Cond.static yX0_shiftOf, Cond.code yX0_shiftOf cX0_shiftOf 1 (some .int), Cond.static yX7_below, Cond.code yX7_below cX7_below 1 (some .int), Cond.methodLink RX0 68 yX0_splitCells, Cond.instanceMethod yX0_splitCells, Cond.selects RX0 yX0_splitCells yX0_splitCells, Cond.code yX0_splitCells cX0_splitCells 11 (some .int)]
def wsL_symmetries_r4 : List Cond := [Cond.instanceMethod yX0_countBest, Cond.selects RX0 yX0_countBest yX0_countBest, Cond.code yX0_countBest cX0_countBest 4 (some .int)]
def wsL_symmetries : List Cond := .codeWith yL_symmetries cL_symmetries 4 (some .int) [(0, 9, 12, 13)] :: ((wsL_symmetries_r1 ++ (wsL_symmetries_r2 ++ (wsL_symmetries_r3 ++ wsL_symmetries_r4))) ++ wsX70 ++ wsX20 ++ wsX00 ++ (vx_atS RX7 186 "java/lang/IndexOutOfBoundsException" ["java/lang/RuntimeException", "java/lang/Exception"]).filter goodWord)
def wsL_orbits_r1 : List Cond := [Cond.classLink RL 13 "java/lang/IndexOutOfBoundsException", Cond.methodLink RL 78 yX7_orbits, Cond.instanceMethod yX7_orbits, Cond.selects RX7 yX7_orbits yX7_orbits, Cond.initialized RX7, Cond.code yX7_orbits cX7_orbits 5 (some .int), Cond.fieldLink RX7 30 "CanonCote" "arranging" "LCanonCote$Arranging;", Cond.methodLink RX7 48 yX7_graphAt, Cond.instanceMethod yX7_graphAt, Cond.selects RX7 yX7_graphAt yX7_graphAt, Cond.code yX7_graphAt cX7_graphAt 2 (some (.object "CanonCote$Graph")), Cond.classLink RX7 182 "java/lang/IndexOutOfBoundsException", Cond.initialized "java/lang/IndexOutOfBoundsException", Cond.fieldLink RX7 11 "CanonCote" "graphs" "[LCanonCote$Graph;", Cond.instanceMethod yX0_search, Cond.initialized RX0, Cond.selects RX0 yX0_search yX0_search, Cond.code yX0_search cX0_search 2 none, Cond.constant RX0 33 (2147483647), Cond.fieldLink RX0 34 "CanonCote$Arranging" "leastEdges" "I", Cond.methodLink RX0 24 yX0_findTwins, Cond.instanceMethod yX0_findTwins, Cond.selects RX0 yX0_findTwins yX0_findTwins, Cond.code yX0_findTwins cX0_findTwins 4 none]
def wsL_orbits_r2 : List Cond := [Cond.fieldLink RX0 9 "CanonCote$Arranging" "twins" "[I", Cond.instanceMethod yX2_areTwins, Cond.initialized RX2, Cond.selects RX2 yX2_areTwins yX2_areTwins, Cond.code yX2_areTwins cX2_areTwins 4 (some .boolean), Cond.fieldLink RX2 19 "CanonCote$Graph" "colours" "[I", Cond.fieldLink RX2 15 "CanonCote$Graph" "near" "[I", Cond.methodLink RX0 28 yX0_shareOutByColours, Cond.instanceMethod yX0_shareOutByColours, Cond.selects RX0 yX0_shareOutByColours yX0_shareOutByColours, Cond.code yX0_shareOutByColours cX0_shareOutByColours 6 none, Cond.fieldLink RX0 15 "CanonCote$Arranging" "cells" "[I", Cond.methodLink RX0 54 yJ6_bitCount_0f7a4, Cond.static yJ6_bitCount_0f7a4, Cond.initialized RJ6, Cond.code yJ6_bitCount_0f7a4 cJ6_bitCount_0f7a4 1 (some .int), Cond.constant RJ6 265 (1431655765), Cond.constant RJ6 266 (858993459), Cond.constant RJ6 267 (252645135), Cond.methodLink RX0 38 yX0_arrange, Cond.static yX0_arrange, Cond.code yX0_arrange cX0_arrange 8 none, Cond.fieldLink RX0 62 "CanonCote$Arranging" "LOWEST_EDGE_BIT" "[I", Cond.fieldLink RX0 18 "CanonCote$Arranging" "vertexAt" "[I"]
def wsL_orbits_r3 : List Cond := [Cond.methodLink RX0 58 yX0_meet, Cond.instanceMethod yX0_meet, Cond.selects RX0 yX0_meet yX0_meet, Cond.code yX0_meet cX0_meet 6 none, Cond.fieldLink RX0 75 "CanonCote$Arranging" "leastPlaces" "I", Cond.fieldLink RX0 78 "CanonCote$Arranging" "met" "I", Cond.fieldLink RX0 21 "CanonCote$Arranging" "seenAt" "[I", Cond.methodLink RX0 90 Lib.Math.min.name, Cond.static Lib.Math.min.name, Cond.initialized "java/lang/Math", Cond.code Lib.Math.min.name Lib.Math.min.code 2 (some .int), Cond.methodLink RX0 81 yJ7_fill_53178, Cond.static yJ7_fill_53178, Cond.initialized RJ7, Cond.code yJ7_fill_53178 cJ7_fill_53178 4 none, Cond.methodLink RX0 87 yX0_shiftOf, Cond.static yX0_shiftOf, Cond.code yX0_shiftOf cX0_shiftOf 1 (some .int), Cond.static yX7_below, Cond.code yX7_below cX7_below 1 (some .int), Cond.methodLink RX0 68 yX0_splitCells, Cond.instanceMethod yX0_splitCells, Cond.selects RX0 yX0_splitCells yX0_splitCells, Cond.code yX0_splitCells cX0_splitCells 11 (some .int)]
def wsL_orbits_r4 : List Cond := [Cond.instanceMethod yX0_exchangeable, Cond.selects RX0 yX0_exchangeable yX0_exchangeable, Cond.code yX0_exchangeable cX0_exchangeable 2 (some .int), Cond.methodLink RX0 96 yX0_bestPlace, Cond.instanceMethod yX0_bestPlace, Cond.selects RX0 yX0_bestPlace yX0_bestPlace, Cond.code yX0_bestPlace cX0_bestPlace 2 (some .int), Cond.methodLink RX7 151 yX7_below]
def wsL_orbits : List Cond := .codeWith yL_orbits cL_orbits 4 (some .int) [(0, 9, 12, 13)] :: ((wsL_orbits_r1 ++ (wsL_orbits_r2 ++ (wsL_orbits_r3 ++ wsL_orbits_r4))) ++ wsX70 ++ wsX20 ++ wsX00 ++ (vx_atS RX7 186 "java/lang/IndexOutOfBoundsException" ["java/lang/RuntimeException", "java/lang/Exception"]).filter goodWord)
def wsL_orbit_r1 : List Cond := [Cond.classLink RL 13 "java/lang/IndexOutOfBoundsException", Cond.methodLink RL 81 yX7_orbit, Cond.instanceMethod yX7_orbit, Cond.selects RX7 yX7_orbit yX7_orbit, Cond.initialized RX7, Cond.code yX7_orbit cX7_orbit 4 (some .int), Cond.fieldLink RX7 30 "CanonCote" "arranging" "LCanonCote$Arranging;", Cond.methodLink RX7 48 yX7_graphAt, Cond.instanceMethod yX7_graphAt, Cond.selects RX7 yX7_graphAt yX7_graphAt, Cond.code yX7_graphAt cX7_graphAt 2 (some (.object "CanonCote$Graph")), Cond.classLink RX7 182 "java/lang/IndexOutOfBoundsException", Cond.initialized "java/lang/IndexOutOfBoundsException", Cond.fieldLink RX7 11 "CanonCote" "graphs" "[LCanonCote$Graph;", Cond.methodLink RX7 67 yX7_checkVertex, Cond.static yX7_checkVertex, Cond.code yX7_checkVertex cX7_checkVertex 2 none, Cond.instanceMethod yX0_search, Cond.initialized RX0, Cond.selects RX0 yX0_search yX0_search, Cond.code yX0_search cX0_search 2 none, Cond.constant RX0 33 (2147483647), Cond.fieldLink RX0 34 "CanonCote$Arranging" "leastEdges" "I", Cond.methodLink RX0 24 yX0_findTwins]
def wsL_orbit_r2 : List Cond := [Cond.instanceMethod yX0_findTwins, Cond.selects RX0 yX0_findTwins yX0_findTwins, Cond.code yX0_findTwins cX0_findTwins 4 none, Cond.fieldLink RX0 9 "CanonCote$Arranging" "twins" "[I", Cond.instanceMethod yX2_areTwins, Cond.initialized RX2, Cond.selects RX2 yX2_areTwins yX2_areTwins, Cond.code yX2_areTwins cX2_areTwins 4 (some .boolean), Cond.fieldLink RX2 19 "CanonCote$Graph" "colours" "[I", Cond.fieldLink RX2 15 "CanonCote$Graph" "near" "[I", Cond.methodLink RX0 28 yX0_shareOutByColours, Cond.instanceMethod yX0_shareOutByColours, Cond.selects RX0 yX0_shareOutByColours yX0_shareOutByColours, Cond.code yX0_shareOutByColours cX0_shareOutByColours 6 none, Cond.fieldLink RX0 15 "CanonCote$Arranging" "cells" "[I", Cond.methodLink RX0 54 yJ6_bitCount_0f7a4, Cond.static yJ6_bitCount_0f7a4, Cond.initialized RJ6, Cond.code yJ6_bitCount_0f7a4 cJ6_bitCount_0f7a4 1 (some .int), Cond.constant RJ6 265 (1431655765), Cond.constant RJ6 266 (858993459), Cond.constant RJ6 267 (252645135), Cond.methodLink RX0 38 yX0_arrange, Cond.static yX0_arrange]
def wsL_orbit_r3 : List Cond := [Cond.code yX0_arrange cX0_arrange 8 none, Cond.fieldLink RX0 62 "CanonCote$Arranging" "LOWEST_EDGE_BIT" "[I", Cond.fieldLink RX0 18 "CanonCote$Arranging" "vertexAt" "[I", Cond.methodLink RX0 58 yX0_meet, Cond.instanceMethod yX0_meet, Cond.selects RX0 yX0_meet yX0_meet, Cond.code yX0_meet cX0_meet 6 none, Cond.fieldLink RX0 75 "CanonCote$Arranging" "leastPlaces" "I", Cond.fieldLink RX0 78 "CanonCote$Arranging" "met" "I", Cond.fieldLink RX0 21 "CanonCote$Arranging" "seenAt" "[I", Cond.methodLink RX0 90 Lib.Math.min.name, Cond.static Lib.Math.min.name, Cond.initialized "java/lang/Math", Cond.code Lib.Math.min.name Lib.Math.min.code 2 (some .int), Cond.methodLink RX0 81 yJ7_fill_53178, Cond.static yJ7_fill_53178, Cond.initialized RJ7, Cond.code yJ7_fill_53178 cJ7_fill_53178 4 none, Cond.methodLink RX0 87 yX0_shiftOf, Cond.static yX0_shiftOf, Cond.code yX0_shiftOf cX0_shiftOf 1 (some .int), Cond.static yX7_below, Cond.code yX7_below cX7_below 1 (some .int), Cond.methodLink RX0 68 yX0_splitCells]
def wsL_orbit_r4 : List Cond := [Cond.instanceMethod yX0_splitCells, Cond.selects RX0 yX0_splitCells yX0_splitCells, Cond.code yX0_splitCells cX0_splitCells 11 (some .int), Cond.instanceMethod yX0_exchangeable, Cond.selects RX0 yX0_exchangeable yX0_exchangeable, Cond.code yX0_exchangeable cX0_exchangeable 2 (some .int), Cond.methodLink RX0 96 yX0_bestPlace, Cond.instanceMethod yX0_bestPlace, Cond.selects RX0 yX0_bestPlace yX0_bestPlace, Cond.code yX0_bestPlace cX0_bestPlace 2 (some .int)]
def wsL_orbit : List Cond := .codeWith yL_orbit cL_orbit 5 (some .int) [(0, 10, 13, 13)] :: ((wsL_orbit_r1 ++ (wsL_orbit_r2 ++ (wsL_orbit_r3 ++ wsL_orbit_r4))) ++ wsX70 ++ wsX20 ++ wsX00 ++ (vx_atS RX7 186 "java/lang/IndexOutOfBoundsException" ["java/lang/RuntimeException", "java/lang/Exception"]).filter goodWord)
def wsL_addGenerator_r1 : List Cond := [Cond.classLink RL 15 "java/lang/IllegalArgumentException", Cond.classLink RL 88 "java/lang/IllegalStateException", Cond.methodLink RL 84 yX7_addGenerator, Cond.instanceMethod yX7_addGenerator, Cond.selects RX7 yX7_addGenerator yX7_addGenerator, Cond.initialized RX7, Cond.code yX7_addGenerator cX7_addGenerator 3 (some .int), Cond.classLink RX7 159 "java/lang/IllegalStateException", Cond.initialized "java/lang/IllegalStateException", Cond.fieldLink RX7 44 "CanonCote" "group" "LCanonCote$Group;", Cond.methodLink RX7 154 yX7_checkPermutation, Cond.static yX7_checkPermutation, Cond.code yX7_checkPermutation cX7_checkPermutation 2 none, Cond.classLink RX7 52 "java/lang/IllegalArgumentException", Cond.initialized "java/lang/IllegalArgumentException", Cond.static yX5_isOne, Cond.initialized RX5, Cond.code yX5_isOne cX5_isOne 4 (some .boolean), Cond.constantLong RX5 11 (15), Cond.instanceMethod yX3_add, Cond.initialized RX3, Cond.selects RX3 yX3_add yX3_add, Cond.code yX3_add cX3_add 3 none, Cond.fieldLink RX3 28 "CanonCote$Group" "count" "I"]
def wsL_addGenerator_r2 : List Cond := [Cond.fieldLink RX3 9 "CanonCote$Group" "generators" "[J", Cond.fieldLink RX3 18 "CanonCote$Group" "chain" "LCanonCote$Chain;", Cond.constant RX3 36 (40320), Cond.instanceMethod yX1_add, Cond.initialized RX1, Cond.selects RX1 yX1_add yX1_add, Cond.code yX1_add cX1_add 6 none, Cond.fieldLink RX1 26 "CanonCote$Chain" "closedCount" "I", Cond.fieldLink RX1 22 "CanonCote$Chain" "keptCount" "I", Cond.fieldLink RX1 49 "CanonCote$Chain" "members" "I", Cond.fieldLink RX1 15 "CanonCote$Chain" "kept" "[J", Cond.methodLink RX1 52 yX1_keep, Cond.instanceMethod yX1_keep, Cond.selects RX1 yX1_keep yX1_keep, Cond.code yX1_keep cX1_keep 7 none, Cond.constantLong RX1 47 (1985229328), Cond.fieldLink RX1 9 "CanonCote$Chain" "base" "[I", Cond.fieldLink RX1 19 "CanonCote$Chain" "back" "[J", Cond.methodLink RX1 60 yX1_restOf, Cond.instanceMethod yX1_restOf, Cond.selects RX1 yX1_restOf yX1_restOf, Cond.code yX1_restOf cX1_restOf 9 (some .long), Cond.static yX5_imageOf, Cond.code yX5_imageOf cX5_imageOf 3 (some .int)]
def wsL_addGenerator_r3 : List Cond := [Cond.static yX5_oneThenOther, Cond.code yX5_oneThenOther cX5_oneThenOther 7 (some .long), Cond.methodLink RX5 13 yX5_imageOf, Cond.methodLink RX5 17 yX5_carrying, Cond.static yX5_carrying, Cond.code yX5_carrying cX5_carrying 2 (some .long), Cond.methodLink RX1 64 yX1_firstMoved, Cond.instanceMethod yX1_firstMoved, Cond.selects RX1 yX1_firstMoved yX1_firstMoved, Cond.code yX1_firstMoved cX1_firstMoved 4 (some .int), Cond.static yX5_inverse, Cond.code yX5_inverse cX5_inverse 5 (some .long), Cond.methodLink RX1 75 yX1_countFrom, Cond.instanceMethod yX1_countFrom, Cond.selects RX1 yX1_countFrom yX1_countFrom, Cond.code yX1_countFrom cX1_countFrom 6 (some .int)]
def wsL_addGenerator : List Cond := .codeWith yL_addGenerator cL_addGenerator 5 (some .int) [(0, 9, 12, 15), (0, 9, 16, 88)] :: ((wsL_addGenerator_r1 ++ (wsL_addGenerator_r2 ++ wsL_addGenerator_r3)) ++ wsX70 ++ wsX30 ++ wsX10 ++ (vx_atS RX7 163 "java/lang/IllegalStateException" ["java/lang/RuntimeException", "java/lang/Exception"]).filter goodWord ++ (vx_atS RX7 56 "java/lang/IllegalArgumentException" ["java/lang/RuntimeException", "java/lang/Exception"]).filter goodWord)
def wsL_isInGroup_r1 : List Cond := [Cond.classLink RL 15 "java/lang/IllegalArgumentException", Cond.methodLink RL 90 yX7_isInGroup, Cond.instanceMethod yX7_isInGroup, Cond.selects RX7 yX7_isInGroup yX7_isInGroup, Cond.initialized RX7, Cond.code yX7_isInGroup cX7_isInGroup 3 (some .boolean), Cond.fieldLink RX7 44 "CanonCote" "group" "LCanonCote$Group;", Cond.methodLink RX7 154 yX7_checkPermutation, Cond.static yX7_checkPermutation, Cond.code yX7_checkPermutation cX7_checkPermutation 2 none, Cond.classLink RX7 52 "java/lang/IllegalArgumentException", Cond.initialized "java/lang/IllegalArgumentException", Cond.static yX5_isOne, Cond.initialized RX5, Cond.code yX5_isOne cX5_isOne 4 (some .boolean), Cond.constantLong RX5 11 (15), Cond.instanceMethod yX1_holds, Cond.initialized RX1, Cond.selects RX1 yX1_holds yX1_holds, Cond.code yX1_holds cX1_holds 3 (some .boolean), Cond.constantLong RX1 47 (1985229328), Cond.methodLink RX1 60 yX1_restOf, Cond.instanceMethod yX1_restOf, Cond.selects RX1 yX1_restOf yX1_restOf]
def wsL_isInGroup_r2 : List Cond := [Cond.code yX1_restOf cX1_restOf 9 (some .long), Cond.fieldLink RX1 9 "CanonCote$Chain" "base" "[I", Cond.fieldLink RX1 19 "CanonCote$Chain" "back" "[J", Cond.static yX5_imageOf, Cond.code yX5_imageOf cX5_imageOf 3 (some .int), Cond.static yX5_oneThenOther, Cond.code yX5_oneThenOther cX5_oneThenOther 7 (some .long), Cond.methodLink RX5 13 yX5_imageOf, Cond.methodLink RX5 17 yX5_carrying, Cond.static yX5_carrying, Cond.code yX5_carrying cX5_carrying 2 (some .long)]
def wsL_isInGroup : List Cond := .codeWith yL_isInGroup cL_isInGroup 5 (some .int) [(0, 16, 19, 15)] :: ((wsL_isInGroup_r1 ++ wsL_isInGroup_r2) ++ wsX70 ++ wsX30 ++ wsX10 ++ (vx_atS RX7 56 "java/lang/IllegalArgumentException" ["java/lang/RuntimeException", "java/lang/Exception"]).filter goodWord)
def wsL_moves : List Cond := .codeWith yL_moves cL_moves 4 (some .int) [(0, 9, 12, 13)] :: ([.classLink RL 13 "java/lang/IndexOutOfBoundsException", .methodLink RL 94 yX7_moves, .instanceMethod yX7_moves, .selects RX7 yX7_moves yX7_moves, .initialized RX7, .code yX7_moves cX7_moves 2 (some .int), .classLink RX7 182 "java/lang/IndexOutOfBoundsException", .initialized "java/lang/IndexOutOfBoundsException", .fieldLink RX7 44 "CanonCote" "group" "LCanonCote$Group;", .instanceMethod yX3_reach, .initialized RX3, .selects RX3 yX3_reach yX3_reach, .code yX3_reach cX3_reach 5 (some .int), .fieldLink RX3 28 "CanonCote$Group" "count" "I", .fieldLink RX3 9 "CanonCote$Group" "generators" "[J", .methodLink RX3 41 yX3_imagesOf, .static yX3_imagesOf, .code yX3_imagesOf cX3_imagesOf 5 (some .int), .static yX7_isIn, .code yX7_isIn cX7_isIn 2 (some .boolean), .static yX5_imageOf, .initialized RX5, .code yX5_imageOf cX5_imageOf 3 (some .int)] ++ wsX70 ++ wsX30 ++ (vx_atS RX7 186 "java/lang/IndexOutOfBoundsException" ["java/lang/RuntimeException", "java/lang/Exception"]).filter goodWord)
def wsL_fixing_r1 : List Cond := [Cond.classLink RL 15 "java/lang/IllegalArgumentException", Cond.methodLink RL 97 yX7_fixing, Cond.instanceMethod yX7_fixing, Cond.selects RX7 yX7_fixing yX7_fixing, Cond.initialized RX7, Cond.code yX7_fixing cX7_fixing 2 (some .int), Cond.classLink RX7 52 "java/lang/IllegalArgumentException", Cond.initialized "java/lang/IllegalArgumentException", Cond.fieldLink RX7 44 "CanonCote" "group" "LCanonCote$Group;", Cond.instanceMethod yX3_countFixing, Cond.initialized RX3, Cond.selects RX3 yX3_countFixing yX3_countFixing, Cond.code yX3_countFixing cX3_countFixing 3 (some .int), Cond.fieldLink RX3 22 "CanonCote$Group" "fixingChain" "LCanonCote$Chain;", Cond.fieldLink RX3 28 "CanonCote$Group" "count" "I", Cond.fieldLink RX3 9 "CanonCote$Group" "generators" "[J", Cond.fieldLink RX3 18 "CanonCote$Group" "chain" "LCanonCote$Chain;", Cond.instanceMethod yX1_restart, Cond.initialized RX1, Cond.selects RX1 yX1_restart yX1_restart, Cond.code yX1_restart cX1_restart 6 none, Cond.fieldLink RX1 22 "CanonCote$Chain" "keptCount" "I", Cond.fieldLink RX1 26 "CanonCote$Chain" "closedCount" "I", Cond.fieldLink RX1 19 "CanonCote$Chain" "back" "[J"]
def wsL_fixing_r2 : List Cond := [Cond.fieldLink RX1 9 "CanonCote$Chain" "base" "[I", Cond.constantLong RX1 47 (1985229328), Cond.fieldLink RX1 49 "CanonCote$Chain" "members" "I", Cond.methodLink RX1 29 yJ7_fill_d0a16, Cond.static yJ7_fill_d0a16, Cond.initialized RJ7, Cond.code yJ7_fill_d0a16 cJ7_fill_d0a16 5 none, Cond.methodLink RX1 35 yJ6_bitCount_0f7a4, Cond.static yJ6_bitCount_0f7a4, Cond.initialized RJ6, Cond.code yJ6_bitCount_0f7a4 cJ6_bitCount_0f7a4 1 (some .int), Cond.constant RJ6 265 (1431655765), Cond.constant RJ6 266 (858993459), Cond.constant RJ6 267 (252645135), Cond.static yX7_isIn, Cond.code yX7_isIn cX7_isIn 2 (some .boolean), Cond.instanceMethod yX1_add, Cond.selects RX1 yX1_add yX1_add, Cond.code yX1_add cX1_add 6 none, Cond.fieldLink RX1 15 "CanonCote$Chain" "kept" "[J", Cond.methodLink RX1 52 yX1_keep, Cond.instanceMethod yX1_keep, Cond.selects RX1 yX1_keep yX1_keep, Cond.code yX1_keep cX1_keep 7 none]
def wsL_fixing_r3 : List Cond := [Cond.methodLink RX1 60 yX1_restOf, Cond.instanceMethod yX1_restOf, Cond.selects RX1 yX1_restOf yX1_restOf, Cond.code yX1_restOf cX1_restOf 9 (some .long), Cond.static yX5_imageOf, Cond.initialized RX5, Cond.code yX5_imageOf cX5_imageOf 3 (some .int), Cond.static yX5_oneThenOther, Cond.code yX5_oneThenOther cX5_oneThenOther 7 (some .long), Cond.methodLink RX5 13 yX5_imageOf, Cond.methodLink RX5 17 yX5_carrying, Cond.static yX5_carrying, Cond.code yX5_carrying cX5_carrying 2 (some .long), Cond.methodLink RX1 64 yX1_firstMoved, Cond.instanceMethod yX1_firstMoved, Cond.selects RX1 yX1_firstMoved yX1_firstMoved, Cond.code yX1_firstMoved cX1_firstMoved 4 (some .int), Cond.static yX5_inverse, Cond.code yX5_inverse cX5_inverse 5 (some .long), Cond.methodLink RX1 75 yX1_countFrom, Cond.instanceMethod yX1_countFrom, Cond.selects RX1 yX1_countFrom yX1_countFrom, Cond.code yX1_countFrom cX1_countFrom 6 (some .int), Cond.methodLink RX3 57 yJ6_bitCount_0f7a4]
def wsL_fixing : List Cond := .codeWith yL_fixing cL_fixing 4 (some .int) [(0, 9, 12, 15)] :: ((wsL_fixing_r1 ++ (wsL_fixing_r2 ++ wsL_fixing_r3)) ++ wsX70 ++ wsX30 ++ wsX10 ++ (vx_atS RX7 56 "java/lang/IllegalArgumentException" ["java/lang/RuntimeException", "java/lang/Exception"]).filter goodWord)
def wsL_law0_r1 : List Cond := [Cond.classLink RL 8 RX7, Cond.instantiable RX7 6, Cond.initialized RX7, Cond.classLink RL 101 RX8, Cond.instantiable RX8 17, Cond.initialized RX8, Cond.arrayClass .long, Cond.constantLong RL 178 (4294967295), Cond.methodLink RL 100 yX7_init, Cond.instanceMethod yX7_init, Cond.code yX7_init cX7_init 2 none, Cond.methodLink RX7 3 objectInit, Cond.instanceMethod objectInit, Cond.code objectInit ⟨#[0xb1]⟩ 1 none, Cond.classLink RX7 9 RX2, Cond.fieldLink RX7 11 "CanonCote" "graphs" "[LCanonCote$Graph;", Cond.instantiable RX2 3, Cond.initialized RX2, Cond.fieldLink RX7 16 "CanonCote" "chosen" "LCanonCote$Graph;", Cond.classLink RX7 20 RX6, Cond.instantiable RX6 5, Cond.initialized RX6, Cond.fieldLink RX7 23 "CanonCote" "refinement" "LCanonCote$Refinement;", Cond.classLink RX7 27 RX0]
def wsL_law0_r2 : List Cond := [Cond.instantiable RX0 7, Cond.initialized RX0, Cond.fieldLink RX7 30 "CanonCote" "arranging" "LCanonCote$Arranging;", Cond.classLink RX7 34 RX4, Cond.instantiable RX4 3, Cond.initialized RX4, Cond.fieldLink RX7 37 "CanonCote" "mapping" "LCanonCote$Mapping;", Cond.classLink RX7 41 RX3, Cond.instantiable RX3 4, Cond.initialized RX3, Cond.fieldLink RX7 44 "CanonCote" "group" "LCanonCote$Group;", Cond.instanceMethod yX2_init, Cond.code yX2_init cX2_init 1 none, Cond.methodLink RX2 3 objectInit, Cond.fieldLink RX2 9 "CanonCote$Graph" "size" "I", Cond.arrayClass .int, Cond.fieldLink RX2 15 "CanonCote$Graph" "near" "[I", Cond.fieldLink RX2 19 "CanonCote$Graph" "colours" "[I", Cond.instanceMethod yX6_init, Cond.code yX6_init cX6_init 1 none, Cond.methodLink RX6 3 objectInit, Cond.fieldLink RX6 9 "CanonCote$Refinement" "numbers" "[I", Cond.fieldLink RX6 15 "CanonCote$Refinement" "members" "[I", Cond.fieldLink RX6 18 "CanonCote$Refinement" "keys" "[J"]
def wsL_law0_r3 : List Cond := [Cond.instanceMethod yX0_init, Cond.code yX0_init cX0_init 1 none, Cond.methodLink RX0 3 objectInit, Cond.fieldLink RX0 9 "CanonCote$Arranging" "twins" "[I", Cond.fieldLink RX0 15 "CanonCote$Arranging" "cells" "[I", Cond.fieldLink RX0 18 "CanonCote$Arranging" "vertexAt" "[I", Cond.fieldLink RX0 21 "CanonCote$Arranging" "seenAt" "[I", Cond.instanceMethod yX4_init, Cond.code yX4_init cX4_init 1 none, Cond.methodLink RX4 3 objectInit, Cond.fieldLink RX4 9 "CanonCote$Mapping" "images" "[I", Cond.classLink RX4 15 RX6, Cond.fieldLink RX4 18 "CanonCote$Mapping" "classesHere" "LCanonCote$Refinement;", Cond.fieldLink RX4 22 "CanonCote$Mapping" "classesThere" "LCanonCote$Refinement;", Cond.instanceMethod yX3_init, Cond.code yX3_init cX3_init 1 none, Cond.methodLink RX3 3 objectInit, Cond.fieldLink RX3 9 "CanonCote$Group" "generators" "[J", Cond.classLink RX3 15 RX1, Cond.instantiable RX1 6, Cond.initialized RX1, Cond.fieldLink RX3 18 "CanonCote$Group" "chain" "LCanonCote$Chain;", Cond.fieldLink RX3 22 "CanonCote$Group" "fixingChain" "LCanonCote$Chain;", Cond.instanceMethod yX1_init]
def wsL_law0_r4 : List Cond := [Cond.code yX1_init cX1_init 1 none, Cond.methodLink RX1 3 objectInit, Cond.fieldLink RX1 9 "CanonCote$Chain" "base" "[I", Cond.fieldLink RX1 15 "CanonCote$Chain" "kept" "[J", Cond.fieldLink RX1 19 "CanonCote$Chain" "back" "[J", Cond.methodLink RX3 25 yX3_clear, Cond.instanceMethod yX3_clear, Cond.selects RX3 yX3_clear yX3_clear, Cond.code yX3_clear cX3_clear 1 none, Cond.fieldLink RX3 28 "CanonCote$Group" "count" "I", Cond.instanceMethod yX1_restart, Cond.selects RX1 yX1_restart yX1_restart, Cond.code yX1_restart cX1_restart 6 none, Cond.fieldLink RX1 22 "CanonCote$Chain" "keptCount" "I", Cond.fieldLink RX1 26 "CanonCote$Chain" "closedCount" "I", Cond.constantLong RX1 47 (1985229328), Cond.fieldLink RX1 49 "CanonCote$Chain" "members" "I", Cond.methodLink RX1 29 yJ7_fill_d0a16, Cond.static yJ7_fill_d0a16, Cond.initialized RJ7, Cond.code yJ7_fill_d0a16 cJ7_fill_d0a16 5 none, Cond.methodLink RX1 35 yJ6_bitCount_0f7a4, Cond.static yJ6_bitCount_0f7a4, Cond.initialized RJ6]
def wsL_law0_r5 : List Cond := [Cond.code yJ6_bitCount_0f7a4 cJ6_bitCount_0f7a4 1 (some .int), Cond.constant RJ6 265 (1431655765), Cond.constant RJ6 266 (858993459), Cond.constant RJ6 267 (252645135), Cond.static yX7_isIn, Cond.code yX7_isIn cX7_isIn 2 (some .boolean), Cond.methodLink RL 103 yX8_init, Cond.instanceMethod yX8_init, Cond.code yX8_init cX8_init 2 none, Cond.methodLink RX8 1 objectInit, Cond.fieldLink RX8 7 "CanonCoteModel" "sizes" "[I", Cond.fieldLink RX8 13 "CanonCoteModel" "sides" "[I", Cond.fieldLink RX8 16 "CanonCoteModel" "colours" "[I", Cond.fieldLink RX8 19 "CanonCoteModel" "map" "[I", Cond.fieldLink RX8 22 "CanonCoteModel" "chosen" "[I", Cond.fieldLink RX8 25 "CanonCoteModel" "best" "[I", Cond.fieldLink RX8 28 "CanonCoteModel" "old" "[I", Cond.fieldLink RX8 31 "CanonCoteModel" "anew" "[I", Cond.fieldLink RX8 34 "CanonCoteModel" "orbits" "[I", Cond.fieldLink RX8 37 "CanonCoteModel" "generators" "[I", Cond.constant RX8 40 (40320), Cond.fieldLink RX8 41 "CanonCoteModel" "found" "[I", Cond.arrayClass .boolean, Cond.fieldLink RX8 44 "CanonCoteModel" "has" "[Z"]
def wsL_law0_r6 : List Cond := [Cond.fieldLink RX8 48 "CanonCoteModel" "images" "[I", Cond.methodLink RX8 51 yX8_closes, Cond.instanceMethod yX8_closes, Cond.selects RX8 yX8_closes yX8_closes, Cond.code yX8_closes cX8_closes 4 none, Cond.fieldLink RX8 153 "CanonCoteModel" "order" "I", Cond.fieldLink RX8 159 "CanonCoteModel" "generated" "I", Cond.methodLink RX8 156 yX8_finds, Cond.instanceMethod yX8_finds, Cond.selects RX8 yX8_finds yX8_finds, Cond.code yX8_finds cX8_finds 4 none, Cond.methodLink RX8 149 yX8_numbered, Cond.instanceMethod yX8_numbered, Cond.selects RX8 yX8_numbered yX8_numbered, Cond.code yX8_numbered cX8_numbered 5 (some .int), Cond.methodLink RL 104 yL_begin, Cond.static yL_begin, Cond.initialized RL, Cond.codeWith yL_begin cL_begin 5 (some .int) [(0, 10, 13, 13), (0, 10, 17, 15)], Cond.classLink RL 13 "java/lang/IndexOutOfBoundsException", Cond.classLink RL 15 "java/lang/IllegalArgumentException", Cond.methodLink RL 7 yX7_begin, Cond.instanceMethod yX7_begin, Cond.selects RX7 yX7_begin yX7_begin]
def wsL_law0_r7 : List Cond := [Cond.code yX7_begin cX7_begin 5 (some .int), Cond.classLink RX7 52 "java/lang/IllegalArgumentException", Cond.initialized "java/lang/IllegalArgumentException", Cond.methodLink RX7 48 yX7_graphAt, Cond.instanceMethod yX7_graphAt, Cond.selects RX7 yX7_graphAt yX7_graphAt, Cond.code yX7_graphAt cX7_graphAt 2 (some (.object "CanonCote$Graph")), Cond.classLink RX7 182 "java/lang/IndexOutOfBoundsException", Cond.initialized "java/lang/IndexOutOfBoundsException", Cond.instanceMethod yX2_clear, Cond.selects RX2 yX2_clear yX2_clear, Cond.code yX2_clear cX2_clear 2 none, Cond.methodLink RX2 22 yJ7_fill_53178, Cond.static yJ7_fill_53178, Cond.code yJ7_fill_53178 cJ7_fill_53178 4 none, Cond.methodLink RL 109 yX8_begin, Cond.instanceMethod yX8_begin, Cond.selects RX8 yX8_begin yX8_begin, Cond.code yX8_begin cX8_begin 5 (some .int), Cond.methodLink RX8 62 yX8_isGraph, Cond.static yX8_isGraph, Cond.code yX8_isGraph cX8_isGraph 1 (some .boolean), Cond.methodLink RX8 58 yX8_in, Cond.static yX8_in]
def wsL_law0_r8 : List Cond := [Cond.code yX8_in cX8_in 3 (some .boolean), Cond.methodLink RX8 73 yX8_goes, Cond.instanceMethod yX8_goes, Cond.selects RX8 yX8_goes yX8_goes, Cond.code yX8_goes cX8_goes 3 (some .boolean), Cond.fieldLink RX8 54 "CanonCoteModel" "last" "I", Cond.methodLink RL 110 yX8_thrown, Cond.instanceMethod yX8_thrown, Cond.selects RX8 yX8_thrown yX8_thrown, Cond.code yX8_thrown cX8_thrown 1 (some .int), Cond.methodLink RL 114 yL_toggle, Cond.static yL_toggle, Cond.codeWith yL_toggle cL_toggle 6 (some .int) [(0, 19, 22, 13), (0, 19, 26, 15)], Cond.methodLink RL 17 yX7_toggle, Cond.instanceMethod yX7_toggle, Cond.selects RX7 yX7_toggle yX7_toggle, Cond.code yX7_toggle cX7_toggle 5 (some .boolean), Cond.methodLink RX7 67 yX7_checkVertex, Cond.static yX7_checkVertex, Cond.code yX7_checkVertex cX7_checkVertex 2 none, Cond.instanceMethod yX2_flipEdge, Cond.selects RX2 yX2_flipEdge yX2_flipEdge, Cond.code yX2_flipEdge cX2_flipEdge 3 none, Cond.instanceMethod yX2_hasEdge]
def wsL_law0_r9 : List Cond := [Cond.selects RX2 yX2_hasEdge yX2_hasEdge, Cond.code yX2_hasEdge cX2_hasEdge 3 (some .boolean), Cond.methodLink RL 117 yX8_toggle, Cond.instanceMethod yX8_toggle, Cond.selects RX8 yX8_toggle yX8_toggle, Cond.code yX8_toggle cX8_toggle 4 (some .boolean), Cond.methodLink RX8 77 yX8_areVertices, Cond.instanceMethod yX8_areVertices, Cond.selects RX8 yX8_areVertices yX8_areVertices, Cond.code yX8_areVertices cX8_areVertices 4 (some .boolean), Cond.methodLink RX8 66 yX8_isVertex, Cond.instanceMethod yX8_isVertex, Cond.selects RX8 yX8_isVertex yX8_isVertex, Cond.code yX8_isVertex cX8_isVertex 3 (some .boolean), Cond.methodLink RX8 70 yX8_hasEdge, Cond.instanceMethod yX8_hasEdge, Cond.selects RX8 yX8_hasEdge yX8_hasEdge, Cond.code yX8_hasEdge cX8_hasEdge 4 (some .boolean), Cond.methodLink RL 118 yL_setColour, Cond.static yL_setColour, Cond.codeWith yL_setColour cL_setColour 6 (some .int) [(0, 12, 15, 13), (0, 12, 19, 15)], Cond.methodLink RL 21 yX7_setColour, Cond.instanceMethod yX7_setColour, Cond.selects RX7 yX7_setColour yX7_setColour]
def wsL_law0_r10 : List Cond := [Cond.code yX7_setColour cX7_setColour 6 (some .int), Cond.methodLink RL 120 yX8_setColour, Cond.instanceMethod yX8_setColour, Cond.selects RX8 yX8_setColour yX8_setColour, Cond.code yX8_setColour cX8_setColour 5 (some .int), Cond.methodLink RL 121 yL_swap, Cond.static yL_swap, Cond.codeWith yL_swap cL_swap 5 (some .int) [(0, 7, 10, 13)], Cond.methodLink RL 25 yX7_swap, Cond.instanceMethod yX7_swap, Cond.selects RX7 yX7_swap yX7_swap, Cond.code yX7_swap cX7_swap 5 none, Cond.instanceMethod yX2_exchange, Cond.selects RX2 yX2_exchange yX2_exchange, Cond.code yX2_exchange cX2_exchange 6 none, Cond.methodLink RL 124 yX8_swap, Cond.instanceMethod yX8_swap, Cond.selects RX8 yX8_swap yX8_swap, Cond.code yX8_swap cX8_swap 9 none, Cond.methodLink RX8 80 yX8_swapped, Cond.static yX8_swapped, Cond.code yX8_swapped cX8_swapped 4 (some .int), Cond.methodLink RL 125 yL_copy, Cond.static yL_copy]
def wsL_law0_r11 : List Cond := [Cond.codeWith yL_copy cL_copy 4 (some .int) [(0, 6, 9, 13)], Cond.methodLink RL 29 yX7_copy, Cond.instanceMethod yX7_copy, Cond.selects RX7 yX7_copy yX7_copy, Cond.code yX7_copy cX7_copy 4 none, Cond.instanceMethod yX2_become, Cond.selects RX2 yX2_become yX2_become, Cond.code yX2_become cX2_become 3 none, Cond.methodLink RL 128 yX8_copy, Cond.instanceMethod yX8_copy, Cond.selects RX8 yX8_copy yX8_copy, Cond.code yX8_copy cX8_copy 4 none, Cond.methodLink RL 129 yL_complement, Cond.static yL_complement, Cond.codeWith yL_complement cL_complement 4 (some .int) [(0, 9, 12, 13)], Cond.methodLink RL 33 yX7_complement, Cond.instanceMethod yX7_complement, Cond.selects RX7 yX7_complement yX7_complement, Cond.code yX7_complement cX7_complement 3 (some .int), Cond.instanceMethod yX2_invertEdges, Cond.selects RX2 yX2_invertEdges yX2_invertEdges, Cond.code yX2_invertEdges cX2_invertEdges 2 none, Cond.static yX7_below, Cond.code yX7_below cX7_below 1 (some .int)]
def wsL_law0_r12 : List Cond := [Cond.instanceMethod yX2_countEdges, Cond.selects RX2 yX2_countEdges yX2_countEdges, Cond.code yX2_countEdges cX2_countEdges 3 (some .int), Cond.methodLink RX2 36 yJ6_bitCount_0f7a4, Cond.methodLink RL 132 yX8_complement, Cond.instanceMethod yX8_complement, Cond.selects RX8 yX8_complement yX8_complement, Cond.code yX8_complement cX8_complement 4 (some .int), Cond.methodLink RX8 84 yX8_countEdges, Cond.instanceMethod yX8_countEdges, Cond.selects RX8 yX8_countEdges yX8_countEdges, Cond.code yX8_countEdges cX8_countEdges 4 (some .int), Cond.methodLink RL 133 yL_size, Cond.static yL_size, Cond.codeWith yL_size cL_size 4 (some .int) [(0, 9, 12, 13)], Cond.methodLink RL 37 yX7_size, Cond.instanceMethod yX7_size, Cond.selects RX7 yX7_size yX7_size, Cond.code yX7_size cX7_size 2 (some .int), Cond.methodLink RL 135 yX8_size, Cond.instanceMethod yX8_size, Cond.selects RX8 yX8_size yX8_size, Cond.code yX8_size cX8_size 2 (some .int), Cond.methodLink RL 136 yL_edges]
def wsL_law0_r13 : List Cond := [Cond.static yL_edges, Cond.codeWith yL_edges cL_edges 4 (some .int) [(0, 9, 12, 13)], Cond.methodLink RL 40 yX7_edges, Cond.instanceMethod yX7_edges, Cond.selects RX7 yX7_edges yX7_edges, Cond.code yX7_edges cX7_edges 2 (some .int), Cond.methodLink RL 138 yX8_edges, Cond.instanceMethod yX8_edges, Cond.selects RX8 yX8_edges yX8_edges, Cond.code yX8_edges cX8_edges 2 (some .int), Cond.methodLink RL 139 yL_neighbours, Cond.static yL_neighbours, Cond.codeWith yL_neighbours cL_neighbours 5 (some .int) [(0, 10, 13, 13)], Cond.methodLink RL 43 yX7_neighbours, Cond.instanceMethod yX7_neighbours, Cond.selects RX7 yX7_neighbours yX7_neighbours, Cond.code yX7_neighbours cX7_neighbours 4 (some .int), Cond.methodLink RL 141 yX8_neighbours, Cond.instanceMethod yX8_neighbours, Cond.selects RX8 yX8_neighbours yX8_neighbours, Cond.code yX8_neighbours cX8_neighbours 3 (some .int), Cond.methodLink RL 142 yL_colour, Cond.static yL_colour, Cond.codeWith yL_colour cL_colour 5 (some .int) [(0, 10, 13, 13)]]
def wsL_law0_r14 : List Cond := [Cond.methodLink RL 46 yX7_colour, Cond.instanceMethod yX7_colour, Cond.selects RX7 yX7_colour yX7_colour, Cond.code yX7_colour cX7_colour 4 (some .int), Cond.methodLink RL 144 yX8_colour, Cond.instanceMethod yX8_colour, Cond.selects RX8 yX8_colour yX8_colour, Cond.code yX8_colour cX8_colour 3 (some .int), Cond.methodLink RL 145 yL_classes, Cond.static yL_classes, Cond.codeWith yL_classes cL_classes 4 (some .int) [(0, 9, 12, 13)], Cond.methodLink RL 49 yX7_classes, Cond.instanceMethod yX7_classes, Cond.selects RX7 yX7_classes yX7_classes, Cond.code yX7_classes cX7_classes 2 (some .int), Cond.instanceMethod yX6_refine, Cond.selects RX6 yX6_refine yX6_refine, Cond.code yX6_refine cX6_refine 5 none, Cond.fieldLink RX6 35 "CanonCote$Refinement" "count" "I", Cond.fieldLink RX6 42 "CanonCote$Refinement" "lastRound" "I", Cond.methodLink RX6 31 yX6_numberByKeys, Cond.instanceMethod yX6_numberByKeys, Cond.selects RX6 yX6_numberByKeys yX6_numberByKeys, Cond.code yX6_numberByKeys cX6_numberByKeys 6 none]
def wsL_law0_r15 : List Cond := [Cond.methodLink RX6 54 yX6_isFirstOfKey, Cond.instanceMethod yX6_isFirstOfKey, Cond.selects RX6 yX6_isFirstOfKey yX6_isFirstOfKey, Cond.code yX6_isFirstOfKey cX6_isFirstOfKey 3 (some .boolean), Cond.methodLink RX6 48 yJ6_bitCount_0f7a4, Cond.methodLink RX6 58 yJ7_fill_53178, Cond.methodLink RX6 38 yX6_keyOf, Cond.instanceMethod yX6_keyOf, Cond.selects RX6 yX6_keyOf yX6_keyOf, Cond.code yX6_keyOf cX6_keyOf 6 (some .long), Cond.methodLink RL 147 yX8_classes, Cond.instanceMethod yX8_classes, Cond.selects RX8 yX8_classes yX8_classes, Cond.code yX8_classes cX8_classes 2 (some .int), Cond.methodLink RX8 105 yX8_refines, Cond.instanceMethod yX8_refines, Cond.selects RX8 yX8_refines yX8_refines, Cond.code yX8_refines cX8_refines 4 (some .int), Cond.fieldLink RX8 102 "CanonCoteModel" "rounds" "I", Cond.methodLink RX8 98 yX8_sorts, Cond.instanceMethod yX8_sorts, Cond.selects RX8 yX8_sorts yX8_sorts, Cond.code yX8_sorts cX8_sorts 9 (some .int), Cond.methodLink RX8 94 yX8_compares]
def wsL_law0_r16 : List Cond := [Cond.instanceMethod yX8_compares, Cond.selects RX8 yX8_compares yX8_compares, Cond.code yX8_compares cX8_compares 7 (some .int), Cond.methodLink RX8 91 yX8_neighboursIn, Cond.instanceMethod yX8_neighboursIn, Cond.selects RX8 yX8_neighboursIn yX8_neighboursIn, Cond.code yX8_neighboursIn cX8_neighboursIn 6 (some .int), Cond.methodLink RX8 88 yX8_bits, Cond.static yX8_bits, Cond.code yX8_bits cX8_bits 3 (some .int), Cond.methodLink RL 148 yL_classOf, Cond.static yL_classOf, Cond.codeWith yL_classOf cL_classOf 5 (some .int) [(0, 10, 13, 13)], Cond.methodLink RL 52 yX7_classOf, Cond.instanceMethod yX7_classOf, Cond.selects RX7 yX7_classOf yX7_classOf, Cond.code yX7_classOf cX7_classOf 4 (some .int), Cond.methodLink RL 150 yX8_classOf, Cond.instanceMethod yX8_classOf, Cond.selects RX8 yX8_classOf yX8_classOf, Cond.code yX8_classOf cX8_classOf 3 (some .int), Cond.methodLink RL 151 yL_rounds, Cond.static yL_rounds, Cond.codeWith yL_rounds cL_rounds 4 (some .int) [(0, 9, 12, 13)]]
def wsL_law0_r17 : List Cond := [Cond.methodLink RL 55 yX7_rounds, Cond.instanceMethod yX7_rounds, Cond.selects RX7 yX7_rounds yX7_rounds, Cond.code yX7_rounds cX7_rounds 2 (some .int), Cond.methodLink RL 153 yX8_rounds, Cond.instanceMethod yX8_rounds, Cond.selects RX8 yX8_rounds yX8_rounds, Cond.code yX8_rounds cX8_rounds 2 (some .int), Cond.methodLink RL 154 yL_form, Cond.static yL_form, Cond.codeWith yL_form cL_form 4 (some .int) [(0, 8, 11, 13)], Cond.methodLink RL 58 yX7_form, Cond.instanceMethod yX7_form, Cond.selects RX7 yX7_form yX7_form, Cond.code yX7_form cX7_form 2 (some .long), Cond.methodLink RX7 116 yX7_leastCode, Cond.instanceMethod yX7_leastCode, Cond.selects RX7 yX7_leastCode yX7_leastCode, Cond.code yX7_leastCode cX7_leastCode 2 (some .long), Cond.instanceMethod yX0_search, Cond.selects RX0 yX0_search yX0_search, Cond.code yX0_search cX0_search 2 none, Cond.constant RX0 33 (2147483647), Cond.fieldLink RX0 34 "CanonCote$Arranging" "leastEdges" "I"]
def wsL_law0_r18 : List Cond := [Cond.methodLink RX0 24 yX0_findTwins, Cond.instanceMethod yX0_findTwins, Cond.selects RX0 yX0_findTwins yX0_findTwins, Cond.code yX0_findTwins cX0_findTwins 4 none, Cond.instanceMethod yX2_areTwins, Cond.selects RX2 yX2_areTwins yX2_areTwins, Cond.code yX2_areTwins cX2_areTwins 4 (some .boolean), Cond.methodLink RX0 28 yX0_shareOutByColours, Cond.instanceMethod yX0_shareOutByColours, Cond.selects RX0 yX0_shareOutByColours yX0_shareOutByColours, Cond.code yX0_shareOutByColours cX0_shareOutByColours 6 none, Cond.methodLink RX0 54 yJ6_bitCount_0f7a4, Cond.methodLink RX0 38 yX0_arrange, Cond.static yX0_arrange, Cond.code yX0_arrange cX0_arrange 8 none, Cond.fieldLink RX0 62 "CanonCote$Arranging" "LOWEST_EDGE_BIT" "[I", Cond.methodLink RX0 58 yX0_meet, Cond.instanceMethod yX0_meet, Cond.selects RX0 yX0_meet yX0_meet, Cond.code yX0_meet cX0_meet 6 none, Cond.fieldLink RX0 75 "CanonCote$Arranging" "leastPlaces" "I", Cond.fieldLink RX0 78 "CanonCote$Arranging" "met" "I", Cond.methodLink RX0 90 Lib.Math.min.name, Cond.static Lib.Math.min.name]
def wsL_law0_r19 : List Cond := [Cond.initialized "java/lang/Math", Cond.code Lib.Math.min.name Lib.Math.min.code 2 (some .int), Cond.methodLink RX0 81 yJ7_fill_53178, Cond.methodLink RX0 87 yX0_shiftOf, Cond.static yX0_shiftOf, Cond.code yX0_shiftOf cX0_shiftOf 1 (some .int), Cond.methodLink RX0 68 yX0_splitCells, Cond.instanceMethod yX0_splitCells, Cond.selects RX0 yX0_splitCells yX0_splitCells, Cond.code yX0_splitCells cX0_splitCells 11 (some .int), Cond.instanceMethod yX0_leastCode, Cond.selects RX0 yX0_leastCode yX0_leastCode, Cond.code yX0_leastCode cX0_leastCode 6 (some .long), Cond.methodLink RX0 96 yX0_bestPlace, Cond.instanceMethod yX0_bestPlace, Cond.selects RX0 yX0_bestPlace yX0_bestPlace, Cond.code yX0_bestPlace cX0_bestPlace 2 (some .int), Cond.methodLink RL 156 yX8_form, Cond.instanceMethod yX8_form, Cond.selects RX8 yX8_form yX8_form, Cond.code yX8_form cX8_form 2 (some .long), Cond.methodLink RX8 125 yX8_formOf, Cond.instanceMethod yX8_formOf, Cond.selects RX8 yX8_formOf yX8_formOf]
def wsL_law0_r20 : List Cond := [Cond.code yX8_formOf cX8_formOf 8 (some .long), Cond.constantLong RX8 112 (9223372036854775807), Cond.methodLink RX8 114 yX8_beginsMaps, Cond.instanceMethod yX8_beginsMaps, Cond.selects RX8 yX8_beginsMaps yX8_beginsMaps, Cond.code yX8_beginsMaps cX8_beginsMaps 3 none, Cond.methodLink RX8 118 yX8_codeOf, Cond.instanceMethod yX8_codeOf, Cond.selects RX8 yX8_codeOf yX8_codeOf, Cond.code yX8_codeOf cX8_codeOf 8 (some .long), Cond.methodLink RX8 108 yX8_bitOf, Cond.static yX8_bitOf, Cond.code yX8_bitOf cX8_bitOf 4 (some .int), Cond.methodLink RX8 122 yX8_nextMap, Cond.instanceMethod yX8_nextMap, Cond.selects RX8 yX8_nextMap yX8_nextMap, Cond.code yX8_nextMap cX8_nextMap 8 (some .boolean), Cond.methodLink RL 157 yL_placeOf, Cond.static yL_placeOf, Cond.codeWith yL_placeOf cL_placeOf 5 (some .int) [(0, 10, 13, 13)], Cond.methodLink RL 62 yX7_placeOf, Cond.instanceMethod yX7_placeOf, Cond.selects RX7 yX7_placeOf yX7_placeOf, Cond.code yX7_placeOf cX7_placeOf 4 (some .int)]
def wsL_law0_r21 : List Cond := [Cond.methodLink RL 159 yX8_placeOf, Cond.instanceMethod yX8_placeOf, Cond.selects RX8 yX8_placeOf yX8_placeOf, Cond.code yX8_placeOf cX8_placeOf 3 (some .int), Cond.methodLink RL 160 yL_areAlike, Cond.static yL_areAlike, Cond.codeWith yL_areAlike cL_areAlike 5 (some .int) [(0, 17, 20, 13)], Cond.methodLink RL 65 yX7_areAlike, Cond.instanceMethod yX7_areAlike, Cond.selects RX7 yX7_areAlike yX7_areAlike, Cond.code yX7_areAlike cX7_areAlike 4 (some .boolean), Cond.methodLink RX7 127 yX7_haveOneForm, Cond.instanceMethod yX7_haveOneForm, Cond.selects RX7 yX7_haveOneForm yX7_haveOneForm, Cond.code yX7_haveOneForm cX7_haveOneForm 3 (some .boolean), Cond.methodLink RL 162 yX8_areAlike, Cond.instanceMethod yX8_areAlike, Cond.selects RX8 yX8_areAlike yX8_areAlike, Cond.code yX8_areAlike cX8_areAlike 3 (some .boolean), Cond.methodLink RX8 137 yX8_alike, Cond.instanceMethod yX8_alike, Cond.selects RX8 yX8_alike yX8_alike, Cond.code yX8_alike cX8_alike 3 (some .boolean), Cond.methodLink RX8 131 yX8_chooses]
def wsL_law0_r22 : List Cond := [Cond.instanceMethod yX8_chooses, Cond.selects RX8 yX8_chooses yX8_chooses, Cond.code yX8_chooses cX8_chooses 4 (some .int), Cond.methodLink RX8 134 yX8_isMapped, Cond.instanceMethod yX8_isMapped, Cond.selects RX8 yX8_isMapped yX8_isMapped, Cond.code yX8_isMapped cX8_isMapped 4 (some .boolean), Cond.methodLink RX8 128 yX8_keeps, Cond.instanceMethod yX8_keeps, Cond.selects RX8 yX8_keeps yX8_keeps, Cond.code yX8_keeps cX8_keeps 6 (some .boolean), Cond.methodLink RL 163 yL_image, Cond.static yL_image, Cond.codeWith yL_image cL_image 6 (some .int) [(0, 12, 15, 13)], Cond.methodLink RL 69 yX7_image, Cond.instanceMethod yX7_image, Cond.selects RX7 yX7_image yX7_image, Cond.code yX7_image cX7_image 6 (some .int), Cond.instanceMethod yX4_find, Cond.selects RX4 yX4_find yX4_find, Cond.code yX4_find cX4_find 3 (some .boolean), Cond.methodLink RX4 35 yX4_extend, Cond.static yX4_extend, Cond.code yX4_extend cX4_extend 6 (some .boolean)]
def wsL_law0_r23 : List Cond := [Cond.methodLink RX4 43 yX4_fits, Cond.instanceMethod yX4_fits, Cond.selects RX4 yX4_fits yX4_fits, Cond.code yX4_fits cX4_fits 6 (some .boolean), Cond.methodLink RL 165 yX8_image, Cond.instanceMethod yX8_image, Cond.selects RX8 yX8_image yX8_image, Cond.code yX8_image cX8_image 4 (some .int), Cond.methodLink RL 166 yL_copies, Cond.static yL_copies, Cond.codeWith yL_copies cL_copies 5 (some .int) [(0, 10, 13, 13)], Cond.methodLink RL 72 yX7_copies, Cond.instanceMethod yX7_copies, Cond.selects RX7 yX7_copies yX7_copies, Cond.code yX7_copies cX7_copies 9 (some .int), Cond.methodLink RX7 137 yJ6_bitCount_0f7a4, Cond.instanceMethod yX2_becomePart, Cond.selects RX2 yX2_becomePart yX2_becomePart, Cond.code yX2_becomePart cX2_becomePart 4 none, Cond.methodLink RX2 41 yX2_squeeze, Cond.static yX2_squeeze, Cond.code yX2_squeeze cX2_squeeze 5 (some .int), Cond.methodLink RL 168 yX8_copies, Cond.instanceMethod yX8_copies]
def wsL_law0_r24 : List Cond := [Cond.selects RX8 yX8_copies yX8_copies, Cond.code yX8_copies cX8_copies 5 (some .int), Cond.methodLink RL 169 yL_symmetries, Cond.static yL_symmetries, Cond.codeWith yL_symmetries cL_symmetries 4 (some .int) [(0, 9, 12, 13)], Cond.methodLink RL 75 yX7_symmetries, Cond.instanceMethod yX7_symmetries, Cond.selects RX7 yX7_symmetries yX7_symmetries, Cond.code yX7_symmetries cX7_symmetries 3 (some .int), Cond.instanceMethod yX0_countBest, Cond.selects RX0 yX0_countBest yX0_countBest, Cond.code yX0_countBest cX0_countBest 4 (some .int), Cond.methodLink RL 171 yX8_symmetries, Cond.instanceMethod yX8_symmetries, Cond.selects RX8 yX8_symmetries yX8_symmetries, Cond.code yX8_symmetries cX8_symmetries 2 (some .int), Cond.methodLink RX8 140 yX8_turns, Cond.instanceMethod yX8_turns, Cond.selects RX8 yX8_turns yX8_turns, Cond.code yX8_turns cX8_turns 5 (some .int), Cond.methodLink RL 172 yL_orbits, Cond.static yL_orbits, Cond.codeWith yL_orbits cL_orbits 4 (some .int) [(0, 9, 12, 13)], Cond.methodLink RL 78 yX7_orbits]
def wsL_law0_r25 : List Cond := [Cond.instanceMethod yX7_orbits, Cond.selects RX7 yX7_orbits yX7_orbits, Cond.code yX7_orbits cX7_orbits 5 (some .int), Cond.instanceMethod yX0_exchangeable, Cond.selects RX0 yX0_exchangeable yX0_exchangeable, Cond.code yX0_exchangeable cX0_exchangeable 2 (some .int), Cond.methodLink RX7 151 yX7_below, Cond.methodLink RL 174 yX8_orbits, Cond.instanceMethod yX8_orbits, Cond.selects RX8 yX8_orbits yX8_orbits, Cond.code yX8_orbits cX8_orbits 4 (some .int), Cond.methodLink RL 175 yL_orbit, Cond.static yL_orbit, Cond.codeWith yL_orbit cL_orbit 5 (some .int) [(0, 10, 13, 13)], Cond.methodLink RL 81 yX7_orbit, Cond.instanceMethod yX7_orbit, Cond.selects RX7 yX7_orbit yX7_orbit, Cond.code yX7_orbit cX7_orbit 4 (some .int), Cond.methodLink RL 177 yX8_orbit, Cond.instanceMethod yX8_orbit, Cond.selects RX8 yX8_orbit yX8_orbit, Cond.code yX8_orbit cX8_orbit 3 (some .int), Cond.methodLink RL 180 yL_addGenerator, Cond.static yL_addGenerator]
def wsL_law0_r26 : List Cond := [Cond.codeWith yL_addGenerator cL_addGenerator 5 (some .int) [(0, 9, 12, 15), (0, 9, 16, 88)], Cond.classLink RL 88 "java/lang/IllegalStateException", Cond.methodLink RL 84 yX7_addGenerator, Cond.instanceMethod yX7_addGenerator, Cond.selects RX7 yX7_addGenerator yX7_addGenerator, Cond.code yX7_addGenerator cX7_addGenerator 3 (some .int), Cond.classLink RX7 159 "java/lang/IllegalStateException", Cond.initialized "java/lang/IllegalStateException", Cond.methodLink RX7 154 yX7_checkPermutation, Cond.static yX7_checkPermutation, Cond.code yX7_checkPermutation cX7_checkPermutation 2 none, Cond.static yX5_isOne, Cond.initialized RX5, Cond.code yX5_isOne cX5_isOne 4 (some .boolean), Cond.constantLong RX5 11 (15), Cond.instanceMethod yX3_add, Cond.selects RX3 yX3_add yX3_add, Cond.code yX3_add cX3_add 3 none, Cond.constant RX3 36 (40320), Cond.instanceMethod yX1_add, Cond.selects RX1 yX1_add yX1_add, Cond.code yX1_add cX1_add 6 none, Cond.methodLink RX1 52 yX1_keep, Cond.instanceMethod yX1_keep]
def wsL_law0_r27 : List Cond := [Cond.selects RX1 yX1_keep yX1_keep, Cond.code yX1_keep cX1_keep 7 none, Cond.methodLink RX1 60 yX1_restOf, Cond.instanceMethod yX1_restOf, Cond.selects RX1 yX1_restOf yX1_restOf, Cond.code yX1_restOf cX1_restOf 9 (some .long), Cond.static yX5_imageOf, Cond.code yX5_imageOf cX5_imageOf 3 (some .int), Cond.static yX5_oneThenOther, Cond.code yX5_oneThenOther cX5_oneThenOther 7 (some .long), Cond.methodLink RX5 13 yX5_imageOf, Cond.methodLink RX5 17 yX5_carrying, Cond.static yX5_carrying, Cond.code yX5_carrying cX5_carrying 2 (some .long), Cond.methodLink RX1 64 yX1_firstMoved, Cond.instanceMethod yX1_firstMoved, Cond.selects RX1 yX1_firstMoved yX1_firstMoved, Cond.code yX1_firstMoved cX1_firstMoved 4 (some .int), Cond.static yX5_inverse, Cond.code yX5_inverse cX5_inverse 5 (some .long), Cond.methodLink RX1 75 yX1_countFrom, Cond.instanceMethod yX1_countFrom, Cond.selects RX1 yX1_countFrom yX1_countFrom, Cond.code yX1_countFrom cX1_countFrom 6 (some .int)]
def wsL_law0_r28 : List Cond := [Cond.methodLink RL 183 yX8_addGenerator, Cond.instanceMethod yX8_addGenerator, Cond.selects RX8 yX8_addGenerator yX8_addGenerator, Cond.code yX8_addGenerator cX8_addGenerator 4 (some .int), Cond.methodLink RX8 162 yX8_isPermutation, Cond.static yX8_isPermutation, Cond.code yX8_isPermutation cX8_isPermutation 6 (some .boolean), Cond.constantLong RX8 143 (15), Cond.constantLong RX8 145 (8), Cond.constantLong RX8 147 (4294967296), Cond.methodLink RX8 166 yX8_images, Cond.instanceMethod yX8_images, Cond.selects RX8 yX8_images yX8_images, Cond.code yX8_images cX8_images 4 none, Cond.methodLink RL 184 yX7_forgetGenerators, Cond.instanceMethod yX7_forgetGenerators, Cond.selects RX7 yX7_forgetGenerators yX7_forgetGenerators, Cond.code yX7_forgetGenerators cX7_forgetGenerators 2 (some .int), Cond.methodLink RL 187 yX8_forgetGenerators, Cond.instanceMethod yX8_forgetGenerators, Cond.selects RX8 yX8_forgetGenerators yX8_forgetGenerators, Cond.code yX8_forgetGenerators cX8_forgetGenerators 2 (some .int), Cond.methodLink RL 188 yX7_order, Cond.instanceMethod yX7_order]
def wsL_law0_r29 : List Cond := [Cond.selects RX7 yX7_order yX7_order, Cond.code yX7_order cX7_order 1 (some .int), Cond.methodLink RL 191 yX8_order, Cond.instanceMethod yX8_order, Cond.selects RX8 yX8_order yX8_order, Cond.code yX8_order cX8_order 1 (some .int), Cond.methodLink RL 192 yL_isInGroup, Cond.static yL_isInGroup, Cond.codeWith yL_isInGroup cL_isInGroup 5 (some .int) [(0, 16, 19, 15)], Cond.methodLink RL 90 yX7_isInGroup, Cond.instanceMethod yX7_isInGroup, Cond.selects RX7 yX7_isInGroup yX7_isInGroup, Cond.code yX7_isInGroup cX7_isInGroup 3 (some .boolean), Cond.instanceMethod yX1_holds, Cond.selects RX1 yX1_holds yX1_holds, Cond.code yX1_holds cX1_holds 3 (some .boolean), Cond.methodLink RL 194 yX8_isInGroup, Cond.instanceMethod yX8_isInGroup, Cond.selects RX8 yX8_isInGroup yX8_isInGroup, Cond.code yX8_isInGroup cX8_isInGroup 3 (some .boolean), Cond.methodLink RL 195 yL_moves, Cond.static yL_moves, Cond.codeWith yL_moves cL_moves 4 (some .int) [(0, 9, 12, 13)], Cond.methodLink RL 94 yX7_moves]
def wsL_law0_r30 : List Cond := [Cond.instanceMethod yX7_moves, Cond.selects RX7 yX7_moves yX7_moves, Cond.code yX7_moves cX7_moves 2 (some .int), Cond.instanceMethod yX3_reach, Cond.selects RX3 yX3_reach yX3_reach, Cond.code yX3_reach cX3_reach 5 (some .int), Cond.methodLink RX3 41 yX3_imagesOf, Cond.static yX3_imagesOf, Cond.code yX3_imagesOf cX3_imagesOf 5 (some .int), Cond.methodLink RL 197 yX8_moves, Cond.instanceMethod yX8_moves, Cond.selects RX8 yX8_moves yX8_moves, Cond.code yX8_moves cX8_moves 5 (some .int), Cond.methodLink RL 198 yL_fixing, Cond.static yL_fixing, Cond.codeWith yL_fixing cL_fixing 4 (some .int) [(0, 9, 12, 15)], Cond.methodLink RL 97 yX7_fixing, Cond.instanceMethod yX7_fixing, Cond.selects RX7 yX7_fixing yX7_fixing, Cond.code yX7_fixing cX7_fixing 2 (some .int), Cond.instanceMethod yX3_countFixing, Cond.selects RX3 yX3_countFixing yX3_countFixing, Cond.code yX3_countFixing cX3_countFixing 3 (some .int), Cond.methodLink RX3 57 yJ6_bitCount_0f7a4]
def wsL_law0_r31 : List Cond := [Cond.methodLink RL 200 yX8_fixing, Cond.instanceMethod yX8_fixing, Cond.selects RX8 yX8_fixing yX8_fixing, Cond.code yX8_fixing cX8_fixing 7 (some .int)]
def wsL_law0 : List Cond := (wsL_law0_r1 ++ (wsL_law0_r2 ++ (wsL_law0_r3 ++ (wsL_law0_r4 ++ (wsL_law0_r5 ++ (wsL_law0_r6 ++ (wsL_law0_r7 ++ (wsL_law0_r8 ++ (wsL_law0_r9 ++ (wsL_law0_r10 ++ (wsL_law0_r11 ++ (wsL_law0_r12 ++ (wsL_law0_r13 ++ (wsL_law0_r14 ++ (wsL_law0_r15 ++ (wsL_law0_r16 ++ (wsL_law0_r17 ++ (wsL_law0_r18 ++ (wsL_law0_r19 ++ (wsL_law0_r20 ++ (wsL_law0_r21 ++ (wsL_law0_r22 ++ (wsL_law0_r23 ++ (wsL_law0_r24 ++ (wsL_law0_r25 ++ (wsL_law0_r26 ++ (wsL_law0_r27 ++ (wsL_law0_r28 ++ (wsL_law0_r29 ++ (wsL_law0_r30 ++ wsL_law0_r31)))))))))))))))))))))))))))))) ++ wsX70 ++ wsX80 ++ wsX20 ++ wsX60 ++ wsX00 ++ wsX40 ++ wsX30 ++ wsX10 ++ ([] : List Cond)
def wsL_law : List Cond := wsL_law0 ++ (vx_atS RX7 56 "java/lang/IllegalArgumentException" ["java/lang/RuntimeException", "java/lang/Exception"]).filter goodWord ++ (vx_atS RX7 186 "java/lang/IndexOutOfBoundsException" ["java/lang/RuntimeException", "java/lang/Exception"]).filter goodWord ++ (vx_atS RX7 163 "java/lang/IllegalStateException" ["java/lang/RuntimeException", "java/lang/Exception"]).filter goodWord
abbrev vwCl : List vw_C := [(RX0, TX0, 7), (RX1, TX1, 6), (RX2, TX2, 3), (RX3, TX3, 4), (RX4, TX4, 3), (RX6, TX6, 5), (RX7, TX7, 6), (RX8, TX8, 17)]
end
section
/-! THE STORE MODEL: a world of N cells at addresses eA E 0 .. N-1; what the cells hold is read off a store of numbers; rows that turn the kit's W into a judgement Z on (pc, locals, stack, store). -/
section ZB
abbrev zST : Type := (Nat → Nat → Int32) × (Nat → Nat → Int64)
def gI (σ : zST) (p j : Nat) : Int32 := σ.1 p j
def gL (σ : zST) (p j : Nat) : Int64 := σ.2 p j
def sI (σ : zST) (p j : Nat) (x : Int32) : zST := (fun q => if q = p then upd (σ.1 q) j x else σ.1 q, σ.2)
def sL (σ : zST) (p j : Nat) (x : Int64) : zST := (σ.1, fun q => if q = p then vp_updL (σ.2 q) j x else σ.2 q)
abbrev zE : Type := (Nat → zST → va_E) × (Nat → Nat) × Nat × va_G × (Nat → ClassId)
def eS (E : zE) : Nat → zST → va_E := E.1
def eA (E : zE) : Nat → Nat := E.2.1
def eN (E : zE) : Nat := E.2.2.1
def eD (E : zE) : va_G := E.2.2.2.1
def eC (E : zE) : Nat → ClassId := E.2.2.2.2
def eT (E : zE) : List (ClassId × FieldType) := [(eC E 0, .int), (eC E 1, .long), (eC E 2, .boolean), (eC E 3, .object "CanonCote$Graph")]
def wd (E : zE) (σ : zST) : va_W := (List.range (eN E)).map (fun p => (eA E p, eS E p σ))
/-- a cell's contents are read off its own rows of the store alone -/
def eL (E : zE) : Prop := ∀ (p : Nat) (σ τ : zST), σ.1 p = τ.1 p → σ.2 p = τ.2 p → eS E p σ = eS E p τ
/-- the addresses are apart -/
def eJ (E : zE) : Prop := ∀ i j : Nat, i < eN E → j < eN E → eA E i = eA E j → i = j
/-- what a method may change: the world's cells and new ones -/
def OA (E : zE) (sz : Nat) : Nat → Prop := fun q => (∃ p, p < eN E ∧ q = eA E p) ∨ sz ≤ q
theorem wd_len (E : zE) (σ : zST) : (wd E σ).length = eN E := by simp [wd]
theorem wd_at {E : zE} {σ : zST} {p : Nat} (h : p < eN E) : (wd E σ)[p]? = some (eA E p, eS E p σ) := by
  unfold wd
  rw [List.getElem?_map, List.getElem?_range h]
  rfl
theorem wd_of {E : zE} {σ : zST} {k : Nat} {q : Nat × va_E} (h : (wd E σ)[k]? = some q) : k < eN E ∧ q = (eA E k, eS E k σ) := by
  have hk : k < eN E := by
    have h1 := (List.getElem?_eq_some_iff.mp h).1
    rw [wd_len] at h1
    exact h1
  rw [wd_at hk] at h
  exact ⟨hk, (Option.some.inj h).symm⟩
theorem wd_set {E : zE} (hL : eL E) {σ τ : zST} {p : Nat} {e : va_E} (he : eS E p τ = e) (hq : ∀ q, q ≠ p → σ.1 q = τ.1 q ∧ σ.2 q = τ.2 q) : (wd E σ).set p (eA E p, e) = wd E τ := by
  apply List.ext_getElem?
  intro k
  by_cases hk : k < eN E
  · by_cases hkp : k = p
    · subst hkp
      rw [List.getElem?_set_self (by rw [wd_len]; exact hk), wd_at hk, he]
    · rw [List.getElem?_set_ne (fun h => hkp h.symm), wd_at hk, wd_at hk, hL k σ τ (hq k hkp).1 (hq k hkp).2]
  · have h1 : (wd E τ)[k]? = none := by rw [List.getElem?_eq_none_iff, wd_len]; omega
    rw [h1, List.getElem?_eq_none_iff, List.length_set, wd_len]; omega
theorem wd_D {E : zE} {σ : zST} {sz : Nat} (h : eJ E) : va_D (OA E sz) (wd E σ) := by
  refine ⟨fun i j p q hi hj hpq => ?_, fun k q hk => ?_⟩
  · obtain ⟨h1, rfl⟩ := wd_of hi
    obtain ⟨h2, rfl⟩ := wd_of hj
    exact h i j h1 h2 hpq
  · obtain ⟨h1, rfl⟩ := wd_of hk
    exact Or.inl ⟨k, h1, rfl⟩
theorem sI_off {σ : zST} {p j : Nat} {x : Int32} : ∀ q, q ≠ p → σ.1 q = (sI σ p j x).1 q ∧ σ.2 q = (sI σ p j x).2 q := fun q h => ⟨by simp [sI, h], rfl⟩
theorem sL_off {σ : zST} {p j : Nat} {x : Int64} : ∀ q, q ≠ p → σ.1 q = (sL σ p j x).1 q ∧ σ.2 q = (sL σ p j x).2 q := fun q h => ⟨rfl, by simp [sL, h]⟩
theorem sI_at {σ : zST} {p j : Nat} {x : Int32} : (sI σ p j x).1 p = upd (σ.1 p) j x := by simp [sI]
theorem sL_at {σ : zST} {p j : Nat} {x : Int64} : (sL σ p j x).2 p = vp_updL (σ.2 p) j x := by simp [sL]
theorem OA_mono {E : zE} {a b : Nat} (h : a ≤ b) : ∀ q, OA E b q → OA E a q := fun q hq => hq.elim Or.inl (fun z => Or.inr (Nat.le_trans h z))
theorem OA_new {E : zE} {a : Nat} : ∀ q, a ≤ q → OA E a q := fun q h => Or.inr h
-- a step of a model: a value named, a condition that must hold
def nm {α β : Type} (e : α) (k : α → β) : β := k e
def gd {β : Type} (c : Prop) [Decidable c] (k : Option β) : Option β := if c then k else none
theorem gd_some {β : Type} {c : Prop} [Decidable c] {k : Option β} {r : β} (h : gd c k = some r) : c ∧ k = some r := by
  unfold gd at h
  by_cases hc : c
  · rw [if_pos hc] at h; exact ⟨hc, h⟩
  · rw [if_neg hc] at h; cases h
theorem nm_get {α β : Type} {e : α} {k : α → Option β} {r : β} (h : nm e k = some r) : ∃ x, e = x ∧ k x = some r := ⟨e, rfl, h⟩
theorem bd_get {α β : Type} {a : Option α} {k : α → Option β} {r : β} (h : a.bind k = some r) : ∃ x, a = some x ∧ k x = some r := by
  cases a with
  | none => cases h
  | some x => exact ⟨x, rfl, h⟩
theorem if_yes {β : Type} {c : Prop} [Decidable c] {a b : Option β} {r : β} (h : (if c then a else b) = some r) (hc : c) : a = some r := by rw [if_pos hc] at h; exact h
theorem if_no {β : Type} {c : Prop} [Decidable c] {a b : Option β} {r : β} (h : (if c then a else b) = some r) (hc : ¬ c) : b = some r := by rw [if_neg hc] at h; exact h
def ldI {β : Type} (σ : zST) (q n : Nat) (i : Int32) (k : Int32 → Option β) : Option β := if i < 0 ∨ n ≤ i.toNatClampNeg then none else k (gI σ q i.toNatClampNeg)
def stI {β : Type} (σ : zST) (q n : Nat) (i : Int32) (x : Int32) (k : zST → Option β) : Option β := if i < 0 ∨ n ≤ i.toNatClampNeg then none else k (sI σ q i.toNatClampNeg x)
def ldL {β : Type} (σ : zST) (q n : Nat) (i : Int32) (k : Int64 → Option β) : Option β := if i < 0 ∨ n ≤ i.toNatClampNeg then none else k (gL σ q i.toNatClampNeg)
def stL {β : Type} (σ : zST) (q n : Nat) (i : Int32) (x : Int64) (k : zST → Option β) : Option β := if i < 0 ∨ n ≤ i.toNatClampNeg then none else k (sL σ q i.toNatClampNeg x)
/-- a table that never changes -/
def ldT {β : Type} (f : Nat → Int32) (n : Nat) (i : Int32) (k : Int32 → Option β) : Option β := if i < 0 ∨ n ≤ i.toNatClampNeg then none else k (f i.toNatClampNeg)
theorem in_get {β : Type} {n : Nat} {i : Int32} {k : Option β} {r : β} (h : (if i < 0 ∨ n ≤ i.toNatClampNeg then none else k) = some r) : vp_in i n ∧ k = some r := by
  by_cases hc : i < 0 ∨ n ≤ i.toNatClampNeg
  · rw [if_pos hc] at h; cases h
  · rw [if_neg hc] at h; exact ⟨hc, h⟩
theorem ldI_get {β : Type} {σ : zST} {q n : Nat} {i : Int32} {k : Int32 → Option β} {r : β} (h : ldI σ q n i k = some r) : vp_in i n ∧ ∃ x, gI σ q i.toNatClampNeg = x ∧ k x = some r := ⟨(in_get h).1, _, rfl, (in_get h).2⟩
theorem ldL_get {β : Type} {σ : zST} {q n : Nat} {i : Int32} {k : Int64 → Option β} {r : β} (h : ldL σ q n i k = some r) : vp_in i n ∧ ∃ x, gL σ q i.toNatClampNeg = x ∧ k x = some r := ⟨(in_get h).1, _, rfl, (in_get h).2⟩
theorem ldT_get {β : Type} {f : Nat → Int32} {n : Nat} {i : Int32} {k : Int32 → Option β} {r : β} (h : ldT f n i k = some r) : vp_in i n ∧ ∃ x, f i.toNatClampNeg = x ∧ k x = some r := ⟨(in_get h).1, _, rfl, (in_get h).2⟩
theorem stI_get {β : Type} {σ : zST} {q n : Nat} {i x : Int32} {k : zST → Option β} {r : β} (h : stI σ q n i x k = some r) : vp_in i n ∧ ∃ τ, sI σ q i.toNatClampNeg x = τ ∧ k τ = some r := ⟨(in_get h).1, _, rfl, (in_get h).2⟩
theorem stL_get {β : Type} {σ : zST} {q n : Nat} {i : Int32} {x : Int64} {k : zST → Option β} {r : β} (h : stL σ q n i x k = some r) : vp_in i n ∧ ∃ τ, sL σ q i.toNatClampNeg x = τ ∧ k τ = some r := ⟨(in_get h).1, _, rfl, (in_get h).2⟩
def bd {α β : Type} (a : Option (α × zST)) (k : α → zST → Option β) : Option β := match a with
  | none => none
  | some z => k z.1 z.2
def bv {β : Type} (a : Option zST) (k : zST → Option β) : Option β := match a with
  | none => none
  | some z => k z
theorem bd_ok {α β : Type} {a : Option (α × zST)} {k : α → zST → Option β} {r : β} (h : bd a k = some r) : ∃ x τ, a = some (x, τ) ∧ k x τ = some r := by
  cases a with
  | none => cases h
  | some z => exact ⟨z.1, z.2, rfl, h⟩
theorem bv_ok {β : Type} {a : Option zST} {k : zST → Option β} {r : β} (h : bv a k = some r) : ∃ τ, a = some τ ∧ k τ = some r := by
  cases a with
  | none => cases h
  | some z => exact ⟨z, rfl, h⟩
-- a call that may throw: what it throws leaves the caller too
abbrev zX (α : Type) : Type := (String ⊕ α)
def bx {α β : Type} (a : Option (zX α × zST)) (k : α → zST → Option (zX β × zST)) : Option (zX β × zST) := match a with
  | none => none
  | some (.inl e, σ) => some (.inl e, σ)
  | some (.inr x, σ) => k x σ
theorem bx_ok {α β : Type} {a : Option (zX α × zST)} {k : α → zST → Option (zX β × zST)} {r : zX β × zST} (h : bx a k = some r) : (∃ e τ, a = some (.inl e, τ) ∧ some (Sum.inl e, τ) = some r) ∨ ∃ x τ, a = some (.inr x, τ) ∧ k x τ = some r := by
  cases a with
  | none => cases h
  | some z =>
    obtain ⟨y, τ⟩ := z
    cases y with
    | inl e => exact Or.inl ⟨e, τ, rfl, h⟩
    | inr x => exact Or.inr ⟨x, τ, rfl, h⟩
end ZB
/-! THE JUDGEMENT Z, its rows, contracts Ct (methods that return) -/
section ZR0
-- what the walks take of the start: nest words, the table, Throwable's statics, the texts of throws
def zNW : List Cond := [.fieldLinkNest "CanonCote" 101 "CanonCote$Graph" "near" "[I" "CanonCote", .fieldLinkNest "CanonCote" 107 "CanonCote$Refinement" "count" "I" "CanonCote", .fieldLinkNest "CanonCote" 110 "CanonCote$Refinement" "numbers" "[I" "CanonCote", .fieldLinkNest "CanonCote" 113 "CanonCote$Refinement" "lastRound" "I" "CanonCote", .fieldLinkNest "CanonCote" 134 "CanonCote$Mapping" "images" "[I" "CanonCote", .fieldLinkNest "CanonCote" 158 "CanonCote$Group" "count" "I" "CanonCote", .fieldLinkNest "CanonCote" 167 "CanonCote$Group" "chain" "LCanonCote$Chain;" "CanonCote", .fieldLinkNest "CanonCote" 171 "CanonCote$Chain" "members" "I" "CanonCote", .fieldLinkNest "CanonCote" 59 "CanonCote$Graph" "size" "I" "CanonCote", .fieldLinkNest "CanonCote" 83 "CanonCote$Graph" "colours" "[I" "CanonCote", .fieldLinkNest "CanonCote$Arranging" 42 "CanonCote$Graph" "size" "I" "CanonCote", .fieldLinkNest "CanonCote$Arranging" 51 "CanonCote$Graph" "colours" "[I" "CanonCote", .fieldLinkNest "CanonCote$Arranging" 72 "CanonCote$Graph" "near" "[I" "CanonCote", .fieldLinkNest "CanonCote$Group" 54 "CanonCote$Chain" "members" "I" "CanonCote", .fieldLinkNest "CanonCote$Mapping" 25 "CanonCote$Graph" "size" "I" "CanonCote", .fieldLinkNest "CanonCote$Mapping" 47 "CanonCote$Refinement" "numbers" "[I" "CanonCote", .fieldLinkNest "CanonCote$Refinement" 22 "CanonCote$Graph" "size" "I" "CanonCote", .fieldLinkNest "CanonCote$Refinement" 28 "CanonCote$Graph" "colours" "[I" "CanonCote", .fieldLinkNest "CanonCote$Refinement" 45 "CanonCote$Graph" "near" "[I" "CanonCote", .methodLinkNest "CanonCote" 104 ⟨"CanonCote$Refinement", "refine", "(LCanonCote$Graph;)V"⟩ "CanonCote", .methodLinkNest "CanonCote" 120 ⟨"CanonCote$Arranging", "search", "(LCanonCote$Graph;)V"⟩ "CanonCote", .methodLinkNest "CanonCote" 123 ⟨"CanonCote$Arranging", "bestPlace", "(I)I"⟩ "CanonCote", .methodLinkNest "CanonCote" 131 ⟨"CanonCote$Mapping", "find", "(LCanonCote$Graph;LCanonCote$Graph;)Z"⟩ "CanonCote", .methodLinkNest "CanonCote" 142 ⟨"CanonCote$Graph", "becomePart", "(LCanonCote$Graph;I)V"⟩ "CanonCote", .methodLinkNest "CanonCote" 145 ⟨"CanonCote$Arranging", "countBest", "(I)I"⟩ "CanonCote", .methodLinkNest "CanonCote" 148 ⟨"CanonCote$Arranging", "exchangeable", "(I)I"⟩ "CanonCote", .methodLinkNest "CanonCote" 15 ⟨"CanonCote$Graph", "<init>", "()V"⟩ "CanonCote", .methodLinkNest "CanonCote" 164 ⟨"CanonCote$Group", "add", "(J)V"⟩ "CanonCote", .methodLinkNest "CanonCote" 176 ⟨"CanonCote$Group", "clear", "()V"⟩ "CanonCote", .methodLinkNest "CanonCote" 178 ⟨"CanonCote$Chain", "holds", "(J)Z"⟩ "CanonCote", .methodLinkNest "CanonCote" 187 ⟨"CanonCote$Group", "reach", "(I)I"⟩ "CanonCote", .methodLinkNest "CanonCote" 192 ⟨"CanonCote$Group", "countFixing", "(I)I"⟩ "CanonCote", .methodLinkNest "CanonCote" 199 ⟨"CanonCote$Permutation", "isOne", "(J)Z"⟩ "CanonCote", .methodLinkNest "CanonCote" 206 ⟨"CanonCote$Arranging", "leastCode", "(LCanonCote$Graph;)J"⟩ "CanonCote", .methodLinkNest "CanonCote" 22 ⟨"CanonCote$Refinement", "<init>", "()V"⟩ "CanonCote", .methodLinkNest "CanonCote" 29 ⟨"CanonCote$Arranging", "<init>", "()V"⟩ "CanonCote", .methodLinkNest "CanonCote" 36 ⟨"CanonCote$Mapping", "<init>", "()V"⟩ "CanonCote", .methodLinkNest "CanonCote" 43 ⟨"CanonCote$Group", "<init>", "()V"⟩ "CanonCote", .methodLinkNest "CanonCote" 63 ⟨"CanonCote$Graph", "clear", "(I)V"⟩ "CanonCote", .methodLinkNest "CanonCote" 73 ⟨"CanonCote$Graph", "flipEdge", "(II)V"⟩ "CanonCote", .methodLinkNest "CanonCote" 77 ⟨"CanonCote$Graph", "hasEdge", "(II)Z"⟩ "CanonCote", .methodLinkNest "CanonCote" 87 ⟨"CanonCote$Graph", "exchange", "(II)V"⟩ "CanonCote", .methodLinkNest "CanonCote" 90 ⟨"CanonCote$Graph", "become", "(LCanonCote$Graph;)V"⟩ "CanonCote", .methodLinkNest "CanonCote" 94 ⟨"CanonCote$Graph", "invertEdges", "()V"⟩ "CanonCote", .methodLinkNest "CanonCote" 97 ⟨"CanonCote$Graph", "countEdges", "()I"⟩ "CanonCote", .methodLinkNest "CanonCote$Arranging" 47 ⟨"CanonCote$Graph", "areTwins", "(II)Z"⟩ "CanonCote", .methodLinkNest "CanonCote$Arranging" 65 ⟨"CanonCote", "below", "(I)I"⟩ "CanonCote", .methodLinkNest "CanonCote$Chain" 41 ⟨"CanonCote", "isIn", "(II)Z"⟩ "CanonCote", .methodLinkNest "CanonCote$Chain" 56 ⟨"CanonCote$Permutation", "oneThenOther", "(JJ)J"⟩ "CanonCote", .methodLinkNest "CanonCote$Chain" 68 ⟨"CanonCote$Permutation", "imageOf", "(JI)I"⟩ "CanonCote", .methodLinkNest "CanonCote$Chain" 72 ⟨"CanonCote$Permutation", "inverse", "(J)J"⟩ "CanonCote", .methodLinkNest "CanonCote$Graph" 28 ⟨"CanonCote", "isIn", "(II)Z"⟩ "CanonCote", .methodLinkNest "CanonCote$Graph" 32 ⟨"CanonCote", "below", "(I)I"⟩ "CanonCote", .methodLinkNest "CanonCote$Group" 17 ⟨"CanonCote$Chain", "<init>", "()V"⟩ "CanonCote", .methodLinkNest "CanonCote$Group" 32 ⟨"CanonCote$Chain", "restart", "(I)V"⟩ "CanonCote", .methodLinkNest "CanonCote$Group" 37 ⟨"CanonCote$Chain", "add", "(JI)V"⟩ "CanonCote", .methodLinkNest "CanonCote$Group" 45 ⟨"CanonCote", "isIn", "(II)Z"⟩ "CanonCote", .methodLinkNest "CanonCote$Group" 49 ⟨"CanonCote$Permutation", "imageOf", "(JI)I"⟩ "CanonCote", .methodLinkNest "CanonCote$Group" 63 ⟨"CanonCote$Chain", "countFrom", "(I)I"⟩ "CanonCote", .methodLinkNest "CanonCote$Mapping" 17 ⟨"CanonCote$Refinement", "<init>", "()V"⟩ "CanonCote", .methodLinkNest "CanonCote$Mapping" 31 ⟨"CanonCote$Refinement", "refine", "(LCanonCote$Graph;)V"⟩ "CanonCote", .methodLinkNest "CanonCote$Mapping" 39 ⟨"CanonCote", "isIn", "(II)Z"⟩ "CanonCote", .methodLinkNest "CanonCote$Mapping" 50 ⟨"CanonCote$Graph", "hasEdge", "(II)Z"⟩ "CanonCote", .methodLinkNest "CanonCote$Refinement" 64 ⟨"CanonCote", "isIn", "(II)Z"⟩ "CanonCote"]
def zSTR : List (String × Nat × String) := [("CanonCote", 54, "size is out of range"), ("CanonCote", 71, "both vertices are the same"), ("CanonCote", 81, "colour is out of range"), ("CanonCote", 161, "there are 6 generators"), ("CanonCote", 184, "no such point"), ("CanonCote", 190, "points is out of range"), ("CanonCote", 195, "no such graph"), ("CanonCote", 197, "no such vertex"), ("CanonCote", 204, "no permutation")]
def zTb (j : Nat) : Int32 := ([21, 15, 10, 6, 3, 1, 0, 0] : List Int32).getD j 0
def jshl (x y : Int32) : Int32 := x <<< (y &&& 31)
def jshr (x y : Int32) : Int32 := x >>> (y &&& 31)
def jushr (x y : Int32) : Int32 := (x.toUInt32 >>> (y.toUInt32 &&& Int32.toUInt32 31)).toInt32
def jlshl (x : Int64) (y : Int32) : Int64 := x <<< (y.toInt64 &&& 63)
def jlshr (x : Int64) (y : Int32) : Int64 := x >>> (y.toInt64 &&& 63)
def jlushr (x : Int64) (y : Int32) : Int64 := (x.toUInt64 >>> (y.toInt64.toUInt64 &&& Int64.toUInt64 63)).toInt64
def zIsN : Cond → Bool
  | .fieldLinkNest _ _ _ _ _ _ => true
  | .methodLinkNest _ _ _ _ => true
  | _ => false
theorem zNW_n : zNW.all zIsN = true := by decide +kernel
def EF (A : Nat → Prop) (U : State) (H : Heap) : Prop := (∀ w ∈ zNW, va_Nw w U) ∧ (∃ t : Nat, va_Z "CanonCote$Arranging" "LOWEST_EDGE_BIT" "[I" (.ref t) A U H ∧ va_T .int t 8 (fun j => .int (zTb j)) A U H) ∧ vx_Zq Bundle.tN "UNASSIGNED_STACK" Bundle.steD A U H ∧ vx_Zq Bundle.tN "SUPPRESSED_SENTINEL" Bundle.listD A U H ∧ (∀ q ∈ zSTR, ∃ a, vk_R q.1 q.2.1 q.2.2 a U)
theorem zN_warm {w : Cond} (hn : zIsN w = true) {s U : State} (hW : s.WarmedH U.vm) (h : va_Nw w s) : va_Nw w U := by
  cases w <;> first | (cases hn; done) | exact va_Nw.warmF hW h | exact va_Nw.warmM hW h
theorem zN_same {w : Cond} (hn : zIsN w = true) {s U : State} (hv : s.vm = U.vm) (h : va_Nw w s) : va_Nw w U := by
  cases w <;> first | (cases hn; done) | exact va_Nw.same rfl hv h
theorem EF.step {A B : Nat → Prop} {s U : State} {H : Heap} (h : EF A s s.heap) (hq : ∀ a : Nat, a < s.heap.size → ¬ A a → H[a]? = s.heap[a]?) (hAB : ∀ q, B q → A q) (hU : U.heap = H) (hW : s.WarmedH U.vm) : EF B U U.heap := by
  obtain ⟨h1, ⟨t, h2, h3⟩, h4, h5, h6⟩ := h
  subst hU
  exact ⟨fun w hw => zN_warm (List.all_eq_true.mp zNW_n w hw) hW (h1 w hw), ⟨t, (va_Z.moved hW.alike (h2.kept hq)).narrow hAB, (va_T.moved hW.alike (h3.kept hq)).narrow hAB⟩, (vx_Zq.moved hW.alike (h4.kept hq)).narrow hAB, (vx_Zq.moved hW.alike (h5.kept hq)).narrow hAB, fun q hqm => by
    obtain ⟨a, ha⟩ := h6 q hqm
    exact ⟨a, vk_R.warm hW ha⟩⟩
theorem EF.same {A : Nat → Prop} {u U : State} {H : Heap} (hv : u.vm = U.vm) (h : EF A u H) : EF A U H := by
  obtain ⟨h1, ⟨t, h2, h3⟩, h4, h5, h6⟩ := h
  have hal : u.vm.Alike U.vm := by rw [hv]; exact Vm.Alike.refl _
  exact ⟨fun w hw => zN_same (List.all_eq_true.mp zNW_n w hw) hv (h1 w hw), ⟨t, va_Z.moved hal h2, va_T.moved hal h3⟩, vx_Zq.moved hal h4, vx_Zq.moved hal h5, fun q hqm => by
    obtain ⟨a, ha⟩ := h6 q hqm
    exact ⟨a, vk_R.same hv.symm ha⟩⟩
/-- what holds where a method of this world begins -/
def zPc (E : zE) (as : List Value) (σ : zST) (sz : Nat) : Array Value → State → Prop := va_Pc as (fun U => U.heap.size = sz ∧ va_P (eD E) vwCl (wd E σ) U.heap ∧ va_K (eD E) vwCl (eT E) U ∧ EF (OA E sz) U U.heap)
def zQc (E : zE) (rv : Option Value) (τ : zST) (sz : Nat) : Array Value → State → Outcome → State → Prop := fun _ st oc t => oc = .returned rv ∧ va_P (eD E) vwCl (wd E τ) t.heap ∧ va_F (OA E sz) st t
/-- A CONTRACT: from a world with the store σ the method returns rv, and leaves the world with the store τ -/
def Ct (l : Launch) (y : MethodName) (ws : List Cond) (rm : Room) (E : zE) (as : List Value) (σ : zST) (rv : Option Value) (τ : zST) : Prop :=
  ∀ sz : Nat, Met l y ws rm (zPc E as σ sz) (zQc E rv τ sz) 0 0 (OA E sz)
theorem zPc_blind {E : zE} {as : List Value} {σ : zST} {sz : Nat} : FrameBlind (zPc E as σ sz) := by
  intro a U g mk h
  obtain ⟨h1, h2, h3, h4, h5⟩ := h
  exact ⟨h1, h2, h3, va_K.moved (u := U) (U := U.calling g mk a) (Vm.Alike.refl U.vm) h4, EF.same (u := U) (U := U.calling g mk a) rfl h5⟩
abbrev zK : Type := Program × Launch × Env × Room × State × MethodId × Array Value × List Frame × Method × Code × (State → Prop) × zE
def kP (K : zK) : Program := K.1
def kL (K : zK) : Launch := K.2.1
def kE (K : zK) : Env := K.2.2.1
def kR (K : zK) : Room := K.2.2.2.1
def kS (K : zK) : State := K.2.2.2.2.1
def kM (K : zK) : MethodId := K.2.2.2.2.2.1
def kA (K : zK) : Array Value := K.2.2.2.2.2.2.1
def kB (K : zK) : List Frame := K.2.2.2.2.2.2.2.1
def kH (K : zK) : Method := K.2.2.2.2.2.2.2.2.1
def kC (K : zK) : Code := K.2.2.2.2.2.2.2.2.2.1
def kQ (K : zK) : State → Prop := K.2.2.2.2.2.2.2.2.2.2.1
def kZ (K : zK) : zE := K.2.2.2.2.2.2.2.2.2.2.2
def kW (K : zK) (H : Heap) (locs : List Loc) (cs ss : Nat) (g : JFrame) : Prop := W (kP K) (kL K) (kE K) (kR K) (kS K) (kM K) (kA K) (kB K) (kH K) (kC K) H locs cs ss (kQ K) g
def kO (K : zK) : Nat → Prop := OA (kZ K) (kS K).heap.size
/-- THE JUDGEMENT: at pc, with these locals, this stack and a world with this store, the machine comes to the method's end -/
def Z (K : zK) (cs ss pc : Nat) (lv : List (Nat × Value)) (st : List Value) (σ : zST) : Prop :=
  ∀ (H : Heap) (locs : List Loc) (ls : Array Slot), va_P (eD (kZ K)) vwCl (wd (kZ K) σ) H → va_S (kO K) (kS K).heap H locs → lv_has ls (kC K).maxLocals lv → kW K H locs cs ss (F0 (kM K) pc ls st)
def zIs (K : zK) (own : String) (cc : ByteArray) (nL : Nat) (Ts : List Cond) (ret : Option FieldType) (rm : Room) : Prop :=
  (kP K).tables.exec = Jvm.exec ∧ (kC K).code = cc ∧ (kC K).maxLocals = nL ∧ (kS K).vm.findClass own = some (kM K).cls ∧ (∀ w ∈ Ts, w.before (kA K) (kS K) = true) ∧ (kH K).sig.returnType = ret ∧ kR K = rm ∧ (kH K).locks = false ∧ va_K (eD (kZ K)) vwCl (eT (kZ K)) (kS K) ∧ eL (kZ K) ∧ eJ (kZ K) ∧ EF (kO K) (kS K) (kS K).heap
def zQ (K : zK) (rv : Option Value) (τ : zST) : Prop := kQ K = MQ (kB K) (zQc (kZ K) rv τ (kS K).heap.size) (kA K) (kS K) 0 0 (kO K)
section
variable {K : zK} {own : String} {cc : ByteArray} {nL : Nat} {Ts : List Cond} {ret : Option FieldType} {rm : Room}
theorem zIs.exec (h : zIs K own cc nL Ts ret rm) : (kP K).tables.exec = Jvm.exec := h.1
theorem zIs.code (h : zIs K own cc nL Ts ret rm) : (kC K).code = cc := h.2.1
theorem zIs.maxl (h : zIs K own cc nL Ts ret rm) : (kC K).maxLocals = nL := h.2.2.1
theorem zIs.ow (h : zIs K own cc nL Ts ret rm) : (kS K).vm.findClass own = some (kM K).cls := h.2.2.2.1
theorem zIs.wd (h : zIs K own cc nL Ts ret rm) : ∀ w ∈ Ts, w.before (kA K) (kS K) = true := h.2.2.2.2.1
theorem zIs.rt (h : zIs K own cc nL Ts ret rm) : (kH K).sig.returnType = ret := h.2.2.2.2.2.1
theorem zIs.room (h : zIs K own cc nL Ts ret rm) : kR K = rm := h.2.2.2.2.2.2.1
theorem zIs.nolock (h : zIs K own cc nL Ts ret rm) : (kH K).locks = false := h.2.2.2.2.2.2.2.1
theorem zIs.cls (h : zIs K own cc nL Ts ret rm) : va_K (eD (kZ K)) vwCl (eT (kZ K)) (kS K) := h.2.2.2.2.2.2.2.2.1
theorem zIs.loc (h : zIs K own cc nL Ts ret rm) : eL (kZ K) := h.2.2.2.2.2.2.2.2.2.1
theorem zIs.inj (h : zIs K own cc nL Ts ret rm) : eJ (kZ K) := h.2.2.2.2.2.2.2.2.2.2.1
theorem zIs.env (h : zIs K own cc nL Ts ret rm) : EF (kO K) (kS K) (kS K).heap := h.2.2.2.2.2.2.2.2.2.2.2
theorem zIs.nest (h : zIs K own cc nL Ts ret rm) {w : Cond} (hw : w ∈ zNW) : va_Nw w (kS K) := h.env.1 w hw
end
theorem Ct_of {l : Launch} {y : MethodName} {ws ws' : List Cond} {rm : Room} {E : zE} {as : List Value} {σ τ : zST} {rv : Option Value} {cc : ByteArray} {maxL : Nat} {ret : Option FieldType} (hy : plainName y.cls = true) (hw : ws = Cond.code y cc maxL ret :: ws') (hL : eL E) (hJ : eJ E) (hn : (lg_sl as).length ≤ maxL)
    (body : ∀ K : zK, kZ K = E → kL K = l → zIs K y.cls cc maxL ws ret rm → zQ K rv τ → Z K 0 0 0 (lv_args 0 as) [] σ) : Ct l y ws rm E as σ rv τ := by
  intro sz
  refine Met.ofW (cc := cc) (maxL := maxL) (ret := ret) hy hw ?_
  intro p e s m args below meth c s₁ B hml hv
  obtain ⟨rfl, hsz, hP, hK, hE⟩ := hv
  subst hsz
  have hl := lv_entry as (n := maxL) hn
  rw [lg_entry_eq]
  generalize (lg_sl as ++ List.replicate (maxL - (lg_sl as).length) Slot.unset).toArray = ls at hl ⊢
  exact body ⟨p, l, e, rm, s, m, as.toArray, below, meth, c, MQ below (zQc E rv τ s.heap.size) as.toArray s 0 0 (OA E s.heap.size), E⟩ rfl rfl
    ⟨B.exec, B.bytes, hml, findClass_of_methodNamed B.named, atoms_spec (ws := ws) B.pre, B.returns, rfl, B.notSynchronized, hK, hL, hJ, hE⟩ rfl s.heap [] ls hP va_S.rf (by show lv_has ls c.maxLocals _; rw [hml]; exact hl)
end ZR0
section ZR1
variable {K : zK} {own : String} {cc : ByteArray} {nL : Nat} {Ts : List Cond} {ret : Option FieldType} {rm : Room} {cs ss pc : Nat} {lv lv' : List (Nat × Value)} {st : List Value} {σ τ : zST}
theorem Z_iconst (hk : zIs K own cc nL Ts ret rm) {n : Int} {v : Int32} (d : decode cc pc = .ok (.iconst n, 1)) (hv : Int32.ofInt n = v) (kk : Z K cs ss (pc + 1) lv (.int v :: st) σ) : Z K cs ss pc lv st σ := fun H locs ls hP hS hl => lv_iconst hk.exec hk.code d hv (kk H locs ls hP hS hl)
theorem Z_bipush (hk : zIs K own cc nL Ts ret rm) {n : Int} {v : Int32} (d : decode cc pc = .ok (.bipush n, 2)) (hv : (Int8.ofInt n).toInt32 = v) (kk : Z K cs ss (pc + 2) lv (.int v :: st) σ) : Z K cs ss pc lv st σ := fun H locs ls hP hS hl => lv_bipush hk.exec hk.code d hv (kk H locs ls hP hS hl)
theorem Z_sipush (hk : zIs K own cc nL Ts ret rm) {n : Int} {v : Int32} (d : decode cc pc = .ok (.sipush n, 3)) (hv : (Int16.ofInt n).toInt32 = v) (kk : Z K cs ss (pc + 3) lv (.int v :: st) σ) : Z K cs ss pc lv st σ := fun H locs ls hP hS hl => lv_sipush hk.exec hk.code d hv (kk H locs ls hP hS hl)
theorem Z_lconst (hk : zIs K own cc nL Ts ret rm) {n : Fin 2} {v : Int64} (d : decode cc pc = .ok (.lconst n, 1)) (hv : Int64.ofNat (n : Nat) = v) (kk : Z K cs ss (pc + 1) lv (.long v :: st) σ) : Z K cs ss pc lv st σ := fun H locs ls hP hS hl => lv_lconst hk.exec hk.code d hv (kk H locs ls hP hS hl)
theorem Z_ldc (hk : zIs K own cc nL Ts ret rm) {ix : Nat} {v : Int32} (d : decode cc pc = .ok (.ldc ix, 2)) (hw : Cond.constant own ix v ∈ Ts) (kk : Z K cs ss (pc + 2) lv (.int v :: st) σ) : Z K cs ss pc lv st σ := fun H locs ls hP hS hl => lv_ldc hk.exec hk.code hk.ow (hk.wd _ hw) d (kk H locs ls hP hS hl)
theorem Z_ldcw (hk : zIs K own cc nL Ts ret rm) {ix : Nat} {v : Int32} (d : decode cc pc = .ok (.ldc_w ix, 3)) (hw : Cond.constant own ix v ∈ Ts) (kk : Z K cs ss (pc + 3) lv (.int v :: st) σ) : Z K cs ss pc lv st σ := fun H locs ls hP hS hl => lv_ldcw hk.exec hk.code hk.ow (hk.wd _ hw) d (kk H locs ls hP hS hl)
theorem Z_ldc2 (hk : zIs K own cc nL Ts ret rm) {ix : Nat} {v : Int64} (d : decode cc pc = .ok (.ldc2_w ix, 3)) (hw : Cond.constantLong own ix v ∈ Ts) (kk : Z K cs ss (pc + 3) lv (.long v :: st) σ) : Z K cs ss pc lv st σ := fun H locs ls hP hS hl => lv_ldc2 hk.exec hk.code hk.ow (hk.wd _ hw) d (kk H locs ls hP hS hl)
theorem Z_iload_n (hk : zIs K own cc nL Ts ret rm) (j : Nat) {k : Fin 4} {i : Nat} {x : Int32} (d : decode cc pc = .ok (.iload_n k, 1)) (hi : (k : Nat) = i) (hj : lv[j]? = some (i, .int x)) (kk : Z K cs ss (pc + 1) lv (.int x :: st) σ) : Z K cs ss pc lv st σ := fun H locs ls hP hS hl => lv_iload_n hk.exec hk.code d hi (lv_at hl j hj) (kk H locs ls hP hS hl)
theorem Z_iload (hk : zIs K own cc nL Ts ret rm) (j : Nat) {i : Nat} {x : Int32} (d : decode cc pc = .ok (.iload i, 2)) (hj : lv[j]? = some (i, .int x)) (kk : Z K cs ss (pc + 2) lv (.int x :: st) σ) : Z K cs ss pc lv st σ := fun H locs ls hP hS hl => lv_iload hk.exec hk.code d (lv_at hl j hj) (kk H locs ls hP hS hl)
theorem Z_lload_n (hk : zIs K own cc nL Ts ret rm) (j : Nat) {k : Fin 4} {i : Nat} {x : Int64} (d : decode cc pc = .ok (.lload_n k, 1)) (hi : (k : Nat) = i) (hj : lv[j]? = some (i, .long x)) (kk : Z K cs ss (pc + 1) lv (.long x :: st) σ) : Z K cs ss pc lv st σ := fun H locs ls hP hS hl => lv_lload_n hk.exec hk.code d hi (lv_at hl j hj) (kk H locs ls hP hS hl)
theorem Z_lload (hk : zIs K own cc nL Ts ret rm) (j : Nat) {i : Nat} {x : Int64} (d : decode cc pc = .ok (.lload i, 2)) (hj : lv[j]? = some (i, .long x)) (kk : Z K cs ss (pc + 2) lv (.long x :: st) σ) : Z K cs ss pc lv st σ := fun H locs ls hP hS hl => lv_lload hk.exec hk.code d (lv_at hl j hj) (kk H locs ls hP hS hl)
theorem Z_aload_n (hk : zIs K own cc nL Ts ret rm) (j : Nat) {k : Fin 4} {i : Nat} {x : Nat} (d : decode cc pc = .ok (.aload_n k, 1)) (hi : (k : Nat) = i) (hj : lv[j]? = some (i, .ref x)) (kk : Z K cs ss (pc + 1) lv (.ref x :: st) σ) : Z K cs ss pc lv st σ := fun H locs ls hP hS hl => lv_aload_n hk.exec hk.code d hi (lv_at hl j hj) (kk H locs ls hP hS hl)
theorem Z_aload (hk : zIs K own cc nL Ts ret rm) (j : Nat) {i : Nat} {x : Nat} (d : decode cc pc = .ok (.aload i, 2)) (hj : lv[j]? = some (i, .ref x)) (kk : Z K cs ss (pc + 2) lv (.ref x :: st) σ) : Z K cs ss pc lv st σ := fun H locs ls hP hS hl => lv_aload hk.exec hk.code d (lv_at hl j hj) (kk H locs ls hP hS hl)
theorem Z_istore_n (hk : zIs K own cc nL Ts ret rm) {k : Fin 4} {i : Nat} {x : Int32} (d : decode cc pc = .ok (.istore_n k, 1)) (hi : (k : Nat) = i) (hn : i < nL) (hv : (i, Value.int x) :: lv.filter (fun q => !(q.1 == i) && !(q.1 + 1 == i && q.2.category == 2)) = lv') (kk : Z K cs ss (pc + 1) lv' st σ) : Z K cs ss pc lv (.int x :: st) σ := fun H locs ls hP hS hl => lv_istore_n hk.exec hk.code d hi hl (by rw [hk.maxl]; exact hn) hv (fun ls' h => kk H locs ls' hP hS h)
theorem Z_istore (hk : zIs K own cc nL Ts ret rm) {i : Nat} {x : Int32} (d : decode cc pc = .ok (.istore i, 2)) (hn : i < nL) (hv : (i, Value.int x) :: lv.filter (fun q => !(q.1 == i) && !(q.1 + 1 == i && q.2.category == 2)) = lv') (kk : Z K cs ss (pc + 2) lv' st σ) : Z K cs ss pc lv (.int x :: st) σ := fun H locs ls hP hS hl => lv_istore hk.exec hk.code d hl (by rw [hk.maxl]; exact hn) hv (fun ls' h => kk H locs ls' hP hS h)
theorem Z_lstore_n (hk : zIs K own cc nL Ts ret rm) {k : Fin 4} {i : Nat} {x : Int64} (d : decode cc pc = .ok (.lstore_n k, 1)) (hi : (k : Nat) = i) (hn : i + 1 < nL) (hv : (i, Value.long x) :: lv.filter (fun q => !(q.1 == i) && (!(q.1 == i + 1) && !(q.1 + 1 == i && q.2.category == 2))) = lv') (kk : Z K cs ss (pc + 1) lv' st σ) : Z K cs ss pc lv (.long x :: st) σ := fun H locs ls hP hS hl => lv_lstore_n hk.exec hk.code d hi hl (by rw [hk.maxl]; exact hn) hv (fun ls' h => kk H locs ls' hP hS h)
theorem Z_lstore (hk : zIs K own cc nL Ts ret rm) {i : Nat} {x : Int64} (d : decode cc pc = .ok (.lstore i, 2)) (hn : i + 1 < nL) (hv : (i, Value.long x) :: lv.filter (fun q => !(q.1 == i) && (!(q.1 == i + 1) && !(q.1 + 1 == i && q.2.category == 2))) = lv') (kk : Z K cs ss (pc + 2) lv' st σ) : Z K cs ss pc lv (.long x :: st) σ := fun H locs ls hP hS hl => lv_lstore hk.exec hk.code d hl (by rw [hk.maxl]; exact hn) hv (fun ls' h => kk H locs ls' hP hS h)
theorem Z_astore_n (hk : zIs K own cc nL Ts ret rm) {k : Fin 4} {i : Nat} {x : Nat} (d : decode cc pc = .ok (.astore_n k, 1)) (hi : (k : Nat) = i) (hn : i < nL) (hv : (i, Value.ref x) :: lv.filter (fun q => !(q.1 == i) && !(q.1 + 1 == i && q.2.category == 2)) = lv') (kk : Z K cs ss (pc + 1) lv' st σ) : Z K cs ss pc lv (.ref x :: st) σ := fun H locs ls hP hS hl => lv_astore_n hk.exec hk.code d hi hl (by rw [hk.maxl]; exact hn) hv (fun ls' h => kk H locs ls' hP hS h)
theorem Z_astore (hk : zIs K own cc nL Ts ret rm) {i : Nat} {x : Nat} (d : decode cc pc = .ok (.astore i, 2)) (hn : i < nL) (hv : (i, Value.ref x) :: lv.filter (fun q => !(q.1 == i) && !(q.1 + 1 == i && q.2.category == 2)) = lv') (kk : Z K cs ss (pc + 2) lv' st σ) : Z K cs ss pc lv (.ref x :: st) σ := fun H locs ls hP hS hl => lv_astore hk.exec hk.code d hl (by rw [hk.maxl]; exact hn) hv (fun ls' h => kk H locs ls' hP hS h)
theorem Z_iinc (hk : zIs K own cc nL Ts ret rm) (j : Nat) {i : Nat} {n : Int} {x v : Int32} (d : decode cc pc = .ok (.iinc i n, 3)) (hj : lv[j]? = some (i, .int x)) (hx : x + Int32.ofInt n = v) (hn : i < nL) (hv : (i, Value.int v) :: lv.filter (fun q => !(q.1 == i) && !(q.1 + 1 == i && q.2.category == 2)) = lv') (kk : Z K cs ss (pc + 3) lv' st σ) : Z K cs ss pc lv st σ := fun H locs ls hP hS hl => lv_iinc hk.exec hk.code d hl hj hx (by rw [hk.maxl]; exact hn) hv (fun ls' h => kk H locs ls' hP hS h)
theorem Z_iadd (hk : zIs K own cc nL Ts ret rm) {x y : Int32} (d : decode cc pc = .ok (.iadd, 1)) (kk : Z K cs ss (pc + 1) lv (.int (x + y) :: st) σ) : Z K cs ss pc lv (.int y :: .int x :: st) σ := fun H locs ls hP hS hl => lv_iadd hk.exec hk.code d (kk H locs ls hP hS hl)
theorem Z_isub (hk : zIs K own cc nL Ts ret rm) {x y : Int32} (d : decode cc pc = .ok (.isub, 1)) (kk : Z K cs ss (pc + 1) lv (.int (x - y) :: st) σ) : Z K cs ss pc lv (.int y :: .int x :: st) σ := fun H locs ls hP hS hl => lv_isub hk.exec hk.code d (kk H locs ls hP hS hl)
theorem Z_imul (hk : zIs K own cc nL Ts ret rm) {x y : Int32} (d : decode cc pc = .ok (.imul, 1)) (kk : Z K cs ss (pc + 1) lv (.int (x * y) :: st) σ) : Z K cs ss pc lv (.int y :: .int x :: st) σ := fun H locs ls hP hS hl => lv_imul hk.exec hk.code d (kk H locs ls hP hS hl)
theorem Z_iand (hk : zIs K own cc nL Ts ret rm) {x y : Int32} (d : decode cc pc = .ok (.iand, 1)) (kk : Z K cs ss (pc + 1) lv (.int (x &&& y) :: st) σ) : Z K cs ss pc lv (.int y :: .int x :: st) σ := fun H locs ls hP hS hl => lv_iand hk.exec hk.code d (kk H locs ls hP hS hl)
theorem Z_ior (hk : zIs K own cc nL Ts ret rm) {x y : Int32} (d : decode cc pc = .ok (.ior, 1)) (kk : Z K cs ss (pc + 1) lv (.int (x ||| y) :: st) σ) : Z K cs ss pc lv (.int y :: .int x :: st) σ := fun H locs ls hP hS hl => lv_ior hk.exec hk.code d (kk H locs ls hP hS hl)
theorem Z_ixor (hk : zIs K own cc nL Ts ret rm) {x y : Int32} (d : decode cc pc = .ok (.ixor, 1)) (kk : Z K cs ss (pc + 1) lv (.int (x ^^^ y) :: st) σ) : Z K cs ss pc lv (.int y :: .int x :: st) σ := fun H locs ls hP hS hl => lv_ixor hk.exec hk.code d (kk H locs ls hP hS hl)
theorem Z_ladd (hk : zIs K own cc nL Ts ret rm) {x y : Int64} (d : decode cc pc = .ok (.ladd, 1)) (kk : Z K cs ss (pc + 1) lv (.long (x + y) :: st) σ) : Z K cs ss pc lv (.long y :: .long x :: st) σ := fun H locs ls hP hS hl => lv_ladd hk.exec hk.code d (kk H locs ls hP hS hl)
theorem Z_lsub (hk : zIs K own cc nL Ts ret rm) {x y : Int64} (d : decode cc pc = .ok (.lsub, 1)) (kk : Z K cs ss (pc + 1) lv (.long (x - y) :: st) σ) : Z K cs ss pc lv (.long y :: .long x :: st) σ := fun H locs ls hP hS hl => lv_lsub hk.exec hk.code d (kk H locs ls hP hS hl)
theorem Z_lmul (hk : zIs K own cc nL Ts ret rm) {x y : Int64} (d : decode cc pc = .ok (.lmul, 1)) (kk : Z K cs ss (pc + 1) lv (.long (x * y) :: st) σ) : Z K cs ss pc lv (.long y :: .long x :: st) σ := fun H locs ls hP hS hl => lv_lmul hk.exec hk.code d (kk H locs ls hP hS hl)
theorem Z_land (hk : zIs K own cc nL Ts ret rm) {x y : Int64} (d : decode cc pc = .ok (.land, 1)) (kk : Z K cs ss (pc + 1) lv (.long (x &&& y) :: st) σ) : Z K cs ss pc lv (.long y :: .long x :: st) σ := fun H locs ls hP hS hl => lv_land hk.exec hk.code d (kk H locs ls hP hS hl)
theorem Z_lor (hk : zIs K own cc nL Ts ret rm) {x y : Int64} (d : decode cc pc = .ok (.lor, 1)) (kk : Z K cs ss (pc + 1) lv (.long (x ||| y) :: st) σ) : Z K cs ss pc lv (.long y :: .long x :: st) σ := fun H locs ls hP hS hl => lv_lor hk.exec hk.code d (kk H locs ls hP hS hl)
theorem Z_lxor (hk : zIs K own cc nL Ts ret rm) {x y : Int64} (d : decode cc pc = .ok (.lxor, 1)) (kk : Z K cs ss (pc + 1) lv (.long (x ^^^ y) :: st) σ) : Z K cs ss pc lv (.long y :: .long x :: st) σ := fun H locs ls hP hS hl => lv_lxor hk.exec hk.code d (kk H locs ls hP hS hl)
theorem Z_ineg (hk : zIs K own cc nL Ts ret rm) {x : Int32} (d : decode cc pc = .ok (.ineg, 1)) (kk : Z K cs ss (pc + 1) lv (.int (-x) :: st) σ) : Z K cs ss pc lv (.int x :: st) σ := fun H locs ls hP hS hl => lv_ineg hk.exec hk.code d (kk H locs ls hP hS hl)
theorem Z_ishl (hk : zIs K own cc nL Ts ret rm) {x y : Int32} (d : decode cc pc = .ok (.ishl, 1)) (kk : Z K cs ss (pc + 1) lv (.int (jshl x y) :: st) σ) : Z K cs ss pc lv (.int y :: .int x :: st) σ := fun H locs ls hP hS hl => lv_ishl hk.exec hk.code d (kk H locs ls hP hS hl)
theorem Z_ishr (hk : zIs K own cc nL Ts ret rm) {x y : Int32} (d : decode cc pc = .ok (.ishr, 1)) (kk : Z K cs ss (pc + 1) lv (.int (jshr x y) :: st) σ) : Z K cs ss pc lv (.int y :: .int x :: st) σ := fun H locs ls hP hS hl => lv_ishr hk.exec hk.code d (kk H locs ls hP hS hl)
theorem Z_iushr (hk : zIs K own cc nL Ts ret rm) {x y : Int32} (d : decode cc pc = .ok (.iushr, 1)) (kk : Z K cs ss (pc + 1) lv (.int (jushr x y) :: st) σ) : Z K cs ss pc lv (.int y :: .int x :: st) σ := fun H locs ls hP hS hl => lv_iushr hk.exec hk.code d rfl (kk H locs ls hP hS hl)
theorem Z_lshl (hk : zIs K own cc nL Ts ret rm) {x : Int64} {y : Int32} (d : decode cc pc = .ok (.lshl, 1)) (kk : Z K cs ss (pc + 1) lv (.long (jlshl x y) :: st) σ) : Z K cs ss pc lv (.int y :: .long x :: st) σ := fun H locs ls hP hS hl => lv_lshl hk.exec hk.code d rfl (kk H locs ls hP hS hl)
theorem Z_lshr (hk : zIs K own cc nL Ts ret rm) {x : Int64} {y : Int32} (d : decode cc pc = .ok (.lshr, 1)) (kk : Z K cs ss (pc + 1) lv (.long (jlshr x y) :: st) σ) : Z K cs ss pc lv (.int y :: .long x :: st) σ := fun H locs ls hP hS hl => lv_lshr hk.exec hk.code d rfl (kk H locs ls hP hS hl)
theorem Z_lushr (hk : zIs K own cc nL Ts ret rm) {x : Int64} {y : Int32} (d : decode cc pc = .ok (.lushr, 1)) (kk : Z K cs ss (pc + 1) lv (.long (jlushr x y) :: st) σ) : Z K cs ss pc lv (.int y :: .long x :: st) σ := fun H locs ls hP hS hl => lv_lushr hk.exec hk.code d rfl (kk H locs ls hP hS hl)
theorem Z_i2l (hk : zIs K own cc nL Ts ret rm) {x : Int32} (d : decode cc pc = .ok (.i2l, 1)) (kk : Z K cs ss (pc + 1) lv (.long x.toInt64 :: st) σ) : Z K cs ss pc lv (.int x :: st) σ := fun H locs ls hP hS hl => lv_i2l hk.exec hk.code d rfl (kk H locs ls hP hS hl)
theorem Z_l2i (hk : zIs K own cc nL Ts ret rm) {x : Int64} (d : decode cc pc = .ok (.l2i, 1)) (kk : Z K cs ss (pc + 1) lv (.int x.toInt32 :: st) σ) : Z K cs ss pc lv (.long x :: st) σ := fun H locs ls hP hS hl => lv_l2i hk.exec hk.code d rfl (kk H locs ls hP hS hl)
theorem Z_lcmp (hk : zIs K own cc nL Ts ret rm) {x y : Int64} (d : decode cc pc = .ok (.lcmp, 1)) (kk : Z K cs ss (pc + 1) lv (.int (lg_cmp x y) :: st) σ) : Z K cs ss pc lv (.long y :: .long x :: st) σ := fun H locs ls hP hS hl => W.lcmp hk.exec hk.code d (kk H locs ls hP hS hl)
theorem Z_idiv (hk : zIs K own cc nL Ts ret rm) {x y : Int32} (d : decode cc pc = .ok (.idiv, 1)) (hne : ¬ y = 0) (kk : Z K cs ss (pc + 1) lv (.int (x / y) :: st) σ) : Z K cs ss pc lv (.int y :: .int x :: st) σ := fun H locs ls hP hS hl => lv_idiv hk.exec hk.code d hne (kk H locs ls hP hS hl)
theorem Z_irem (hk : zIs K own cc nL Ts ret rm) {x y : Int32} (d : decode cc pc = .ok (.irem, 1)) (hne : ¬ y = 0) (kk : Z K cs ss (pc + 1) lv (.int (x - x / y * y) :: st) σ) : Z K cs ss pc lv (.int y :: .int x :: st) σ := fun H locs ls hP hS hl => lv_irem hk.exec hk.code d hne (kk H locs ls hP hS hl)
theorem Z_dup (hk : zIs K own cc nL Ts ret rm) {v : Value} (d : decode cc pc = .ok (.dup, 1)) (hc : v.category = 1) (kk : Z K cs ss (pc + 1) lv (v :: v :: st) σ) : Z K cs ss pc lv (v :: st) σ := fun H locs ls hP hS hl => lv_dup hk.exec hk.code d hc (kk H locs ls hP hS hl)
theorem Z_dup2 (hk : zIs K own cc nL Ts ret rm) {v w : Value} (d : decode cc pc = .ok (.dup2, 1)) (hc : v.category = 1) (hd : w.category = 1) (kk : Z K cs ss (pc + 1) lv (v :: w :: v :: w :: st) σ) : Z K cs ss pc lv (v :: w :: st) σ := fun H locs ls hP hS hl => lv_dup2_11 hk.exec hk.code d hc hd (kk H locs ls hP hS hl)
theorem Z_pop (hk : zIs K own cc nL Ts ret rm) {v : Value} (d : decode cc pc = .ok (.pop, 1)) (hc : v.category = 1) (kk : Z K cs ss (pc + 1) lv st σ) : Z K cs ss pc lv (v :: st) σ := fun H locs ls hP hS hl => lv_pop hk.exec hk.code d hc (kk H locs ls hP hS hl)
theorem Z_goto (hk : zIs K own cc nL Ts ret rm) {off : Int} {tgt : Nat} (d : decode cc pc = .ok (.goto off, 3)) (ht : (pc : Int) + off = (tgt : Int)) (kk : Z K cs ss tgt lv st σ) : Z K cs ss pc lv st σ := fun H locs ls hP hS hl => lv_goto hk.exec hk.code d ht (kk H locs ls hP hS hl)
theorem Z_if_eq (hk : zIs K own cc nL Ts ret rm) {x : Int32} {off : Int} {tgt : Nat} (d : decode cc pc = .ok (.ifCond .eq off, 3)) (ht : (pc : Int) + off = (tgt : Int)) (kt : x = 0 → Z K cs ss tgt lv st σ) (kf : ¬ x = 0 → Z K cs ss (pc + 3) lv st σ) : Z K cs ss pc lv (.int x :: st) σ := fun H locs ls hP hS hl => lv_if_eq hk.exec hk.code d ht (fun h => kt h H locs ls hP hS hl) (fun h => kf h H locs ls hP hS hl)
theorem Z_if_lt (hk : zIs K own cc nL Ts ret rm) {x : Int32} {off : Int} {tgt : Nat} (d : decode cc pc = .ok (.ifCond .lt off, 3)) (ht : (pc : Int) + off = (tgt : Int)) (kt : x < 0 → Z K cs ss tgt lv st σ) (kf : ¬ x < 0 → Z K cs ss (pc + 3) lv st σ) : Z K cs ss pc lv (.int x :: st) σ := fun H locs ls hP hS hl => lv_if_lt hk.exec hk.code d ht (fun h => kt h H locs ls hP hS hl) (fun h => kf h H locs ls hP hS hl)
theorem Z_if_ge (hk : zIs K own cc nL Ts ret rm) {x : Int32} {off : Int} {tgt : Nat} (d : decode cc pc = .ok (.ifCond .ge off, 3)) (ht : (pc : Int) + off = (tgt : Int)) (kt : 0 ≤ x → Z K cs ss tgt lv st σ) (kf : ¬ 0 ≤ x → Z K cs ss (pc + 3) lv st σ) : Z K cs ss pc lv (.int x :: st) σ := fun H locs ls hP hS hl => lv_if_ge hk.exec hk.code d ht (fun h => kt h H locs ls hP hS hl) (fun h => kf h H locs ls hP hS hl)
theorem Z_if_gt (hk : zIs K own cc nL Ts ret rm) {x : Int32} {off : Int} {tgt : Nat} (d : decode cc pc = .ok (.ifCond .gt off, 3)) (ht : (pc : Int) + off = (tgt : Int)) (kt : 0 < x → Z K cs ss tgt lv st σ) (kf : ¬ 0 < x → Z K cs ss (pc + 3) lv st σ) : Z K cs ss pc lv (.int x :: st) σ := fun H locs ls hP hS hl => lv_if_gt hk.exec hk.code d ht (fun h => kt h H locs ls hP hS hl) (fun h => kf h H locs ls hP hS hl)
theorem Z_if_le (hk : zIs K own cc nL Ts ret rm) {x : Int32} {off : Int} {tgt : Nat} (d : decode cc pc = .ok (.ifCond .le off, 3)) (ht : (pc : Int) + off = (tgt : Int)) (kt : x ≤ 0 → Z K cs ss tgt lv st σ) (kf : ¬ x ≤ 0 → Z K cs ss (pc + 3) lv st σ) : Z K cs ss pc lv (.int x :: st) σ := fun H locs ls hP hS hl => lv_if_le hk.exec hk.code d ht (fun h => kt h H locs ls hP hS hl) (fun h => kf h H locs ls hP hS hl)
theorem Z_icmp_eq (hk : zIs K own cc nL Ts ret rm) {x y : Int32} {off : Int} {tgt : Nat} (d : decode cc pc = .ok (.if_icmp .eq off, 3)) (ht : (pc : Int) + off = (tgt : Int)) (kt : x = y → Z K cs ss tgt lv st σ) (kf : ¬ x = y → Z K cs ss (pc + 3) lv st σ) : Z K cs ss pc lv (.int y :: .int x :: st) σ := fun H locs ls hP hS hl => lv_icmp_eq hk.exec hk.code d ht (fun h => kt h H locs ls hP hS hl) (fun h => kf h H locs ls hP hS hl)
theorem Z_icmp_lt (hk : zIs K own cc nL Ts ret rm) {x y : Int32} {off : Int} {tgt : Nat} (d : decode cc pc = .ok (.if_icmp .lt off, 3)) (ht : (pc : Int) + off = (tgt : Int)) (kt : x < y → Z K cs ss tgt lv st σ) (kf : ¬ x < y → Z K cs ss (pc + 3) lv st σ) : Z K cs ss pc lv (.int y :: .int x :: st) σ := fun H locs ls hP hS hl => lv_icmp_lt hk.exec hk.code d ht (fun h => kt h H locs ls hP hS hl) (fun h => kf h H locs ls hP hS hl)
theorem Z_icmp_ge (hk : zIs K own cc nL Ts ret rm) {x y : Int32} {off : Int} {tgt : Nat} (d : decode cc pc = .ok (.if_icmp .ge off, 3)) (ht : (pc : Int) + off = (tgt : Int)) (kt : y ≤ x → Z K cs ss tgt lv st σ) (kf : ¬ y ≤ x → Z K cs ss (pc + 3) lv st σ) : Z K cs ss pc lv (.int y :: .int x :: st) σ := fun H locs ls hP hS hl => lv_icmp_ge hk.exec hk.code d ht (fun h => kt h H locs ls hP hS hl) (fun h => kf h H locs ls hP hS hl)
theorem Z_icmp_gt (hk : zIs K own cc nL Ts ret rm) {x y : Int32} {off : Int} {tgt : Nat} (d : decode cc pc = .ok (.if_icmp .gt off, 3)) (ht : (pc : Int) + off = (tgt : Int)) (kt : y < x → Z K cs ss tgt lv st σ) (kf : ¬ y < x → Z K cs ss (pc + 3) lv st σ) : Z K cs ss pc lv (.int y :: .int x :: st) σ := fun H locs ls hP hS hl => lv_icmp_gt hk.exec hk.code d ht (fun h => kt h H locs ls hP hS hl) (fun h => kf h H locs ls hP hS hl)
theorem Z_icmp_le (hk : zIs K own cc nL Ts ret rm) {x y : Int32} {off : Int} {tgt : Nat} (d : decode cc pc = .ok (.if_icmp .le off, 3)) (ht : (pc : Int) + off = (tgt : Int)) (kt : x ≤ y → Z K cs ss tgt lv st σ) (kf : ¬ x ≤ y → Z K cs ss (pc + 3) lv st σ) : Z K cs ss pc lv (.int y :: .int x :: st) σ := fun H locs ls hP hS hl => lv_icmp_le hk.exec hk.code d ht (fun h => kt h H locs ls hP hS hl) (fun h => kf h H locs ls hP hS hl)
theorem Z_if_ne (hk : zIs K own cc nL Ts ret rm) {x : Int32} {off : Int} {tgt : Nat} (d : decode cc pc = .ok (.ifCond .ne off, 3)) (ht : (pc : Int) + off = (tgt : Int)) (kf : x = 0 → Z K cs ss (pc + 3) lv st σ) (kt : ¬ x = 0 → Z K cs ss tgt lv st σ) : Z K cs ss pc lv (.int x :: st) σ := fun H locs ls hP hS hl => lv_if_ne hk.exec hk.code d ht (fun h => kt h H locs ls hP hS hl) (fun h => kf h H locs ls hP hS hl)
theorem Z_icmp_ne (hk : zIs K own cc nL Ts ret rm) {x y : Int32} {off : Int} {tgt : Nat} (d : decode cc pc = .ok (.if_icmp .ne off, 3)) (ht : (pc : Int) + off = (tgt : Int)) (kf : x = y → Z K cs ss (pc + 3) lv st σ) (kt : ¬ x = y → Z K cs ss tgt lv st σ) : Z K cs ss pc lv (.int y :: .int x :: st) σ := fun H locs ls hP hS hl => lv_icmp_ne hk.exec hk.code d ht (fun h => kt h H locs ls hP hS hl) (fun h => kf h H locs ls hP hS hl)
theorem Z_sub (ks : List Nat) (hl' : lv_pick lv ks = lv') (kk : Z K cs ss pc lv' st σ) : Z K cs ss pc lv st σ := fun H locs ls hP hS hl => kk H locs ls hP hS (lv_sub hl ks hl')
theorem Z_eqI {x y : Int32} (h : x = y) (kk : Z K cs ss pc lv (.int y :: st) σ) : Z K cs ss pc lv (.int x :: st) σ := h ▸ kk
theorem Z_eqL {x y : Int64} (h : x = y) (kk : Z K cs ss pc lv (.long y :: st) σ) : Z K cs ss pc lv (.long x :: st) σ := h ▸ kk
theorem Z_eqS (h : σ = τ) (kk : Z K cs ss pc lv st τ) : Z K cs ss pc lv st σ := h ▸ kk
theorem Z_widen {cs' ss' : Nat} (h1 : cs ≤ cs') (h2 : ss ≤ ss') (kk : Z K cs' ss' pc lv st σ) : Z K cs ss pc lv st σ := fun H locs ls hP hS hl => W.widen h1 h2 (kk H locs ls hP hS hl)
-- fields: of an object at the place q
theorem Z_get (hk : zIs K own cc nL Ts ret rm) {C : String} {T : u_T} {N ci ix q : Nat} {fs : List Value} {v : Value} (hin : ∀ w ∈ u_ws C T N, w ∈ Ts) (hc : vwCl[ci]? = some (C, T, N)) (hq : q < eN (kZ K)) (hs : eS (kZ K) q σ = .inr (ci, fs)) (k : Nat) (hkN : k < N) (hw : Cond.fieldLink own ix (T k).1 (T k).2.1 (T k).2.2.1 ∈ Ts) (hv : fs[k]? = some v) (d : decode cc pc = .ok (.getfield ix, 3)) (kk : Z K cs ss (pc + 3) lv (v :: st) σ) : Z K cs ss pc lv (.ref (eA (kZ K) q) :: st) σ :=
  fun H locs ls hP hS hl => va_get hk.exec hk.code hk.wd hin hk.ow hk.cls hP q (by rw [wd_at hq, hs]) hc k hkN (hk.wd _ hw) (fun _ h => h) hv d (kk H locs ls hP hS hl)
theorem Z_getN (hk : zIs K own cc nL Ts ret rm) {C host : String} {T : u_T} {N ci ix q : Nat} {fs : List Value} {v : Value} (hin : ∀ w ∈ u_ws C T N, w ∈ Ts) (hc : vwCl[ci]? = some (C, T, N)) (hq : q < eN (kZ K)) (hs : eS (kZ K) q σ = .inr (ci, fs)) (k : Nat) (hkN : k < N) (hw : Cond.fieldLinkNest own ix (T k).1 (T k).2.1 (T k).2.2.1 host ∈ zNW) (hv : fs[k]? = some v) (d : decode cc pc = .ok (.getfield ix, 3)) (kk : Z K cs ss (pc + 3) lv (v :: st) σ) : Z K cs ss pc lv (.ref (eA (kZ K) q) :: st) σ :=
  fun H locs ls hP hS hl => va_getN hk.exec hk.code hk.wd hin hk.ow hk.cls hP q (by rw [wd_at hq, hs]) hc k hkN (va_Nw.use rfl (hk.nest hw)) (fun _ h => h) hv d (kk H locs ls hP hS hl)
theorem Z_put (hk : zIs K own cc nL Ts ret rm) {C : String} {T : u_T} {N ci ix q : Nat} {fs : List Value} {x : Int32} (hin : ∀ w ∈ u_ws C T N, w ∈ Ts) (ty0 : Nat → FieldType) (hty : ∀ k, k < N → parseFieldDescriptor (T k).2.2.1 = some (ty0 k)) (hnm : ∀ a, a < N → ∀ b, b < N → a ≠ b → (T a).2.1 ≠ (T b).2.1) (hc : vwCl[ci]? = some (C, T, N)) (hq : q < eN (kZ K)) (hs : eS (kZ K) q σ = .inr (ci, fs)) (k : Nat) (hkN : k < N) (hw : Cond.fieldLink own ix (T k).1 (T k).2.1 (T k).2.2.1 ∈ Ts) (hfin : (T k).2.2.2 = false) (hd : parseFieldDescriptor (T k).2.2.1 = some .int) (hl : k < fs.length) (hs' : eS (kZ K) q (sI σ q k x) = .inr (ci, fs.set k (.int x))) (d : decode cc pc = .ok (.putfield ix, 3)) (kk : Z K cs ss (pc + 3) lv st (sI σ q k x)) : Z K cs ss pc lv (.int x :: .ref (eA (kZ K) q) :: st) σ :=
  fun H locs ls hP hS hls => va_put hk.exec hk.code hk.wd hin ty0 hty hnm hk.ow hk.cls hP (wd_D hk.inj) hS q (by rw [wd_at hq, hs]) hc k hkN (hk.wd _ hw) (fun _ h => h) hfin hd rfl rfl hl d (fun H1 locs1 hP1 _ hS1 => kk H1 locs1 ls (by rw [wd_set hk.loc hs' sI_off] at hP1; exact hP1) hS1 hls)
theorem Z_putN (hk : zIs K own cc nL Ts ret rm) {C host : String} {T : u_T} {N ci ix q : Nat} {fs : List Value} {x : Int32} (hin : ∀ w ∈ u_ws C T N, w ∈ Ts) (ty0 : Nat → FieldType) (hty : ∀ k, k < N → parseFieldDescriptor (T k).2.2.1 = some (ty0 k)) (hnm : ∀ a, a < N → ∀ b, b < N → a ≠ b → (T a).2.1 ≠ (T b).2.1) (hc : vwCl[ci]? = some (C, T, N)) (hq : q < eN (kZ K)) (hs : eS (kZ K) q σ = .inr (ci, fs)) (k : Nat) (hkN : k < N) (hw : Cond.fieldLinkNest own ix (T k).1 (T k).2.1 (T k).2.2.1 host ∈ zNW) (hfin : (T k).2.2.2 = false) (hd : parseFieldDescriptor (T k).2.2.1 = some .int) (hl : k < fs.length) (hs' : eS (kZ K) q (sI σ q k x) = .inr (ci, fs.set k (.int x))) (d : decode cc pc = .ok (.putfield ix, 3)) (kk : Z K cs ss (pc + 3) lv st (sI σ q k x)) : Z K cs ss pc lv (.int x :: .ref (eA (kZ K) q) :: st) σ :=
  fun H locs ls hP hS hls => va_putN hk.exec hk.code hk.wd hin ty0 hty hnm hk.ow hk.cls hP (wd_D hk.inj) hS q (by rw [wd_at hq, hs]) hc k hkN (va_Nw.use rfl (hk.nest hw)) (fun _ h => h) hfin hd rfl rfl hl d (fun H1 locs1 hP1 _ hS1 => kk H1 locs1 ls (by rw [wd_set hk.loc hs' sI_off] at hP1; exact hP1) hS1 hls)
-- arrays at a place q
def aI (E : zE) (q n : Nat) : Prop := q < eN E ∧ ∀ σ, eS E q σ = .inl (eC E 0, n, .inl (σ.1 q))
def aJ (E : zE) (q n : Nat) : Prop := q < eN E ∧ ∀ σ, eS E q σ = .inl (eC E 1, n, .inr (.inl (σ.2 q)))
def aZ (E : zE) (q n : Nat) : Prop := q < eN E ∧ ∀ σ, eS E q σ = .inl (eC E 2, n, .inl (σ.1 q))
theorem Z_iald (hk : zIs K own cc nL Ts ret rm) {q n : Nat} {i : Int32} (ha : aI (kZ K) q n) (hin : vp_in i n) (d : decode cc pc = .ok (.iaload, 1)) (kk : Z K cs ss (pc + 1) lv (.int (gI σ q i.toNatClampNeg) :: st) σ) : Z K cs ss pc lv (.int i :: .ref (eA (kZ K) q) :: st) σ :=
  fun H locs ls hP hS hl => va_iald (f := σ.1 q) hk.exec hk.code hk.cls hP q 0 (by rw [wd_at ha.1, ha.2]) rfl hin d (kk H locs ls hP hS hl)
theorem Z_zald (hk : zIs K own cc nL Ts ret rm) {q n : Nat} {i : Int32} (ha : aZ (kZ K) q n) (hin : vp_in i n) (d : decode cc pc = .ok (.baload, 1)) (kk : Z K cs ss (pc + 1) lv (.int (gI σ q i.toNatClampNeg) :: st) σ) : Z K cs ss pc lv (.int i :: .ref (eA (kZ K) q) :: st) σ :=
  fun H locs ls hP hS hl => va_zald (f := σ.1 q) hk.exec hk.code hk.cls hP q 2 (by rw [wd_at ha.1, ha.2]) rfl hin d (kk H locs ls hP hS hl)
theorem Z_lald (hk : zIs K own cc nL Ts ret rm) {q n : Nat} {i : Int32} (ha : aJ (kZ K) q n) (hin : vp_in i n) (d : decode cc pc = .ok (.laload, 1)) (kk : Z K cs ss (pc + 1) lv (.long (gL σ q i.toNatClampNeg) :: st) σ) : Z K cs ss pc lv (.int i :: .ref (eA (kZ K) q) :: st) σ :=
  fun H locs ls hP hS hl => va_lald (f := σ.2 q) hk.exec hk.code hk.cls hP q 1 (by rw [wd_at ha.1, ha.2]) rfl hin d (kk H locs ls hP hS hl)
theorem Z_iast (hk : zIs K own cc nL Ts ret rm) {q n : Nat} {i x : Int32} (ha : aI (kZ K) q n) (hin : vp_in i n) (d : decode cc pc = .ok (.iastore, 1)) (kk : Z K cs ss (pc + 1) lv st (sI σ q i.toNatClampNeg x)) : Z K cs ss pc lv (.int x :: .int i :: .ref (eA (kZ K) q) :: st) σ :=
  fun H locs ls hP hS hl => va_iast hk.exec hk.code hk.cls hP (wd_D hk.inj) hS q 0 (by rw [wd_at ha.1, ha.2]) rfl hin d (fun H1 locs1 hP1 _ hS1 => kk H1 locs1 ls (by rw [wd_set hk.loc (τ := sI σ q i.toNatClampNeg x) (by rw [ha.2, sI_at]) sI_off] at hP1; exact hP1) hS1 hl)
theorem Z_zast (hk : zIs K own cc nL Ts ret rm) {q n : Nat} {i x : Int32} (ha : aZ (kZ K) q n) (hx : vp_nar .boolean x = x) (hin : vp_in i n) (d : decode cc pc = .ok (.bastore, 1)) (kk : Z K cs ss (pc + 1) lv st (sI σ q i.toNatClampNeg x)) : Z K cs ss pc lv (.int x :: .int i :: .ref (eA (kZ K) q) :: st) σ :=
  fun H locs ls hP hS hl => va_zast hk.exec hk.code hk.cls hP (wd_D hk.inj) hS q 2 (by rw [wd_at ha.1, ha.2]) rfl hin d (fun H1 locs1 hP1 _ hS1 => kk H1 locs1 ls (by rw [hx, wd_set hk.loc (τ := sI σ q i.toNatClampNeg x) (by rw [ha.2, sI_at]) sI_off] at hP1; exact hP1) hS1 hl)
theorem Z_last (hk : zIs K own cc nL Ts ret rm) {q n : Nat} {i : Int32} {x : Int64} (ha : aJ (kZ K) q n) (hin : vp_in i n) (d : decode cc pc = .ok (.lastore, 1)) (kk : Z K cs ss (pc + 1) lv st (sL σ q i.toNatClampNeg x)) : Z K cs ss pc lv (.long x :: .int i :: .ref (eA (kZ K) q) :: st) σ :=
  fun H locs ls hP hS hl => va_last hk.exec hk.code hk.cls hP (wd_D hk.inj) hS q 1 (by rw [wd_at ha.1, ha.2]) rfl hin d (fun H1 locs1 hP1 _ hS1 => kk H1 locs1 ls (by rw [wd_set hk.loc (τ := sL σ q i.toNatClampNeg x) (by rw [ha.2, sL_at]) sL_off] at hP1; exact hP1) hS1 hl)
theorem Z_ialen (hk : zIs K own cc nL Ts ret rm) {q n : Nat} (ha : aI (kZ K) q n) (d : decode cc pc = .ok (.arraylength, 1)) (kk : Z K cs ss (pc + 1) lv (.int (nI n) :: st) σ) : Z K cs ss pc lv (.ref (eA (kZ K) q) :: st) σ :=
  fun H locs ls hP hS hl => va_alen (x := (n, .inl (σ.1 q))) hk.exec hk.code hk.cls hP q 0 (by rw [wd_at ha.1, ha.2]) rfl rfl d (kk H locs ls hP hS hl)
theorem Z_lalen (hk : zIs K own cc nL Ts ret rm) {q n : Nat} (ha : aJ (kZ K) q n) (d : decode cc pc = .ok (.arraylength, 1)) (kk : Z K cs ss (pc + 1) lv (.int (nI n) :: st) σ) : Z K cs ss pc lv (.ref (eA (kZ K) q) :: st) σ :=
  fun H locs ls hP hS hl => va_alen (x := (n, .inr (.inl (σ.2 q)))) hk.exec hk.code hk.cls hP q 1 (by rw [wd_at ha.1, ha.2]) rfl rfl d (kk H locs ls hP hS hl)
theorem Z_gtab (hk : zIs K own cc nL Ts ret rm) {ix : Nat} (hw : Cond.fieldLink own ix "CanonCote$Arranging" "LOWEST_EDGE_BIT" "[I" ∈ Ts) (d : decode cc pc = .ok (.getstatic ix, 3)) (kk : ∀ t : Nat, va_T .int t 8 (fun j => .int (zTb j)) (kO K) (kS K) (kS K).heap → Z K cs ss (pc + 3) lv (.ref t :: st) σ) : Z K cs ss pc lv st σ := by
  obtain ⟨t, h1, h2⟩ := hk.env.2.1
  exact fun H locs ls hP hS hl => va_gets hk.exec hk.code h1 hS hk.ow (hk.wd _ hw) (fun _ h => h) d (kk t h2 H locs ls hP hS hl)
theorem Z_tld (hk : zIs K own cc nL Ts ret rm) {t : Nat} {i : Int32} (hT : va_T .int t 8 (fun j => .int (zTb j)) (kO K) (kS K) (kS K).heap) (hin : vp_in i 8) (d : decode cc pc = .ok (.iaload, 1)) (kk : Z K cs ss (pc + 1) lv (.int (zTb i.toNatClampNeg) :: st) σ) : Z K cs ss pc lv (.int i :: .ref t :: st) σ :=
  fun H locs ls hP hS hl => va_ti hk.exec hk.code hT hS hin rfl d (kk H locs ls hP hS hl)
theorem Z_mmin (hk : zIs K own cc nL Ts ret rm) {ix : Nat} {x y : Int32} (hw : Cond.methodLink own ix Lib.Math.min.name ∈ Ts ∧ Cond.static Lib.Math.min.name ∈ Ts ∧ Cond.initialized "java/lang/Math" ∈ Ts ∧ Cond.code Lib.Math.min.name Lib.Math.min.code 2 (some .int) ∈ Ts) (hR : 1 ≤ rm.frames ∧ 21 ≤ rm.locals) (hst : (st.map fun v => v.category).sum ≤ 8) (hcs : cs ≤ rm.cells ∧ ss ≤ rm.slots) (d : decode cc pc = .ok (.invokestatic ix, 3)) (kk : Z K cs ss (pc + 3) lv (.int (if y < x then y else x) :: st) σ) : Z K cs ss pc lv (.int y :: .int x :: st) σ :=
  fun H locs ls hP hS hl => va_mmin hk.exec hk.code hl.1.symm hk.ow (hk.wd _ hw.1) (hk.wd _ hw.2.1) (hk.wd _ hw.2.2.1) (hk.wd _ hw.2.2.2) (by rw [hk.room]; exact hR.1) (by rw [hk.room]; have := hR.2; omega) (by rw [hk.room]; exact hcs.1) (by rw [hk.room]; exact hcs.2) d (kk H locs ls hP hS hl)
-- ends
theorem Z_iret (hk : zIs K own cc nL Ts (some .int) rm) {x : Int32} (hq : zQ K (some (.int x)) σ) (d : decode cc pc = .ok (.ireturn, 1)) : Z K 0 0 pc lv [.int x] σ := by
  intro H locs ls hP hS hl
  unfold kW
  rw [hq]
  exact W.iret hk.exec hk.code hk.rt (fun t ht hW => ⟨rfl, by rw [ht]; exact hP, hS.F ht⟩) hS.2.2 d hk.nolock
theorem Z_zret (hk : zIs K own cc nL Ts (some .boolean) rm) {x : Int32} (hx : x = 0 ∨ x = 1) (hq : zQ K (some (.int x)) σ) (d : decode cc pc = .ok (.ireturn, 1)) : Z K 0 0 pc lv [.int x] σ := by
  intro H locs ls hP hS hl
  unfold kW
  rw [hq]
  exact W.zret hk.exec hk.code hk.rt (by rcases hx with rfl | rfl <;> rfl) (fun t ht hW => ⟨rfl, by rw [ht]; exact hP, hS.F ht⟩) hS.2.2 d hk.nolock
theorem Z_lret (hk : zIs K own cc nL Ts (some .long) rm) {x : Int64} (hq : zQ K (some (.long x)) σ) (d : decode cc pc = .ok (.lreturn, 1)) : Z K 0 0 pc lv [.long x] σ := by
  intro H locs ls hP hS hl
  unfold kW
  rw [hq]
  exact W.lret hk.exec hk.code hk.rt (fun t ht hW => ⟨rfl, by rw [ht]; exact hP, hS.F ht⟩) hS.2.2 d hk.nolock
theorem Z_vret (hk : zIs K own cc nL Ts none rm) (hq : zQ K none σ) (d : decode cc pc = .ok (.return_, 1)) : Z K 0 0 pc lv [] σ := by
  intro H locs ls hP hS hl
  unfold kW
  rw [hq]
  exact W.vret hk.exec hk.code hk.rt (fun t ht hW => ⟨rfl, by rw [ht]; exact hP, hS.F ht⟩) hS.2.2 d hk.nolock
-- calls
theorem Z_pre (hk : zIs K own cc nL Ts ret rm) {H : Heap} {locs : List Loc} (hP : va_P (eD (kZ K)) vwCl (wd (kZ K) σ) H) (hS : va_S (kO K) (kS K).heap H locs) (as : List Value) : ∀ U : State, U.heap = H → (kS K).WarmedH U.vm → zPc (kZ K) as σ H.size as.toArray U :=
  fun U hU hW => ⟨rfl, by rw [hU], by rw [hU]; exact hP, va_K.moved hW.alike hk.cls, EF.step hk.env (fun a h1 h2 => hS.2.1 a h1 h2) (OA_mono hS.1) hU hW⟩
theorem Z_go {H : Heap} {locs : List Loc} {ls : Array Slot} {rv : Option Value} {stk : List Value} (hr : va_Run (kP K) (kL K) (kE K) (kR K) (kS K) (kM K) (kA K) (kB K) (kH K) (kC K) H locs cs ss 0 0 (F0 (kM K) pc ls stk) st (zQc (kZ K) rv τ H.size (Array.empty)) (OA (kZ K) H.size)) (hS : va_S (kO K) (kS K).heap H locs) (hl : lv_has ls (kC K).maxLocals lv) (kk : Z K cs ss (pc + 3) lv (rv.toList ++ st) τ) : kW K H locs cs ss (F0 (kM K) pc ls stk) := by
  intro T hT X
  obtain ⟨v, st₀, t, T', L, h0, X', hL, e1, e2, ⟨hv, hp, hF⟩, stp⟩ := hr T hT X
  cases hv
  obtain ⟨-, -, hS'⟩ := vx_keep h0 e1 hS (A1 := OA (kZ K) H.size) (free := OA (kZ K) H.size) (fun q _ h => OA_mono hS.1 q h) (OA_mono hS.1) hL hF
  obtain ⟨t2, a1, b1⟩ := kk T'.heap (locs ++ L) ls (by rw [e1]; exact hp) hS' hl T' rfl X'
  exact ⟨t2, stp t2 a1, b1⟩
variable {y : MethodName} {wsc ws' : List Cond} {rmc : Room} {rv : Option Value} {bytes : ByteArray} {maxL ix q : Nat} {retc : Option FieldType} {stk : List Value}
theorem Z_recv (hk : zIs K own cc nL Ts ret rm) {C : String} {T : u_T} {N : Nat} (ci : Nat) {fs : List Value} (hq : q < eN (kZ K)) (hs : eS (kZ K) q σ = .inr (ci, fs)) (hc : vwCl[ci]? = some (C, T, N)) {H : Heap} (hP : va_P (eD (kZ K)) vwCl (wd (kZ K) σ) H) : ∃ cellB : Cell, H[eA (kZ K) q]? = some cellB ∧ cellB.vm.isStatics = false ∧ (kS K).vm.findClass C = some cellB.cls :=
  va_recv hk.cls hP hc (q0 := q) (by rw [wd_at hq, hs])
theorem Z_callV (n : Nat) (hk : zIs K own cc nL Ts ret rm) {C : String} {T : u_T} {N ci : Nat} {fs : List Value} (as : List Value) (hc : Ct (kL K) y wsc rmc (kZ K) (.ref (eA (kZ K) q) :: as) σ rv τ) (hT : GoodIn Ts (wsV own ix C y wsc)) (hw : wsc = Cond.code y bytes maxL retc :: ws') (h0 : rmc.cells = 0 ∧ rmc.slots = 0) (hd : y.cls = C ∧ y.cls ≠ "java/lang/invoke/MethodHandle" ∧ y.cls ≠ "java/lang/invoke/VarHandle" ∧ (parseMethodDescriptor y.desc).map (fun d => d.parameters.length) = some n) (hR : rmc.frames + 1 ≤ rm.frames ∧ 8 + (maxL + 11) + rmc.locals ≤ rm.locals)
    (hq : q < eN (kZ K)) (hs : eS (kZ K) q σ = .inr (ci, fs)) (hcl : vwCl[ci]? = some (C, T, N)) (hn : as.length = n) (hstk : stk = as.reverse ++ .ref (eA (kZ K) q) :: st) (hW : (st.map fun v => v.category).sum ≤ 8) (hcs : cs ≤ rm.cells ∧ ss ≤ rm.slots) (d : decode cc pc = .ok (.invokevirtual ix, 3)) (kk : Z K cs ss (pc + 3) lv (rv.toList ++ st) τ) : Z K cs ss pc lv stk σ := by
  intro H locs ls hP hS hl
  subst hstk
  exact Z_go (va_runV (As := as) (rest := st) ⟨hk.exec, hk.code, hk.maxl, hk.ow, hk.wd⟩ (hc H.size) (cwV n hk.wd hT hw h0.1 h0.2 hd (by rw [hk.room]; exact hR)) ⟨zPc_blind, Z_recv hk ci hq hs hcl hP, Z_pre hk hP hS _⟩ rfl hn (hl.1.trans hk.maxl) rfl (lv_room hW) d (by rw [hk.room]; exact hcs)) hS hl kk
theorem Z_callVN (n : Nat) (hk : zIs K own cc nL Ts ret rm) {C host : String} {T : u_T} {N ci : Nat} {fs : List Value} (as : List Value) (hc : Ct (kL K) y wsc rmc (kZ K) (.ref (eA (kZ K) q) :: as) σ rv τ) (hT : GoodIn Ts wsc) (hnw : Cond.methodLinkNest own ix y host ∈ zNW) (hw : wsc = Cond.code y bytes maxL retc :: ws') (h0 : rmc.cells = 0 ∧ rmc.slots = 0) (hi : Cond.initialized y.cls ∈ Ts ∧ Cond.instanceMethod y ∈ Ts ∧ Cond.selects C y y ∈ Ts) (hd : y.cls ≠ "java/lang/invoke/MethodHandle" ∧ y.cls ≠ "java/lang/invoke/VarHandle" ∧ (parseMethodDescriptor y.desc).map (fun d => d.parameters.length) = some n) (hR : rmc.frames + 1 ≤ rm.frames ∧ 8 + (maxL + 11) + rmc.locals ≤ rm.locals)
    (hq : q < eN (kZ K)) (hs : eS (kZ K) q σ = .inr (ci, fs)) (hcl : vwCl[ci]? = some (C, T, N)) (hn : as.length = n) (hstk : stk = as.reverse ++ .ref (eA (kZ K) q) :: st) (hW : (st.map fun v => v.category).sum ≤ 8) (hcs : cs ≤ rm.cells ∧ ss ≤ rm.slots) (d : decode cc pc = .ok (.invokevirtual ix, 3)) (kk : Z K cs ss (pc + 3) lv (rv.toList ++ st) τ) : Z K cs ss pc lv stk σ := by
  intro H locs ls hP hS hl
  subst hstk
  exact Z_go (va_runVN (As := as) (rest := st) ⟨hk.exec, hk.code, hk.maxl, hk.ow, hk.wd⟩ (hc H.size) ⟨va_cnB n hk.wd hT hw h0.1 h0.2 (hk.nest hnw) (hk.wd _ hi.1) hd (by rw [hk.room]; exact hR), hk.wd _ hi.2.1, hk.wd _ hi.2.2⟩ ⟨zPc_blind, Z_recv hk ci hq hs hcl hP, Z_pre hk hP hS _⟩ rfl hn (hl.1.trans hk.maxl) rfl (lv_room hW) d (by rw [hk.room]; exact hcs)) hS hl kk
theorem Z_callS (n : Nat) (hk : zIs K own cc nL Ts ret rm) (as : List Value) (hc : Ct (kL K) y wsc rmc (kZ K) as σ rv τ) (hT : GoodIn Ts (wsS own ix y wsc)) (hw : wsc = Cond.code y bytes maxL retc :: ws') (h0 : rmc.cells = 0 ∧ rmc.slots = 0) (hd : y.cls = own ∧ y.cls ≠ "java/lang/invoke/MethodHandle" ∧ y.cls ≠ "java/lang/invoke/VarHandle" ∧ (parseMethodDescriptor y.desc).map (fun d => d.parameters.length) = some n) (hR : rmc.frames + 1 ≤ rm.frames ∧ 8 + (maxL + 11) + rmc.locals ≤ rm.locals)
    (hn : as.length = n) (hstk : stk = as.reverse ++ st) (hW : (st.map fun v => v.category).sum ≤ 8) (hcs : cs ≤ rm.cells ∧ ss ≤ rm.slots) (d : decode cc pc = .ok (.invokestatic ix, 3)) (kk : Z K cs ss (pc + 3) lv (rv.toList ++ st) τ) : Z K cs ss pc lv stk σ := by
  intro H locs ls hP hS hl
  subst hstk
  exact Z_go (va_runS (As := as) (rest := st) ⟨hk.exec, hk.code, hk.maxl, hk.ow, hk.wd⟩ (hc H.size) (cwS n hk.wd hT hw h0.1 h0.2 hd (by rw [hk.room]; exact hR)) ⟨zPc_blind, Z_pre hk hP hS _⟩ rfl hn (hl.1.trans hk.maxl) rfl (lv_room hW) d (by rw [hk.room]; exact hcs)) hS hl kk
theorem Z_callSN (n : Nat) (hk : zIs K own cc nL Ts ret rm) {host : String} (as : List Value) (hc : Ct (kL K) y wsc rmc (kZ K) as σ rv τ) (hT : GoodIn Ts wsc) (hnw : Cond.methodLinkNest own ix y host ∈ zNW) (hw : wsc = Cond.code y bytes maxL retc :: ws') (h0 : rmc.cells = 0 ∧ rmc.slots = 0) (hi : Cond.initialized y.cls ∈ Ts ∧ Cond.static y ∈ Ts) (hd : y.cls ≠ "java/lang/invoke/MethodHandle" ∧ y.cls ≠ "java/lang/invoke/VarHandle" ∧ (parseMethodDescriptor y.desc).map (fun d => d.parameters.length) = some n) (hR : rmc.frames + 1 ≤ rm.frames ∧ 8 + (maxL + 11) + rmc.locals ≤ rm.locals)
    (hn : as.length = n) (hstk : stk = as.reverse ++ st) (hW : (st.map fun v => v.category).sum ≤ 8) (hcs : cs ≤ rm.cells ∧ ss ≤ rm.slots) (d : decode cc pc = .ok (.invokestatic ix, 3)) (kk : Z K cs ss (pc + 3) lv (rv.toList ++ st) τ) : Z K cs ss pc lv stk σ := by
  intro H locs ls hP hS hl
  subst hstk
  exact Z_go (va_runSN (As := as) (rest := st) ⟨hk.exec, hk.code, hk.maxl, hk.ow, hk.wd⟩ (hc H.size) ⟨va_cnB n hk.wd hT hw h0.1 h0.2 (hk.nest hnw) (hk.wd _ hi.1) hd (by rw [hk.room]; exact hR), hk.wd _ hi.2, trivial⟩ ⟨zPc_blind, Z_pre hk hP hS _⟩ rfl hn (hl.1.trans hk.maxl) rfl (lv_room hW) d (by rw [hk.room]; exact hcs)) hS hl kk
theorem Z_callT (n : Nat) (hk : zIs K own cc nL Ts ret rm) (as : List Value) (hc : Ct (kL K) y wsc rmc (kZ K) as σ rv τ) (hT : GoodIn Ts (va_wsS own ix y wsc)) (hw : wsc = Cond.code y bytes maxL retc :: ws') (h0 : rmc.cells = 0 ∧ rmc.slots = 0) (hd : y.cls ≠ "java/lang/invoke/MethodHandle" ∧ y.cls ≠ "java/lang/invoke/VarHandle" ∧ (parseMethodDescriptor y.desc).map (fun d => d.parameters.length) = some n) (hR : rmc.frames + 1 ≤ rm.frames ∧ 8 + (maxL + 11) + rmc.locals ≤ rm.locals)
    (hn : as.length = n) (hstk : stk = as.reverse ++ st) (hW : (st.map fun v => v.category).sum ≤ 8) (hcs : cs ≤ rm.cells ∧ ss ≤ rm.slots) (d : decode cc pc = .ok (.invokestatic ix, 3)) (kk : Z K cs ss (pc + 3) lv (rv.toList ++ st) τ) : Z K cs ss pc lv stk σ := by
  intro H locs ls hP hS hl
  subst hstk
  exact Z_go (va_runS (As := as) (rest := st) ⟨hk.exec, hk.code, hk.maxl, hk.ow, hk.wd⟩ (hc H.size) (va_cwS n hk.wd hT hw h0.1 h0.2 hd (by rw [hk.room]; exact hR)) ⟨zPc_blind, Z_pre hk hP hS _⟩ rfl hn (hl.1.trans hk.maxl) rfl (lv_room hW) d (by rw [hk.room]; exact hcs)) hS hl kk
end ZR1
/-! THE OBJECTS IN A WORLD: what stands at the place p and behind it -/
section ZL
def aG (E : zE) (q p n : Nat) : Prop := q < eN E ∧ ∀ σ, eS E q σ = .inl (eC E 3, n, .inr (.inr (.inr (.inr (fun k => some (eA E (p + 3 * k)))))))
def atGraph (E : zE) (p : Nat) : Prop := (p < eN E ∧ ∀ σ, eS E p σ = .inr (2, [.int (gI σ p 0), .ref (eA E (p + 1)), .ref (eA E (p + 2))])) ∧ aI E (p + 1) 8 ∧ aI E (p + 2) 8
theorem atGraph.cell {E : zE} {p : Nat} (h : atGraph E p) : (p < eN E ∧ ∀ σ, eS E p σ = .inr (2, [.int (gI σ p 0), .ref (eA E (p + 1)), .ref (eA E (p + 2))])) := h.1
theorem atGraph.near {E : zE} {p : Nat} (h : atGraph E p) : aI E (p + 1) 8 := h.2.1
theorem atGraph.colours {E : zE} {p : Nat} (h : atGraph E p) : aI E (p + 2) 8 := h.2.2
theorem atGraph.put_size {E : zE} {p : Nat} (h : atGraph E p) (σ : zST) (x : Int32) : eS E p (sI σ p 0 x) = .inr (2, ([.int (gI σ p 0), .ref (eA E (p + 1)), .ref (eA E (p + 2))] : List Value).set 0 (.int x)) := by rw [h.cell.2]; simp [gI, sI, upd]
def atRefinement (E : zE) (p : Nat) : Prop := (p < eN E ∧ ∀ σ, eS E p σ = .inr (5, [.int (gI σ p 0), .int (gI σ p 1), .ref (eA E (p + 1)), .ref (eA E (p + 2)), .ref (eA E (p + 3))])) ∧ aI E (p + 1) 8 ∧ aI E (p + 2) 8 ∧ aJ E (p + 3) 8
theorem atRefinement.cell {E : zE} {p : Nat} (h : atRefinement E p) : (p < eN E ∧ ∀ σ, eS E p σ = .inr (5, [.int (gI σ p 0), .int (gI σ p 1), .ref (eA E (p + 1)), .ref (eA E (p + 2)), .ref (eA E (p + 3))])) := h.1
theorem atRefinement.numbers {E : zE} {p : Nat} (h : atRefinement E p) : aI E (p + 1) 8 := h.2.1
theorem atRefinement.members {E : zE} {p : Nat} (h : atRefinement E p) : aI E (p + 2) 8 := h.2.2.1
theorem atRefinement.keys {E : zE} {p : Nat} (h : atRefinement E p) : aJ E (p + 3) 8 := h.2.2.2
theorem atRefinement.put_count {E : zE} {p : Nat} (h : atRefinement E p) (σ : zST) (x : Int32) : eS E p (sI σ p 0 x) = .inr (5, ([.int (gI σ p 0), .int (gI σ p 1), .ref (eA E (p + 1)), .ref (eA E (p + 2)), .ref (eA E (p + 3))] : List Value).set 0 (.int x)) := by rw [h.cell.2]; simp [gI, sI, upd]
theorem atRefinement.put_lastRound {E : zE} {p : Nat} (h : atRefinement E p) (σ : zST) (x : Int32) : eS E p (sI σ p 1 x) = .inr (5, ([.int (gI σ p 0), .int (gI σ p 1), .ref (eA E (p + 1)), .ref (eA E (p + 2)), .ref (eA E (p + 3))] : List Value).set 1 (.int x)) := by rw [h.cell.2]; simp [gI, sI, upd]
def atArranging (E : zE) (p : Nat) : Prop := (p < eN E ∧ ∀ σ, eS E p σ = .inr (0, [.int (gI σ p 0), .int (gI σ p 1), .int (gI σ p 2), .ref (eA E (p + 1)), .ref (eA E (p + 2)), .ref (eA E (p + 3)), .ref (eA E (p + 4))])) ∧ aI E (p + 1) 8 ∧ aI E (p + 2) 64 ∧ aI E (p + 3) 8 ∧ aI E (p + 4) 8
theorem atArranging.cell {E : zE} {p : Nat} (h : atArranging E p) : (p < eN E ∧ ∀ σ, eS E p σ = .inr (0, [.int (gI σ p 0), .int (gI σ p 1), .int (gI σ p 2), .ref (eA E (p + 1)), .ref (eA E (p + 2)), .ref (eA E (p + 3)), .ref (eA E (p + 4))])) := h.1
theorem atArranging.twins {E : zE} {p : Nat} (h : atArranging E p) : aI E (p + 1) 8 := h.2.1
theorem atArranging.cells {E : zE} {p : Nat} (h : atArranging E p) : aI E (p + 2) 64 := h.2.2.1
theorem atArranging.vertexAt {E : zE} {p : Nat} (h : atArranging E p) : aI E (p + 3) 8 := h.2.2.2.1
theorem atArranging.seenAt {E : zE} {p : Nat} (h : atArranging E p) : aI E (p + 4) 8 := h.2.2.2.2
theorem atArranging.put_leastEdges {E : zE} {p : Nat} (h : atArranging E p) (σ : zST) (x : Int32) : eS E p (sI σ p 0 x) = .inr (0, ([.int (gI σ p 0), .int (gI σ p 1), .int (gI σ p 2), .ref (eA E (p + 1)), .ref (eA E (p + 2)), .ref (eA E (p + 3)), .ref (eA E (p + 4))] : List Value).set 0 (.int x)) := by rw [h.cell.2]; simp [gI, sI, upd]
theorem atArranging.put_leastPlaces {E : zE} {p : Nat} (h : atArranging E p) (σ : zST) (x : Int32) : eS E p (sI σ p 1 x) = .inr (0, ([.int (gI σ p 0), .int (gI σ p 1), .int (gI σ p 2), .ref (eA E (p + 1)), .ref (eA E (p + 2)), .ref (eA E (p + 3)), .ref (eA E (p + 4))] : List Value).set 1 (.int x)) := by rw [h.cell.2]; simp [gI, sI, upd]
theorem atArranging.put_met {E : zE} {p : Nat} (h : atArranging E p) (σ : zST) (x : Int32) : eS E p (sI σ p 2 x) = .inr (0, ([.int (gI σ p 0), .int (gI σ p 1), .int (gI σ p 2), .ref (eA E (p + 1)), .ref (eA E (p + 2)), .ref (eA E (p + 3)), .ref (eA E (p + 4))] : List Value).set 2 (.int x)) := by rw [h.cell.2]; simp [gI, sI, upd]
def atChain (E : zE) (p : Nat) : Prop := (p < eN E ∧ ∀ σ, eS E p σ = .inr (1, [.int (gI σ p 0), .int (gI σ p 1), .int (gI σ p 2), .ref (eA E (p + 1)), .ref (eA E (p + 2)), .ref (eA E (p + 3))])) ∧ aI E (p + 1) 8 ∧ aJ E (p + 2) 28 ∧ aJ E (p + 3) 64
theorem atChain.cell {E : zE} {p : Nat} (h : atChain E p) : (p < eN E ∧ ∀ σ, eS E p σ = .inr (1, [.int (gI σ p 0), .int (gI σ p 1), .int (gI σ p 2), .ref (eA E (p + 1)), .ref (eA E (p + 2)), .ref (eA E (p + 3))])) := h.1
theorem atChain.base {E : zE} {p : Nat} (h : atChain E p) : aI E (p + 1) 8 := h.2.1
theorem atChain.kept {E : zE} {p : Nat} (h : atChain E p) : aJ E (p + 2) 28 := h.2.2.1
theorem atChain.back {E : zE} {p : Nat} (h : atChain E p) : aJ E (p + 3) 64 := h.2.2.2
theorem atChain.put_members {E : zE} {p : Nat} (h : atChain E p) (σ : zST) (x : Int32) : eS E p (sI σ p 0 x) = .inr (1, ([.int (gI σ p 0), .int (gI σ p 1), .int (gI σ p 2), .ref (eA E (p + 1)), .ref (eA E (p + 2)), .ref (eA E (p + 3))] : List Value).set 0 (.int x)) := by rw [h.cell.2]; simp [gI, sI, upd]
theorem atChain.put_keptCount {E : zE} {p : Nat} (h : atChain E p) (σ : zST) (x : Int32) : eS E p (sI σ p 1 x) = .inr (1, ([.int (gI σ p 0), .int (gI σ p 1), .int (gI σ p 2), .ref (eA E (p + 1)), .ref (eA E (p + 2)), .ref (eA E (p + 3))] : List Value).set 1 (.int x)) := by rw [h.cell.2]; simp [gI, sI, upd]
theorem atChain.put_closedCount {E : zE} {p : Nat} (h : atChain E p) (σ : zST) (x : Int32) : eS E p (sI σ p 2 x) = .inr (1, ([.int (gI σ p 0), .int (gI σ p 1), .int (gI σ p 2), .ref (eA E (p + 1)), .ref (eA E (p + 2)), .ref (eA E (p + 3))] : List Value).set 2 (.int x)) := by rw [h.cell.2]; simp [gI, sI, upd]
def atMapping (E : zE) (p : Nat) : Prop := (p < eN E ∧ ∀ σ, eS E p σ = .inr (4, [.ref (eA E (p + 1)), .ref (eA E (p + 2)), .ref (eA E (p + 6))])) ∧ aI E (p + 1) 8 ∧ atRefinement E (p + 2) ∧ atRefinement E (p + 6)
theorem atMapping.cell {E : zE} {p : Nat} (h : atMapping E p) : (p < eN E ∧ ∀ σ, eS E p σ = .inr (4, [.ref (eA E (p + 1)), .ref (eA E (p + 2)), .ref (eA E (p + 6))])) := h.1
theorem atMapping.images {E : zE} {p : Nat} (h : atMapping E p) : aI E (p + 1) 8 := h.2.1
theorem atMapping.classesHere {E : zE} {p : Nat} (h : atMapping E p) : atRefinement E (p + 2) := h.2.2.1
theorem atMapping.classesThere {E : zE} {p : Nat} (h : atMapping E p) : atRefinement E (p + 6) := h.2.2.2
def atGroup (E : zE) (p : Nat) : Prop := (p < eN E ∧ ∀ σ, eS E p σ = .inr (3, [.int (gI σ p 0), .ref (eA E (p + 1)), .ref (eA E (p + 2)), .ref (eA E (p + 6))])) ∧ aJ E (p + 1) 6 ∧ atChain E (p + 2) ∧ atChain E (p + 6)
theorem atGroup.cell {E : zE} {p : Nat} (h : atGroup E p) : (p < eN E ∧ ∀ σ, eS E p σ = .inr (3, [.int (gI σ p 0), .ref (eA E (p + 1)), .ref (eA E (p + 2)), .ref (eA E (p + 6))])) := h.1
theorem atGroup.generators {E : zE} {p : Nat} (h : atGroup E p) : aJ E (p + 1) 6 := h.2.1
theorem atGroup.chain {E : zE} {p : Nat} (h : atGroup E p) : atChain E (p + 2) := h.2.2.1
theorem atGroup.fixingChain {E : zE} {p : Nat} (h : atGroup E p) : atChain E (p + 6) := h.2.2.2
theorem atGroup.put_count {E : zE} {p : Nat} (h : atGroup E p) (σ : zST) (x : Int32) : eS E p (sI σ p 0 x) = .inr (3, ([.int (gI σ p 0), .ref (eA E (p + 1)), .ref (eA E (p + 2)), .ref (eA E (p + 6))] : List Value).set 0 (.int x)) := by rw [h.cell.2]; simp [gI, sI, upd]
def atCanonCote (E : zE) (p : Nat) : Prop := (p < eN E ∧ ∀ σ, eS E p σ = .inr (6, [.ref (eA E (p + 1)), .ref (eA E (p + 14)), .ref (eA E (p + 17)), .ref (eA E (p + 21)), .ref (eA E (p + 26)), .ref (eA E (p + 36))])) ∧ aG E (p + 1) (p + 2) 4 ∧ atGraph E (p + 14) ∧ atRefinement E (p + 17) ∧ atArranging E (p + 21) ∧ atMapping E (p + 26) ∧ atGroup E (p + 36) ∧ (∀ k : Nat, k < 4 → atGraph E (p + 2 + 3 * k))
theorem atCanonCote.cell {E : zE} {p : Nat} (h : atCanonCote E p) : (p < eN E ∧ ∀ σ, eS E p σ = .inr (6, [.ref (eA E (p + 1)), .ref (eA E (p + 14)), .ref (eA E (p + 17)), .ref (eA E (p + 21)), .ref (eA E (p + 26)), .ref (eA E (p + 36))])) := h.1
theorem atCanonCote.graphs {E : zE} {p : Nat} (h : atCanonCote E p) : aG E (p + 1) (p + 2) 4 := h.2.1
theorem atCanonCote.chosen {E : zE} {p : Nat} (h : atCanonCote E p) : atGraph E (p + 14) := h.2.2.1
theorem atCanonCote.refinement {E : zE} {p : Nat} (h : atCanonCote E p) : atRefinement E (p + 17) := h.2.2.2.1
theorem atCanonCote.arranging {E : zE} {p : Nat} (h : atCanonCote E p) : atArranging E (p + 21) := h.2.2.2.2.1
theorem atCanonCote.mapping {E : zE} {p : Nat} (h : atCanonCote E p) : atMapping E (p + 26) := h.2.2.2.2.2.1
theorem atCanonCote.group {E : zE} {p : Nat} (h : atCanonCote E p) : atGroup E (p + 36) := h.2.2.2.2.2.2.1
theorem atCanonCote.graph {E : zE} {p : Nat} (h : atCanonCote E p) : (∀ k : Nat, k < 4 → atGraph E (p + 2 + 3 * k)) := h.2.2.2.2.2.2.2
def atCanonCoteModel (E : zE) (p : Nat) : Prop := (p < eN E ∧ ∀ σ, eS E p σ = .inr (7, [.ref (eA E (p + 1)), .ref (eA E (p + 2)), .ref (eA E (p + 3)), .ref (eA E (p + 4)), .ref (eA E (p + 5)), .ref (eA E (p + 6)), .ref (eA E (p + 7)), .ref (eA E (p + 8)), .ref (eA E (p + 9)), .int (gI σ p 9), .ref (eA E (p + 10)), .int (gI σ p 11), .ref (eA E (p + 11)), .ref (eA E (p + 12)), .int (gI σ p 14), .ref (eA E (p + 13)), .int (gI σ p 16)])) ∧ aI E (p + 1) 4 ∧ aI E (p + 2) 32 ∧ aI E (p + 3) 32 ∧ aI E (p + 4) 8 ∧ aI E (p + 5) 8 ∧ aI E (p + 6) 8 ∧ aI E (p + 7) 8 ∧ aI E (p + 8) 8 ∧ aI E (p + 9) 8 ∧ aI E (p + 10) 48 ∧ aI E (p + 11) 40320 ∧ aZ E (p + 12) 40320 ∧ aI E (p + 13) 8
theorem atCanonCoteModel.cell {E : zE} {p : Nat} (h : atCanonCoteModel E p) : (p < eN E ∧ ∀ σ, eS E p σ = .inr (7, [.ref (eA E (p + 1)), .ref (eA E (p + 2)), .ref (eA E (p + 3)), .ref (eA E (p + 4)), .ref (eA E (p + 5)), .ref (eA E (p + 6)), .ref (eA E (p + 7)), .ref (eA E (p + 8)), .ref (eA E (p + 9)), .int (gI σ p 9), .ref (eA E (p + 10)), .int (gI σ p 11), .ref (eA E (p + 11)), .ref (eA E (p + 12)), .int (gI σ p 14), .ref (eA E (p + 13)), .int (gI σ p 16)])) := h.1
theorem atCanonCoteModel.sizes {E : zE} {p : Nat} (h : atCanonCoteModel E p) : aI E (p + 1) 4 := h.2.1
theorem atCanonCoteModel.sides {E : zE} {p : Nat} (h : atCanonCoteModel E p) : aI E (p + 2) 32 := h.2.2.1
theorem atCanonCoteModel.colours {E : zE} {p : Nat} (h : atCanonCoteModel E p) : aI E (p + 3) 32 := h.2.2.2.1
theorem atCanonCoteModel.map {E : zE} {p : Nat} (h : atCanonCoteModel E p) : aI E (p + 4) 8 := h.2.2.2.2.1
theorem atCanonCoteModel.chosen {E : zE} {p : Nat} (h : atCanonCoteModel E p) : aI E (p + 5) 8 := h.2.2.2.2.2.1
theorem atCanonCoteModel.best {E : zE} {p : Nat} (h : atCanonCoteModel E p) : aI E (p + 6) 8 := h.2.2.2.2.2.2.1
theorem atCanonCoteModel.old {E : zE} {p : Nat} (h : atCanonCoteModel E p) : aI E (p + 7) 8 := h.2.2.2.2.2.2.2.1
theorem atCanonCoteModel.anew {E : zE} {p : Nat} (h : atCanonCoteModel E p) : aI E (p + 8) 8 := h.2.2.2.2.2.2.2.2.1
theorem atCanonCoteModel.orbits {E : zE} {p : Nat} (h : atCanonCoteModel E p) : aI E (p + 9) 8 := h.2.2.2.2.2.2.2.2.2.1
theorem atCanonCoteModel.generators {E : zE} {p : Nat} (h : atCanonCoteModel E p) : aI E (p + 10) 48 := h.2.2.2.2.2.2.2.2.2.2.1
theorem atCanonCoteModel.found {E : zE} {p : Nat} (h : atCanonCoteModel E p) : aI E (p + 11) 40320 := h.2.2.2.2.2.2.2.2.2.2.2.1
theorem atCanonCoteModel.has {E : zE} {p : Nat} (h : atCanonCoteModel E p) : aZ E (p + 12) 40320 := h.2.2.2.2.2.2.2.2.2.2.2.2.1
theorem atCanonCoteModel.images {E : zE} {p : Nat} (h : atCanonCoteModel E p) : aI E (p + 13) 8 := h.2.2.2.2.2.2.2.2.2.2.2.2.2
theorem atCanonCoteModel.put_rounds {E : zE} {p : Nat} (h : atCanonCoteModel E p) (σ : zST) (x : Int32) : eS E p (sI σ p 9 x) = .inr (7, ([.ref (eA E (p + 1)), .ref (eA E (p + 2)), .ref (eA E (p + 3)), .ref (eA E (p + 4)), .ref (eA E (p + 5)), .ref (eA E (p + 6)), .ref (eA E (p + 7)), .ref (eA E (p + 8)), .ref (eA E (p + 9)), .int (gI σ p 9), .ref (eA E (p + 10)), .int (gI σ p 11), .ref (eA E (p + 11)), .ref (eA E (p + 12)), .int (gI σ p 14), .ref (eA E (p + 13)), .int (gI σ p 16)] : List Value).set 9 (.int x)) := by rw [h.cell.2]; simp [gI, sI, upd]
theorem atCanonCoteModel.put_generated {E : zE} {p : Nat} (h : atCanonCoteModel E p) (σ : zST) (x : Int32) : eS E p (sI σ p 11 x) = .inr (7, ([.ref (eA E (p + 1)), .ref (eA E (p + 2)), .ref (eA E (p + 3)), .ref (eA E (p + 4)), .ref (eA E (p + 5)), .ref (eA E (p + 6)), .ref (eA E (p + 7)), .ref (eA E (p + 8)), .ref (eA E (p + 9)), .int (gI σ p 9), .ref (eA E (p + 10)), .int (gI σ p 11), .ref (eA E (p + 11)), .ref (eA E (p + 12)), .int (gI σ p 14), .ref (eA E (p + 13)), .int (gI σ p 16)] : List Value).set 11 (.int x)) := by rw [h.cell.2]; simp [gI, sI, upd]
theorem atCanonCoteModel.put_order {E : zE} {p : Nat} (h : atCanonCoteModel E p) (σ : zST) (x : Int32) : eS E p (sI σ p 14 x) = .inr (7, ([.ref (eA E (p + 1)), .ref (eA E (p + 2)), .ref (eA E (p + 3)), .ref (eA E (p + 4)), .ref (eA E (p + 5)), .ref (eA E (p + 6)), .ref (eA E (p + 7)), .ref (eA E (p + 8)), .ref (eA E (p + 9)), .int (gI σ p 9), .ref (eA E (p + 10)), .int (gI σ p 11), .ref (eA E (p + 11)), .ref (eA E (p + 12)), .int (gI σ p 14), .ref (eA E (p + 13)), .int (gI σ p 16)] : List Value).set 14 (.int x)) := by rw [h.cell.2]; simp [gI, sI, upd]
theorem atCanonCoteModel.put_last {E : zE} {p : Nat} (h : atCanonCoteModel E p) (σ : zST) (x : Int32) : eS E p (sI σ p 16 x) = .inr (7, ([.ref (eA E (p + 1)), .ref (eA E (p + 2)), .ref (eA E (p + 3)), .ref (eA E (p + 4)), .ref (eA E (p + 5)), .ref (eA E (p + 6)), .ref (eA E (p + 7)), .ref (eA E (p + 8)), .ref (eA E (p + 9)), .int (gI σ p 9), .ref (eA E (p + 10)), .int (gI σ p 11), .ref (eA E (p + 11)), .ref (eA E (p + 12)), .int (gI σ p 14), .ref (eA E (p + 13)), .int (gI σ p 16)] : List Value).set 16 (.int x)) := by rw [h.cell.2]; simp [gI, sI, upd]
end ZL
theorem zc_bipush_6 : (Int8.ofInt 6).toInt32 = (6 : Int32) := by decide +kernel
theorem zc_bipush_7 : (Int8.ofInt 7).toInt32 = (7 : Int32) := by decide +kernel
theorem zc_bipush_8 : (Int8.ofInt 8).toInt32 = (8 : Int32) := by decide +kernel
theorem zc_bipush_15 : (Int8.ofInt 15).toInt32 = (15 : Int32) := by decide +kernel
theorem zc_bipush_16 : (Int8.ofInt 16).toInt32 = (16 : Int32) := by decide +kernel
theorem zc_bipush_27 : (Int8.ofInt 27).toInt32 = (27 : Int32) := by decide +kernel
theorem zc_bipush_28 : (Int8.ofInt 28).toInt32 = (28 : Int32) := by decide +kernel
theorem zc_bipush_32 : (Int8.ofInt 32).toInt32 = (32 : Int32) := by decide +kernel
theorem zc_bipush_52 : (Int8.ofInt 52).toInt32 = (52 : Int32) := by decide +kernel
theorem zc_bipush_63 : (Int8.ofInt 63).toInt32 = (63 : Int32) := by decide +kernel
theorem zc_bipush_64 : (Int8.ofInt 64).toInt32 = (64 : Int32) := by decide +kernel
theorem zc_iconst_m1 : Int32.ofInt (-1) = ((-1) : Int32) := by decide +kernel
theorem zc_iconst_0 : Int32.ofInt 0 = (0 : Int32) := by decide +kernel
theorem zc_iconst_1 : Int32.ofInt 1 = (1 : Int32) := by decide +kernel
theorem zc_iconst_2 : Int32.ofInt 2 = (2 : Int32) := by decide +kernel
theorem zc_iconst_3 : Int32.ofInt 3 = (3 : Int32) := by decide +kernel
theorem zc_iconst_4 : Int32.ofInt 4 = (4 : Int32) := by decide +kernel
theorem zc_iinc_m1 : Int32.ofInt (-1) = ((-1) : Int32) := by decide +kernel
theorem zc_iinc_1 : Int32.ofInt 1 = (1 : Int32) := by decide +kernel
theorem zc_sipush_255 : (Int16.ofInt 255).toInt32 = (255 : Int32) := by decide +kernel
theorem tok_TX2 : ∀ k, k < 3 → parseFieldDescriptor (TX2 k).2.2.1 = some (tyX2 k) := by decide +kernel
theorem tnm_TX2 : ∀ a, a < 3 → ∀ b, b < 3 → a ≠ b → (TX2 a).2.1 ≠ (TX2 b).2.1 := by decide +kernel
theorem tok_TX6 : ∀ k, k < 5 → parseFieldDescriptor (TX6 k).2.2.1 = some (tyX6 k) := by decide +kernel
theorem tnm_TX6 : ∀ a, a < 5 → ∀ b, b < 5 → a ≠ b → (TX6 a).2.1 ≠ (TX6 b).2.1 := by decide +kernel
theorem tok_TX0 : ∀ k, k < 7 → parseFieldDescriptor (TX0 k).2.2.1 = some (tyX0 k) := by decide +kernel
theorem tnm_TX0 : ∀ a, a < 7 → ∀ b, b < 7 → a ≠ b → (TX0 a).2.1 ≠ (TX0 b).2.1 := by decide +kernel
theorem tok_TX4 : ∀ k, k < 3 → parseFieldDescriptor (TX4 k).2.2.1 = some (tyX4 k) := by decide +kernel
theorem tnm_TX4 : ∀ a, a < 3 → ∀ b, b < 3 → a ≠ b → (TX4 a).2.1 ≠ (TX4 b).2.1 := by decide +kernel
theorem tok_TX1 : ∀ k, k < 6 → parseFieldDescriptor (TX1 k).2.2.1 = some (tyX1 k) := by decide +kernel
theorem tnm_TX1 : ∀ a, a < 6 → ∀ b, b < 6 → a ≠ b → (TX1 a).2.1 ≠ (TX1 b).2.1 := by decide +kernel
theorem tok_TX3 : ∀ k, k < 4 → parseFieldDescriptor (TX3 k).2.2.1 = some (tyX3 k) := by decide +kernel
theorem tnm_TX3 : ∀ a, a < 4 → ∀ b, b < 4 → a ≠ b → (TX3 a).2.1 ≠ (TX3 b).2.1 := by decide +kernel
theorem tok_TX7 : ∀ k, k < 6 → parseFieldDescriptor (TX7 k).2.2.1 = some (tyX7 k) := by decide +kernel
theorem tnm_TX7 : ∀ a, a < 6 → ∀ b, b < 6 → a ≠ b → (TX7 a).2.1 ≠ (TX7 b).2.1 := by decide +kernel
theorem tok_TX8 : ∀ k, k < 17 → parseFieldDescriptor (TX8 k).2.2.1 = some (tyX8 k) := by decide +kernel
theorem tnm_TX8 : ∀ a, a < 17 → ∀ b, b < 17 → a ≠ b → (TX8 a).2.1 ≠ (TX8 b).2.1 := by decide +kernel
theorem nw_0 : Cond.fieldLinkNest RX0 42 (TX2 0).1 (TX2 0).2.1 (TX2 0).2.2.1 "CanonCote" ∈ zNW := by decide +kernel
theorem nw_1 : Cond.methodLinkNest RX0 47 yX2_areTwins "CanonCote" ∈ zNW := by decide +kernel
theorem nw_2 : Cond.fieldLinkNest RX0 51 (TX2 2).1 (TX2 2).2.1 (TX2 2).2.2.1 "CanonCote" ∈ zNW := by decide +kernel
theorem nw_3 : Cond.fieldLinkNest RX0 72 (TX2 1).1 (TX2 1).2.1 (TX2 1).2.2.1 "CanonCote" ∈ zNW := by decide +kernel
theorem nw_4 : Cond.methodLinkNest RX0 65 yX7_below "CanonCote" ∈ zNW := by decide +kernel
theorem nw_5 : Cond.methodLinkNest RX1 41 yX7_isIn "CanonCote" ∈ zNW := by decide +kernel
theorem nw_6 : Cond.methodLinkNest RX1 68 yX5_imageOf "CanonCote" ∈ zNW := by decide +kernel
theorem nw_7 : Cond.methodLinkNest RX1 56 yX5_oneThenOther "CanonCote" ∈ zNW := by decide +kernel
theorem nw_8 : Cond.methodLinkNest RX1 72 yX5_inverse "CanonCote" ∈ zNW := by decide +kernel
theorem nw_9 : Cond.methodLinkNest RX2 28 yX7_isIn "CanonCote" ∈ zNW := by decide +kernel
theorem nw_10 : Cond.methodLinkNest RX2 32 yX7_below "CanonCote" ∈ zNW := by decide +kernel
theorem nw_11 : Cond.methodLinkNest RX3 32 yX1_restart "CanonCote" ∈ zNW := by decide +kernel
theorem nw_12 : Cond.methodLinkNest RX3 37 yX1_add "CanonCote" ∈ zNW := by decide +kernel
theorem nw_13 : Cond.methodLinkNest RX3 45 yX7_isIn "CanonCote" ∈ zNW := by decide +kernel
theorem nw_14 : Cond.methodLinkNest RX3 49 yX5_imageOf "CanonCote" ∈ zNW := by decide +kernel
theorem nw_15 : Cond.methodLinkNest RX3 63 yX1_countFrom "CanonCote" ∈ zNW := by decide +kernel
theorem nw_16 : Cond.fieldLinkNest RX3 54 (TX1 0).1 (TX1 0).2.1 (TX1 0).2.2.1 "CanonCote" ∈ zNW := by decide +kernel
theorem nw_17 : Cond.methodLinkNest RX6 64 yX7_isIn "CanonCote" ∈ zNW := by decide +kernel
theorem nw_18 : Cond.fieldLinkNest RX6 45 (TX2 1).1 (TX2 1).2.1 (TX2 1).2.2.1 "CanonCote" ∈ zNW := by decide +kernel
theorem nw_19 : Cond.fieldLinkNest RX6 22 (TX2 0).1 (TX2 0).2.1 (TX2 0).2.2.1 "CanonCote" ∈ zNW := by decide +kernel
theorem nw_20 : Cond.fieldLinkNest RX6 28 (TX2 2).1 (TX2 2).2.1 (TX2 2).2.2.1 "CanonCote" ∈ zNW := by decide +kernel
theorem nw_21 : Cond.fieldLinkNest RX4 47 (TX6 2).1 (TX6 2).2.1 (TX6 2).2.2.1 "CanonCote" ∈ zNW := by decide +kernel
theorem nw_22 : Cond.methodLinkNest RX4 50 yX2_hasEdge "CanonCote" ∈ zNW := by decide +kernel
theorem nw_23 : Cond.fieldLinkNest RX4 25 (TX2 0).1 (TX2 0).2.1 (TX2 0).2.2.1 "CanonCote" ∈ zNW := by decide +kernel
theorem nw_24 : Cond.methodLinkNest RX4 39 yX7_isIn "CanonCote" ∈ zNW := by decide +kernel
theorem nw_25 : Cond.methodLinkNest RX4 31 yX6_refine "CanonCote" ∈ zNW := by decide +kernel
theorem nw_26 : Cond.methodLinkNest RX7 120 yX0_search "CanonCote" ∈ zNW := by decide +kernel
theorem nw_27 : Cond.methodLinkNest RX7 206 yX0_leastCode "CanonCote" ∈ zNW := by decide +kernel
end
section
/-! THE MODELS: what each method computes on the store, made by program out of the bytecode -/
section
noncomputable def m_X2_areTwins_46 (F : Nat)  (σ : zST) : Option (Int32 × zST) := some (0, σ)
noncomputable def m_X2_areTwins (F : Nat) (a0 : Nat) (a1 : Int32) (a2 : Int32) (σ : zST) : Option (Int32 × zST) := nm ((jshl 1 a1) ||| (jshl 1 a2)) fun (x1 : Int32) => ldI σ (a0 + 2) 8 a1 fun (x3 : Int32) => ldI σ (a0 + 2) 8 a2 fun (x6 : Int32) => if x3 = x6 then (ldI σ (a0 + 1) 8 a1 fun (x10 : Int32) => ldI σ (a0 + 1) 8 a2 fun (x13 : Int32) => if x10 ||| x1 = x13 ||| x1 then (some (1, σ)) else (m_X2_areTwins_46 F σ)) else (m_X2_areTwins_46 F σ)
noncomputable def m_X0_findTwins_48 (F : Nat) (k2 : Nat → Nat → Int32 → zST → Option zST) (k19 : Nat → Nat → Int32 → Int32 → zST → Option zST) (a0 : Nat) (a1 : Nat) (a2 : Int32) (a3 : Int32) (σ : zST) : Option zST := nm (a3 + 1) fun (x18 : Int32) => k19 a0 a1 a2 x18 σ
noncomputable def m_X0_findTwins_19 (F : Nat) (k2 : Nat → Nat → Int32 → zST → Option zST) : Nat → Nat → Nat → Int32 → Int32 → zST → Option zST
  | 0 => fun _ _ _ _ _ => none
  | n + 1 => fun (a0 : Nat) (a1 : Nat) (a2 : Int32) (a3 : Int32) (σ : zST) => if gI σ a1 0 ≤ a3 then (nm (a2 + 1) fun (x6 : Int32) => k2 a0 a1 x6 σ) else (bd (m_X2_areTwins F a1 a2 a3 σ) fun (x8 : Int32) (s9 : zST) => if x8 = 0 then (m_X0_findTwins_48 F k2 (m_X0_findTwins_19 F k2 n) a0 a1 a2 a3 s9) else (ldI s9 (a0 + 1) 8 a2 fun (x12 : Int32) => stI s9 (a0 + 1) 8 a2 (x12 ||| (jshl 1 a3)) fun (s15 : zST) => m_X0_findTwins_48 F k2 (m_X0_findTwins_19 F k2 n) a0 a1 a2 a3 s15))
noncomputable def m_X0_findTwins_2 (F : Nat) : Nat → Nat → Nat → Int32 → zST → Option zST
  | 0 => fun _ _ _ _ => none
  | n + 1 => fun (a0 : Nat) (a1 : Nat) (a2 : Int32) (σ : zST) => if gI σ a1 0 ≤ a2 then (some σ) else (stI σ (a0 + 1) 8 a2 0 fun (s2 : zST) => m_X0_findTwins_19 F (m_X0_findTwins_2 F n) F a0 a1 a2 0 s2)
noncomputable def m_X0_findTwins (F : Nat) (a0 : Nat) (a1 : Nat) (σ : zST) : Option zST := m_X0_findTwins_2 F F a0 a1 0 σ
noncomputable def m_J6_bitCount_0f7a4 (F : Nat) (a0 : Int32) (σ : zST) : Option (Int32 × zST) := nm (a0 - ((jushr a0 1) &&& 1431655765)) fun (x1 : Int32) => nm ((x1 &&& 858993459) + ((jushr x1 2) &&& 858993459)) fun (x3 : Int32) => nm ((x3 + (jushr x3 4)) &&& 252645135) fun (x5 : Int32) => nm (x5 + (jushr x5 8)) fun (x7 : Int32) => nm (x7 + (jushr x7 16)) fun (x9 : Int32) => some (x9 &&& 63, σ)
noncomputable def m_X0_shareOutByColours_45 (F : Nat) (k4 : Nat → Nat → Int32 → Int32 → zST → Option zST) (k16 : Nat → Nat → Int32 → Int32 → Int32 → Int32 → zST → Option zST) (a0 : Nat) (a1 : Nat) (a2 : Int32) (a3 : Int32) (a4 : Int32) (a5 : Int32) (σ : zST) : Option zST := nm (a5 + 1) fun (x21 : Int32) => k16 a0 a1 a2 a3 a4 x21 σ
noncomputable def m_X0_shareOutByColours_86 (F : Nat) (k4 : Nat → Nat → Int32 → Int32 → zST → Option zST) (a0 : Nat) (a1 : Nat) (a2 : Int32) (a3 : Int32) (σ : zST) : Option zST := nm (a3 + 1) fun (x23 : Int32) => k4 a0 a1 a2 x23 σ
noncomputable def m_X0_shareOutByColours_60 (F : Nat) (k4 : Nat → Nat → Int32 → Int32 → zST → Option zST) : Nat → Nat → Nat → Int32 → Int32 → Int32 → Int32 → zST → Option zST
  | 0 => fun _ _ _ _ _ _ _ => none
  | n + 1 => fun (a0 : Nat) (a1 : Nat) (a2 : Int32) (a3 : Int32) (a4 : Int32) (a5 : Int32) (σ : zST) => if a5 ≤ a2 then (m_X0_shareOutByColours_86 F k4 a0 a1 a2 a3 σ) else (if 8 ≤ a2 then (m_X0_shareOutByColours_86 F k4 a0 a1 a2 a3 σ) else (stI σ (a0 + 2) 64 a2 a4 fun (s16 : zST) => nm (a2 + 1) fun (x19 : Int32) => (m_X0_shareOutByColours_60 F k4 n) a0 a1 x19 a3 a4 a5 s16))
noncomputable def m_X0_shareOutByColours_16 (F : Nat) (k4 : Nat → Nat → Int32 → Int32 → zST → Option zST) : Nat → Nat → Nat → Int32 → Int32 → Int32 → Int32 → zST → Option zST
  | 0 => fun _ _ _ _ _ _ _ => none
  | n + 1 => fun (a0 : Nat) (a1 : Nat) (a2 : Int32) (a3 : Int32) (a4 : Int32) (a5 : Int32) (σ : zST) => if gI σ a1 0 ≤ a5 then (bd (m_J6_bitCount_0f7a4 F a4 σ) fun (x3 : Int32) (s4 : zST) => nm (a2 + x3) fun (x6 : Int32) => m_X0_shareOutByColours_60 F k4 F a0 a1 a2 a3 a4 x6 s4) else (ldI σ (a1 + 2) 8 a5 fun (x8 : Int32) => if x8 = a3 then (nm (a4 ||| (jshl 1 a5)) fun (x12 : Int32) => m_X0_shareOutByColours_45 F k4 (m_X0_shareOutByColours_16 F k4 n) a0 a1 a2 a3 x12 a5 σ) else (m_X0_shareOutByColours_45 F k4 (m_X0_shareOutByColours_16 F k4 n) a0 a1 a2 a3 a4 a5 σ))
noncomputable def m_X0_shareOutByColours_4 (F : Nat) : Nat → Nat → Nat → Int32 → Int32 → zST → Option zST
  | 0 => fun _ _ _ _ _ => none
  | n + 1 => fun (a0 : Nat) (a1 : Nat) (a2 : Int32) (a3 : Int32) (σ : zST) => if 8 ≤ a3 then (some σ) else (m_X0_shareOutByColours_16 F (m_X0_shareOutByColours_4 F n) F a0 a1 a2 a3 0 0 σ)
noncomputable def m_X0_shareOutByColours (F : Nat) (a0 : Nat) (a1 : Nat) (σ : zST) : Option zST := m_X0_shareOutByColours_4 F F a0 a1 0 0 σ
noncomputable def m_J7_fill_53178_5 (F : Nat) (ln : Nat) : Nat → Nat → Int32 → Int32 → Int32 → zST → Option zST
  | 0 => fun _ _ _ _ _ => none
  | n + 1 => fun (a0 : Nat) (a1 : Int32) (a2 : Int32) (a3 : Int32) (σ : zST) => if a3 ≤ a2 then (some σ) else (stI σ a0 ln a2 a1 fun (s4 : zST) => nm (a2 + 1) fun (x7 : Int32) => (m_J7_fill_53178_5 F ln n) a0 a1 x7 a3 s4)
noncomputable def m_J7_fill_53178 (F : Nat) (ln : Nat) (a0 : Nat) (a1 : Int32) (σ : zST) : Option zST := nm (nI ln) fun (x1 : Int32) => m_J7_fill_53178_5 F ln F a0 a1 0 x1 σ
noncomputable def m_X0_shiftOf (F : Nat) (a0 : Int32) (σ : zST) : Option (Int32 × zST) := some (3 * (7 - a0), σ)
noncomputable def m_X0_meet_47 (F : Nat) : Nat → Nat → Int32 → Int32 → Int32 → zST → Option zST
  | 0 => fun _ _ _ _ _ => none
  | n + 1 => fun (a0 : Nat) (a1 : Int32) (a3 : Int32) (a4 : Int32) (σ : zST) => if a1 ≤ a4 then (nm (sI σ a0 1 (if a3 < gI σ a0 1 then a3 else gI σ a0 1)) fun (s14 : zST) => some s14) else (ldI σ (a0 + 3) 8 a4 fun (x16 : Int32) => ldI σ (a0 + 4) 8 a4 fun (x19 : Int32) => ldI σ (a0 + 1) 8 x16 fun (x22 : Int32) => stI σ (a0 + 4) 8 a4 (x19 ||| x22) fun (s25 : zST) => bd (m_X0_shiftOf F x16 s25) fun (x28 : Int32) (s29 : zST) => nm (a3 ||| (jshl a4 x28)) fun (x31 : Int32) => nm (a4 + 1) fun (x33 : Int32) => (m_X0_meet_47 F n) a0 a1 x31 x33 s29)
noncomputable def m_X0_meet_32 (F : Nat) (a0 : Nat) (a1 : Int32) (σ : zST) : Option zST := nm (sI σ a0 2 ((gI σ a0 2) + 1)) fun (s11 : zST) => m_X0_meet_47 F F a0 a1 0 0 s11
noncomputable def m_X0_meet (F : Nat) (a0 : Nat) (a1 : Int32) (a2 : Int32) (σ : zST) : Option zST := if gI σ a0 0 ≤ a2 then (m_X0_meet_32 F a0 a1 σ) else (nm (sI σ a0 0 a2) fun (s2 : zST) => nm (sI s2 a0 1 2147483647) fun (s4 : zST) => nm (sI s4 a0 2 0) fun (s6 : zST) => bv (m_J7_fill_53178 F 8 (a0 + 4) 0 s6) fun (s9 : zST) => m_X0_meet_32 F a0 a1 s9)
noncomputable def m_X0_splitCells_142 (F : Nat) (k22 : Nat → Nat → Int32 → Int32 → Int32 → Int32 → Int32 → Int32 → zST → Option (Int32 × zST)) (a0 : Nat) (a1 : Nat) (a3 : Int32) (a4 : Int32) (a5 : Int32) (a6 : Int32) (a7 : Int32) (a8 : Int32) (σ : zST) : Option (Int32 × zST) := nm (a8 + 1) fun (x34 : Int32) => k22 a0 a1 a3 a4 a5 a6 a7 x34 σ
noncomputable def m_X0_splitCells_64 (F : Nat) (k22 : Nat → Nat → Int32 → Int32 → Int32 → Int32 → Int32 → Int32 → zST → Option (Int32 × zST)) (a0 : Nat) (a1 : Nat) (a3 : Int32) (a4 : Int32) (a5 : Int32) (a6 : Int32) (a7 : Int32) (a8 : Int32) (a9 : Int32) (σ : zST) : Option (Int32 × zST) := ldI σ (a1 + 1) 8 a3 fun (x14 : Int32) => nm (a9 &&& (x14 ^^^ (-1))) fun (x17 : Int32) => bd (m_J6_bitCount_0f7a4 F x17 σ) fun (x19 : Int32) (s20 : zST) => if x19 ≤ a8 - a5 then (ldI s20 (a1 + 1) 8 a3 fun (x23 : Int32) => stI s20 (a0 + 2) 64 ((a4 + 8) + a8) (a9 &&& x23) fun (s26 : zST) => nm (a7 ||| (jshl 1 (7 - a8))) fun (x29 : Int32) => m_X0_splitCells_142 F k22 a0 a1 a3 a4 a5 a6 x29 a8 s26) else (stI s20 (a0 + 2) 64 ((a4 + 8) + a8) x17 fun (s31 : zST) => m_X0_splitCells_142 F k22 a0 a1 a3 a4 a5 a6 a7 a8 s31)
noncomputable def m_X0_splitCells_22 (F : Nat) : Nat → Nat → Nat → Int32 → Int32 → Int32 → Int32 → Int32 → Int32 → zST → Option (Int32 × zST)
  | 0 => fun _ _ _ _ _ _ _ _ _ => none
  | n + 1 => fun (a0 : Nat) (a1 : Nat) (a3 : Int32) (a4 : Int32) (a5 : Int32) (a6 : Int32) (a7 : Int32) (a8 : Int32) (σ : zST) => if gI σ a1 0 ≤ a8 then (some (a7, σ)) else (ldI σ (a0 + 2) 64 (a4 + a8) fun (x8 : Int32) => nm (x8 &&& ((jshl 1 a3) ^^^ (-1))) fun (x11 : Int32) => if x11 = a6 then (m_X0_splitCells_64 F (m_X0_splitCells_22 F n) a0 a1 a3 a4 a5 a6 a7 a8 x11 σ) else (m_X0_splitCells_64 F (m_X0_splitCells_22 F n) a0 a1 a3 a4 a8 x11 a7 a8 x11 σ))
noncomputable def m_X0_splitCells (F : Nat) (a0 : Nat) (a1 : Nat) (a2 : Int32) (a3 : Int32) (σ : zST) : Option (Int32 × zST) := nm (a2 * 8) fun (x1 : Int32) => nm (a2 + 1) fun (x3 : Int32) => nm (a2 + 1) fun (x5 : Int32) => m_X0_splitCells_22 F F a0 a1 a3 x1 x3 0 0 x5 σ
noncomputable def m_X7_below (F : Nat) (a0 : Int32) (σ : zST) : Option (Int32 × zST) := some ((jshl 1 a0) - 1, σ)
noncomputable def m_X0_arrange_14 (F : Nat) (rc : Nat → Nat → Int32 → Int32 → zST → Option zST) (a0 : Nat) (a1 : Nat) (a3 : Int32) (σ : zST) : Option zST := bv (m_X0_meet F a0 (gI σ a1 0) a3 σ) fun (s12 : zST) => some s12
noncomputable def m_X0_arrange_129 (F : Nat) (rc : Nat → Nat → Int32 → Int32 → zST → Option zST) (k47 : Nat → Nat → Int32 → Int32 → Int32 → Int32 → Int32 → zST → Option zST) (a0 : Nat) (a1 : Nat) (a2 : Int32) (a3 : Int32) (a4 : Int32) (a5 : Int32) (a6 : Int32) (σ : zST) : Option zST := nm (a6 + 1) fun (x34 : Int32) => k47 a0 a1 a2 a3 a4 a5 x34 σ
noncomputable def m_X0_arrange_47 (F : Nat) (rc : Nat → Nat → Int32 → Int32 → zST → Option zST) : Nat → Nat → Nat → Int32 → Int32 → Int32 → Int32 → Int32 → zST → Option zST
  | 0 => fun _ _ _ _ _ _ _ _ => none
  | n + 1 => fun (a0 : Nat) (a1 : Nat) (a2 : Int32) (a3 : Int32) (a4 : Int32) (a5 : Int32) (a6 : Int32) (σ : zST) => if gI σ a1 0 ≤ a6 then (some σ) else (ldI σ (a0 + 1) 8 a6 fun (x15 : Int32) => bd (m_X7_below F (a6 + 1) σ) fun (x18 : Int32) (s19 : zST) => if (a4 &&& x15) &&& x18 = jshl 1 a6 then (stI s19 (a0 + 3) 8 a2 a6 fun (s22 : zST) => bd (m_X0_splitCells F a0 a1 a2 a6 s22) fun (x25 : Int32) (s26 : zST) => nm (a3 ||| (jshl x25 a5)) fun (x28 : Int32) => if jshr (gI s26 a0 0) a5 < jshr x28 a5 then (m_X0_arrange_129 F rc (m_X0_arrange_47 F rc n) a0 a1 a2 a3 a4 a5 a6 s26) else (bv (rc a0 a1 (a2 + 1) x28 s26) fun (s32 : zST) => m_X0_arrange_129 F rc (m_X0_arrange_47 F rc n) a0 a1 a2 a3 a4 a5 a6 s32)) else (m_X0_arrange_129 F rc (m_X0_arrange_47 F rc n) a0 a1 a2 a3 a4 a5 a6 s19))
noncomputable def m_X0_arrange_0 (F : Nat) (rc : Nat → Nat → Int32 → Int32 → zST → Option zST) (a0 : Nat) (a1 : Nat) (a2 : Int32) (a3 : Int32) (σ : zST) : Option zST := if gI σ a1 0 ≤ a2 then (m_X0_arrange_14 F rc a0 a1 a3 σ) else (if a2 ≤ 7 then (ldI σ (a0 + 2) 64 ((a2 * 8) + a2) fun (x3 : Int32) => ldT zTb 8 a2 fun (x8 : Int32) => m_X0_arrange_47 F rc F a0 a1 a2 a3 x3 x8 0 σ) else (m_X0_arrange_14 F rc a0 a1 a3 σ))
noncomputable def m_X0_arrange (F : Nat) : Nat → Nat → Nat → Int32 → Int32 → zST → Option zST
  | 0 => fun _ _ _ _ _ => none
  | d + 1 => fun a0 a1 a2 a3 σ => m_X0_arrange_0 F (m_X0_arrange F d) a0 a1 a2 a3 σ
noncomputable def m_X0_search (F : Nat) (a0 : Nat) (a1 : Nat) (σ : zST) : Option zST := bv (m_X0_findTwins F a0 a1 σ) fun (s2 : zST) => bv (m_X0_shareOutByColours F a0 a1 s2) fun (s5 : zST) => nm (sI s5 a0 0 2147483647) fun (s7 : zST) => bv (m_X0_arrange F 9 a0 a1 0 0 s7) fun (s10 : zST) => some s10
noncomputable def m_X0_bestPlace (F : Nat) (a0 : Nat) (a1 : Int32) (σ : zST) : Option (Int32 × zST) := bd (m_X0_shiftOf F a1 σ) fun (x1 : Int32) (s2 : zST) => some ((jshr (gI σ a0 1) x1) &&& 7, s2)
noncomputable def m_X0_leastCode_18 (F : Nat) : Nat → Nat → Nat → Int64 → Int32 → zST → Option (Int64 × zST)
  | 0 => fun _ _ _ _ _ => none
  | n + 1 => fun (a0 : Nat) (a1 : Nat) (a2 : Int64) (a4 : Int32) (σ : zST) => if gI σ a1 0 ≤ a4 then (some (a2, σ)) else (bd (m_X0_bestPlace F a0 a4 σ) fun (x4 : Int32) (s5 : zST) => bd (m_X0_shiftOf F x4 s5) fun (x7 : Int32) (s8 : zST) => nm (28 + x7) fun (x10 : Int32) => ldI s8 (a1 + 2) 8 a4 fun (x12 : Int32) => nm (a2 ||| (jlshl (x12.toInt64) x10)) fun (x15 : Int64) => nm (a4 + 1) fun (x17 : Int32) => (m_X0_leastCode_18 F n) a0 a1 x15 x17 s8)
noncomputable def m_X0_leastCode (F : Nat) (a0 : Nat) (a1 : Nat) (σ : zST) : Option (Int64 × zST) := nm ((jlshl ((gI σ a1 0).toInt64) 52) ||| ((gI σ a0 0).toInt64)) fun (x1 : Int64) => m_X0_leastCode_18 F F a0 a1 x1 0 σ
noncomputable def m_X0_countBest_7 (F : Nat) : Nat → Nat → Int32 → Int32 → Int32 → zST → Option (Int32 × zST)
  | 0 => fun _ _ _ _ _ => none
  | n + 1 => fun (a0 : Nat) (a1 : Int32) (a2 : Int32) (a3 : Int32) (σ : zST) => if a1 ≤ a3 then (some (a2, σ)) else (ldI σ (a0 + 1) 8 a3 fun (x4 : Int32) => bd (m_X7_below F (a3 + 1) σ) fun (x7 : Int32) (s8 : zST) => bd (m_J6_bitCount_0f7a4 F (x4 &&& x7) s8) fun (x10 : Int32) (s11 : zST) => nm (a2 * x10) fun (x13 : Int32) => nm (a3 + 1) fun (x15 : Int32) => (m_X0_countBest_7 F n) a0 a1 x13 x15 s11)
noncomputable def m_X0_countBest (F : Nat) (a0 : Nat) (a1 : Int32) (σ : zST) : Option (Int32 × zST) := nm (gI σ a0 2) fun (x1 : Int32) => m_X0_countBest_7 F F a0 a1 x1 0 σ
noncomputable def m_X0_exchangeable (F : Nat) (a0 : Nat) (a1 : Int32) (σ : zST) : Option (Int32 × zST) := bd (m_X0_bestPlace F a0 a1 σ) fun (x1 : Int32) (s2 : zST) => ldI s2 (a0 + 4) 8 x1 fun (x4 : Int32) => some (x4, s2)
noncomputable def m_J7_fill_d0a16_6 (F : Nat) (ln : Nat) : Nat → Nat → Int64 → Int32 → Int32 → zST → Option zST
  | 0 => fun _ _ _ _ _ => none
  | n + 1 => fun (a0 : Nat) (a1 : Int64) (a3 : Int32) (a4 : Int32) (σ : zST) => if a4 ≤ a3 then (some σ) else (stL σ a0 ln a3 a1 fun (s4 : zST) => nm (a3 + 1) fun (x7 : Int32) => (m_J7_fill_d0a16_6 F ln n) a0 a1 x7 a4 s4)
noncomputable def m_J7_fill_d0a16 (F : Nat) (ln : Nat) (a0 : Nat) (a1 : Int64) (σ : zST) : Option zST := nm (nI ln) fun (x1 : Int32) => m_J7_fill_d0a16_6 F ln F a0 a1 0 x1 σ
noncomputable def m_X7_isIn (F : Nat) (a0 : Int32) (a1 : Int32) (σ : zST) : Option (Int32 × zST) := if (jshr a0 a1) &&& 1 = 0 then (some (0, σ)) else (some (1, σ))
noncomputable def m_X1_restart_55 (F : Nat) (k28 : Nat → Int32 → Int32 → Int32 → Int32 → zST → Option zST) (a0 : Nat) (a1 : Int32) (a2 : Int32) (a3 : Int32) (a4 : Int32) (t0 : Int32) (σ : zST) : Option zST := stI σ (a0 + 1) 8 t0 a4 fun (s22 : zST) => stL s22 (a0 + 3) 64 ((t0 * 8) + a4) 1985229328 fun (s25 : zST) => nm (a4 + 1) fun (x28 : Int32) => k28 a0 a1 a2 a3 x28 s25
noncomputable def m_X1_restart_28 (F : Nat) : Nat → Nat → Int32 → Int32 → Int32 → Int32 → zST → Option zST
  | 0 => fun _ _ _ _ _ _ => none
  | n + 1 => fun (a0 : Nat) (a1 : Int32) (a2 : Int32) (a3 : Int32) (a4 : Int32) (σ : zST) => if 8 ≤ a4 then (nm (sI σ a0 0 1) fun (s12 : zST) => some s12) else (bd (m_X7_isIn F a1 a4 σ) fun (x14 : Int32) (s15 : zST) => if x14 = 0 then (nm (a3 + 1) fun (x18 : Int32) => m_X1_restart_55 F (m_X1_restart_28 F n) a0 a1 a2 x18 a4 a3 s15) else (nm (a2 + 1) fun (x20 : Int32) => m_X1_restart_55 F (m_X1_restart_28 F n) a0 a1 x20 a3 a4 a2 s15))
noncomputable def m_X1_restart (F : Nat) (a0 : Nat) (a1 : Int32) (σ : zST) : Option zST := nm (sI σ a0 1 0) fun (s1 : zST) => nm (sI s1 a0 2 0) fun (s3 : zST) => bv (m_J7_fill_d0a16 F 64 (a0 + 3) 0 s3) fun (s6 : zST) => bd (m_J6_bitCount_0f7a4 F a1 s6) fun (x8 : Int32) (s9 : zST) => m_X1_restart_28 F F a0 a1 0 x8 0 s9
noncomputable def m_X5_imageOf (F : Nat) (a0 : Int64) (a2 : Int32) (σ : zST) : Option (Int32 × zST) := some (((jlshr a0 (4 * a2)).toInt32) &&& 7, σ)
noncomputable def m_X5_carrying (F : Nat) (a0 : Int32) (a1 : Int32) (σ : zST) : Option (Int64 × zST) := some (jlshl (a1.toInt64) (4 * a0), σ)
noncomputable def m_X5_oneThenOther_6 (F : Nat) : Nat → Int64 → Int64 → Int64 → Int32 → zST → Option (Int64 × zST)
  | 0 => fun _ _ _ _ _ => none
  | n + 1 => fun (a0 : Int64) (a2 : Int64) (a4 : Int64) (a6 : Int32) (σ : zST) => if 8 ≤ a6 then (some (a4, σ)) else (bd (m_X5_imageOf F a0 a6 σ) fun (x2 : Int32) (s3 : zST) => bd (m_X5_imageOf F a2 x2 s3) fun (x5 : Int32) (s6 : zST) => bd (m_X5_carrying F a6 x5 s6) fun (x8 : Int64) (s9 : zST) => nm (a4 ||| x8) fun (x11 : Int64) => nm (a6 + 1) fun (x13 : Int32) => (m_X5_oneThenOther_6 F n) a0 a2 x11 x13 s9)
noncomputable def m_X5_oneThenOther (F : Nat) (a0 : Int64) (a2 : Int64) (σ : zST) : Option (Int64 × zST) := m_X5_oneThenOther_6 F F a0 a2 0 0 σ
noncomputable def m_X1_restOf_68 (F : Nat) (k5 : Nat → Int64 → Int32 → zST → Option (Int64 × zST)) (a0 : Nat) (a3 : Int64) (a5 : Int32) (σ : zST) : Option (Int64 × zST) := nm (a5 + 1) fun (x19 : Int32) => k5 a0 a3 x19 σ
noncomputable def m_X1_restOf_5 (F : Nat) : Nat → Nat → Int64 → Int32 → zST → Option (Int64 × zST)
  | 0 => fun _ _ _ _ => none
  | n + 1 => fun (a0 : Nat) (a3 : Int64) (a5 : Int32) (σ : zST) => if 8 ≤ a5 then (some (a3, σ)) else (ldI σ (a0 + 1) 8 a5 fun (x2 : Int32) => bd (m_X5_imageOf F a3 x2 σ) fun (x5 : Int32) (s6 : zST) => ldL s6 (a0 + 3) 64 ((a5 * 8) + x5) fun (x8 : Int64) => if lg_cmp x8 0 = 0 then (some (a3, s6)) else (ldI s6 (a0 + 1) 8 a5 fun (x12 : Int32) => if x5 = x12 then (m_X1_restOf_68 F (m_X1_restOf_5 F n) a0 a3 a5 s6) else (bd (m_X5_oneThenOther F a3 x8 s6) fun (x16 : Int64) (s17 : zST) => m_X1_restOf_68 F (m_X1_restOf_5 F n) a0 x16 a5 s17)))
noncomputable def m_X1_restOf (F : Nat) (a0 : Nat) (a1 : Int64) (σ : zST) : Option (Int64 × zST) := m_X1_restOf_5 F F a0 a1 0 σ
noncomputable def m_X1_firstMoved_2 (F : Nat) : Nat → Nat → Int64 → Int32 → zST → Option (Int32 × zST)
  | 0 => fun _ _ _ _ => none
  | n + 1 => fun (a0 : Nat) (a1 : Int64) (a3 : Int32) (σ : zST) => if 8 ≤ a3 then (some (7, σ)) else (ldI σ (a0 + 1) 8 a3 fun (x2 : Int32) => bd (m_X5_imageOf F a1 x2 σ) fun (x5 : Int32) (s6 : zST) => ldI s6 (a0 + 1) 8 a3 fun (x8 : Int32) => if x5 = x8 then (nm (a3 + 1) fun (x12 : Int32) => (m_X1_firstMoved_2 F n) a0 a1 x12 s6) else (some (a3, s6)))
noncomputable def m_X1_firstMoved (F : Nat) (a0 : Nat) (a1 : Int64) (σ : zST) : Option (Int32 × zST) := m_X1_firstMoved_2 F F a0 a1 0 σ
noncomputable def m_X5_inverse_5 (F : Nat) : Nat → Int64 → Int64 → Int32 → zST → Option (Int64 × zST)
  | 0 => fun _ _ _ _ => none
  | n + 1 => fun (a0 : Int64) (a2 : Int64) (a4 : Int32) (σ : zST) => if 8 ≤ a4 then (some (a2, σ)) else (bd (m_X5_imageOf F a0 a4 σ) fun (x2 : Int32) (s3 : zST) => bd (m_X5_carrying F x2 a4 s3) fun (x5 : Int64) (s6 : zST) => nm (a2 ||| x5) fun (x8 : Int64) => nm (a4 + 1) fun (x10 : Int32) => (m_X5_inverse_5 F n) a0 x8 x10 s6)
noncomputable def m_X5_inverse (F : Nat) (a0 : Int64) (σ : zST) : Option (Int64 × zST) := m_X5_inverse_5 F F a0 0 0 σ
noncomputable def m_X1_countFrom_43 (F : Nat) (k4 : Nat → Int32 → Int32 → zST → Option (Int32 × zST)) (k16 : Nat → Int32 → Int32 → Int32 → Int32 → zST → Option (Int32 × zST)) (a0 : Nat) (a2 : Int32) (a3 : Int32) (a4 : Int32) (a5 : Int32) (σ : zST) : Option (Int32 × zST) := nm (a5 + 1) fun (x13 : Int32) => k16 a0 a2 a3 a4 x13 σ
noncomputable def m_X1_countFrom_16 (F : Nat) (k4 : Nat → Int32 → Int32 → zST → Option (Int32 × zST)) : Nat → Nat → Int32 → Int32 → Int32 → Int32 → zST → Option (Int32 × zST)
  | 0 => fun _ _ _ _ _ _ => none
  | n + 1 => fun (a0 : Nat) (a2 : Int32) (a3 : Int32) (a4 : Int32) (a5 : Int32) (σ : zST) => if 8 ≤ a5 then (nm (a2 * a4) fun (x3 : Int32) => nm (a3 + 1) fun (x5 : Int32) => k4 a0 x3 x5 σ) else (ldL σ (a0 + 3) 64 ((a3 * 8) + a5) fun (x7 : Int64) => if lg_cmp x7 0 = 0 then (m_X1_countFrom_43 F k4 (m_X1_countFrom_16 F k4 n) a0 a2 a3 a4 a5 σ) else (nm (a4 + 1) fun (x11 : Int32) => m_X1_countFrom_43 F k4 (m_X1_countFrom_16 F k4 n) a0 a2 a3 x11 a5 σ))
noncomputable def m_X1_countFrom_4 (F : Nat) : Nat → Nat → Int32 → Int32 → zST → Option (Int32 × zST)
  | 0 => fun _ _ _ _ => none
  | n + 1 => fun (a0 : Nat) (a2 : Int32) (a3 : Int32) (σ : zST) => if 8 ≤ a3 then (some (a2, σ)) else (m_X1_countFrom_16 F (m_X1_countFrom_4 F n) F a0 a2 a3 0 0 σ)
noncomputable def m_X1_countFrom (F : Nat) (a0 : Nat) (a1 : Int32) (σ : zST) : Option (Int32 × zST) := m_X1_countFrom_4 F F a0 1 a1 σ
noncomputable def m_X1_keep (F : Nat) (a0 : Nat) (a1 : Int64) (σ : zST) : Option zST := bd (m_X1_restOf F a0 a1 σ) fun (x1 : Int64) (s2 : zST) => if lg_cmp x1 1985229328 = 0 then (some s2) else (if gI s2 a0 1 < 28 then (stL s2 (a0 + 2) 28 (gI s2 a0 1) x1 fun (s6 : zST) => nm (sI s6 a0 1 ((gI s6 a0 1) + 1)) fun (s9 : zST) => bd (m_X1_firstMoved F a0 x1 s9) fun (x11 : Int32) (s12 : zST) => ldI s12 (a0 + 1) 8 x11 fun (x14 : Int32) => bd (m_X5_imageOf F x1 x14 s12) fun (x17 : Int32) (s18 : zST) => bd (m_X5_inverse F x1 s18) fun (x20 : Int64) (s21 : zST) => stL s21 (a0 + 3) 64 ((x11 * 8) + x17) x20 fun (s23 : zST) => bd (m_X1_countFrom F a0 0 s23) fun (x26 : Int32) (s27 : zST) => nm (sI s27 a0 0 x26) fun (s29 : zST) => some s29) else (some s2))
noncomputable def m_X1_add_93 (F : Nat) (k11 : Nat → Int32 → Int32 → zST → Option zST) (a0 : Nat) (a3 : Int32) (a4 : Int32) (σ : zST) : Option zST := nm (a4 + 1) fun (x38 : Int32) => k11 a0 a3 x38 σ
noncomputable def m_X1_add_30 (F : Nat) (k11 : Nat → Int32 → Int32 → zST → Option zST) : Nat → Nat → Int32 → Int32 → Int32 → zST → Option zST
  | 0 => fun _ _ _ _ _ => none
  | n + 1 => fun (a0 : Nat) (a3 : Int32) (a4 : Int32) (a5 : Int32) (σ : zST) => if a4 < a5 then (m_X1_add_93 F k11 a0 a3 a4 σ) else (if a3 ≤ gI σ a0 0 then (m_X1_add_93 F k11 a0 a3 a4 σ) else (ldL σ (a0 + 2) 28 a4 fun (x12 : Int64) => ldL σ (a0 + 2) 28 a5 fun (x15 : Int64) => bd (m_X5_oneThenOther F x12 x15 σ) fun (x18 : Int64) (s19 : zST) => bv (m_X1_keep F a0 x18 s19) fun (s22 : zST) => ldL s22 (a0 + 2) 28 a5 fun (x24 : Int64) => ldL s22 (a0 + 2) 28 a4 fun (x27 : Int64) => bd (m_X5_oneThenOther F x24 x27 s22) fun (x30 : Int64) (s31 : zST) => bv (m_X1_keep F a0 x30 s31) fun (s34 : zST) => nm (a5 + 1) fun (x36 : Int32) => (m_X1_add_30 F k11 n) a0 a3 a4 x36 s34))
noncomputable def m_X1_add_99 (F : Nat) (a0 : Nat) (σ : zST) : Option zST := nm (sI σ a0 2 (gI σ a0 1)) fun (s8 : zST) => some s8
noncomputable def m_X1_add_11 (F : Nat) : Nat → Nat → Int32 → Int32 → zST → Option zST
  | 0 => fun _ _ _ _ => none
  | n + 1 => fun (a0 : Nat) (a3 : Int32) (a4 : Int32) (σ : zST) => if gI σ a0 1 ≤ a4 then (m_X1_add_99 F a0 σ) else (if 28 ≤ a4 then (m_X1_add_99 F a0 σ) else (m_X1_add_30 F (m_X1_add_11 F n) F a0 a3 a4 0 σ))
noncomputable def m_X1_add (F : Nat) (a0 : Nat) (a1 : Int64) (a3 : Int32) (σ : zST) : Option zST := bv (m_X1_keep F a0 a1 σ) fun (s2 : zST) => nm (gI s2 a0 2) fun (x4 : Int32) => m_X1_add_11 F F a0 a3 x4 s2
noncomputable def m_X1_holds (F : Nat) (a0 : Nat) (a1 : Int64) (σ : zST) : Option (Int32 × zST) := bd (m_X1_restOf F a0 a1 σ) fun (x1 : Int64) (s2 : zST) => if lg_cmp x1 1985229328 = 0 then (some (1, s2)) else (some (0, s2))
noncomputable def m_X2_clear (F : Nat) (a0 : Nat) (a1 : Int32) (σ : zST) : Option zST := nm (sI σ a0 0 a1) fun (s1 : zST) => bv (m_J7_fill_53178 F 8 (a0 + 1) 0 s1) fun (s4 : zST) => bv (m_J7_fill_53178 F 8 (a0 + 2) 0 s4) fun (s7 : zST) => some s7
noncomputable def m_X2_hasEdge (F : Nat) (a0 : Nat) (a1 : Int32) (a2 : Int32) (σ : zST) : Option (Int32 × zST) := ldI σ (a0 + 1) 8 a1 fun (x1 : Int32) => bd (m_X7_isIn F x1 a2 σ) fun (x4 : Int32) (s5 : zST) => gd (x4 = 0 ∨ x4 = 1) (some (x4, s5))
noncomputable def m_X2_flipEdge (F : Nat) (a0 : Nat) (a1 : Int32) (a2 : Int32) (σ : zST) : Option zST := ldI σ (a0 + 1) 8 a1 fun (x1 : Int32) => stI σ (a0 + 1) 8 a1 (x1 ^^^ (jshl 1 a2)) fun (s4 : zST) => ldI s4 (a0 + 1) 8 a2 fun (x7 : Int32) => stI s4 (a0 + 1) 8 a2 (x7 ^^^ (jshl 1 a1)) fun (s10 : zST) => some s10
noncomputable def m_X2_exchange_108 (F : Nat) (k57 : Nat → Int32 → Int32 → Int32 → zST → Option zST) (a0 : Nat) (a1 : Int32) (a2 : Int32) (a5 : Int32) (σ : zST) : Option zST := nm (a5 + 1) fun (x45 : Int32) => k57 a0 a1 a2 x45 σ
noncomputable def m_X2_exchange_57 (F : Nat) : Nat → Nat → Int32 → Int32 → Int32 → zST → Option zST
  | 0 => fun _ _ _ _ _ => none
  | n + 1 => fun (a0 : Nat) (a1 : Int32) (a2 : Int32) (a5 : Int32) (σ : zST) => if gI σ a0 0 ≤ a5 then (some σ) else (ldI σ (a0 + 1) 8 a5 fun (x26 : Int32) => bd (m_X7_isIn F x26 a1 σ) fun (x29 : Int32) (s30 : zST) => ldI s30 (a0 + 1) 8 a5 fun (x32 : Int32) => bd (m_X7_isIn F x32 a2 s30) fun (x35 : Int32) (s36 : zST) => if x29 = x35 then (m_X2_exchange_108 F (m_X2_exchange_57 F n) a0 a1 a2 a5 s36) else (ldI s36 (a0 + 1) 8 a5 fun (x39 : Int32) => stI s36 (a0 + 1) 8 a5 (x39 ^^^ ((jshl 1 a1) ||| (jshl 1 a2))) fun (s42 : zST) => m_X2_exchange_108 F (m_X2_exchange_57 F n) a0 a1 a2 a5 s42))
noncomputable def m_X2_exchange (F : Nat) (a0 : Nat) (a1 : Int32) (a2 : Int32) (σ : zST) : Option zST := ldI σ (a0 + 2) 8 a1 fun (x1 : Int32) => ldI σ (a0 + 2) 8 a2 fun (x4 : Int32) => stI σ (a0 + 2) 8 a1 x4 fun (s7 : zST) => stI s7 (a0 + 2) 8 a2 x1 fun (s10 : zST) => ldI s10 (a0 + 1) 8 a1 fun (x13 : Int32) => ldI s10 (a0 + 1) 8 a2 fun (x16 : Int32) => stI s10 (a0 + 1) 8 a1 x16 fun (s19 : zST) => stI s19 (a0 + 1) 8 a2 x13 fun (s22 : zST) => m_X2_exchange_57 F F a0 a1 a2 0 s22
noncomputable def m_X2_become_10 (F : Nat) : Nat → Nat → Nat → Int32 → zST → Option zST
  | 0 => fun _ _ _ _ => none
  | n + 1 => fun (a0 : Nat) (a1 : Nat) (a2 : Int32) (σ : zST) => if 8 ≤ a2 then (some σ) else (ldI σ (a1 + 1) 8 a2 fun (x4 : Int32) => stI σ (a0 + 1) 8 a2 x4 fun (s7 : zST) => ldI s7 (a1 + 2) 8 a2 fun (x10 : Int32) => stI s7 (a0 + 2) 8 a2 x10 fun (s13 : zST) => nm (a2 + 1) fun (x16 : Int32) => (m_X2_become_10 F n) a0 a1 x16 s13)
noncomputable def m_X2_become (F : Nat) (a0 : Nat) (a1 : Nat) (σ : zST) : Option zST := nm (sI σ a0 0 (gI σ a1 0)) fun (s1 : zST) => m_X2_become_10 F F a0 a1 0 s1
noncomputable def m_X2_invertEdges_2 (F : Nat) : Nat → Nat → Int32 → zST → Option zST
  | 0 => fun _ _ _ => none
  | n + 1 => fun (a0 : Nat) (a1 : Int32) (σ : zST) => if gI σ a0 0 ≤ a1 then (some σ) else (ldI σ (a0 + 1) 8 a1 fun (x2 : Int32) => bd (m_X7_below F (gI σ a0 0) σ) fun (x5 : Int32) (s6 : zST) => stI s6 (a0 + 1) 8 a1 (x2 ^^^ (x5 &&& ((jshl 1 a1) ^^^ (-1)))) fun (s8 : zST) => nm (a1 + 1) fun (x11 : Int32) => (m_X2_invertEdges_2 F n) a0 x11 s8)
noncomputable def m_X2_invertEdges (F : Nat) (a0 : Nat) (σ : zST) : Option zST := m_X2_invertEdges_2 F F a0 0 σ
noncomputable def m_X2_countEdges_4 (F : Nat) : Nat → Nat → Int32 → Int32 → zST → Option (Int32 × zST)
  | 0 => fun _ _ _ _ => none
  | n + 1 => fun (a0 : Nat) (a1 : Int32) (a2 : Int32) (σ : zST) => if gI σ a0 0 ≤ a2 then (some (a1 / 2, σ)) else (ldI σ (a0 + 1) 8 a2 fun (x2 : Int32) => bd (m_J6_bitCount_0f7a4 F x2 σ) fun (x5 : Int32) (s6 : zST) => nm (a1 + x5) fun (x8 : Int32) => nm (a2 + 1) fun (x10 : Int32) => (m_X2_countEdges_4 F n) a0 x8 x10 s6)
noncomputable def m_X2_countEdges (F : Nat) (a0 : Nat) (σ : zST) : Option (Int32 × zST) := m_X2_countEdges_4 F F a0 0 0 σ
noncomputable def m_X2_squeeze_37 (F : Nat) (k7 : Int32 → Int32 → Int32 → Int32 → Int32 → zST → Option (Int32 × zST)) (a0 : Int32) (a1 : Int32) (a2 : Int32) (a3 : Int32) (a4 : Int32) (σ : zST) : Option (Int32 × zST) := nm (a4 + 1) fun (x10 : Int32) => k7 a0 a1 a2 a3 x10 σ
noncomputable def m_X2_squeeze_7 (F : Nat) : Nat → Int32 → Int32 → Int32 → Int32 → Int32 → zST → Option (Int32 × zST)
  | 0 => fun _ _ _ _ _ _ => none
  | n + 1 => fun (a0 : Int32) (a1 : Int32) (a2 : Int32) (a3 : Int32) (a4 : Int32) (σ : zST) => if 8 ≤ a4 then (some (a2, σ)) else (bd (m_X7_isIn F a1 a4 σ) fun (x2 : Int32) (s3 : zST) => if x2 = 0 then (m_X2_squeeze_37 F (m_X2_squeeze_7 F n) a0 a1 a2 a3 a4 s3) else (nm (a2 ||| (jshl ((jshr a0 a4) &&& 1) a3)) fun (x6 : Int32) => nm (a3 + 1) fun (x8 : Int32) => m_X2_squeeze_37 F (m_X2_squeeze_7 F n) a0 a1 x6 x8 a4 s3))
noncomputable def m_X2_squeeze (F : Nat) (a0 : Int32) (a1 : Int32) (σ : zST) : Option (Int32 × zST) := m_X2_squeeze_7 F F a0 a1 0 0 0 σ
noncomputable def m_X2_becomePart_67 (F : Nat) (k7 : Nat → Nat → Int32 → Int32 → zST → Option zST) (a0 : Nat) (a1 : Nat) (a2 : Int32) (a3 : Int32) (σ : zST) : Option zST := nm (a3 + 1) fun (x25 : Int32) => k7 a0 a1 a2 x25 σ
noncomputable def m_X2_becomePart_7 (F : Nat) : Nat → Nat → Nat → Int32 → Int32 → zST → Option zST
  | 0 => fun _ _ _ _ _ => none
  | n + 1 => fun (a0 : Nat) (a1 : Nat) (a2 : Int32) (a3 : Int32) (σ : zST) => if gI σ a1 0 ≤ a3 then (some σ) else (bd (m_X7_isIn F a2 a3 σ) fun (x4 : Int32) (s5 : zST) => if x4 = 0 then (m_X2_becomePart_67 F (m_X2_becomePart_7 F n) a0 a1 a2 a3 s5) else (ldI s5 (a1 + 2) 8 a3 fun (x8 : Int32) => stI s5 (a0 + 2) 8 (gI s5 a0 0) x8 fun (s11 : zST) => ldI s11 (a1 + 1) 8 a3 fun (x14 : Int32) => bd (m_X2_squeeze F x14 a2 s11) fun (x17 : Int32) (s18 : zST) => stI s18 (a0 + 1) 8 (gI s11 a0 0) x17 fun (s20 : zST) => nm (sI s20 a0 0 ((gI s20 a0 0) + 1)) fun (s23 : zST) => m_X2_becomePart_67 F (m_X2_becomePart_7 F n) a0 a1 a2 a3 s23))
noncomputable def m_X2_becomePart (F : Nat) (a0 : Nat) (a1 : Nat) (a2 : Int32) (σ : zST) : Option zST := nm (sI σ a0 0 0) fun (s1 : zST) => m_X2_becomePart_7 F F a0 a1 a2 0 s1
noncomputable def m_X3_clear (F : Nat) (a0 : Nat) (σ : zST) : Option zST := nm (sI σ a0 0 0) fun (s1 : zST) => bv (m_X1_restart F (a0 + 2) 0 s1) fun (s4 : zST) => some s4
noncomputable def m_X3_add (F : Nat) (a0 : Nat) (a1 : Int64) (σ : zST) : Option zST := if 6 ≤ gI σ a0 0 then (some σ) else (stL σ (a0 + 1) 6 (gI σ a0 0) a1 fun (s2 : zST) => nm (sI s2 a0 0 ((gI s2 a0 0) + 1)) fun (s5 : zST) => bv (m_X1_add F (a0 + 2) a1 40320 s5) fun (s8 : zST) => some s8)
noncomputable def m_X3_imagesOf_32 (F : Nat) (k5 : Int64 → Int32 → Int32 → Int32 → zST → Option (Int32 × zST)) (a0 : Int64) (a2 : Int32) (a3 : Int32) (a4 : Int32) (σ : zST) : Option (Int32 × zST) := nm (a4 + 1) fun (x11 : Int32) => k5 a0 a2 a3 x11 σ
noncomputable def m_X3_imagesOf_5 (F : Nat) : Nat → Int64 → Int32 → Int32 → Int32 → zST → Option (Int32 × zST)
  | 0 => fun _ _ _ _ _ => none
  | n + 1 => fun (a0 : Int64) (a2 : Int32) (a3 : Int32) (a4 : Int32) (σ : zST) => if 8 ≤ a4 then (some (a3, σ)) else (bd (m_X7_isIn F a2 a4 σ) fun (x2 : Int32) (s3 : zST) => if x2 = 0 then (m_X3_imagesOf_32 F (m_X3_imagesOf_5 F n) a0 a2 a3 a4 s3) else (bd (m_X5_imageOf F a0 a4 s3) fun (x6 : Int32) (s7 : zST) => nm (a3 ||| (jshl 1 x6)) fun (x9 : Int32) => m_X3_imagesOf_32 F (m_X3_imagesOf_5 F n) a0 a2 x9 a4 s7))
noncomputable def m_X3_imagesOf (F : Nat) (a0 : Int64) (a2 : Int32) (σ : zST) : Option (Int32 × zST) := m_X3_imagesOf_5 F F a0 a2 0 0 σ
noncomputable def m_X3_reach_15 (F : Nat) (k6 : Nat → Int32 → Int32 → zST → Option (Int32 × zST)) : Nat → Nat → Int32 → Int32 → Int32 → zST → Option (Int32 × zST)
  | 0 => fun _ _ _ _ _ => none
  | n + 1 => fun (a0 : Nat) (a2 : Int32) (a3 : Int32) (a4 : Int32) (σ : zST) => if gI σ a0 0 ≤ a4 then (nm (a3 + 1) fun (x5 : Int32) => k6 a0 a2 x5 σ) else (ldL σ (a0 + 1) 6 a4 fun (x7 : Int64) => bd (m_X3_imagesOf F x7 a2 σ) fun (x10 : Int32) (s11 : zST) => nm (a2 ||| x10) fun (x13 : Int32) => nm (a4 + 1) fun (x15 : Int32) => (m_X3_reach_15 F k6 n) a0 x13 a3 x15 s11)
noncomputable def m_X3_reach_6 (F : Nat) : Nat → Nat → Int32 → Int32 → zST → Option (Int32 × zST)
  | 0 => fun _ _ _ _ => none
  | n + 1 => fun (a0 : Nat) (a2 : Int32) (a3 : Int32) (σ : zST) => if 8 ≤ a3 then (some (a2, σ)) else (m_X3_reach_15 F (m_X3_reach_6 F n) F a0 a2 a3 0 σ)
noncomputable def m_X3_reach (F : Nat) (a0 : Nat) (a1 : Int32) (σ : zST) : Option (Int32 × zST) := nm (jshl 1 a1) fun (x1 : Int32) => m_X3_reach_6 F F a0 x1 1 σ
noncomputable def m_X3_countFixing_10 (F : Nat) : Nat → Nat → Int32 → Int32 → zST → Option (Int32 × zST)
  | 0 => fun _ _ _ _ => none
  | n + 1 => fun (a0 : Nat) (a1 : Int32) (a2 : Int32) (σ : zST) => if gI σ a0 0 ≤ a2 then (bd (m_J6_bitCount_0f7a4 F a1 σ) fun (x5 : Int32) (s6 : zST) => bd (m_X1_countFrom F (a0 + 6) x5 s6) fun (x8 : Int32) (s9 : zST) => some (x8, s9)) else (ldL σ (a0 + 1) 6 a2 fun (x11 : Int64) => bv (m_X1_add F (a0 + 6) x11 (gI σ (a0 + 2) 0) σ) fun (s15 : zST) => nm (a2 + 1) fun (x17 : Int32) => (m_X3_countFixing_10 F n) a0 a1 x17 s15)
noncomputable def m_X3_countFixing (F : Nat) (a0 : Nat) (a1 : Int32) (σ : zST) : Option (Int32 × zST) := bv (m_X1_restart F (a0 + 6) a1 σ) fun (s2 : zST) => m_X3_countFixing_10 F F a0 a1 0 s2
noncomputable def m_X6_isFirstOfKey_2 (F : Nat) : Nat → Nat → Int32 → Int32 → zST → Option (Int32 × zST)
  | 0 => fun _ _ _ _ => none
  | n + 1 => fun (a0 : Nat) (a1 : Int32) (a2 : Int32) (σ : zST) => if a1 ≤ a2 then (some (1, σ)) else (ldL σ (a0 + 3) 8 a2 fun (x2 : Int64) => ldL σ (a0 + 3) 8 a1 fun (x5 : Int64) => if lg_cmp x2 x5 = 0 then (some (0, σ)) else (nm (a2 + 1) fun (x9 : Int32) => (m_X6_isFirstOfKey_2 F n) a0 a1 x9 σ))
noncomputable def m_X6_isFirstOfKey (F : Nat) (a0 : Nat) (a1 : Int32) (σ : zST) : Option (Int32 × zST) := m_X6_isFirstOfKey_2 F F a0 a1 0 σ
noncomputable def m_X6_numberByKeys_23 (F : Nat) (k4 : Nat → Int32 → Int32 → Int32 → zST → Option zST) (a0 : Nat) (a1 : Int32) (a2 : Int32) (a3 : Int32) (σ : zST) : Option zST := nm (a3 + 1) fun (x17 : Int32) => k4 a0 a1 a2 x17 σ
noncomputable def m_X6_numberByKeys_93 (F : Nat) (k47 : Nat → Int32 → Int32 → Int32 → zST → Option zST) (k58 : Nat → Int32 → Int32 → Int32 → Int32 → Int32 → zST → Option zST) (a0 : Nat) (a1 : Int32) (a2 : Int32) (a3 : Int32) (a4 : Int32) (a5 : Int32) (σ : zST) : Option zST := nm (a5 + 1) fun (x44 : Int32) => k58 a0 a1 a2 a3 a4 x44 σ
noncomputable def m_X6_numberByKeys_58 (F : Nat) (k47 : Nat → Int32 → Int32 → Int32 → zST → Option zST) : Nat → Nat → Int32 → Int32 → Int32 → Int32 → Int32 → zST → Option zST
  | 0 => fun _ _ _ _ _ _ _ => none
  | n + 1 => fun (a0 : Nat) (a1 : Int32) (a2 : Int32) (a3 : Int32) (a4 : Int32) (a5 : Int32) (σ : zST) => if a1 ≤ a5 then (stI σ (a0 + 1) 8 a3 a4 fun (s20 : zST) => ldI s20 (a0 + 2) 8 a4 fun (x23 : Int32) => stI s20 (a0 + 2) 8 a4 (x23 ||| (jshl 1 a3)) fun (s26 : zST) => nm (a3 + 1) fun (x29 : Int32) => k47 a0 a1 a2 x29 s26) else (bd (m_X7_isIn F a2 a5 σ) fun (x31 : Int32) (s32 : zST) => if x31 = 0 then (m_X6_numberByKeys_93 F k47 (m_X6_numberByKeys_58 F k47 n) a0 a1 a2 a3 a4 a5 s32) else (ldL s32 (a0 + 3) 8 a5 fun (x35 : Int64) => ldL s32 (a0 + 3) 8 a3 fun (x38 : Int64) => if 0 ≤ lg_cmp x35 x38 then (m_X6_numberByKeys_93 F k47 (m_X6_numberByKeys_58 F k47 n) a0 a1 a2 a3 a4 a5 s32) else (nm (a4 + 1) fun (x42 : Int32) => m_X6_numberByKeys_93 F k47 (m_X6_numberByKeys_58 F k47 n) a0 a1 a2 a3 x42 a5 s32)))
noncomputable def m_X6_numberByKeys_47 (F : Nat) : Nat → Nat → Int32 → Int32 → Int32 → zST → Option zST
  | 0 => fun _ _ _ _ _ => none
  | n + 1 => fun (a0 : Nat) (a1 : Int32) (a2 : Int32) (a3 : Int32) (σ : zST) => if a1 ≤ a3 then (some σ) else (m_X6_numberByKeys_58 F (m_X6_numberByKeys_47 F n) F a0 a1 a2 a3 0 0 σ)
noncomputable def m_X6_numberByKeys_4 (F : Nat) : Nat → Nat → Int32 → Int32 → Int32 → zST → Option zST
  | 0 => fun _ _ _ _ _ => none
  | n + 1 => fun (a0 : Nat) (a1 : Int32) (a2 : Int32) (a3 : Int32) (σ : zST) => if a1 ≤ a3 then (bd (m_J6_bitCount_0f7a4 F a2 σ) fun (x2 : Int32) (s3 : zST) => nm (sI s3 a0 0 x2) fun (s5 : zST) => bv (m_J7_fill_53178 F 8 (a0 + 2) 0 s5) fun (s8 : zST) => m_X6_numberByKeys_47 F F a0 a1 a2 0 s8) else (bd (m_X6_isFirstOfKey F a0 a3 σ) fun (x10 : Int32) (s11 : zST) => if x10 = 0 then (m_X6_numberByKeys_23 F (m_X6_numberByKeys_4 F n) a0 a1 a2 a3 s11) else (nm (a2 ||| (jshl 1 a3)) fun (x14 : Int32) => m_X6_numberByKeys_23 F (m_X6_numberByKeys_4 F n) a0 a1 x14 a3 s11))
noncomputable def m_X6_numberByKeys (F : Nat) (a0 : Nat) (a1 : Int32) (σ : zST) : Option zST := m_X6_numberByKeys_4 F F a0 a1 0 0 σ
noncomputable def m_X6_keyOf_11 (F : Nat) : Nat → Nat → Nat → Int32 → Int64 → Int32 → zST → Option (Int64 × zST)
  | 0 => fun _ _ _ _ _ _ => none
  | n + 1 => fun (a0 : Nat) (a1 : Nat) (a2 : Int32) (a3 : Int64) (a5 : Int32) (σ : zST) => if 8 ≤ a5 then (some (a3, σ)) else (ldI σ (a1 + 1) 8 a2 fun (x7 : Int32) => ldI σ (a0 + 2) 8 a5 fun (x10 : Int32) => bd (m_J6_bitCount_0f7a4 F (x7 &&& x10) σ) fun (x13 : Int32) (s14 : zST) => nm ((jlshl a3 4) ||| (x13.toInt64)) fun (x16 : Int64) => nm (a5 + 1) fun (x18 : Int32) => (m_X6_keyOf_11 F n) a0 a1 a2 x16 x18 s14)
noncomputable def m_X6_keyOf (F : Nat) (a0 : Nat) (a1 : Nat) (a2 : Int32) (σ : zST) : Option (Int64 × zST) := ldI σ (a0 + 1) 8 a2 fun (x1 : Int32) => nm (x1.toInt64) fun (x4 : Int64) => m_X6_keyOf_11 F F a0 a1 a2 x4 0 σ
noncomputable def m_X6_refine_63 (F : Nat) (k41 : Nat → Nat → Int32 → Int32 → zST → Option zST) : Nat → Nat → Nat → Int32 → Int32 → Int32 → zST → Option zST
  | 0 => fun _ _ _ _ _ _ => none
  | n + 1 => fun (a0 : Nat) (a1 : Nat) (a2 : Int32) (a3 : Int32) (a4 : Int32) (σ : zST) => if gI σ a1 0 ≤ a4 then (bv (m_X6_numberByKeys F a0 (gI σ a1 0) σ) fun (s19 : zST) => nm (sI s19 a0 1 a3) fun (s21 : zST) => nm (a3 + 1) fun (x23 : Int32) => k41 a0 a1 a2 x23 s21) else (bd (m_X6_keyOf F a0 a1 a4 σ) fun (x25 : Int64) (s26 : zST) => stL s26 (a0 + 3) 8 a4 x25 fun (s28 : zST) => nm (a4 + 1) fun (x31 : Int32) => (m_X6_refine_63 F k41 n) a0 a1 a2 a3 x31 s28)
noncomputable def m_X6_refine_41 (F : Nat) : Nat → Nat → Nat → Int32 → Int32 → zST → Option zST
  | 0 => fun _ _ _ _ _ => none
  | n + 1 => fun (a0 : Nat) (a1 : Nat) (a2 : Int32) (a3 : Int32) (σ : zST) => if 8 < a3 then (some σ) else (if gI σ a0 0 ≤ a2 then (some σ) else (nm (gI σ a0 0) fun (x15 : Int32) => m_X6_refine_63 F (m_X6_refine_41 F n) F a0 a1 x15 a3 0 σ))
noncomputable def m_X6_refine_2 (F : Nat) : Nat → Nat → Nat → Int32 → zST → Option zST
  | 0 => fun _ _ _ _ => none
  | n + 1 => fun (a0 : Nat) (a1 : Nat) (a2 : Int32) (σ : zST) => if gI σ a1 0 ≤ a2 then (bv (m_X6_numberByKeys F a0 (gI σ a1 0) σ) fun (s3 : zST) => m_X6_refine_41 F F a0 a1 0 1 s3) else (ldI σ (a1 + 2) 8 a2 fun (x5 : Int32) => stL σ (a0 + 3) 8 a2 (x5.toInt64) fun (s8 : zST) => nm (a2 + 1) fun (x11 : Int32) => (m_X6_refine_2 F n) a0 a1 x11 s8)
noncomputable def m_X6_refine (F : Nat) (a0 : Nat) (a1 : Nat) (σ : zST) : Option zST := m_X6_refine_2 F F a0 a1 0 σ
noncomputable def m_X4_fits_27 (F : Nat) : Nat → Nat → Nat → Nat → Int32 → Int32 → Int32 → zST → Option (Int32 × zST)
  | 0 => fun _ _ _ _ _ _ _ => none
  | n + 1 => fun (a0 : Nat) (a1 : Nat) (a2 : Nat) (a3 : Int32) (a4 : Int32) (a5 : Int32) (σ : zST) => if a3 ≤ a5 then (some (1, σ)) else (bd (m_X2_hasEdge F a1 a5 a3 σ) fun (x9 : Int32) (s10 : zST) => ldI s10 (a0 + 1) 8 a5 fun (x12 : Int32) => bd (m_X2_hasEdge F a2 x12 a4 s10) fun (x15 : Int32) (s16 : zST) => if x9 = x15 then (nm (a5 + 1) fun (x19 : Int32) => (m_X4_fits_27 F n) a0 a1 a2 a3 a4 x19 s16) else (some (0, s16)))
noncomputable def m_X4_fits (F : Nat) (a0 : Nat) (a1 : Nat) (a2 : Nat) (a3 : Int32) (a4 : Int32) (σ : zST) : Option (Int32 × zST) := ldI σ (a0 + 2 + 1) 8 a3 fun (x1 : Int32) => ldI σ (a0 + 6 + 1) 8 a4 fun (x4 : Int32) => if x1 = x4 then (m_X4_fits_27 F F a0 a1 a2 a3 a4 0 σ) else (some (0, σ))
noncomputable def m_X4_extend_14 (F : Nat) (rc : Nat → Nat → Nat → Int32 → Int32 → zST → Option (Int32 × zST))  (σ : zST) : Option (Int32 × zST) := some (1, σ)
noncomputable def m_X4_extend_79 (F : Nat) (rc : Nat → Nat → Nat → Int32 → Int32 → zST → Option (Int32 × zST)) (k19 : Nat → Nat → Nat → Int32 → Int32 → Int32 → zST → Option (Int32 × zST)) (a0 : Nat) (a1 : Nat) (a2 : Nat) (a3 : Int32) (a4 : Int32) (a5 : Int32) (σ : zST) : Option (Int32 × zST) := nm (a5 + 1) fun (x19 : Int32) => k19 a0 a1 a2 a3 a4 x19 σ
noncomputable def m_X4_extend_19 (F : Nat) (rc : Nat → Nat → Nat → Int32 → Int32 → zST → Option (Int32 × zST)) : Nat → Nat → Nat → Nat → Int32 → Int32 → Int32 → zST → Option (Int32 × zST)
  | 0 => fun _ _ _ _ _ _ _ => none
  | n + 1 => fun (a0 : Nat) (a1 : Nat) (a2 : Nat) (a3 : Int32) (a4 : Int32) (a5 : Int32) (σ : zST) => if gI σ a2 0 ≤ a5 then (some (0, σ)) else (bd (m_X7_isIn F a4 a5 σ) fun (x4 : Int32) (s5 : zST) => if x4 = 0 then (bd (m_X4_fits F a0 a1 a2 a3 a5 s5) fun (x8 : Int32) (s9 : zST) => if x8 = 0 then (m_X4_extend_79 F rc (m_X4_extend_19 F rc n) a0 a1 a2 a3 a4 a5 s9) else (stI s9 (a0 + 1) 8 a3 a5 fun (s12 : zST) => bd (rc a0 a1 a2 (a3 + 1) (a4 ||| (jshl 1 a5)) s12) fun (x15 : Int32) (s16 : zST) => if x15 = 0 then (m_X4_extend_79 F rc (m_X4_extend_19 F rc n) a0 a1 a2 a3 a4 a5 s16) else (some (1, s16)))) else (m_X4_extend_79 F rc (m_X4_extend_19 F rc n) a0 a1 a2 a3 a4 a5 s5))
noncomputable def m_X4_extend_0 (F : Nat) (rc : Nat → Nat → Nat → Int32 → Int32 → zST → Option (Int32 × zST)) (a0 : Nat) (a1 : Nat) (a2 : Nat) (a3 : Int32) (a4 : Int32) (σ : zST) : Option (Int32 × zST) := if gI σ a1 0 ≤ a3 then (m_X4_extend_14 F rc σ) else (if a3 < 8 then (m_X4_extend_19 F rc F a0 a1 a2 a3 a4 0 σ) else (m_X4_extend_14 F rc σ))
noncomputable def m_X4_extend (F : Nat) : Nat → Nat → Nat → Nat → Int32 → Int32 → zST → Option (Int32 × zST)
  | 0 => fun _ _ _ _ _ _ => none
  | d + 1 => fun a0 a1 a2 a3 a4 σ => m_X4_extend_0 F (m_X4_extend F d) a0 a1 a2 a3 a4 σ
noncomputable def m_X4_find (F : Nat) (a0 : Nat) (a1 : Nat) (a2 : Nat) (σ : zST) : Option (Int32 × zST) := if gI σ a1 0 = gI σ a2 0 then (bv (m_X6_refine F (a0 + 2) a1 σ) fun (s3 : zST) => bv (m_X6_refine F (a0 + 6) a2 s3) fun (s6 : zST) => bd (m_X4_extend F 9 a0 a1 a2 0 0 s6) fun (x8 : Int32) (s9 : zST) => gd (x8 = 0 ∨ x8 = 1) (some (x8, s9))) else (some (0, σ))
noncomputable def m_X5_isOne_15 (F : Nat) : Nat → Int64 → Int32 → Int32 → zST → Option (Int32 × zST)
  | 0 => fun _ _ _ _ => none
  | n + 1 => fun (a0 : Int64) (a2 : Int32) (a3 : Int32) (σ : zST) => if 8 ≤ a3 then (if a2 = 255 then (some (1, σ)) else (some (0, σ))) else (nm (a2 ||| (jshl 1 (((jlshr a0 (4 * a3)) &&& 15).toInt32))) fun (x4 : Int32) => nm (a3 + 1) fun (x6 : Int32) => (m_X5_isOne_15 F n) a0 x4 x6 σ)
noncomputable def m_X5_isOne (F : Nat) (a0 : Int64) (σ : zST) : Option (Int32 × zST) := if lg_cmp (jlushr a0 32) 0 = 0 then (m_X5_isOne_15 F F a0 0 0 σ) else (some (0, σ))
noncomputable def m_X8_numbered_46 (F : Nat) (k4 : Nat → Int32 → Int32 → zST → Option (Int32 × zST)) (k17 : Nat → Int32 → Int32 → Int32 → Int32 → zST → Option (Int32 × zST)) (a0 : Nat) (a1 : Int32) (a2 : Int32) (a4 : Int32) (t0 : Int32) (t1 : Int32) (σ : zST) : Option (Int32 × zST) := nm (t1 + t0) fun (x16 : Int32) => nm (a4 + 1) fun (x18 : Int32) => k17 a0 a1 a2 x16 x18 σ
noncomputable def m_X8_numbered_17 (F : Nat) (k4 : Nat → Int32 → Int32 → zST → Option (Int32 × zST)) : Nat → Nat → Int32 → Int32 → Int32 → Int32 → zST → Option (Int32 × zST)
  | 0 => fun _ _ _ _ _ _ => none
  | n + 1 => fun (a0 : Nat) (a1 : Int32) (a2 : Int32) (a3 : Int32) (a4 : Int32) (σ : zST) => if 8 ≤ a4 then (nm ((a1 * (8 - a2)) + a3) fun (x5 : Int32) => nm (a2 + 1) fun (x7 : Int32) => k4 a0 x5 x7 σ) else (ldI σ (a0 + 13) 8 a4 fun (x9 : Int32) => ldI σ (a0 + 13) 8 a2 fun (x12 : Int32) => if x12 ≤ x9 then (m_X8_numbered_46 F k4 (m_X8_numbered_17 F k4 n) a0 a1 a2 a4 0 a3 σ) else (m_X8_numbered_46 F k4 (m_X8_numbered_17 F k4 n) a0 a1 a2 a4 1 a3 σ))
noncomputable def m_X8_numbered_4 (F : Nat) : Nat → Nat → Int32 → Int32 → zST → Option (Int32 × zST)
  | 0 => fun _ _ _ _ => none
  | n + 1 => fun (a0 : Nat) (a1 : Int32) (a2 : Int32) (σ : zST) => if 8 ≤ a2 then (some (a1, σ)) else (nm (a2 + 1) fun (x2 : Int32) => m_X8_numbered_17 F (m_X8_numbered_4 F n) F a0 a1 a2 0 x2 σ)
noncomputable def m_X8_numbered (F : Nat) (a0 : Nat) (σ : zST) : Option (Int32 × zST) := m_X8_numbered_4 F F a0 0 0 σ
noncomputable def m_X8_finds_25 (F : Nat) : Nat → Nat → Int32 → Int32 → zST → Option zST
  | 0 => fun _ _ _ _ => none
  | n + 1 => fun (a0 : Nat) (a2 : Int32) (a3 : Int32) (σ : zST) => if 8 ≤ a3 then (stI σ (a0 + 11) 40320 (gI σ a0 14) a2 fun (s12 : zST) => nm (sI s12 a0 14 ((gI s12 a0 14) + 1)) fun (s15 : zST) => some s15) else (ldI σ (a0 + 13) 8 a3 fun (x17 : Int32) => nm (a2 ||| (jshl x17 (3 * a3))) fun (x20 : Int32) => nm (a3 + 1) fun (x22 : Int32) => (m_X8_finds_25 F n) a0 x20 x22 σ)
noncomputable def m_X8_finds (F : Nat) (a0 : Nat) (σ : zST) : Option zST := bd (m_X8_numbered F a0 σ) fun (x1 : Int32) (s2 : zST) => ldI s2 (a0 + 12) 40320 x1 fun (x4 : Int32) => if x4 = 0 then (stI s2 (a0 + 12) 40320 x1 1 fun (s8 : zST) => m_X8_finds_25 F F a0 0 0 s8) else (some s2)
noncomputable def m_X8_closes_73 (F : Nat) (k53 : Nat → Int32 → zST → Option zST) (k63 : Nat → Int32 → Int32 → zST → Option zST) : Nat → Nat → Int32 → Int32 → Int32 → zST → Option zST
  | 0 => fun _ _ _ _ _ => none
  | n + 1 => fun (a0 : Nat) (a1 : Int32) (a2 : Int32) (a3 : Int32) (σ : zST) => if 8 ≤ a3 then (bv (m_X8_finds F a0 σ) fun (s24 : zST) => nm (a2 + 1) fun (x26 : Int32) => k63 a0 a1 x26 s24) else (ldI σ (a0 + 11) 40320 a1 fun (x28 : Int32) => ldI σ (a0 + 10) 48 ((8 * a2) + ((jshr x28 (3 * a3)) &&& 7)) fun (x31 : Int32) => stI σ (a0 + 13) 8 a3 x31 fun (s34 : zST) => nm (a3 + 1) fun (x37 : Int32) => (m_X8_closes_73 F k53 k63 n) a0 a1 a2 x37 s34)
noncomputable def m_X8_closes_63 (F : Nat) (k53 : Nat → Int32 → zST → Option zST) : Nat → Nat → Int32 → Int32 → zST → Option zST
  | 0 => fun _ _ _ _ => none
  | n + 1 => fun (a0 : Nat) (a1 : Int32) (a2 : Int32) (σ : zST) => if gI σ a0 11 ≤ a2 then (nm (a1 + 1) fun (x20 : Int32) => k53 a0 x20 σ) else (m_X8_closes_73 F k53 (m_X8_closes_63 F k53 n) F a0 a1 a2 0 σ)
noncomputable def m_X8_closes_53 (F : Nat) : Nat → Nat → Int32 → zST → Option zST
  | 0 => fun _ _ _ => none
  | n + 1 => fun (a0 : Nat) (a1 : Int32) (σ : zST) => if gI σ a0 14 ≤ a1 then (some σ) else (m_X8_closes_63 F (m_X8_closes_53 F n) F a0 a1 0 σ)
noncomputable def m_X8_closes_28 (F : Nat) : Nat → Nat → Int32 → zST → Option zST
  | 0 => fun _ _ _ => none
  | n + 1 => fun (a0 : Nat) (a1 : Int32) (σ : zST) => if 8 ≤ a1 then (bv (m_X8_finds F a0 σ) fun (s11 : zST) => m_X8_closes_53 F F a0 0 s11) else (stI σ (a0 + 13) 8 a1 a1 fun (s13 : zST) => nm (a1 + 1) fun (x16 : Int32) => (m_X8_closes_28 F n) a0 x16 s13)
noncomputable def m_X8_closes_2 (F : Nat) : Nat → Nat → Int32 → zST → Option zST
  | 0 => fun _ _ _ => none
  | n + 1 => fun (a0 : Nat) (a1 : Int32) (σ : zST) => if 40320 ≤ a1 then (nm (sI σ a0 14 0) fun (s2 : zST) => m_X8_closes_28 F F a0 0 s2) else (stI σ (a0 + 12) 40320 a1 0 fun (s4 : zST) => nm (a1 + 1) fun (x7 : Int32) => (m_X8_closes_2 F n) a0 x7 s4)
noncomputable def m_X8_closes (F : Nat) (a0 : Nat) (σ : zST) : Option zST := m_X8_closes_2 F F a0 0 σ
noncomputable def m_X8_thrown (F : Nat) (a0 : Nat) (σ : zST) : Option (Int32 × zST) := some (gI σ a0 16, σ)
noncomputable def m_X8_in_14 (F : Nat)  (σ : zST) : Option (Int32 × zST) := some (0, σ)
noncomputable def m_X8_in (F : Nat) (a0 : Int32) (a1 : Int32) (a2 : Int32) (σ : zST) : Option (Int32 × zST) := if a0 < a1 then (m_X8_in_14 F σ) else (if a2 < a0 then (m_X8_in_14 F σ) else (some (1, σ)))
noncomputable def m_X8_goes_18 (F : Nat) (a0 : Nat) (t0 : Int32) (t1 : Nat) (σ : zST) : Option (Int32 × zST) := nm (sI σ t1 16 t0) fun (s3 : zST) => if gI s3 a0 16 = 0 then (some (1, s3)) else (some (0, s3))
noncomputable def m_X8_goes (F : Nat) (a0 : Nat) (a1 : Int32) (a2 : Int32) (σ : zST) : Option (Int32 × zST) := if a1 = 0 then (m_X8_goes_18 F a0 1 a0 σ) else (if a2 = 0 then (m_X8_goes_18 F a0 2 a0 σ) else (m_X8_goes_18 F a0 0 a0 σ))
noncomputable def m_X8_isGraph (F : Nat) (a0 : Int32) (σ : zST) : Option (Int32 × zST) := bd (m_X8_in F a0 0 3 σ) fun (x1 : Int32) (s2 : zST) => gd (x1 = 0 ∨ x1 = 1) (some (x1, s2))
noncomputable def m_X8_isVertex_27 (F : Nat)  (σ : zST) : Option (Int32 × zST) := some (0, σ)
noncomputable def m_X8_isVertex (F : Nat) (a0 : Nat) (a1 : Int32) (a2 : Int32) (σ : zST) : Option (Int32 × zST) := bd (m_X8_isGraph F a1 σ) fun (x1 : Int32) (s2 : zST) => if x1 = 0 then (m_X8_isVertex_27 F s2) else (ldI s2 (a0 + 1) 4 a1 fun (x5 : Int32) => bd (m_X8_in F a2 0 (x5 - 1) s2) fun (x8 : Int32) (s9 : zST) => if x8 = 0 then (m_X8_isVertex_27 F s9) else (some (1, s9)))
noncomputable def m_X8_areVertices_22 (F : Nat)  (σ : zST) : Option (Int32 × zST) := some (0, σ)
noncomputable def m_X8_areVertices (F : Nat) (a0 : Nat) (a1 : Int32) (a2 : Int32) (a3 : Int32) (σ : zST) : Option (Int32 × zST) := bd (m_X8_isVertex F a0 a1 a2 σ) fun (x1 : Int32) (s2 : zST) => if x1 = 0 then (m_X8_areVertices_22 F s2) else (bd (m_X8_isVertex F a0 a1 a3 s2) fun (x5 : Int32) (s6 : zST) => if x5 = 0 then (m_X8_areVertices_22 F s6) else (some (1, s6)))
noncomputable def m_X8_hasEdge (F : Nat) (a0 : Nat) (a1 : Int32) (a2 : Int32) (a3 : Int32) (σ : zST) : Option (Int32 × zST) := ldI σ (a0 + 2) 32 ((8 * a1) + a2) fun (x1 : Int32) => if (jshr x1 a3) &&& 1 = 1 then (some (1, σ)) else (some (0, σ))
noncomputable def m_X8_countEdges_43 (F : Nat) (k4 : Nat → Int32 → Int32 → Int32 → zST → Option (Int32 × zST)) (a0 : Nat) (a1 : Int32) (a3 : Int32) (t0 : Int32) (t1 : Int32) (σ : zST) : Option (Int32 × zST) := nm (t1 + t0) fun (x7 : Int32) => nm (a3 + 1) fun (x9 : Int32) => k4 a0 a1 x7 x9 σ
noncomputable def m_X8_countEdges_42 (F : Nat) (k4 : Nat → Int32 → Int32 → Int32 → zST → Option (Int32 × zST)) (a0 : Nat) (a1 : Int32) (a3 : Int32) (t0 : Int32) (σ : zST) : Option (Int32 × zST) := m_X8_countEdges_43 F k4 a0 a1 a3 0 t0 σ
noncomputable def m_X8_countEdges_4 (F : Nat) : Nat → Nat → Int32 → Int32 → Int32 → zST → Option (Int32 × zST)
  | 0 => fun _ _ _ _ _ => none
  | n + 1 => fun (a0 : Nat) (a1 : Int32) (a2 : Int32) (a3 : Int32) (σ : zST) => if 64 ≤ a3 then (some (a2, σ)) else (if a3 - a3 / 8 * 8 ≤ a3 / 8 then (m_X8_countEdges_42 F (m_X8_countEdges_4 F n) a0 a1 a3 a2 σ) else (bd (m_X8_hasEdge F a0 a1 (a3 / 8) (a3 - a3 / 8 * 8) σ) fun (x3 : Int32) (s4 : zST) => if x3 = 0 then (m_X8_countEdges_42 F (m_X8_countEdges_4 F n) a0 a1 a3 a2 s4) else (m_X8_countEdges_43 F (m_X8_countEdges_4 F n) a0 a1 a3 1 a2 s4)))
noncomputable def m_X8_countEdges (F : Nat) (a0 : Nat) (a1 : Int32) (σ : zST) : Option (Int32 × zST) := m_X8_countEdges_4 F F a0 a1 0 0 σ
noncomputable def m_X8_begin_37 (F : Nat) : Nat → Nat → Int32 → Int32 → Int32 → zST → Option (Int32 × zST)
  | 0 => fun _ _ _ _ _ => none
  | n + 1 => fun (a0 : Nat) (a1 : Int32) (a3 : Int32) (a4 : Int32) (σ : zST) => if 8 ≤ a4 then (some (a3, σ)) else (stI σ (a0 + 2) 32 ((8 * a1) + a4) 0 fun (s18 : zST) => stI s18 (a0 + 3) 32 ((8 * a1) + a4) 0 fun (s21 : zST) => nm (a4 + 1) fun (x24 : Int32) => (m_X8_begin_37 F n) a0 a1 a3 x24 s21)
noncomputable def m_X8_begin (F : Nat) (a0 : Nat) (a1 : Int32) (a2 : Int32) (σ : zST) : Option (Int32 × zST) := bd (m_X8_isGraph F a1 σ) fun (x1 : Int32) (s2 : zST) => bd (m_X8_in F a2 1 8 s2) fun (x4 : Int32) (s5 : zST) => bd (m_X8_goes F a0 x1 x4 s5) fun (x7 : Int32) (s8 : zST) => if x7 = 0 then (some (0, s8)) else (ldI s8 (a0 + 1) 4 a1 fun (x11 : Int32) => stI s8 (a0 + 1) 4 a1 a2 fun (s14 : zST) => m_X8_begin_37 F F a0 a1 x11 0 s14)
noncomputable def m_X8_toggle_18 (F : Nat) (a0 : Nat) (a1 : Int32) (a2 : Int32) (a3 : Int32) (t0 : Int32) (t1 : Int32) (t2 : Nat) (σ : zST) : Option (Int32 × zST) := bd (m_X8_goes F t2 t1 t0 σ) fun (x5 : Int32) (s6 : zST) => if x5 = 0 then (some (0, s6)) else (ldI s6 (a0 + 2) 32 ((8 * a1) + a2) fun (x9 : Int32) => stI s6 (a0 + 2) 32 ((8 * a1) + a2) (x9 ^^^ (jshl 1 a3)) fun (s12 : zST) => ldI s12 (a0 + 2) 32 ((8 * a1) + a3) fun (x15 : Int32) => stI s12 (a0 + 2) 32 ((8 * a1) + a3) (x15 ^^^ (jshl 1 a2)) fun (s18 : zST) => bd (m_X8_hasEdge F a0 a1 a2 a3 s18) fun (x21 : Int32) (s22 : zST) => gd (x21 = 0 ∨ x21 = 1) (some (x21, s22)))
noncomputable def m_X8_toggle (F : Nat) (a0 : Nat) (a1 : Int32) (a2 : Int32) (a3 : Int32) (σ : zST) : Option (Int32 × zST) := bd (m_X8_areVertices F a0 a1 a2 a3 σ) fun (x1 : Int32) (s2 : zST) => if a2 = a3 then (m_X8_toggle_18 F a0 a1 a2 a3 0 x1 a0 s2) else (m_X8_toggle_18 F a0 a1 a2 a3 1 x1 a0 s2)
noncomputable def m_X8_setColour (F : Nat) (a0 : Nat) (a1 : Int32) (a2 : Int32) (a3 : Int32) (σ : zST) : Option (Int32 × zST) := bd (m_X8_isVertex F a0 a1 a2 σ) fun (x1 : Int32) (s2 : zST) => bd (m_X8_in F a3 0 7 s2) fun (x4 : Int32) (s5 : zST) => bd (m_X8_goes F a0 x1 x4 s5) fun (x7 : Int32) (s8 : zST) => if x7 = 0 then (some (0, s8)) else (ldI s8 (a0 + 3) 32 ((8 * a1) + a2) fun (x11 : Int32) => stI s8 (a0 + 3) 32 ((8 * a1) + a2) a3 fun (s14 : zST) => some (x11, s14))
noncomputable def m_X8_swapped (F : Nat) (a0 : Int32) (a1 : Int32) (a2 : Int32) (σ : zST) : Option (Int32 × zST) := nm (((jshr a0 a1) ^^^ (jshr a0 a2)) &&& 1) fun (x1 : Int32) => some (a0 ^^^ ((jshl x1 a1) ||| (jshl x1 a2)), σ)
noncomputable def m_X8_swap_103 (F : Nat) : Nat → Nat → Int32 → Int32 → Int32 → Int32 → zST → Option zST
  | 0 => fun _ _ _ _ _ _ => none
  | n + 1 => fun (a0 : Nat) (a1 : Int32) (a2 : Int32) (a3 : Int32) (a8 : Int32) (σ : zST) => if 8 ≤ a8 then (some σ) else (ldI σ (a0 + 2) 32 ((8 * a1) + a8) fun (x38 : Int32) => bd (m_X8_swapped F x38 a2 a3 σ) fun (x41 : Int32) (s42 : zST) => stI s42 (a0 + 2) 32 ((8 * a1) + a8) x41 fun (s44 : zST) => nm (a8 + 1) fun (x47 : Int32) => (m_X8_swap_103 F n) a0 a1 a2 a3 x47 s44)
noncomputable def m_X8_swap (F : Nat) (a0 : Nat) (a1 : Int32) (a2 : Int32) (a3 : Int32) (σ : zST) : Option zST := bd (m_X8_areVertices F a0 a1 a2 a3 σ) fun (x1 : Int32) (s2 : zST) => bd (m_X8_goes F a0 x1 1 s2) fun (x4 : Int32) (s5 : zST) => if x4 = 0 then (some s5) else (if a2 = a3 then (some s5) else (nm ((8 * a1) + a2) fun (x9 : Int32) => nm ((8 * a1) + a3) fun (x11 : Int32) => ldI s5 (a0 + 2) 32 x9 fun (x13 : Int32) => ldI s5 (a0 + 2) 32 x11 fun (x16 : Int32) => stI s5 (a0 + 2) 32 x9 x16 fun (s19 : zST) => stI s19 (a0 + 2) 32 x11 x13 fun (s22 : zST) => ldI s22 (a0 + 3) 32 x9 fun (x25 : Int32) => ldI s22 (a0 + 3) 32 x11 fun (x28 : Int32) => stI s22 (a0 + 3) 32 x9 x28 fun (s31 : zST) => stI s31 (a0 + 3) 32 x11 x25 fun (s34 : zST) => m_X8_swap_103 F F a0 a1 a2 a3 0 s34))
noncomputable def m_X8_copy_41 (F : Nat) : Nat → Nat → Int32 → Int32 → Int32 → zST → Option zST
  | 0 => fun _ _ _ _ _ => none
  | n + 1 => fun (a0 : Nat) (a1 : Int32) (a2 : Int32) (a3 : Int32) (σ : zST) => if 8 ≤ a3 then (some σ) else (ldI σ (a0 + 2) 32 ((8 * a1) + a3) fun (x20 : Int32) => stI σ (a0 + 2) 32 ((8 * a2) + a3) x20 fun (s23 : zST) => ldI s23 (a0 + 3) 32 ((8 * a1) + a3) fun (x26 : Int32) => stI s23 (a0 + 3) 32 ((8 * a2) + a3) x26 fun (s29 : zST) => nm (a3 + 1) fun (x32 : Int32) => (m_X8_copy_41 F n) a0 a1 a2 x32 s29)
noncomputable def m_X8_copy_20 (F : Nat) (a0 : Nat) (a1 : Int32) (a2 : Int32) (t0 : Int32) (t1 : Nat) (σ : zST) : Option zST := bd (m_X8_goes F t1 t0 1 σ) fun (x9 : Int32) (s10 : zST) => if x9 = 0 then (some s10) else (ldI s10 (a0 + 1) 4 a1 fun (x13 : Int32) => stI s10 (a0 + 1) 4 a2 x13 fun (s16 : zST) => m_X8_copy_41 F F a0 a1 a2 0 s16)
noncomputable def m_X8_copy_19 (F : Nat) (a0 : Nat) (a1 : Int32) (a2 : Int32) (t0 : Nat) (σ : zST) : Option zST := m_X8_copy_20 F a0 a1 a2 0 t0 σ
noncomputable def m_X8_copy (F : Nat) (a0 : Nat) (a1 : Int32) (a2 : Int32) (σ : zST) : Option zST := bd (m_X8_isGraph F a1 σ) fun (x1 : Int32) (s2 : zST) => if x1 = 0 then (m_X8_copy_19 F a0 a1 a2 a0 s2) else (bd (m_X8_isGraph F a2 s2) fun (x5 : Int32) (s6 : zST) => if x5 = 0 then (m_X8_copy_19 F a0 a1 a2 a0 s6) else (m_X8_copy_20 F a0 a1 a2 1 a0 s6))
noncomputable def m_X8_complement_27 (F : Nat) : Nat → Nat → Int32 → Int32 → Int32 → zST → Option (Int32 × zST)
  | 0 => fun _ _ _ _ _ => none
  | n + 1 => fun (a0 : Nat) (a1 : Int32) (a2 : Int32) (a3 : Int32) (σ : zST) => ldI σ (a0 + 1) 4 a1 fun (x13 : Int32) => if x13 ≤ a3 then (bd (m_X8_countEdges F a0 a1 σ) fun (x17 : Int32) (s18 : zST) => some (x17, s18)) else (ldI σ (a0 + 2) 32 ((8 * a1) + a3) fun (x20 : Int32) => stI σ (a0 + 2) 32 ((8 * a1) + a3) ((a2 &&& (x20 ^^^ (-1))) &&& ((jshl 1 a3) ^^^ (-1))) fun (s23 : zST) => nm (a3 + 1) fun (x26 : Int32) => (m_X8_complement_27 F n) a0 a1 a2 x26 s23)
noncomputable def m_X8_complement (F : Nat) (a0 : Nat) (a1 : Int32) (σ : zST) : Option (Int32 × zST) := bd (m_X8_isGraph F a1 σ) fun (x1 : Int32) (s2 : zST) => bd (m_X8_goes F a0 x1 1 s2) fun (x4 : Int32) (s5 : zST) => if x4 = 0 then (some (0, s5)) else (ldI s5 (a0 + 1) 4 a1 fun (x8 : Int32) => nm ((jshl 1 x8) - 1) fun (x11 : Int32) => m_X8_complement_27 F F a0 a1 x11 0 s5)
noncomputable def m_X8_size (F : Nat) (a0 : Nat) (a1 : Int32) (σ : zST) : Option (Int32 × zST) := bd (m_X8_isGraph F a1 σ) fun (x1 : Int32) (s2 : zST) => bd (m_X8_goes F a0 x1 1 s2) fun (x4 : Int32) (s5 : zST) => if x4 = 0 then (some (0, s5)) else (ldI s5 (a0 + 1) 4 a1 fun (x8 : Int32) => some (x8, s5))
noncomputable def m_X8_edges (F : Nat) (a0 : Nat) (a1 : Int32) (σ : zST) : Option (Int32 × zST) := bd (m_X8_isGraph F a1 σ) fun (x1 : Int32) (s2 : zST) => bd (m_X8_goes F a0 x1 1 s2) fun (x4 : Int32) (s5 : zST) => if x4 = 0 then (some (0, s5)) else (bd (m_X8_countEdges F a0 a1 s5) fun (x8 : Int32) (s9 : zST) => some (x8, s9))
noncomputable def m_X8_neighbours (F : Nat) (a0 : Nat) (a1 : Int32) (a2 : Int32) (σ : zST) : Option (Int32 × zST) := bd (m_X8_isVertex F a0 a1 a2 σ) fun (x1 : Int32) (s2 : zST) => bd (m_X8_goes F a0 x1 1 s2) fun (x4 : Int32) (s5 : zST) => if x4 = 0 then (some (0, s5)) else (ldI s5 (a0 + 2) 32 ((8 * a1) + a2) fun (x8 : Int32) => some (x8, s5))
noncomputable def m_X8_colour (F : Nat) (a0 : Nat) (a1 : Int32) (a2 : Int32) (σ : zST) : Option (Int32 × zST) := bd (m_X8_isVertex F a0 a1 a2 σ) fun (x1 : Int32) (s2 : zST) => bd (m_X8_goes F a0 x1 1 s2) fun (x4 : Int32) (s5 : zST) => if x4 = 0 then (some (0, s5)) else (ldI s5 (a0 + 3) 32 ((8 * a1) + a2) fun (x8 : Int32) => some (x8, s5))
noncomputable def m_X8_bits_4 (F : Nat) : Nat → Int32 → Int32 → Int32 → zST → Option (Int32 × zST)
  | 0 => fun _ _ _ _ => none
  | n + 1 => fun (a0 : Int32) (a1 : Int32) (a2 : Int32) (σ : zST) => if 8 ≤ a2 then (some (a1, σ)) else (nm (a1 + ((jshr a0 a2) &&& 1)) fun (x2 : Int32) => nm (a2 + 1) fun (x4 : Int32) => (m_X8_bits_4 F n) a0 x2 x4 σ)
noncomputable def m_X8_bits (F : Nat) (a0 : Int32) (σ : zST) : Option (Int32 × zST) := m_X8_bits_4 F F a0 0 0 σ
noncomputable def m_X8_neighboursIn_38 (F : Nat) (k6 : Nat → Int32 → Int32 → Int32 → Int32 → Int32 → zST → Option (Int32 × zST)) (a0 : Nat) (a1 : Int32) (a2 : Int32) (a3 : Int32) (a5 : Int32) (t0 : Int32) (t1 : Int32) (σ : zST) : Option (Int32 × zST) := nm (t1 ||| t0) fun (x15 : Int32) => nm (a5 + 1) fun (x17 : Int32) => k6 a0 a1 a2 a3 x15 x17 σ
noncomputable def m_X8_neighboursIn_6 (F : Nat) : Nat → Nat → Int32 → Int32 → Int32 → Int32 → Int32 → zST → Option (Int32 × zST)
  | 0 => fun _ _ _ _ _ _ _ => none
  | n + 1 => fun (a0 : Nat) (a1 : Int32) (a2 : Int32) (a3 : Int32) (a4 : Int32) (a5 : Int32) (σ : zST) => ldI σ (a0 + 1) 4 a1 fun (x1 : Int32) => if x1 ≤ a5 then (ldI σ (a0 + 2) 32 ((8 * a1) + a2) fun (x5 : Int32) => bd (m_X8_bits F (a4 &&& x5) σ) fun (x8 : Int32) (s9 : zST) => some (x8, s9)) else (ldI σ (a0 + 7) 8 a5 fun (x11 : Int32) => if x11 = a3 then (m_X8_neighboursIn_38 F (m_X8_neighboursIn_6 F n) a0 a1 a2 a3 a5 (jshl 1 a5) a4 σ) else (m_X8_neighboursIn_38 F (m_X8_neighboursIn_6 F n) a0 a1 a2 a3 a5 0 a4 σ))
noncomputable def m_X8_neighboursIn (F : Nat) (a0 : Nat) (a1 : Int32) (a2 : Int32) (a3 : Int32) (σ : zST) : Option (Int32 × zST) := m_X8_neighboursIn_6 F F a0 a1 a2 a3 0 0 σ
noncomputable def m_X8_compares_88 (F : Nat) (a5 : Int32) (σ : zST) : Option (Int32 × zST) := some (a5, σ)
noncomputable def m_X8_compares_47 (F : Nat) : Nat → Nat → Int32 → Int32 → Int32 → Int32 → Int32 → zST → Option (Int32 × zST)
  | 0 => fun _ _ _ _ _ _ _ => none
  | n + 1 => fun (a0 : Nat) (a1 : Int32) (a2 : Int32) (a3 : Int32) (a5 : Int32) (a6 : Int32) (σ : zST) => ldI σ (a0 + 1) 4 a1 fun (x16 : Int32) => if x16 ≤ a6 then (m_X8_compares_88 F a5 σ) else (if a5 = 0 then (bd (m_X8_neighboursIn F a0 a1 a2 a6 σ) fun (x21 : Int32) (s22 : zST) => bd (m_X8_neighboursIn F a0 a1 a3 a6 s22) fun (x24 : Int32) (s25 : zST) => nm (x21 - x24) fun (x27 : Int32) => nm (a6 + 1) fun (x29 : Int32) => (m_X8_compares_47 F n) a0 a1 a2 a3 x27 x29 s25) else (m_X8_compares_88 F a5 σ))
noncomputable def m_X8_compares (F : Nat) (a0 : Nat) (a1 : Int32) (a2 : Int32) (a3 : Int32) (a4 : Int32) (σ : zST) : Option (Int32 × zST) := if a4 = 0 then (ldI σ (a0 + 7) 8 a2 fun (x2 : Int32) => ldI σ (a0 + 7) 8 a3 fun (x5 : Int32) => nm (x2 - x5) fun (x8 : Int32) => m_X8_compares_47 F F a0 a1 a2 a3 x8 0 σ) else (ldI σ (a0 + 3) 32 ((8 * a1) + a2) fun (x10 : Int32) => ldI σ (a0 + 3) 32 ((8 * a1) + a3) fun (x13 : Int32) => some (x10 - x13, σ))
noncomputable def m_X8_sorts_86 (F : Nat) (k5 : Nat → Int32 → Int32 → Int32 → Int32 → zST → Option (Int32 × zST)) (k22 : Nat → Int32 → Int32 → Int32 → Int32 → Int32 → Int32 → zST → Option (Int32 × zST)) (k56 : Nat → Int32 → Int32 → Int32 → Int32 → Int32 → Int32 → Int32 → Int32 → zST → Option (Int32 × zST)) (a0 : Nat) (a1 : Int32) (a2 : Int32) (a3 : Int32) (a4 : Int32) (a5 : Int32) (a6 : Int32) (a8 : Int32) (t0 : Int32) (σ : zST) : Option (Int32 × zST) := nm (a8 + 1) fun (x38 : Int32) => k56 a0 a1 a2 a3 a4 a5 a6 t0 x38 σ
noncomputable def m_X8_sorts_106 (F : Nat) (k5 : Nat → Int32 → Int32 → Int32 → Int32 → zST → Option (Int32 × zST)) (k22 : Nat → Int32 → Int32 → Int32 → Int32 → Int32 → Int32 → zST → Option (Int32 × zST)) (a0 : Nat) (a1 : Int32) (a2 : Int32) (a3 : Int32) (a4 : Int32) (a6 : Int32) (t0 : Int32) (t1 : Int32) (σ : zST) : Option (Int32 × zST) := nm (t1 + t0) fun (x40 : Int32) => nm (a6 + 1) fun (x42 : Int32) => k22 a0 a1 a2 a3 a4 x40 x42 σ
noncomputable def m_X8_sorts_94 (F : Nat) (k5 : Nat → Int32 → Int32 → Int32 → Int32 → zST → Option (Int32 × zST)) (k22 : Nat → Int32 → Int32 → Int32 → Int32 → Int32 → Int32 → zST → Option (Int32 × zST)) (a0 : Nat) (a1 : Int32) (a2 : Int32) (a3 : Int32) (a4 : Int32) (a5 : Int32) (a6 : Int32) (a7 : Int32) (σ : zST) : Option (Int32 × zST) := if a7 = 0 then (m_X8_sorts_106 F k5 k22 a0 a1 a2 a3 a4 a6 0 a5 σ) else (m_X8_sorts_106 F k5 k22 a0 a1 a2 a3 a4 a6 1 a5 σ)
noncomputable def m_X8_sorts_56 (F : Nat) (k5 : Nat → Int32 → Int32 → Int32 → Int32 → zST → Option (Int32 × zST)) (k22 : Nat → Int32 → Int32 → Int32 → Int32 → Int32 → Int32 → zST → Option (Int32 × zST)) : Nat → Nat → Int32 → Int32 → Int32 → Int32 → Int32 → Int32 → Int32 → Int32 → zST → Option (Int32 × zST)
  | 0 => fun _ _ _ _ _ _ _ _ _ _ => none
  | n + 1 => fun (a0 : Nat) (a1 : Int32) (a2 : Int32) (a3 : Int32) (a4 : Int32) (a5 : Int32) (a6 : Int32) (a7 : Int32) (a8 : Int32) (σ : zST) => if a6 ≤ a8 then (m_X8_sorts_94 F k5 k22 a0 a1 a2 a3 a4 a5 a6 a7 σ) else (if a7 = 0 then (m_X8_sorts_94 F k5 k22 a0 a1 a2 a3 a4 a5 a6 a7 σ) else (bd (m_X8_compares F a0 a1 a8 a6 a2 σ) fun (x33 : Int32) (s34 : zST) => if x33 = 0 then (m_X8_sorts_86 F k5 k22 (m_X8_sorts_56 F k5 k22 n) a0 a1 a2 a3 a4 a5 a6 a8 0 s34) else (m_X8_sorts_86 F k5 k22 (m_X8_sorts_56 F k5 k22 n) a0 a1 a2 a3 a4 a5 a6 a8 1 s34)))
noncomputable def m_X8_sorts_51 (F : Nat) (k5 : Nat → Int32 → Int32 → Int32 → Int32 → zST → Option (Int32 × zST)) (k22 : Nat → Int32 → Int32 → Int32 → Int32 → Int32 → Int32 → zST → Option (Int32 × zST)) (a0 : Nat) (a1 : Int32) (a2 : Int32) (a3 : Int32) (a4 : Int32) (a5 : Int32) (a6 : Int32) (t0 : Int32) (σ : zST) : Option (Int32 × zST) := m_X8_sorts_56 F k5 k22 F a0 a1 a2 a3 a4 a5 a6 t0 0 σ
noncomputable def m_X8_sorts_136 (F : Nat) (k5 : Nat → Int32 → Int32 → Int32 → Int32 → zST → Option (Int32 × zST)) (a0 : Nat) (a1 : Int32) (a2 : Int32) (a4 : Int32) (t0 : Int32) (σ : zST) : Option (Int32 × zST) := nm (a4 + 1) fun (x29 : Int32) => k5 a0 a1 a2 t0 x29 σ
noncomputable def m_X8_sorts_22 (F : Nat) (k5 : Nat → Int32 → Int32 → Int32 → Int32 → zST → Option (Int32 × zST)) : Nat → Nat → Int32 → Int32 → Int32 → Int32 → Int32 → Int32 → zST → Option (Int32 × zST)
  | 0 => fun _ _ _ _ _ _ _ _ => none
  | n + 1 => fun (a0 : Nat) (a1 : Int32) (a2 : Int32) (a3 : Int32) (a4 : Int32) (a5 : Int32) (a6 : Int32) (σ : zST) => ldI σ (a0 + 1) 4 a1 fun (x17 : Int32) => if x17 ≤ a6 then (stI σ (a0 + 8) 8 a4 a5 fun (s21 : zST) => if a5 ≤ a3 then (m_X8_sorts_136 F k5 a0 a1 a2 a4 a3 s21) else (m_X8_sorts_136 F k5 a0 a1 a2 a4 a5 s21)) else (bd (m_X8_compares F a0 a1 a6 a4 a2 σ) fun (x25 : Int32) (s26 : zST) => if 0 ≤ x25 then (m_X8_sorts_51 F k5 (m_X8_sorts_22 F k5 n) a0 a1 a2 a3 a4 a5 a6 0 s26) else (m_X8_sorts_51 F k5 (m_X8_sorts_22 F k5 n) a0 a1 a2 a3 a4 a5 a6 1 s26))
noncomputable def m_X8_sorts_146 (F : Nat) : Nat → Nat → Int32 → Int32 → Int32 → zST → Option (Int32 × zST)
  | 0 => fun _ _ _ _ _ => none
  | n + 1 => fun (a0 : Nat) (a1 : Int32) (a3 : Int32) (a4 : Int32) (σ : zST) => ldI σ (a0 + 1) 4 a1 fun (x5 : Int32) => if x5 ≤ a4 then (some (a3 + 1, σ)) else (ldI σ (a0 + 8) 8 a4 fun (x9 : Int32) => stI σ (a0 + 7) 8 a4 x9 fun (s12 : zST) => nm (a4 + 1) fun (x15 : Int32) => (m_X8_sorts_146 F n) a0 a1 a3 x15 s12)
noncomputable def m_X8_sorts_5 (F : Nat) : Nat → Nat → Int32 → Int32 → Int32 → Int32 → zST → Option (Int32 × zST)
  | 0 => fun _ _ _ _ _ _ => none
  | n + 1 => fun (a0 : Nat) (a1 : Int32) (a2 : Int32) (a3 : Int32) (a4 : Int32) (σ : zST) => ldI σ (a0 + 1) 4 a1 fun (x1 : Int32) => if x1 ≤ a4 then (m_X8_sorts_146 F F a0 a1 a3 0 σ) else (m_X8_sorts_22 F (m_X8_sorts_5 F n) F a0 a1 a2 a3 a4 0 0 σ)
noncomputable def m_X8_sorts (F : Nat) (a0 : Nat) (a1 : Int32) (a2 : Int32) (σ : zST) : Option (Int32 × zST) := m_X8_sorts_5 F F a0 a1 a2 0 0 σ
noncomputable def m_X8_refines_14 (F : Nat) : Nat → Nat → Int32 → Int32 → Int32 → zST → Option (Int32 × zST)
  | 0 => fun _ _ _ _ _ => none
  | n + 1 => fun (a0 : Nat) (a1 : Int32) (a2 : Int32) (a3 : Int32) (σ : zST) => if a3 ≤ a2 then (some (a3, σ)) else (bd (m_X8_sorts F a0 a1 0 σ) fun (x7 : Int32) (s8 : zST) => nm (sI s8 a0 9 ((gI s8 a0 9) + 1)) fun (s10 : zST) => (m_X8_refines_14 F n) a0 a1 a3 x7 s10)
noncomputable def m_X8_refines (F : Nat) (a0 : Nat) (a1 : Int32) (σ : zST) : Option (Int32 × zST) := bd (m_X8_sorts F a0 a1 1 σ) fun (x1 : Int32) (s2 : zST) => nm (sI s2 a0 9 0) fun (s4 : zST) => m_X8_refines_14 F F a0 a1 0 x1 s4
noncomputable def m_X8_classes (F : Nat) (a0 : Nat) (a1 : Int32) (σ : zST) : Option (Int32 × zST) := bd (m_X8_isGraph F a1 σ) fun (x1 : Int32) (s2 : zST) => bd (m_X8_goes F a0 x1 1 s2) fun (x4 : Int32) (s5 : zST) => if x4 = 0 then (some (0, s5)) else (bd (m_X8_refines F a0 a1 s5) fun (x8 : Int32) (s9 : zST) => some (x8, s9))
noncomputable def m_X8_classOf (F : Nat) (a0 : Nat) (a1 : Int32) (a2 : Int32) (σ : zST) : Option (Int32 × zST) := bd (m_X8_isVertex F a0 a1 a2 σ) fun (x1 : Int32) (s2 : zST) => bd (m_X8_goes F a0 x1 1 s2) fun (x4 : Int32) (s5 : zST) => if x4 = 0 then (some (0, s5)) else (bd (m_X8_refines F a0 a1 s5) fun (x8 : Int32) (s9 : zST) => ldI s9 (a0 + 7) 8 a2 fun (x11 : Int32) => some (x11, s9))
noncomputable def m_X8_rounds (F : Nat) (a0 : Nat) (a1 : Int32) (σ : zST) : Option (Int32 × zST) := bd (m_X8_isGraph F a1 σ) fun (x1 : Int32) (s2 : zST) => bd (m_X8_goes F a0 x1 1 s2) fun (x4 : Int32) (s5 : zST) => if x4 = 0 then (some (0, s5)) else (bd (m_X8_refines F a0 a1 s5) fun (x8 : Int32) (s9 : zST) => some (gI s9 a0 9, s9))
noncomputable def m_X8_beginsMaps_2 (F : Nat) : Nat → Nat → Int32 → Int32 → zST → Option zST
  | 0 => fun _ _ _ _ => none
  | n + 1 => fun (a0 : Nat) (a1 : Int32) (a2 : Int32) (σ : zST) => if a1 ≤ a2 then (some σ) else (stI σ (a0 + 4) 8 a2 a2 fun (s2 : zST) => nm (a2 + 1) fun (x5 : Int32) => (m_X8_beginsMaps_2 F n) a0 a1 x5 s2)
noncomputable def m_X8_beginsMaps (F : Nat) (a0 : Nat) (a1 : Int32) (σ : zST) : Option zST := m_X8_beginsMaps_2 F F a0 a1 0 σ
noncomputable def m_X8_nextMap_100 (F : Nat) : Nat → Nat → Int32 → Int32 → zST → Option (Int32 × zST)
  | 0 => fun _ _ _ _ => none
  | n + 1 => fun (a0 : Nat) (a5 : Int32) (a6 : Int32) (σ : zST) => if a6 ≤ a5 then (some (1, σ)) else (ldI σ (a0 + 4) 8 a5 fun (x42 : Int32) => ldI σ (a0 + 4) 8 a6 fun (x45 : Int32) => stI σ (a0 + 4) 8 a5 x45 fun (s48 : zST) => stI s48 (a0 + 4) 8 a6 x42 fun (s51 : zST) => nm (a5 + 1) fun (x54 : Int32) => nm (a6 + (-1)) fun (x56 : Int32) => (m_X8_nextMap_100 F n) a0 x54 x56 s51)
noncomputable def m_X8_nextMap_41 (F : Nat) : Nat → Nat → Int32 → Int32 → Int32 → zST → Option (Int32 × zST)
  | 0 => fun _ _ _ _ _ => none
  | n + 1 => fun (a0 : Nat) (a1 : Int32) (a2 : Int32) (a3 : Int32) (σ : zST) => ldI σ (a0 + 4) 8 a3 fun (x16 : Int32) => ldI σ (a0 + 4) 8 a2 fun (x19 : Int32) => if x19 ≤ x16 then (ldI σ (a0 + 4) 8 a2 fun (x23 : Int32) => ldI σ (a0 + 4) 8 a3 fun (x26 : Int32) => stI σ (a0 + 4) 8 a2 x26 fun (s29 : zST) => stI s29 (a0 + 4) 8 a3 x23 fun (s32 : zST) => nm (a2 + 1) fun (x35 : Int32) => nm (a1 - 1) fun (x37 : Int32) => m_X8_nextMap_100 F F a0 x35 x37 s32) else (nm (a3 + (-1)) fun (x39 : Int32) => (m_X8_nextMap_41 F n) a0 a1 a2 x39 σ)
noncomputable def m_X8_nextMap_31 (F : Nat) (a0 : Nat) (a1 : Int32) (a2 : Int32) (σ : zST) : Option (Int32 × zST) := if 0 ≤ a2 then (nm (a1 - 1) fun (x14 : Int32) => m_X8_nextMap_41 F F a0 a1 a2 x14 σ) else (some (0, σ))
noncomputable def m_X8_nextMap_4 (F : Nat) : Nat → Nat → Int32 → Int32 → zST → Option (Int32 × zST)
  | 0 => fun _ _ _ _ => none
  | n + 1 => fun (a0 : Nat) (a1 : Int32) (a2 : Int32) (σ : zST) => if a2 < 0 then (m_X8_nextMap_31 F a0 a1 a2 σ) else (ldI σ (a0 + 4) 8 a2 fun (x4 : Int32) => ldI σ (a0 + 4) 8 (a2 + 1) fun (x7 : Int32) => if x4 ≤ x7 then (m_X8_nextMap_31 F a0 a1 a2 σ) else (nm (a2 + (-1)) fun (x11 : Int32) => (m_X8_nextMap_4 F n) a0 a1 x11 σ))
noncomputable def m_X8_nextMap (F : Nat) (a0 : Nat) (a1 : Int32) (σ : zST) : Option (Int32 × zST) := nm (a1 - 2) fun (x1 : Int32) => m_X8_nextMap_4 F F a0 a1 x1 σ
noncomputable def m_X8_bitOf_21 (F : Nat) (a2 : Int32) (t0 : Int32) (σ : zST) : Option (Int32 × zST) := some ((27 - ((a2 * (15 - a2)) / 2)) - ((t0 - a2) - 1), σ)
noncomputable def m_X8_bitOf_10 (F : Nat) (a0 : Int32) (a1 : Int32) (t0 : Int32) (σ : zST) : Option (Int32 × zST) := if a1 ≤ a0 then (m_X8_bitOf_21 F t0 a0 σ) else (m_X8_bitOf_21 F t0 a1 σ)
noncomputable def m_X8_bitOf (F : Nat) (a0 : Int32) (a1 : Int32) (σ : zST) : Option (Int32 × zST) := if a1 ≤ a0 then (m_X8_bitOf_10 F a0 a1 a1 σ) else (m_X8_bitOf_10 F a0 a1 a0 σ)
noncomputable def m_X8_codeOf_96 (F : Nat) (k8 : Nat → Int32 → Int64 → Int64 → Int32 → zST → Option (Int64 × zST)) (k53 : Nat → Int32 → Int64 → Int64 → Int32 → Int32 → zST → Option (Int64 × zST)) (a0 : Nat) (a1 : Int32) (a4 : Int64) (a6 : Int32) (a7 : Int32) (t0 : Int64) (t1 : Int64) (σ : zST) : Option (Int64 × zST) := nm (t1 ||| t0) fun (x32 : Int64) => nm (a7 + 1) fun (x34 : Int32) => k53 a0 a1 x32 a4 a6 x34 σ
noncomputable def m_X8_codeOf_53 (F : Nat) (k8 : Nat → Int32 → Int64 → Int64 → Int32 → zST → Option (Int64 × zST)) : Nat → Nat → Int32 → Int64 → Int64 → Int32 → Int32 → zST → Option (Int64 × zST)
  | 0 => fun _ _ _ _ _ _ _ => none
  | n + 1 => fun (a0 : Nat) (a1 : Int32) (a2 : Int64) (a4 : Int64) (a6 : Int32) (a7 : Int32) (σ : zST) => if a6 ≤ a7 then (nm (a6 + 1) fun (x17 : Int32) => k8 a0 a1 a2 a4 x17 σ) else (bd (m_X8_hasEdge F a0 a1 a6 a7 σ) fun (x19 : Int32) (s20 : zST) => if x19 = 0 then (m_X8_codeOf_96 F k8 (m_X8_codeOf_53 F k8 n) a0 a1 a4 a6 a7 0 a2 s20) else (ldI s20 (a0 + 4) 8 a6 fun (x23 : Int32) => ldI s20 (a0 + 4) 8 a7 fun (x26 : Int32) => bd (m_X8_bitOf F x23 x26 s20) fun (x29 : Int32) (s30 : zST) => m_X8_codeOf_96 F k8 (m_X8_codeOf_53 F k8 n) a0 a1 a4 a6 a7 (jlshl 1 x29) a2 s30))
noncomputable def m_X8_codeOf_8 (F : Nat) : Nat → Nat → Int32 → Int64 → Int64 → Int32 → zST → Option (Int64 × zST)
  | 0 => fun _ _ _ _ _ _ => none
  | n + 1 => fun (a0 : Nat) (a1 : Int32) (a2 : Int64) (a4 : Int64) (a6 : Int32) (σ : zST) => ldI σ (a0 + 1) 4 a1 fun (x1 : Int32) => if x1 ≤ a6 then (ldI σ (a0 + 1) 4 a1 fun (x5 : Int32) => some (((jlshl (x5.toInt64) 52) ||| (jlshl a4 28)) ||| a2, σ)) else (ldI σ (a0 + 3) 32 ((8 * a1) + a6) fun (x8 : Int32) => ldI σ (a0 + 4) 8 a6 fun (x11 : Int32) => nm (a4 ||| (jlshl (x8.toInt64) (3 * (7 - x11)))) fun (x14 : Int64) => m_X8_codeOf_53 F (m_X8_codeOf_8 F n) F a0 a1 a2 x14 a6 0 σ)
noncomputable def m_X8_codeOf (F : Nat) (a0 : Nat) (a1 : Int32) (σ : zST) : Option (Int64 × zST) := m_X8_codeOf_8 F F a0 a1 0 0 0 σ
noncomputable def m_X8_formOf_73 (F : Nat) (k17 : Nat → Int32 → Int64 → Int32 → zST → Option (Int64 × zST)) (a0 : Nat) (a1 : Int32) (a2 : Int64) (σ : zST) : Option (Int64 × zST) := ldI σ (a0 + 1) 4 a1 fun (x12 : Int32) => bd (m_X8_nextMap F a0 x12 σ) fun (x15 : Int32) (s16 : zST) => k17 a0 a1 a2 x15 s16
noncomputable def m_X8_formOf_42 (F : Nat) (k17 : Nat → Int32 → Int64 → Int32 → zST → Option (Int64 × zST)) : Nat → Nat → Int32 → Int64 → Int32 → zST → Option (Int64 × zST)
  | 0 => fun _ _ _ _ _ => none
  | n + 1 => fun (a0 : Nat) (a1 : Int32) (a2 : Int64) (a7 : Int32) (σ : zST) => ldI σ (a0 + 1) 4 a1 fun (x18 : Int32) => if x18 ≤ a7 then (m_X8_formOf_73 F k17 a0 a1 a2 σ) else (ldI σ (a0 + 4) 8 a7 fun (x22 : Int32) => stI σ (a0 + 6) 8 a7 x22 fun (s25 : zST) => nm (a7 + 1) fun (x28 : Int32) => (m_X8_formOf_42 F k17 n) a0 a1 a2 x28 s25)
noncomputable def m_X8_formOf_17 (F : Nat) : Nat → Nat → Int32 → Int64 → Int32 → zST → Option (Int64 × zST)
  | 0 => fun _ _ _ _ _ => none
  | n + 1 => fun (a0 : Nat) (a1 : Int32) (a2 : Int64) (a4 : Int32) (σ : zST) => if a4 = 0 then (some (a2, σ)) else (bd (m_X8_codeOf F a0 a1 σ) fun (x8 : Int64) (s9 : zST) => if 0 ≤ lg_cmp x8 a2 then (m_X8_formOf_73 F (m_X8_formOf_17 F n) a0 a1 a2 s9) else (m_X8_formOf_42 F (m_X8_formOf_17 F n) F a0 a1 x8 0 s9))
noncomputable def m_X8_formOf (F : Nat) (a0 : Nat) (a1 : Int32) (σ : zST) : Option (Int64 × zST) := ldI σ (a0 + 1) 4 a1 fun (x1 : Int32) => bv (m_X8_beginsMaps F a0 x1 σ) fun (s5 : zST) => m_X8_formOf_17 F F a0 a1 9223372036854775807 1 s5
noncomputable def m_X8_form (F : Nat) (a0 : Nat) (a1 : Int32) (σ : zST) : Option (Int64 × zST) := bd (m_X8_isGraph F a1 σ) fun (x1 : Int32) (s2 : zST) => bd (m_X8_goes F a0 x1 1 s2) fun (x4 : Int32) (s5 : zST) => if x4 = 0 then (some (0, s5)) else (bd (m_X8_formOf F a0 a1 s5) fun (x8 : Int64) (s9 : zST) => some (x8, s9))
noncomputable def m_X8_placeOf (F : Nat) (a0 : Nat) (a1 : Int32) (a2 : Int32) (σ : zST) : Option (Int32 × zST) := bd (m_X8_isVertex F a0 a1 a2 σ) fun (x1 : Int32) (s2 : zST) => bd (m_X8_goes F a0 x1 1 s2) fun (x4 : Int32) (s5 : zST) => if x4 = 0 then (some (0, s5)) else (bd (m_X8_formOf F a0 a1 s5) fun (x8 : Int64) (s9 : zST) => if lg_cmp x8 0 ≤ 0 then (some ((-1), s9)) else (ldI s9 (a0 + 6) 8 a2 fun (x12 : Int32) => some (x12, s9)))
noncomputable def m_X8_keeps_123 (F : Nat) (k5 : Nat → Int32 → Int32 → Int32 → Int32 → zST → Option (Int32 × zST)) (k66 : Nat → Int32 → Int32 → Int32 → Int32 → Int32 → zST → Option (Int32 × zST)) (a0 : Nat) (a1 : Int32) (a2 : Int32) (a4 : Int32) (a5 : Int32) (t0 : Int32) (σ : zST) : Option (Int32 × zST) := nm (a5 + 1) fun (x42 : Int32) => k66 a0 a1 a2 t0 a4 x42 σ
noncomputable def m_X8_keeps_130 (F : Nat) (k5 : Nat → Int32 → Int32 → Int32 → Int32 → zST → Option (Int32 × zST)) (a0 : Nat) (a1 : Int32) (a2 : Int32) (a3 : Int32) (a4 : Int32) (σ : zST) : Option (Int32 × zST) := nm (a4 + 1) fun (x40 : Int32) => k5 a0 a1 a2 a3 x40 σ
noncomputable def m_X8_keeps_66 (F : Nat) (k5 : Nat → Int32 → Int32 → Int32 → Int32 → zST → Option (Int32 × zST)) : Nat → Nat → Int32 → Int32 → Int32 → Int32 → Int32 → zST → Option (Int32 × zST)
  | 0 => fun _ _ _ _ _ _ _ => none
  | n + 1 => fun (a0 : Nat) (a1 : Int32) (a2 : Int32) (a3 : Int32) (a4 : Int32) (a5 : Int32) (σ : zST) => if a4 ≤ a5 then (m_X8_keeps_130 F k5 a0 a1 a2 a3 a4 σ) else (if a3 = 0 then (m_X8_keeps_130 F k5 a0 a1 a2 a3 a4 σ) else (bd (m_X8_hasEdge F a0 a1 a4 a5 σ) fun (x21 : Int32) (s22 : zST) => ldI s22 (a0 + 4) 8 a4 fun (x24 : Int32) => ldI s22 (a0 + 5) 8 x24 fun (x27 : Int32) => ldI s22 (a0 + 4) 8 a5 fun (x30 : Int32) => ldI s22 (a0 + 5) 8 x30 fun (x33 : Int32) => bd (m_X8_hasEdge F a0 a2 x27 x33 s22) fun (x36 : Int32) (s37 : zST) => if x21 = x36 then (m_X8_keeps_123 F k5 (m_X8_keeps_66 F k5 n) a0 a1 a2 a4 a5 1 s37) else (m_X8_keeps_123 F k5 (m_X8_keeps_66 F k5 n) a0 a1 a2 a4 a5 0 s37)))
noncomputable def m_X8_keeps_62 (F : Nat) (k5 : Nat → Int32 → Int32 → Int32 → Int32 → zST → Option (Int32 × zST)) (a0 : Nat) (a1 : Int32) (a2 : Int32) (a4 : Int32) (t0 : Int32) (σ : zST) : Option (Int32 × zST) := m_X8_keeps_66 F k5 F a0 a1 a2 t0 a4 0 σ
noncomputable def m_X8_keeps_136 (F : Nat) (a3 : Int32) (σ : zST) : Option (Int32 × zST) := gd (a3 = 0 ∨ a3 = 1) (some (a3, σ))
noncomputable def m_X8_keeps_5 (F : Nat) : Nat → Nat → Int32 → Int32 → Int32 → Int32 → zST → Option (Int32 × zST)
  | 0 => fun _ _ _ _ _ _ => none
  | n + 1 => fun (a0 : Nat) (a1 : Int32) (a2 : Int32) (a3 : Int32) (a4 : Int32) (σ : zST) => ldI σ (a0 + 1) 4 a1 fun (x1 : Int32) => if x1 ≤ a4 then (m_X8_keeps_136 F a3 σ) else (if a3 = 0 then (m_X8_keeps_136 F a3 σ) else (ldI σ (a0 + 3) 32 ((8 * a1) + a4) fun (x6 : Int32) => ldI σ (a0 + 4) 8 a4 fun (x9 : Int32) => ldI σ (a0 + 5) 8 x9 fun (x12 : Int32) => ldI σ (a0 + 3) 32 ((8 * a2) + x12) fun (x15 : Int32) => if x6 = x15 then (m_X8_keeps_62 F (m_X8_keeps_5 F n) a0 a1 a2 a4 1 σ) else (m_X8_keeps_62 F (m_X8_keeps_5 F n) a0 a1 a2 a4 0 σ)))
noncomputable def m_X8_keeps (F : Nat) (a0 : Nat) (a1 : Int32) (a2 : Int32) (σ : zST) : Option (Int32 × zST) := m_X8_keeps_5 F F a0 a1 a2 1 0 σ
noncomputable def m_X8_chooses_29 (F : Nat) (k4 : Nat → Int32 → Int32 → Int32 → zST → Option (Int32 × zST)) (a0 : Nat) (a1 : Int32) (a2 : Int32) (a3 : Int32) (σ : zST) : Option (Int32 × zST) := nm (a3 + 1) fun (x8 : Int32) => k4 a0 a1 a2 x8 σ
noncomputable def m_X8_chooses_4 (F : Nat) : Nat → Nat → Int32 → Int32 → Int32 → zST → Option (Int32 × zST)
  | 0 => fun _ _ _ _ _ => none
  | n + 1 => fun (a0 : Nat) (a1 : Int32) (a2 : Int32) (a3 : Int32) (σ : zST) => if 8 ≤ a3 then (some (a2, σ)) else (if (jshr a1 a3) &&& 1 = 1 then (stI σ (a0 + 5) 8 a2 a3 fun (s3 : zST) => nm (a2 + 1) fun (x6 : Int32) => m_X8_chooses_29 F (m_X8_chooses_4 F n) a0 a1 x6 a3 s3) else (m_X8_chooses_29 F (m_X8_chooses_4 F n) a0 a1 a2 a3 σ))
noncomputable def m_X8_chooses (F : Nat) (a0 : Nat) (a1 : Int32) (σ : zST) : Option (Int32 × zST) := m_X8_chooses_4 F F a0 a1 0 0 σ
noncomputable def m_X8_isMapped_44 (F : Nat) (a3 : Int32) (σ : zST) : Option (Int32 × zST) := gd (a3 = 0 ∨ a3 = 1) (some (a3, σ))
noncomputable def m_X8_isMapped_17 (F : Nat) : Nat → Nat → Int32 → Int32 → Int32 → zST → Option (Int32 × zST)
  | 0 => fun _ _ _ _ _ => none
  | n + 1 => fun (a0 : Nat) (a1 : Int32) (a2 : Int32) (a3 : Int32) (σ : zST) => if a3 = 0 then (ldI σ (a0 + 1) 4 a1 fun (x11 : Int32) => bd (m_X8_nextMap F a0 x11 σ) fun (x14 : Int32) (s15 : zST) => if x14 = 0 then (m_X8_isMapped_44 F a3 s15) else (bd (m_X8_keeps F a0 a1 a2 s15) fun (x18 : Int32) (s19 : zST) => (m_X8_isMapped_17 F n) a0 a1 a2 x18 s19)) else (m_X8_isMapped_44 F a3 σ)
noncomputable def m_X8_isMapped (F : Nat) (a0 : Nat) (a1 : Int32) (a2 : Int32) (σ : zST) : Option (Int32 × zST) := ldI σ (a0 + 1) 4 a1 fun (x1 : Int32) => bv (m_X8_beginsMaps F a0 x1 σ) fun (s5 : zST) => bd (m_X8_keeps F a0 a1 a2 s5) fun (x7 : Int32) (s8 : zST) => m_X8_isMapped_17 F F a0 a1 a2 x7 s8
noncomputable def m_X8_alike_36 (F : Nat)  (σ : zST) : Option (Int32 × zST) := some (0, σ)
noncomputable def m_X8_alike (F : Nat) (a0 : Nat) (a1 : Int32) (a2 : Int32) (σ : zST) : Option (Int32 × zST) := ldI σ (a0 + 1) 4 a2 fun (x1 : Int32) => bd (m_X8_chooses F a0 ((jshl 1 x1) - 1) σ) fun (x4 : Int32) (s5 : zST) => ldI s5 (a0 + 1) 4 a1 fun (x7 : Int32) => if x4 = x7 then (bd (m_X8_isMapped F a0 a1 a2 s5) fun (x11 : Int32) (s12 : zST) => if x11 = 0 then (m_X8_alike_36 F s12) else (some (1, s12))) else (m_X8_alike_36 F s5)
noncomputable def m_X8_areAlike_40 (F : Nat)  (σ : zST) : Option (Int32 × zST) := some (0, σ)
noncomputable def m_X8_areAlike_20 (F : Nat) (a0 : Nat) (a1 : Int32) (a2 : Int32) (t0 : Int32) (t1 : Nat) (σ : zST) : Option (Int32 × zST) := bd (m_X8_goes F t1 t0 1 σ) fun (x9 : Int32) (s10 : zST) => if x9 = 0 then (m_X8_areAlike_40 F s10) else (bd (m_X8_alike F a0 a1 a2 s10) fun (x13 : Int32) (s14 : zST) => if x13 = 0 then (m_X8_areAlike_40 F s14) else (some (1, s14)))
noncomputable def m_X8_areAlike_19 (F : Nat) (a0 : Nat) (a1 : Int32) (a2 : Int32) (t0 : Nat) (σ : zST) : Option (Int32 × zST) := m_X8_areAlike_20 F a0 a1 a2 0 t0 σ
noncomputable def m_X8_areAlike (F : Nat) (a0 : Nat) (a1 : Int32) (a2 : Int32) (σ : zST) : Option (Int32 × zST) := bd (m_X8_isGraph F a1 σ) fun (x1 : Int32) (s2 : zST) => if x1 = 0 then (m_X8_areAlike_19 F a0 a1 a2 a0 s2) else (bd (m_X8_isGraph F a2 s2) fun (x5 : Int32) (s6 : zST) => if x5 = 0 then (m_X8_areAlike_19 F a0 a1 a2 a0 s6) else (m_X8_areAlike_20 F a0 a1 a2 1 a0 s6))
noncomputable def m_X8_image_22 (F : Nat) (a0 : Nat) (a1 : Int32) (a2 : Int32) (a3 : Int32) (t0 : Int32) (t1 : Nat) (σ : zST) : Option (Int32 × zST) := bd (m_X8_goes F t1 t0 1 σ) fun (x9 : Int32) (s10 : zST) => if x9 = 0 then (some (0, s10)) else (bd (m_X8_alike F a0 a1 a2 s10) fun (x13 : Int32) (s14 : zST) => if x13 = 0 then (some ((-1), s14)) else (ldI s14 (a0 + 4) 8 a3 fun (x17 : Int32) => some (x17, s14)))
noncomputable def m_X8_image_21 (F : Nat) (a0 : Nat) (a1 : Int32) (a2 : Int32) (a3 : Int32) (t0 : Nat) (σ : zST) : Option (Int32 × zST) := m_X8_image_22 F a0 a1 a2 a3 0 t0 σ
noncomputable def m_X8_image (F : Nat) (a0 : Nat) (a1 : Int32) (a2 : Int32) (a3 : Int32) (σ : zST) : Option (Int32 × zST) := bd (m_X8_isGraph F a2 σ) fun (x1 : Int32) (s2 : zST) => if x1 = 0 then (m_X8_image_21 F a0 a1 a2 a3 a0 s2) else (bd (m_X8_isVertex F a0 a1 a3 s2) fun (x5 : Int32) (s6 : zST) => if x5 = 0 then (m_X8_image_21 F a0 a1 a2 a3 a0 s6) else (m_X8_image_22 F a0 a1 a2 a3 1 a0 s6))
noncomputable def m_X8_copies_77 (F : Nat) (k34 : Nat → Int32 → Int32 → Int32 → Int32 → zST → Option (Int32 × zST)) (a0 : Nat) (a1 : Int32) (a2 : Int32) (a4 : Int32) (t0 : Int32) (t1 : Int32) (σ : zST) : Option (Int32 × zST) := nm (t1 + t0) fun (x28 : Int32) => nm (a4 + 1) fun (x30 : Int32) => k34 a0 a1 a2 x28 x30 σ
noncomputable def m_X8_copies_76 (F : Nat) (k34 : Nat → Int32 → Int32 → Int32 → Int32 → zST → Option (Int32 × zST)) (a0 : Nat) (a1 : Int32) (a2 : Int32) (a4 : Int32) (t0 : Int32) (σ : zST) : Option (Int32 × zST) := m_X8_copies_77 F k34 a0 a1 a2 a4 0 t0 σ
noncomputable def m_X8_copies_34 (F : Nat) : Nat → Nat → Int32 → Int32 → Int32 → Int32 → zST → Option (Int32 × zST)
  | 0 => fun _ _ _ _ _ _ => none
  | n + 1 => fun (a0 : Nat) (a1 : Int32) (a2 : Int32) (a3 : Int32) (a4 : Int32) (σ : zST) => ldI σ (a0 + 1) 4 a2 fun (x13 : Int32) => if jshl 1 x13 ≤ a4 then (some (a3, σ)) else (bd (m_X8_chooses F a0 a4 σ) fun (x17 : Int32) (s18 : zST) => ldI s18 (a0 + 1) 4 a1 fun (x20 : Int32) => if x17 = x20 then (bd (m_X8_isMapped F a0 a1 a2 s18) fun (x24 : Int32) (s25 : zST) => if x24 = 0 then (m_X8_copies_76 F (m_X8_copies_34 F n) a0 a1 a2 a4 a3 s25) else (m_X8_copies_77 F (m_X8_copies_34 F n) a0 a1 a2 a4 1 a3 s25)) else (m_X8_copies_76 F (m_X8_copies_34 F n) a0 a1 a2 a4 a3 s18))
noncomputable def m_X8_copies_20 (F : Nat) (a0 : Nat) (a1 : Int32) (a2 : Int32) (t0 : Int32) (t1 : Nat) (σ : zST) : Option (Int32 × zST) := bd (m_X8_goes F t1 t0 1 σ) fun (x9 : Int32) (s10 : zST) => if x9 = 0 then (some (0, s10)) else (m_X8_copies_34 F F a0 a1 a2 0 0 s10)
noncomputable def m_X8_copies_19 (F : Nat) (a0 : Nat) (a1 : Int32) (a2 : Int32) (t0 : Nat) (σ : zST) : Option (Int32 × zST) := m_X8_copies_20 F a0 a1 a2 0 t0 σ
noncomputable def m_X8_copies (F : Nat) (a0 : Nat) (a1 : Int32) (a2 : Int32) (σ : zST) : Option (Int32 × zST) := bd (m_X8_isGraph F a1 σ) fun (x1 : Int32) (s2 : zST) => if x1 = 0 then (m_X8_copies_19 F a0 a1 a2 a0 s2) else (bd (m_X8_isGraph F a2 s2) fun (x5 : Int32) (s6 : zST) => if x5 = 0 then (m_X8_copies_19 F a0 a1 a2 a0 s6) else (m_X8_copies_20 F a0 a1 a2 1 a0 s6))
noncomputable def m_X8_turns_102 (F : Nat) (k47 : Nat → Int32 → Int32 → Int32 → zST → Option (Int32 × zST)) (a0 : Nat) (a1 : Int32) (a2 : Int32) (σ : zST) : Option (Int32 × zST) := ldI σ (a0 + 1) 4 a1 fun (x26 : Int32) => bd (m_X8_nextMap F a0 x26 σ) fun (x29 : Int32) (s30 : zST) => k47 a0 a1 a2 x29 s30
noncomputable def m_X8_turns_66 (F : Nat) (k47 : Nat → Int32 → Int32 → Int32 → zST → Option (Int32 × zST)) : Nat → Nat → Int32 → Int32 → Int32 → zST → Option (Int32 × zST)
  | 0 => fun _ _ _ _ _ => none
  | n + 1 => fun (a0 : Nat) (a1 : Int32) (a2 : Int32) (a4 : Int32) (σ : zST) => ldI σ (a0 + 1) 4 a1 fun (x32 : Int32) => if x32 ≤ a4 then (m_X8_turns_102 F k47 a0 a1 a2 σ) else (ldI σ (a0 + 9) 8 a4 fun (x36 : Int32) => ldI σ (a0 + 4) 8 a4 fun (x39 : Int32) => stI σ (a0 + 9) 8 a4 (x36 ||| (jshl 1 x39)) fun (s42 : zST) => nm (a4 + 1) fun (x45 : Int32) => (m_X8_turns_66 F k47 n) a0 a1 a2 x45 s42)
noncomputable def m_X8_turns_47 (F : Nat) : Nat → Nat → Int32 → Int32 → Int32 → zST → Option (Int32 × zST)
  | 0 => fun _ _ _ _ _ => none
  | n + 1 => fun (a0 : Nat) (a1 : Int32) (a2 : Int32) (a3 : Int32) (σ : zST) => if a3 = 0 then (some (a2, σ)) else (bd (m_X8_keeps F a0 a1 a1 σ) fun (x20 : Int32) (s21 : zST) => if x20 = 0 then (m_X8_turns_102 F (m_X8_turns_47 F n) a0 a1 a2 s21) else (nm (a2 + 1) fun (x24 : Int32) => m_X8_turns_66 F (m_X8_turns_47 F n) F a0 a1 x24 0 s21))
noncomputable def m_X8_turns_4 (F : Nat) : Nat → Nat → Int32 → Int32 → Int32 → zST → Option (Int32 × zST)
  | 0 => fun _ _ _ _ _ => none
  | n + 1 => fun (a0 : Nat) (a1 : Int32) (a2 : Int32) (a3 : Int32) (σ : zST) => ldI σ (a0 + 1) 4 a1 fun (x1 : Int32) => bd (m_X8_chooses F a0 ((jshl 1 x1) - 1) σ) fun (x4 : Int32) (s5 : zST) => if x4 ≤ a3 then (ldI s5 (a0 + 1) 4 a1 fun (x8 : Int32) => bv (m_X8_beginsMaps F a0 x8 s5) fun (s12 : zST) => m_X8_turns_47 F F a0 a1 a2 1 s12) else (stI s5 (a0 + 9) 8 a3 0 fun (s14 : zST) => nm (a3 + 1) fun (x17 : Int32) => (m_X8_turns_4 F n) a0 a1 a2 x17 s14)
noncomputable def m_X8_turns (F : Nat) (a0 : Nat) (a1 : Int32) (σ : zST) : Option (Int32 × zST) := m_X8_turns_4 F F a0 a1 0 0 σ
noncomputable def m_X8_symmetries (F : Nat) (a0 : Nat) (a1 : Int32) (σ : zST) : Option (Int32 × zST) := bd (m_X8_isGraph F a1 σ) fun (x1 : Int32) (s2 : zST) => bd (m_X8_goes F a0 x1 1 s2) fun (x4 : Int32) (s5 : zST) => if x4 = 0 then (some (0, s5)) else (bd (m_X8_turns F a0 a1 s5) fun (x8 : Int32) (s9 : zST) => some (x8, s9))
noncomputable def m_X8_orbits_55 (F : Nat) (k24 : Nat → Int32 → Int32 → Int32 → zST → Option (Int32 × zST)) (a0 : Nat) (a1 : Int32) (a3 : Int32) (t0 : Int32) (t1 : Int32) (σ : zST) : Option (Int32 × zST) := nm (t1 + t0) fun (x20 : Int32) => nm (a3 + 1) fun (x22 : Int32) => k24 a0 a1 x20 x22 σ
noncomputable def m_X8_orbits_63 (F : Nat) (a2 : Int32) (σ : zST) : Option (Int32 × zST) := some (a2, σ)
noncomputable def m_X8_orbits_24 (F : Nat) : Nat → Nat → Int32 → Int32 → Int32 → zST → Option (Int32 × zST)
  | 0 => fun _ _ _ _ _ => none
  | n + 1 => fun (a0 : Nat) (a1 : Int32) (a2 : Int32) (a3 : Int32) (σ : zST) => ldI σ (a0 + 1) 4 a1 fun (x12 : Int32) => if x12 ≤ a3 then (m_X8_orbits_63 F a2 σ) else (ldI σ (a0 + 9) 8 a3 fun (x16 : Int32) => if x16 &&& ((jshl 1 a3) - 1) = 0 then (m_X8_orbits_55 F (m_X8_orbits_24 F n) a0 a1 a3 1 a2 σ) else (m_X8_orbits_55 F (m_X8_orbits_24 F n) a0 a1 a3 0 a2 σ))
noncomputable def m_X8_orbits (F : Nat) (a0 : Nat) (a1 : Int32) (σ : zST) : Option (Int32 × zST) := bd (m_X8_isGraph F a1 σ) fun (x1 : Int32) (s2 : zST) => bd (m_X8_goes F a0 x1 1 s2) fun (x4 : Int32) (s5 : zST) => if x4 = 0 then (m_X8_orbits_63 F 0 s5) else (bd (m_X8_turns F a0 a1 s5) fun (x8 : Int32) (s9 : zST) => if x8 ≤ 0 then (m_X8_orbits_63 F 0 s9) else (m_X8_orbits_24 F F a0 a1 0 0 s9))
noncomputable def m_X8_orbit_31 (F : Nat)  (σ : zST) : Option (Int32 × zST) := some (0, σ)
noncomputable def m_X8_orbit (F : Nat) (a0 : Nat) (a1 : Int32) (a2 : Int32) (σ : zST) : Option (Int32 × zST) := bd (m_X8_isVertex F a0 a1 a2 σ) fun (x1 : Int32) (s2 : zST) => bd (m_X8_goes F a0 x1 1 s2) fun (x4 : Int32) (s5 : zST) => if x4 = 0 then (m_X8_orbit_31 F s5) else (bd (m_X8_turns F a0 a1 s5) fun (x8 : Int32) (s9 : zST) => if x8 ≤ 0 then (m_X8_orbit_31 F s9) else (ldI s9 (a0 + 9) 8 a2 fun (x12 : Int32) => some (x12, s9)))
noncomputable def m_X8_isPermutation_40 (F : Nat) (k4 : Int64 → Int32 → Int32 → zST → Option (Int32 × zST)) (a0 : Int64) (a3 : Int32) (t0 : Int32) (t1 : Int32) (σ : zST) : Option (Int32 × zST) := nm (t1 ||| t0) fun (x8 : Int32) => nm (a3 + 1) fun (x10 : Int32) => k4 a0 x8 x10 σ
noncomputable def m_X8_isPermutation_73 (F : Nat)  (σ : zST) : Option (Int32 × zST) := some (0, σ)
noncomputable def m_X8_isPermutation_4 (F : Nat) : Nat → Int64 → Int32 → Int32 → zST → Option (Int32 × zST)
  | 0 => fun _ _ _ _ => none
  | n + 1 => fun (a0 : Int64) (a2 : Int32) (a3 : Int32) (σ : zST) => if 8 ≤ a3 then (if lg_cmp a0 0 < 0 then (m_X8_isPermutation_73 F σ) else (if 0 ≤ lg_cmp a0 4294967296 then (m_X8_isPermutation_73 F σ) else (if a2 = 255 then (some (1, σ)) else (m_X8_isPermutation_73 F σ)))) else (nm ((jlshr a0 (4 * a3)) &&& 15) fun (x5 : Int64) => if 0 ≤ lg_cmp x5 8 then (m_X8_isPermutation_40 F (m_X8_isPermutation_4 F n) a0 a3 0 a2 σ) else (m_X8_isPermutation_40 F (m_X8_isPermutation_4 F n) a0 a3 (jshl 1 (x5.toInt32)) a2 σ))
noncomputable def m_X8_isPermutation (F : Nat) (a0 : Int64) (σ : zST) : Option (Int32 × zST) := m_X8_isPermutation_4 F F a0 0 0 σ
noncomputable def m_X8_images_2 (F : Nat) : Nat → Nat → Int64 → Int32 → zST → Option zST
  | 0 => fun _ _ _ _ => none
  | n + 1 => fun (a0 : Nat) (a1 : Int64) (a3 : Int32) (σ : zST) => if 8 ≤ a3 then (some σ) else (stI σ (a0 + 13) 8 a3 (((jlshr a1 (4 * a3)) &&& 15).toInt32) fun (s2 : zST) => nm (a3 + 1) fun (x5 : Int32) => (m_X8_images_2 F n) a0 a1 x5 s2)
noncomputable def m_X8_images (F : Nat) (a0 : Nat) (a1 : Int64) (σ : zST) : Option zST := m_X8_images_2 F F a0 a1 0 σ
noncomputable def m_X8_addGenerator_45 (F : Nat) : Nat → Nat → Int32 → zST → Option (Int32 × zST)
  | 0 => fun _ _ _ => none
  | n + 1 => fun (a0 : Nat) (a3 : Int32) (σ : zST) => if 8 ≤ a3 then (nm (sI σ a0 11 ((gI σ a0 11) + 1)) fun (s13 : zST) => bv (m_X8_closes F a0 s13) fun (s16 : zST) => some (gI s16 a0 14, s16)) else (ldI σ (a0 + 13) 8 a3 fun (x18 : Int32) => stI σ (a0 + 10) 48 ((8 * (gI σ a0 11)) + a3) x18 fun (s21 : zST) => nm (a3 + 1) fun (x24 : Int32) => (m_X8_addGenerator_45 F n) a0 x24 s21)
noncomputable def m_X8_addGenerator_26 (F : Nat) (a0 : Nat) (a1 : Int64) (t0 : Int32) (t1 : Nat) (σ : zST) : Option (Int32 × zST) := nm (sI σ t1 16 t0) fun (s6 : zST) => if gI s6 a0 16 ≤ 0 then (bv (m_X8_images F a0 a1 s6) fun (s10 : zST) => m_X8_addGenerator_45 F F a0 0 s10) else (some (0, s6))
noncomputable def m_X8_addGenerator (F : Nat) (a0 : Nat) (a1 : Int64) (σ : zST) : Option (Int32 × zST) := bd (m_X8_isPermutation F a1 σ) fun (x1 : Int32) (s2 : zST) => if x1 = 0 then (m_X8_addGenerator_26 F a0 a1 1 a0 s2) else (if gI s2 a0 11 = 6 then (m_X8_addGenerator_26 F a0 a1 2 a0 s2) else (m_X8_addGenerator_26 F a0 a1 0 a0 s2))
noncomputable def m_X8_forgetGenerators (F : Nat) (a0 : Nat) (σ : zST) : Option (Int32 × zST) := nm (sI σ a0 16 0) fun (s1 : zST) => nm (gI s1 a0 11) fun (x3 : Int32) => nm (sI s1 a0 11 0) fun (s5 : zST) => bv (m_X8_closes F a0 s5) fun (s8 : zST) => some (x3, s8)
noncomputable def m_X8_order (F : Nat) (a0 : Nat) (σ : zST) : Option (Int32 × zST) := nm (sI σ a0 16 0) fun (s1 : zST) => some (gI s1 a0 14, s1)
noncomputable def m_X8_isInGroup_13 (F : Nat) (a0 : Nat) (a1 : Int64) (t0 : Int32) (t1 : Nat) (σ : zST) : Option (Int32 × zST) := nm (sI σ t1 16 t0) fun (s5 : zST) => if gI s5 a0 16 ≤ 0 then (bv (m_X8_images F a0 a1 s5) fun (s9 : zST) => bd (m_X8_numbered F a0 s9) fun (x11 : Int32) (s12 : zST) => ldI s12 (a0 + 12) 40320 x11 fun (x14 : Int32) => gd (x14 = 0 ∨ x14 = 1) (some (x14, s12))) else (some (0, s5))
noncomputable def m_X8_isInGroup (F : Nat) (a0 : Nat) (a1 : Int64) (σ : zST) : Option (Int32 × zST) := bd (m_X8_isPermutation F a1 σ) fun (x1 : Int32) (s2 : zST) => if x1 = 0 then (m_X8_isInGroup_13 F a0 a1 1 a0 s2) else (m_X8_isInGroup_13 F a0 a1 0 a0 s2)
noncomputable def m_X8_moves_56 (F : Nat) (a2 : Int32) (σ : zST) : Option (Int32 × zST) := some (a2, σ)
noncomputable def m_X8_moves_18 (F : Nat) : Nat → Nat → Int32 → Int32 → Int32 → Int32 → zST → Option (Int32 × zST)
  | 0 => fun _ _ _ _ _ _ => none
  | n + 1 => fun (a0 : Nat) (a1 : Int32) (a2 : Int32) (a3 : Int32) (a4 : Int32) (σ : zST) => if gI σ a0 14 ≤ a4 then (m_X8_moves_56 F a2 σ) else (if a3 = 0 then (m_X8_moves_56 F a2 σ) else (ldI σ (a0 + 11) 40320 a4 fun (x9 : Int32) => nm (a2 ||| (jshl 1 ((jshr x9 (3 * a1)) &&& 7))) fun (x12 : Int32) => nm (a4 + 1) fun (x14 : Int32) => (m_X8_moves_18 F n) a0 a1 x12 a3 x14 σ))
noncomputable def m_X8_moves (F : Nat) (a0 : Nat) (a1 : Int32) (σ : zST) : Option (Int32 × zST) := bd (m_X8_in F a1 0 7 σ) fun (x1 : Int32) (s2 : zST) => bd (m_X8_goes F a0 x1 1 s2) fun (x4 : Int32) (s5 : zST) => m_X8_moves_18 F F a0 a1 0 x4 0 s5
noncomputable def m_X8_fixing_84 (F : Nat) (k19 : Nat → Int32 → Int32 → Int32 → Int32 → zST → Option (Int32 × zST)) (k38 : Nat → Int32 → Int32 → Int32 → Int32 → Int32 → Int32 → zST → Option (Int32 × zST)) (a0 : Nat) (a1 : Int32) (a2 : Int32) (a3 : Int32) (a4 : Int32) (a6 : Int32) (t0 : Int32) (σ : zST) : Option (Int32 × zST) := nm (a6 + 1) fun (x21 : Int32) => k38 a0 a1 a2 a3 a4 t0 x21 σ
noncomputable def m_X8_fixing_79 (F : Nat) (k19 : Nat → Int32 → Int32 → Int32 → Int32 → zST → Option (Int32 × zST)) (k38 : Nat → Int32 → Int32 → Int32 → Int32 → Int32 → Int32 → zST → Option (Int32 × zST)) (a0 : Nat) (a1 : Int32) (a2 : Int32) (a3 : Int32) (a4 : Int32) (a6 : Int32) (σ : zST) : Option (Int32 × zST) := m_X8_fixing_84 F k19 k38 a0 a1 a2 a3 a4 a6 1 σ
noncomputable def m_X8_fixing_83 (F : Nat) (k19 : Nat → Int32 → Int32 → Int32 → Int32 → zST → Option (Int32 × zST)) (k38 : Nat → Int32 → Int32 → Int32 → Int32 → Int32 → Int32 → zST → Option (Int32 × zST)) (a0 : Nat) (a1 : Int32) (a2 : Int32) (a3 : Int32) (a4 : Int32) (a6 : Int32) (σ : zST) : Option (Int32 × zST) := m_X8_fixing_84 F k19 k38 a0 a1 a2 a3 a4 a6 0 σ
noncomputable def m_X8_fixing_103 (F : Nat) (k19 : Nat → Int32 → Int32 → Int32 → Int32 → zST → Option (Int32 × zST)) (a0 : Nat) (a1 : Int32) (a3 : Int32) (a4 : Int32) (t0 : Int32) (t1 : Int32) (σ : zST) : Option (Int32 × zST) := nm (t1 + t0) fun (x17 : Int32) => nm (a4 + 1) fun (x19 : Int32) => k19 a0 a1 x17 a3 x19 σ
noncomputable def m_X8_fixing_38 (F : Nat) (k19 : Nat → Int32 → Int32 → Int32 → Int32 → zST → Option (Int32 × zST)) : Nat → Nat → Int32 → Int32 → Int32 → Int32 → Int32 → Int32 → zST → Option (Int32 × zST)
  | 0 => fun _ _ _ _ _ _ _ _ => none
  | n + 1 => fun (a0 : Nat) (a1 : Int32) (a2 : Int32) (a3 : Int32) (a4 : Int32) (a5 : Int32) (a6 : Int32) (σ : zST) => if 8 ≤ a6 then (if a5 = 0 then (m_X8_fixing_103 F k19 a0 a1 a3 a4 0 a2 σ) else (m_X8_fixing_103 F k19 a0 a1 a3 a4 1 a2 σ)) else (if a5 = 0 then (m_X8_fixing_83 F k19 (m_X8_fixing_38 F k19 n) a0 a1 a2 a3 a4 a6 σ) else (if (jshr a1 a6) &&& 1 = 0 then (m_X8_fixing_79 F k19 (m_X8_fixing_38 F k19 n) a0 a1 a2 a3 a4 a6 σ) else (ldI σ (a0 + 11) 40320 a4 fun (x13 : Int32) => if (jshr x13 (3 * a6)) &&& 7 = a6 then (m_X8_fixing_79 F k19 (m_X8_fixing_38 F k19 n) a0 a1 a2 a3 a4 a6 σ) else (m_X8_fixing_83 F k19 (m_X8_fixing_38 F k19 n) a0 a1 a2 a3 a4 a6 σ))))
noncomputable def m_X8_fixing_111 (F : Nat) (a2 : Int32) (σ : zST) : Option (Int32 × zST) := some (a2, σ)
noncomputable def m_X8_fixing_19 (F : Nat) : Nat → Nat → Int32 → Int32 → Int32 → Int32 → zST → Option (Int32 × zST)
  | 0 => fun _ _ _ _ _ _ => none
  | n + 1 => fun (a0 : Nat) (a1 : Int32) (a2 : Int32) (a3 : Int32) (a4 : Int32) (σ : zST) => if gI σ a0 14 ≤ a4 then (m_X8_fixing_111 F a2 σ) else (if a3 = 0 then (m_X8_fixing_111 F a2 σ) else (m_X8_fixing_38 F (m_X8_fixing_19 F n) F a0 a1 a2 a3 a4 1 0 σ))
noncomputable def m_X8_fixing (F : Nat) (a0 : Nat) (a1 : Int32) (σ : zST) : Option (Int32 × zST) := bd (m_X8_in F a1 0 255 σ) fun (x1 : Int32) (s2 : zST) => bd (m_X8_goes F a0 x1 1 s2) fun (x4 : Int32) (s5 : zST) => m_X8_fixing_19 F F a0 a1 0 x4 0 s5
noncomputable def m_X7_leastCode (F : Nat) (a0 : Nat) (a1 : Nat) (σ : zST) : Option (Int64 × zST) := bv (m_X0_search F (a0 + 21) a1 σ) fun (s2 : zST) => bd (m_X0_leastCode F (a0 + 21) a1 s2) fun (x4 : Int64) (s5 : zST) => some (x4, s5)
noncomputable def m_X7_haveOneForm (F : Nat) (a0 : Nat) (a1 : Nat) (a2 : Nat) (σ : zST) : Option (Int32 × zST) := bd (m_X7_leastCode F a0 a1 σ) fun (x1 : Int64) (s2 : zST) => bd (m_X7_leastCode F a0 a2 s2) fun (x4 : Int64) (s5 : zST) => if lg_cmp x1 x4 = 0 then (some (1, s5)) else (some (0, s5))
end
end
section
-- CanonCote$Graph.areTwins (II)Z
section
theorem dX2_areTwins_0 : decode cX2_areTwins 0 = .ok (.iconst 1, 1) := by decide +kernel
theorem dX2_areTwins_1 : decode cX2_areTwins 1 = .ok (.iload_n 1, 1) := by decide +kernel
theorem dX2_areTwins_2 : decode cX2_areTwins 2 = .ok (.ishl, 1) := by decide +kernel
theorem dX2_areTwins_3 : decode cX2_areTwins 3 = .ok (.iconst 1, 1) := by decide +kernel
theorem dX2_areTwins_4 : decode cX2_areTwins 4 = .ok (.iload_n 2, 1) := by decide +kernel
theorem dX2_areTwins_5 : decode cX2_areTwins 5 = .ok (.ishl, 1) := by decide +kernel
theorem dX2_areTwins_6 : decode cX2_areTwins 6 = .ok (.ior, 1) := by decide +kernel
theorem dX2_areTwins_7 : decode cX2_areTwins 7 = .ok (.istore_n 3, 1) := by decide +kernel
theorem dX2_areTwins_8 : decode cX2_areTwins 8 = .ok (.aload_n 0, 1) := by decide +kernel
theorem dX2_areTwins_9 : decode cX2_areTwins 9 = .ok (.getfield 19, 3) := by decide +kernel
theorem dX2_areTwins_12 : decode cX2_areTwins 12 = .ok (.iload_n 1, 1) := by decide +kernel
theorem dX2_areTwins_13 : decode cX2_areTwins 13 = .ok (.iaload, 1) := by decide +kernel
theorem dX2_areTwins_14 : decode cX2_areTwins 14 = .ok (.aload_n 0, 1) := by decide +kernel
theorem dX2_areTwins_15 : decode cX2_areTwins 15 = .ok (.getfield 19, 3) := by decide +kernel
theorem dX2_areTwins_18 : decode cX2_areTwins 18 = .ok (.iload_n 2, 1) := by decide +kernel
theorem dX2_areTwins_19 : decode cX2_areTwins 19 = .ok (.iaload, 1) := by decide +kernel
theorem dX2_areTwins_20 : decode cX2_areTwins 20 = .ok (.if_icmp .ne 26, 3) := by decide +kernel
theorem dX2_areTwins_23 : decode cX2_areTwins 23 = .ok (.aload_n 0, 1) := by decide +kernel
theorem dX2_areTwins_24 : decode cX2_areTwins 24 = .ok (.getfield 15, 3) := by decide +kernel
theorem dX2_areTwins_27 : decode cX2_areTwins 27 = .ok (.iload_n 1, 1) := by decide +kernel
theorem dX2_areTwins_28 : decode cX2_areTwins 28 = .ok (.iaload, 1) := by decide +kernel
theorem dX2_areTwins_29 : decode cX2_areTwins 29 = .ok (.iload_n 3, 1) := by decide +kernel
theorem dX2_areTwins_30 : decode cX2_areTwins 30 = .ok (.ior, 1) := by decide +kernel
theorem dX2_areTwins_31 : decode cX2_areTwins 31 = .ok (.aload_n 0, 1) := by decide +kernel
theorem dX2_areTwins_32 : decode cX2_areTwins 32 = .ok (.getfield 15, 3) := by decide +kernel
theorem dX2_areTwins_35 : decode cX2_areTwins 35 = .ok (.iload_n 2, 1) := by decide +kernel
theorem dX2_areTwins_36 : decode cX2_areTwins 36 = .ok (.iaload, 1) := by decide +kernel
theorem dX2_areTwins_37 : decode cX2_areTwins 37 = .ok (.iload_n 3, 1) := by decide +kernel
theorem dX2_areTwins_38 : decode cX2_areTwins 38 = .ok (.ior, 1) := by decide +kernel
theorem dX2_areTwins_39 : decode cX2_areTwins 39 = .ok (.if_icmp .ne 7, 3) := by decide +kernel
theorem dX2_areTwins_42 : decode cX2_areTwins 42 = .ok (.iconst 1, 1) := by decide +kernel
theorem dX2_areTwins_43 : decode cX2_areTwins 43 = .ok (.goto 4, 3) := by decide +kernel
theorem dX2_areTwins_46 : decode cX2_areTwins 46 = .ok (.iconst 0, 1) := by decide +kernel
theorem dX2_areTwins_47 : decode cX2_areTwins 47 = .ok (.ireturn, 1) := by decide +kernel
theorem in_X2_areTwins_Graph : ∀ w ∈ u_ws RX2 TX2 3, w ∈ wsX2_areTwins := by decide +kernel
theorem wd_X2_areTwins_1 : Cond.fieldLink RX2 19 (TX2 2).1 (TX2 2).2.1 (TX2 2).2.2.1 ∈ wsX2_areTwins := by decide +kernel
theorem wd_X2_areTwins_2 : Cond.fieldLink RX2 15 (TX2 1).1 (TX2 1).2.1 (TX2 1).2.2.1 ∈ wsX2_areTwins := by decide +kernel
def r_X2_areTwins : Room := { frames := 1, cells := 0, slots := 0, locals := 12 }
set_option maxRecDepth 100000 in
set_option maxHeartbeats 4000000 in
theorem w_X2_areTwins_46 {K : zK} (hk : zIs K RX2 cX2_areTwins 4 wsX2_areTwins (some .boolean) r_X2_areTwins) {r0 : Int32} {τ0 : zST} (hq : zQ K (some (.int r0)) τ0) (F : Nat)  (σ : zST) (h : m_X2_areTwins_46 F σ = some (r0, τ0)) : Z K 0 0 46 [] [] σ := by
  unfold m_X2_areTwins_46 at h
  refine Z_iconst hk dX2_areTwins_46 zc_iconst_0 ?_
  cases h
  exact Z_zret hk (by decide) hq dX2_areTwins_47
set_option maxRecDepth 100000 in
set_option maxHeartbeats 4000000 in
theorem w_X2_areTwins {K : zK} (hk : zIs K RX2 cX2_areTwins 4 wsX2_areTwins (some .boolean) r_X2_areTwins) {r0 : Int32} {τ0 : zST} (hq : zQ K (some (.int r0)) τ0) (F : Nat) (a0 : Nat) (a1 : Int32) (a2 : Int32) (ha0 : atGraph (kZ K) a0) (σ : zST) (h : m_X2_areTwins F a0 a1 a2 σ = some (r0, τ0)) : Z K 0 0 0 [(0, .ref (eA (kZ K) a0)), (1, .int a1), (2, .int a2)] [] σ := by
  unfold m_X2_areTwins at h
  refine Z_iconst hk dX2_areTwins_0 zc_iconst_1 ?_
  refine Z_iload_n hk 1 dX2_areTwins_1 rfl rfl ?_
  refine Z_ishl hk dX2_areTwins_2 ?_
  refine Z_iconst hk dX2_areTwins_3 zc_iconst_1 ?_
  refine Z_iload_n hk 2 dX2_areTwins_4 rfl rfl ?_
  refine Z_ishl hk dX2_areTwins_5 ?_
  refine Z_ior hk dX2_areTwins_6 ?_
  obtain ⟨x1, e2, h⟩ := nm_get h
  refine Z_eqI e2 ?_
  refine Z_istore_n hk (lv' := [(3, .int x1), (0, .ref (eA (kZ K) a0)), (1, .int a1), (2, .int a2)]) dX2_areTwins_7 rfl (by decide) rfl ?_
  refine Z_aload_n hk 1 dX2_areTwins_8 rfl rfl ?_
  refine Z_get hk in_X2_areTwins_Graph rfl ha0.cell.1 (ha0.cell.2 _) 2 (by decide) wd_X2_areTwins_1 rfl dX2_areTwins_9 ?_
  refine Z_iload_n hk 2 dX2_areTwins_12 rfl rfl ?_
  obtain ⟨i5, x3, e4, h⟩ := ldI_get h
  refine Z_iald hk (ha0.colours) i5 dX2_areTwins_13 ?_
  refine Z_eqI e4 ?_
  refine Z_aload_n hk 1 dX2_areTwins_14 rfl rfl ?_
  refine Z_get hk in_X2_areTwins_Graph rfl ha0.cell.1 (ha0.cell.2 _) 2 (by decide) wd_X2_areTwins_1 rfl dX2_areTwins_15 ?_
  refine Z_iload_n hk 3 dX2_areTwins_18 rfl rfl ?_
  obtain ⟨i8, x6, e7, h⟩ := ldI_get h
  refine Z_iald hk (ha0.colours) i8 dX2_areTwins_19 ?_
  refine Z_eqI e7 ?_
  refine Z_icmp_ne hk (tgt := 46) dX2_areTwins_20 (by decide) (fun c9 => ?_) (fun c9 => ?_)
  · have h := if_yes h c9
    refine Z_aload_n hk 1 dX2_areTwins_23 rfl rfl ?_
    refine Z_get hk in_X2_areTwins_Graph rfl ha0.cell.1 (ha0.cell.2 _) 1 (by decide) wd_X2_areTwins_2 rfl dX2_areTwins_24 ?_
    refine Z_iload_n hk 2 dX2_areTwins_27 rfl rfl ?_
    obtain ⟨i12, x10, e11, h⟩ := ldI_get h
    refine Z_iald hk (ha0.near) i12 dX2_areTwins_28 ?_
    refine Z_eqI e11 ?_
    refine Z_iload_n hk 0 dX2_areTwins_29 rfl rfl ?_
    refine Z_ior hk dX2_areTwins_30 ?_
    refine Z_aload_n hk 1 dX2_areTwins_31 rfl rfl ?_
    refine Z_get hk in_X2_areTwins_Graph rfl ha0.cell.1 (ha0.cell.2 _) 1 (by decide) wd_X2_areTwins_2 rfl dX2_areTwins_32 ?_
    refine Z_iload_n hk 3 dX2_areTwins_35 rfl rfl ?_
    obtain ⟨i15, x13, e14, h⟩ := ldI_get h
    refine Z_iald hk (ha0.near) i15 dX2_areTwins_36 ?_
    refine Z_eqI e14 ?_
    refine Z_iload_n hk 0 dX2_areTwins_37 rfl rfl ?_
    refine Z_ior hk dX2_areTwins_38 ?_
    refine Z_icmp_ne hk (tgt := 46) dX2_areTwins_39 (by decide) (fun c16 => ?_) (fun c16 => ?_)
    · have h := if_yes h c16
      refine Z_iconst hk dX2_areTwins_42 zc_iconst_1 ?_
      refine Z_goto hk (tgt := 47) dX2_areTwins_43 (by decide) ?_
      cases h
      exact Z_zret hk (by decide) hq dX2_areTwins_47
    · have h := if_no h c16
      refine Z_sub [] rfl ?_
      exact w_X2_areTwins_46 hk hq F σ h
  · have h := if_no h c9
    refine Z_sub [] rfl ?_
    exact w_X2_areTwins_46 hk hq F σ h
theorem c_X2_areTwins {l : Launch} {E : zE} (hL : eL E) (hJ : eJ E) (F : Nat) (a0 : Nat) (a1 : Int32) (a2 : Int32) (ha0 : atGraph E a0) (σ : zST) {r0 : Int32} {τ0 : zST} (h : m_X2_areTwins F a0 a1 a2 σ = some (r0, τ0)) : Ct l yX2_areTwins wsX2_areTwins r_X2_areTwins E [.ref (eA E a0), .int a1, .int a2] σ (some (.int r0)) τ0 := by
  refine Ct_of (by decide) rfl hL hJ (Nat.le_of_ble_eq_true rfl) (fun K hE hl hk hq => ?_)
  subst hE
  exact w_X2_areTwins hk hq F a0 a1 a2 ha0 σ h
end

-- java/lang/Integer.bitCount (I)I
section
theorem dJ6_bitCount_0f7a4_0 : decode cJ6_bitCount_0f7a4 0 = .ok (.iload_n 0, 1) := by decide +kernel
theorem dJ6_bitCount_0f7a4_1 : decode cJ6_bitCount_0f7a4 1 = .ok (.iload_n 0, 1) := by decide +kernel
theorem dJ6_bitCount_0f7a4_2 : decode cJ6_bitCount_0f7a4 2 = .ok (.iconst 1, 1) := by decide +kernel
theorem dJ6_bitCount_0f7a4_3 : decode cJ6_bitCount_0f7a4 3 = .ok (.iushr, 1) := by decide +kernel
theorem dJ6_bitCount_0f7a4_4 : decode cJ6_bitCount_0f7a4 4 = .ok (.ldc_w 265, 3) := by decide +kernel
theorem dJ6_bitCount_0f7a4_7 : decode cJ6_bitCount_0f7a4 7 = .ok (.iand, 1) := by decide +kernel
theorem dJ6_bitCount_0f7a4_8 : decode cJ6_bitCount_0f7a4 8 = .ok (.isub, 1) := by decide +kernel
theorem dJ6_bitCount_0f7a4_9 : decode cJ6_bitCount_0f7a4 9 = .ok (.istore_n 0, 1) := by decide +kernel
theorem dJ6_bitCount_0f7a4_10 : decode cJ6_bitCount_0f7a4 10 = .ok (.iload_n 0, 1) := by decide +kernel
theorem dJ6_bitCount_0f7a4_11 : decode cJ6_bitCount_0f7a4 11 = .ok (.ldc_w 266, 3) := by decide +kernel
theorem dJ6_bitCount_0f7a4_14 : decode cJ6_bitCount_0f7a4 14 = .ok (.iand, 1) := by decide +kernel
theorem dJ6_bitCount_0f7a4_15 : decode cJ6_bitCount_0f7a4 15 = .ok (.iload_n 0, 1) := by decide +kernel
theorem dJ6_bitCount_0f7a4_16 : decode cJ6_bitCount_0f7a4 16 = .ok (.iconst 2, 1) := by decide +kernel
theorem dJ6_bitCount_0f7a4_17 : decode cJ6_bitCount_0f7a4 17 = .ok (.iushr, 1) := by decide +kernel
theorem dJ6_bitCount_0f7a4_18 : decode cJ6_bitCount_0f7a4 18 = .ok (.ldc_w 266, 3) := by decide +kernel
theorem dJ6_bitCount_0f7a4_21 : decode cJ6_bitCount_0f7a4 21 = .ok (.iand, 1) := by decide +kernel
theorem dJ6_bitCount_0f7a4_22 : decode cJ6_bitCount_0f7a4 22 = .ok (.iadd, 1) := by decide +kernel
theorem dJ6_bitCount_0f7a4_23 : decode cJ6_bitCount_0f7a4 23 = .ok (.istore_n 0, 1) := by decide +kernel
theorem dJ6_bitCount_0f7a4_24 : decode cJ6_bitCount_0f7a4 24 = .ok (.iload_n 0, 1) := by decide +kernel
theorem dJ6_bitCount_0f7a4_25 : decode cJ6_bitCount_0f7a4 25 = .ok (.iload_n 0, 1) := by decide +kernel
theorem dJ6_bitCount_0f7a4_26 : decode cJ6_bitCount_0f7a4 26 = .ok (.iconst 4, 1) := by decide +kernel
theorem dJ6_bitCount_0f7a4_27 : decode cJ6_bitCount_0f7a4 27 = .ok (.iushr, 1) := by decide +kernel
theorem dJ6_bitCount_0f7a4_28 : decode cJ6_bitCount_0f7a4 28 = .ok (.iadd, 1) := by decide +kernel
theorem dJ6_bitCount_0f7a4_29 : decode cJ6_bitCount_0f7a4 29 = .ok (.ldc_w 267, 3) := by decide +kernel
theorem dJ6_bitCount_0f7a4_32 : decode cJ6_bitCount_0f7a4 32 = .ok (.iand, 1) := by decide +kernel
theorem dJ6_bitCount_0f7a4_33 : decode cJ6_bitCount_0f7a4 33 = .ok (.istore_n 0, 1) := by decide +kernel
theorem dJ6_bitCount_0f7a4_34 : decode cJ6_bitCount_0f7a4 34 = .ok (.iload_n 0, 1) := by decide +kernel
theorem dJ6_bitCount_0f7a4_35 : decode cJ6_bitCount_0f7a4 35 = .ok (.iload_n 0, 1) := by decide +kernel
theorem dJ6_bitCount_0f7a4_36 : decode cJ6_bitCount_0f7a4 36 = .ok (.bipush 8, 2) := by decide +kernel
theorem dJ6_bitCount_0f7a4_38 : decode cJ6_bitCount_0f7a4 38 = .ok (.iushr, 1) := by decide +kernel
theorem dJ6_bitCount_0f7a4_39 : decode cJ6_bitCount_0f7a4 39 = .ok (.iadd, 1) := by decide +kernel
theorem dJ6_bitCount_0f7a4_40 : decode cJ6_bitCount_0f7a4 40 = .ok (.istore_n 0, 1) := by decide +kernel
theorem dJ6_bitCount_0f7a4_41 : decode cJ6_bitCount_0f7a4 41 = .ok (.iload_n 0, 1) := by decide +kernel
theorem dJ6_bitCount_0f7a4_42 : decode cJ6_bitCount_0f7a4 42 = .ok (.iload_n 0, 1) := by decide +kernel
theorem dJ6_bitCount_0f7a4_43 : decode cJ6_bitCount_0f7a4 43 = .ok (.bipush 16, 2) := by decide +kernel
theorem dJ6_bitCount_0f7a4_45 : decode cJ6_bitCount_0f7a4 45 = .ok (.iushr, 1) := by decide +kernel
theorem dJ6_bitCount_0f7a4_46 : decode cJ6_bitCount_0f7a4 46 = .ok (.iadd, 1) := by decide +kernel
theorem dJ6_bitCount_0f7a4_47 : decode cJ6_bitCount_0f7a4 47 = .ok (.istore_n 0, 1) := by decide +kernel
theorem dJ6_bitCount_0f7a4_48 : decode cJ6_bitCount_0f7a4 48 = .ok (.iload_n 0, 1) := by decide +kernel
theorem dJ6_bitCount_0f7a4_49 : decode cJ6_bitCount_0f7a4 49 = .ok (.bipush 63, 2) := by decide +kernel
theorem dJ6_bitCount_0f7a4_51 : decode cJ6_bitCount_0f7a4 51 = .ok (.iand, 1) := by decide +kernel
theorem dJ6_bitCount_0f7a4_52 : decode cJ6_bitCount_0f7a4 52 = .ok (.ireturn, 1) := by decide +kernel
theorem wd_J6_bitCount_0f7a4_0 : Cond.constant RJ6 265 1431655765 ∈ wsJ6_bitCount_0f7a4 := by decide +kernel
theorem wd_J6_bitCount_0f7a4_1 : Cond.constant RJ6 266 858993459 ∈ wsJ6_bitCount_0f7a4 := by decide +kernel
theorem wd_J6_bitCount_0f7a4_2 : Cond.constant RJ6 267 252645135 ∈ wsJ6_bitCount_0f7a4 := by decide +kernel
def r_J6_bitCount_0f7a4 : Room := { frames := 1, cells := 0, slots := 0, locals := 12 }
set_option maxRecDepth 100000 in
set_option maxHeartbeats 4000000 in
theorem w_J6_bitCount_0f7a4 {K : zK} (hk : zIs K RJ6 cJ6_bitCount_0f7a4 1 wsJ6_bitCount_0f7a4 (some .int) r_J6_bitCount_0f7a4) {r0 : Int32} {τ0 : zST} (hq : zQ K (some (.int r0)) τ0) (F : Nat) (a0 : Int32) (σ : zST) (h : m_J6_bitCount_0f7a4 F a0 σ = some (r0, τ0)) : Z K 0 0 0 [(0, .int a0)] [] σ := by
  unfold m_J6_bitCount_0f7a4 at h
  refine Z_iload_n hk 0 dJ6_bitCount_0f7a4_0 rfl rfl ?_
  refine Z_iload_n hk 0 dJ6_bitCount_0f7a4_1 rfl rfl ?_
  refine Z_iconst hk dJ6_bitCount_0f7a4_2 zc_iconst_1 ?_
  refine Z_iushr hk dJ6_bitCount_0f7a4_3 ?_
  refine Z_ldcw hk (v := 1431655765) dJ6_bitCount_0f7a4_4 wd_J6_bitCount_0f7a4_0 ?_
  refine Z_iand hk dJ6_bitCount_0f7a4_7 ?_
  refine Z_isub hk dJ6_bitCount_0f7a4_8 ?_
  obtain ⟨x1, e2, h⟩ := nm_get h
  refine Z_eqI e2 ?_
  refine Z_istore_n hk (lv' := [(0, .int x1)]) dJ6_bitCount_0f7a4_9 rfl (by decide) rfl ?_
  refine Z_iload_n hk 0 dJ6_bitCount_0f7a4_10 rfl rfl ?_
  refine Z_ldcw hk (v := 858993459) dJ6_bitCount_0f7a4_11 wd_J6_bitCount_0f7a4_1 ?_
  refine Z_iand hk dJ6_bitCount_0f7a4_14 ?_
  refine Z_iload_n hk 0 dJ6_bitCount_0f7a4_15 rfl rfl ?_
  refine Z_iconst hk dJ6_bitCount_0f7a4_16 zc_iconst_2 ?_
  refine Z_iushr hk dJ6_bitCount_0f7a4_17 ?_
  refine Z_ldcw hk (v := 858993459) dJ6_bitCount_0f7a4_18 wd_J6_bitCount_0f7a4_1 ?_
  refine Z_iand hk dJ6_bitCount_0f7a4_21 ?_
  refine Z_iadd hk dJ6_bitCount_0f7a4_22 ?_
  obtain ⟨x3, e4, h⟩ := nm_get h
  refine Z_eqI e4 ?_
  refine Z_istore_n hk (lv' := [(0, .int x3)]) dJ6_bitCount_0f7a4_23 rfl (by decide) rfl ?_
  refine Z_iload_n hk 0 dJ6_bitCount_0f7a4_24 rfl rfl ?_
  refine Z_iload_n hk 0 dJ6_bitCount_0f7a4_25 rfl rfl ?_
  refine Z_iconst hk dJ6_bitCount_0f7a4_26 zc_iconst_4 ?_
  refine Z_iushr hk dJ6_bitCount_0f7a4_27 ?_
  refine Z_iadd hk dJ6_bitCount_0f7a4_28 ?_
  refine Z_ldcw hk (v := 252645135) dJ6_bitCount_0f7a4_29 wd_J6_bitCount_0f7a4_2 ?_
  refine Z_iand hk dJ6_bitCount_0f7a4_32 ?_
  obtain ⟨x5, e6, h⟩ := nm_get h
  refine Z_eqI e6 ?_
  refine Z_istore_n hk (lv' := [(0, .int x5)]) dJ6_bitCount_0f7a4_33 rfl (by decide) rfl ?_
  refine Z_iload_n hk 0 dJ6_bitCount_0f7a4_34 rfl rfl ?_
  refine Z_iload_n hk 0 dJ6_bitCount_0f7a4_35 rfl rfl ?_
  refine Z_bipush hk dJ6_bitCount_0f7a4_36 zc_bipush_8 ?_
  refine Z_iushr hk dJ6_bitCount_0f7a4_38 ?_
  refine Z_iadd hk dJ6_bitCount_0f7a4_39 ?_
  obtain ⟨x7, e8, h⟩ := nm_get h
  refine Z_eqI e8 ?_
  refine Z_istore_n hk (lv' := [(0, .int x7)]) dJ6_bitCount_0f7a4_40 rfl (by decide) rfl ?_
  refine Z_iload_n hk 0 dJ6_bitCount_0f7a4_41 rfl rfl ?_
  refine Z_iload_n hk 0 dJ6_bitCount_0f7a4_42 rfl rfl ?_
  refine Z_bipush hk dJ6_bitCount_0f7a4_43 zc_bipush_16 ?_
  refine Z_iushr hk dJ6_bitCount_0f7a4_45 ?_
  refine Z_iadd hk dJ6_bitCount_0f7a4_46 ?_
  obtain ⟨x9, e10, h⟩ := nm_get h
  refine Z_eqI e10 ?_
  refine Z_istore_n hk (lv' := [(0, .int x9)]) dJ6_bitCount_0f7a4_47 rfl (by decide) rfl ?_
  refine Z_iload_n hk 0 dJ6_bitCount_0f7a4_48 rfl rfl ?_
  refine Z_bipush hk dJ6_bitCount_0f7a4_49 zc_bipush_63 ?_
  refine Z_iand hk dJ6_bitCount_0f7a4_51 ?_
  cases h
  exact Z_iret hk hq dJ6_bitCount_0f7a4_52
theorem c_J6_bitCount_0f7a4 {l : Launch} {E : zE} (hL : eL E) (hJ : eJ E) (F : Nat) (a0 : Int32) (σ : zST) {r0 : Int32} {τ0 : zST} (h : m_J6_bitCount_0f7a4 F a0 σ = some (r0, τ0)) : Ct l yJ6_bitCount_0f7a4 wsJ6_bitCount_0f7a4 r_J6_bitCount_0f7a4 E [.int a0] σ (some (.int r0)) τ0 := by
  refine Ct_of (by decide) rfl hL hJ (Nat.le_of_ble_eq_true rfl) (fun K hE hl hk hq => ?_)
  subst hE
  exact w_J6_bitCount_0f7a4 hk hq F a0 σ h
end

-- java/util/Arrays.fill ([II)V
section
theorem dJ7_fill_53178_0 : decode cJ7_fill_53178 0 = .ok (.iconst 0, 1) := by decide +kernel
theorem dJ7_fill_53178_1 : decode cJ7_fill_53178 1 = .ok (.istore_n 2, 1) := by decide +kernel
theorem dJ7_fill_53178_2 : decode cJ7_fill_53178 2 = .ok (.aload_n 0, 1) := by decide +kernel
theorem dJ7_fill_53178_3 : decode cJ7_fill_53178 3 = .ok (.arraylength, 1) := by decide +kernel
theorem dJ7_fill_53178_4 : decode cJ7_fill_53178 4 = .ok (.istore_n 3, 1) := by decide +kernel
theorem dJ7_fill_53178_5 : decode cJ7_fill_53178 5 = .ok (.iload_n 2, 1) := by decide +kernel
theorem dJ7_fill_53178_6 : decode cJ7_fill_53178 6 = .ok (.iload_n 3, 1) := by decide +kernel
theorem dJ7_fill_53178_7 : decode cJ7_fill_53178 7 = .ok (.if_icmp .ge 13, 3) := by decide +kernel
theorem dJ7_fill_53178_10 : decode cJ7_fill_53178 10 = .ok (.aload_n 0, 1) := by decide +kernel
theorem dJ7_fill_53178_11 : decode cJ7_fill_53178 11 = .ok (.iload_n 2, 1) := by decide +kernel
theorem dJ7_fill_53178_12 : decode cJ7_fill_53178 12 = .ok (.iload_n 1, 1) := by decide +kernel
theorem dJ7_fill_53178_13 : decode cJ7_fill_53178 13 = .ok (.iastore, 1) := by decide +kernel
theorem dJ7_fill_53178_14 : decode cJ7_fill_53178 14 = .ok (.iinc 2 1, 3) := by decide +kernel
theorem dJ7_fill_53178_17 : decode cJ7_fill_53178 17 = .ok (.goto (-12), 3) := by decide +kernel
theorem dJ7_fill_53178_20 : decode cJ7_fill_53178 20 = .ok (.return_, 1) := by decide +kernel
def r_J7_fill_53178 : Room := { frames := 1, cells := 0, slots := 0, locals := 12 }
set_option maxRecDepth 100000 in
set_option maxHeartbeats 4000000 in
theorem w_J7_fill_53178_5 {K : zK} (hk : zIs K RJ7 cJ7_fill_53178 4 wsJ7_fill_53178 none r_J7_fill_53178) {τ0 : zST} (hq : zQ K none τ0) (F : Nat) (ln : Nat) : ∀ (n : Nat) (a0 : Nat) (a1 : Int32) (a2 : Int32) (a3 : Int32) (ha0 : aI (kZ K) a0 ln) (σ : zST), m_J7_fill_53178_5 F ln n a0 a1 a2 a3 σ = some τ0 → Z K 0 0 5 [(0, .ref (eA (kZ K) a0)), (1, .int a1), (2, .int a2), (3, .int a3)] [] σ := by
  intro n
  induction n with
  | zero => intro a0 a1 a2 a3 ha0 σ h; cases h
  | succ n ih =>
    intro a0 a1 a2 a3 ha0 σ h
    rw [m_J7_fill_53178_5] at h
    refine Z_iload_n hk 2 dJ7_fill_53178_5 rfl rfl ?_
    refine Z_iload_n hk 3 dJ7_fill_53178_6 rfl rfl ?_
    refine Z_icmp_ge hk (tgt := 20) dJ7_fill_53178_7 (by decide) (fun c3 => ?_) (fun c3 => ?_)
    · have h := if_yes h c3
      cases h
      exact Z_vret hk hq dJ7_fill_53178_20
    · have h := if_no h c3
      refine Z_aload_n hk 0 dJ7_fill_53178_10 rfl rfl ?_
      refine Z_iload_n hk 2 dJ7_fill_53178_11 rfl rfl ?_
      refine Z_iload_n hk 1 dJ7_fill_53178_12 rfl rfl ?_
      obtain ⟨i6, s4, e5, h⟩ := stI_get h
      refine Z_iast hk ha0 i6 dJ7_fill_53178_13 ?_
      refine Z_eqS e5 ?_
      obtain ⟨x7, e8, h⟩ := nm_get h
      refine Z_iinc hk 2 (v := x7) (lv' := [(2, .int x7), (0, .ref (eA (kZ K) a0)), (1, .int a1), (3, .int a3)]) dJ7_fill_53178_14 rfl (by rw [zc_iinc_1]; exact e8) (by decide) rfl ?_
      refine Z_goto hk (tgt := 5) dJ7_fill_53178_17 (by decide) ?_
      refine Z_sub [1, 2, 0, 3] rfl ?_
      exact ih a0 a1 x7 a3 ha0 s4 h
set_option maxRecDepth 100000 in
set_option maxHeartbeats 4000000 in
theorem w_J7_fill_53178 {K : zK} (hk : zIs K RJ7 cJ7_fill_53178 4 wsJ7_fill_53178 none r_J7_fill_53178) {τ0 : zST} (hq : zQ K none τ0) (F : Nat) (ln : Nat) (a0 : Nat) (a1 : Int32) (ha0 : aI (kZ K) a0 ln) (σ : zST) (h : m_J7_fill_53178 F ln a0 a1 σ = some τ0) : Z K 0 0 0 [(0, .ref (eA (kZ K) a0)), (1, .int a1)] [] σ := by
  unfold m_J7_fill_53178 at h
  refine Z_iconst hk dJ7_fill_53178_0 zc_iconst_0 ?_
  refine Z_istore_n hk (lv' := [(2, .int 0), (0, .ref (eA (kZ K) a0)), (1, .int a1)]) dJ7_fill_53178_1 rfl (by decide) rfl ?_
  refine Z_aload_n hk 1 dJ7_fill_53178_2 rfl rfl ?_
  refine Z_ialen hk ha0 dJ7_fill_53178_3 ?_
  obtain ⟨x1, e2, h⟩ := nm_get h
  refine Z_eqI e2 ?_
  refine Z_istore_n hk (lv' := [(3, .int x1), (2, .int 0), (0, .ref (eA (kZ K) a0)), (1, .int a1)]) dJ7_fill_53178_4 rfl (by decide) rfl ?_
  refine Z_sub [2, 3, 1, 0] rfl ?_
  exact w_J7_fill_53178_5 hk hq F ln F a0 a1 0 x1 ha0 σ h
theorem c_J7_fill_53178 {l : Launch} {E : zE} (hL : eL E) (hJ : eJ E) (F : Nat) (ln : Nat) (a0 : Nat) (a1 : Int32) (ha0 : aI E a0 ln) (σ : zST) {τ0 : zST} (h : m_J7_fill_53178 F ln a0 a1 σ = some τ0) : Ct l yJ7_fill_53178 wsJ7_fill_53178 r_J7_fill_53178 E [.ref (eA E a0), .int a1] σ none τ0 := by
  refine Ct_of (by decide) rfl hL hJ (Nat.le_of_ble_eq_true rfl) (fun K hE hl hk hq => ?_)
  subst hE
  exact w_J7_fill_53178 hk hq F ln a0 a1 ha0 σ h
end

-- CanonCote.below (I)I
section
theorem dX7_below_0 : decode cX7_below 0 = .ok (.iconst 1, 1) := by decide +kernel
theorem dX7_below_1 : decode cX7_below 1 = .ok (.iload_n 0, 1) := by decide +kernel
theorem dX7_below_2 : decode cX7_below 2 = .ok (.ishl, 1) := by decide +kernel
theorem dX7_below_3 : decode cX7_below 3 = .ok (.iconst 1, 1) := by decide +kernel
theorem dX7_below_4 : decode cX7_below 4 = .ok (.isub, 1) := by decide +kernel
theorem dX7_below_5 : decode cX7_below 5 = .ok (.ireturn, 1) := by decide +kernel
def r_X7_below : Room := { frames := 1, cells := 0, slots := 0, locals := 12 }
set_option maxRecDepth 100000 in
set_option maxHeartbeats 4000000 in
theorem w_X7_below {K : zK} (hk : zIs K RX7 cX7_below 1 wsX7_below (some .int) r_X7_below) {r0 : Int32} {τ0 : zST} (hq : zQ K (some (.int r0)) τ0) (F : Nat) (a0 : Int32) (σ : zST) (h : m_X7_below F a0 σ = some (r0, τ0)) : Z K 0 0 0 [(0, .int a0)] [] σ := by
  unfold m_X7_below at h
  refine Z_iconst hk dX7_below_0 zc_iconst_1 ?_
  refine Z_iload_n hk 0 dX7_below_1 rfl rfl ?_
  refine Z_ishl hk dX7_below_2 ?_
  refine Z_iconst hk dX7_below_3 zc_iconst_1 ?_
  refine Z_isub hk dX7_below_4 ?_
  cases h
  exact Z_iret hk hq dX7_below_5
theorem c_X7_below {l : Launch} {E : zE} (hL : eL E) (hJ : eJ E) (F : Nat) (a0 : Int32) (σ : zST) {r0 : Int32} {τ0 : zST} (h : m_X7_below F a0 σ = some (r0, τ0)) : Ct l yX7_below wsX7_below r_X7_below E [.int a0] σ (some (.int r0)) τ0 := by
  refine Ct_of (by decide) rfl hL hJ (Nat.le_of_ble_eq_true rfl) (fun K hE hl hk hq => ?_)
  subst hE
  exact w_X7_below hk hq F a0 σ h
end

-- java/util/Arrays.fill ([JJ)V
section
theorem dJ7_fill_d0a16_0 : decode cJ7_fill_d0a16 0 = .ok (.iconst 0, 1) := by decide +kernel
theorem dJ7_fill_d0a16_1 : decode cJ7_fill_d0a16 1 = .ok (.istore_n 3, 1) := by decide +kernel
theorem dJ7_fill_d0a16_2 : decode cJ7_fill_d0a16 2 = .ok (.aload_n 0, 1) := by decide +kernel
theorem dJ7_fill_d0a16_3 : decode cJ7_fill_d0a16 3 = .ok (.arraylength, 1) := by decide +kernel
theorem dJ7_fill_d0a16_4 : decode cJ7_fill_d0a16 4 = .ok (.istore 4, 2) := by decide +kernel
theorem dJ7_fill_d0a16_6 : decode cJ7_fill_d0a16 6 = .ok (.iload_n 3, 1) := by decide +kernel
theorem dJ7_fill_d0a16_7 : decode cJ7_fill_d0a16 7 = .ok (.iload 4, 2) := by decide +kernel
theorem dJ7_fill_d0a16_9 : decode cJ7_fill_d0a16 9 = .ok (.if_icmp .ge 13, 3) := by decide +kernel
theorem dJ7_fill_d0a16_12 : decode cJ7_fill_d0a16 12 = .ok (.aload_n 0, 1) := by decide +kernel
theorem dJ7_fill_d0a16_13 : decode cJ7_fill_d0a16 13 = .ok (.iload_n 3, 1) := by decide +kernel
theorem dJ7_fill_d0a16_14 : decode cJ7_fill_d0a16 14 = .ok (.lload_n 1, 1) := by decide +kernel
theorem dJ7_fill_d0a16_15 : decode cJ7_fill_d0a16 15 = .ok (.lastore, 1) := by decide +kernel
theorem dJ7_fill_d0a16_16 : decode cJ7_fill_d0a16 16 = .ok (.iinc 3 1, 3) := by decide +kernel
theorem dJ7_fill_d0a16_19 : decode cJ7_fill_d0a16 19 = .ok (.goto (-13), 3) := by decide +kernel
theorem dJ7_fill_d0a16_22 : decode cJ7_fill_d0a16 22 = .ok (.return_, 1) := by decide +kernel
def r_J7_fill_d0a16 : Room := { frames := 1, cells := 0, slots := 0, locals := 12 }
set_option maxRecDepth 100000 in
set_option maxHeartbeats 4000000 in
theorem w_J7_fill_d0a16_6 {K : zK} (hk : zIs K RJ7 cJ7_fill_d0a16 5 wsJ7_fill_d0a16 none r_J7_fill_d0a16) {τ0 : zST} (hq : zQ K none τ0) (F : Nat) (ln : Nat) : ∀ (n : Nat) (a0 : Nat) (a1 : Int64) (a3 : Int32) (a4 : Int32) (ha0 : aJ (kZ K) a0 ln) (σ : zST), m_J7_fill_d0a16_6 F ln n a0 a1 a3 a4 σ = some τ0 → Z K 0 0 6 [(0, .ref (eA (kZ K) a0)), (1, .long a1), (3, .int a3), (4, .int a4)] [] σ := by
  intro n
  induction n with
  | zero => intro a0 a1 a3 a4 ha0 σ h; cases h
  | succ n ih =>
    intro a0 a1 a3 a4 ha0 σ h
    rw [m_J7_fill_d0a16_6] at h
    refine Z_iload_n hk 2 dJ7_fill_d0a16_6 rfl rfl ?_
    refine Z_iload hk 3 dJ7_fill_d0a16_7 rfl ?_
    refine Z_icmp_ge hk (tgt := 22) dJ7_fill_d0a16_9 (by decide) (fun c3 => ?_) (fun c3 => ?_)
    · have h := if_yes h c3
      cases h
      exact Z_vret hk hq dJ7_fill_d0a16_22
    · have h := if_no h c3
      refine Z_aload_n hk 0 dJ7_fill_d0a16_12 rfl rfl ?_
      refine Z_iload_n hk 2 dJ7_fill_d0a16_13 rfl rfl ?_
      refine Z_lload_n hk 1 dJ7_fill_d0a16_14 rfl rfl ?_
      obtain ⟨i6, s4, e5, h⟩ := stL_get h
      refine Z_last hk ha0 i6 dJ7_fill_d0a16_15 ?_
      refine Z_eqS e5 ?_
      obtain ⟨x7, e8, h⟩ := nm_get h
      refine Z_iinc hk 2 (v := x7) (lv' := [(3, .int x7), (0, .ref (eA (kZ K) a0)), (1, .long a1), (4, .int a4)]) dJ7_fill_d0a16_16 rfl (by rw [zc_iinc_1]; exact e8) (by decide) rfl ?_
      refine Z_goto hk (tgt := 6) dJ7_fill_d0a16_19 (by decide) ?_
      refine Z_sub [1, 2, 0, 3] rfl ?_
      exact ih a0 a1 x7 a4 ha0 s4 h
set_option maxRecDepth 100000 in
set_option maxHeartbeats 4000000 in
theorem w_J7_fill_d0a16 {K : zK} (hk : zIs K RJ7 cJ7_fill_d0a16 5 wsJ7_fill_d0a16 none r_J7_fill_d0a16) {τ0 : zST} (hq : zQ K none τ0) (F : Nat) (ln : Nat) (a0 : Nat) (a1 : Int64) (ha0 : aJ (kZ K) a0 ln) (σ : zST) (h : m_J7_fill_d0a16 F ln a0 a1 σ = some τ0) : Z K 0 0 0 [(0, .ref (eA (kZ K) a0)), (1, .long a1)] [] σ := by
  unfold m_J7_fill_d0a16 at h
  refine Z_iconst hk dJ7_fill_d0a16_0 zc_iconst_0 ?_
  refine Z_istore_n hk (lv' := [(3, .int 0), (0, .ref (eA (kZ K) a0)), (1, .long a1)]) dJ7_fill_d0a16_1 rfl (by decide) rfl ?_
  refine Z_aload_n hk 1 dJ7_fill_d0a16_2 rfl rfl ?_
  refine Z_lalen hk ha0 dJ7_fill_d0a16_3 ?_
  obtain ⟨x1, e2, h⟩ := nm_get h
  refine Z_eqI e2 ?_
  refine Z_istore hk (lv' := [(4, .int x1), (3, .int 0), (0, .ref (eA (kZ K) a0)), (1, .long a1)]) dJ7_fill_d0a16_4 (by decide) rfl ?_
  refine Z_sub [2, 3, 1, 0] rfl ?_
  exact w_J7_fill_d0a16_6 hk hq F ln F a0 a1 0 x1 ha0 σ h
theorem c_J7_fill_d0a16 {l : Launch} {E : zE} (hL : eL E) (hJ : eJ E) (F : Nat) (ln : Nat) (a0 : Nat) (a1 : Int64) (ha0 : aJ E a0 ln) (σ : zST) {τ0 : zST} (h : m_J7_fill_d0a16 F ln a0 a1 σ = some τ0) : Ct l yJ7_fill_d0a16 wsJ7_fill_d0a16 r_J7_fill_d0a16 E [.ref (eA E a0), .long a1] σ none τ0 := by
  refine Ct_of (by decide) rfl hL hJ (Nat.le_of_ble_eq_true rfl) (fun K hE hl hk hq => ?_)
  subst hE
  exact w_J7_fill_d0a16 hk hq F ln a0 a1 ha0 σ h
end

-- CanonCote.isIn (II)Z
section
theorem dX7_isIn_0 : decode cX7_isIn 0 = .ok (.iload_n 0, 1) := by decide +kernel
theorem dX7_isIn_1 : decode cX7_isIn 1 = .ok (.iload_n 1, 1) := by decide +kernel
theorem dX7_isIn_2 : decode cX7_isIn 2 = .ok (.ishr, 1) := by decide +kernel
theorem dX7_isIn_3 : decode cX7_isIn 3 = .ok (.iconst 1, 1) := by decide +kernel
theorem dX7_isIn_4 : decode cX7_isIn 4 = .ok (.iand, 1) := by decide +kernel
theorem dX7_isIn_5 : decode cX7_isIn 5 = .ok (.ifCond .eq 7, 3) := by decide +kernel
theorem dX7_isIn_8 : decode cX7_isIn 8 = .ok (.iconst 1, 1) := by decide +kernel
theorem dX7_isIn_9 : decode cX7_isIn 9 = .ok (.goto 4, 3) := by decide +kernel
theorem dX7_isIn_12 : decode cX7_isIn 12 = .ok (.iconst 0, 1) := by decide +kernel
theorem dX7_isIn_13 : decode cX7_isIn 13 = .ok (.ireturn, 1) := by decide +kernel
def r_X7_isIn : Room := { frames := 1, cells := 0, slots := 0, locals := 12 }
set_option maxRecDepth 100000 in
set_option maxHeartbeats 4000000 in
theorem w_X7_isIn {K : zK} (hk : zIs K RX7 cX7_isIn 2 wsX7_isIn (some .boolean) r_X7_isIn) {r0 : Int32} {τ0 : zST} (hq : zQ K (some (.int r0)) τ0) (F : Nat) (a0 : Int32) (a1 : Int32) (σ : zST) (h : m_X7_isIn F a0 a1 σ = some (r0, τ0)) : Z K 0 0 0 [(0, .int a0), (1, .int a1)] [] σ := by
  unfold m_X7_isIn at h
  refine Z_iload_n hk 0 dX7_isIn_0 rfl rfl ?_
  refine Z_iload_n hk 1 dX7_isIn_1 rfl rfl ?_
  refine Z_ishr hk dX7_isIn_2 ?_
  refine Z_iconst hk dX7_isIn_3 zc_iconst_1 ?_
  refine Z_iand hk dX7_isIn_4 ?_
  refine Z_if_eq hk (tgt := 12) dX7_isIn_5 (by decide) (fun c1 => ?_) (fun c1 => ?_)
  · have h := if_yes h c1
    refine Z_iconst hk dX7_isIn_12 zc_iconst_0 ?_
    cases h
    exact Z_zret hk (by decide) hq dX7_isIn_13
  · have h := if_no h c1
    refine Z_iconst hk dX7_isIn_8 zc_iconst_1 ?_
    refine Z_goto hk (tgt := 13) dX7_isIn_9 (by decide) ?_
    cases h
    exact Z_zret hk (by decide) hq dX7_isIn_13
theorem c_X7_isIn {l : Launch} {E : zE} (hL : eL E) (hJ : eJ E) (F : Nat) (a0 : Int32) (a1 : Int32) (σ : zST) {r0 : Int32} {τ0 : zST} (h : m_X7_isIn F a0 a1 σ = some (r0, τ0)) : Ct l yX7_isIn wsX7_isIn r_X7_isIn E [.int a0, .int a1] σ (some (.int r0)) τ0 := by
  refine Ct_of (by decide) rfl hL hJ (Nat.le_of_ble_eq_true rfl) (fun K hE hl hk hq => ?_)
  subst hE
  exact w_X7_isIn hk hq F a0 a1 σ h
end

-- CanonCote$Graph.clear (I)V
section
theorem dX2_clear_0 : decode cX2_clear 0 = .ok (.aload_n 0, 1) := by decide +kernel
theorem dX2_clear_1 : decode cX2_clear 1 = .ok (.iload_n 1, 1) := by decide +kernel
theorem dX2_clear_2 : decode cX2_clear 2 = .ok (.putfield 9, 3) := by decide +kernel
theorem dX2_clear_5 : decode cX2_clear 5 = .ok (.aload_n 0, 1) := by decide +kernel
theorem dX2_clear_6 : decode cX2_clear 6 = .ok (.getfield 15, 3) := by decide +kernel
theorem dX2_clear_9 : decode cX2_clear 9 = .ok (.iconst 0, 1) := by decide +kernel
theorem dX2_clear_10 : decode cX2_clear 10 = .ok (.invokestatic 22, 3) := by decide +kernel
theorem dX2_clear_13 : decode cX2_clear 13 = .ok (.aload_n 0, 1) := by decide +kernel
theorem dX2_clear_14 : decode cX2_clear 14 = .ok (.getfield 19, 3) := by decide +kernel
theorem dX2_clear_17 : decode cX2_clear 17 = .ok (.iconst 0, 1) := by decide +kernel
theorem dX2_clear_18 : decode cX2_clear 18 = .ok (.invokestatic 22, 3) := by decide +kernel
theorem dX2_clear_21 : decode cX2_clear 21 = .ok (.return_, 1) := by decide +kernel
set_option maxRecDepth 20000 in
theorem ggX2_clear_J7_fill_53178 : GoodIn wsX2_clear wsJ7_fill_53178 := goodIn_r _ [7] (by decide +kernel) (by decide +kernel)
set_option maxRecDepth 20000 in
theorem gX2_clear_J7_fill_53178 : GoodIn wsX2_clear (va_wsS RX2 22 yJ7_fill_53178 wsJ7_fill_53178) := goodIn_app (goodIn_of _ (by decide +kernel)) ggX2_clear_J7_fill_53178
theorem in_X2_clear_Graph : ∀ w ∈ u_ws RX2 TX2 3, w ∈ wsX2_clear := by decide +kernel
theorem wd_X2_clear_1 : Cond.fieldLink RX2 9 (TX2 0).1 (TX2 0).2.1 (TX2 0).2.2.1 ∈ wsX2_clear := by decide +kernel
theorem wd_X2_clear_2 : Cond.fieldLink RX2 15 (TX2 1).1 (TX2 1).2.1 (TX2 1).2.2.1 ∈ wsX2_clear := by decide +kernel
theorem wd_X2_clear_3 : Cond.fieldLink RX2 19 (TX2 2).1 (TX2 2).2.1 (TX2 2).2.2.1 ∈ wsX2_clear := by decide +kernel
def r_X2_clear : Room := { frames := 2, cells := 0, slots := 0, locals := 35 }
set_option maxRecDepth 100000 in
set_option maxHeartbeats 4000000 in
theorem w_X2_clear {K : zK} (hk : zIs K RX2 cX2_clear 2 wsX2_clear none r_X2_clear) {τ0 : zST} (hq : zQ K none τ0) (F : Nat) (a0 : Nat) (a1 : Int32) (ha0 : atGraph (kZ K) a0) (σ : zST) (h : m_X2_clear F a0 a1 σ = some τ0) : Z K 0 0 0 [(0, .ref (eA (kZ K) a0)), (1, .int a1)] [] σ := by
  unfold m_X2_clear at h
  refine Z_aload_n hk 0 dX2_clear_0 rfl rfl ?_
  refine Z_iload_n hk 1 dX2_clear_1 rfl rfl ?_
  obtain ⟨s1, e2, h⟩ := nm_get h
  refine Z_put hk in_X2_clear_Graph tyX2 tok_TX2 tnm_TX2 rfl ha0.cell.1 (ha0.cell.2 _) 0 (by decide) wd_X2_clear_1 rfl (by decide) (Nat.le_of_ble_eq_true rfl) (ha0.put_size _ _) dX2_clear_2 ?_
  refine Z_eqS e2 ?_
  refine Z_aload_n hk 0 dX2_clear_5 rfl rfl ?_
  refine Z_get hk in_X2_clear_Graph rfl ha0.cell.1 (ha0.cell.2 _) 1 (by decide) wd_X2_clear_2 rfl dX2_clear_6 ?_
  refine Z_iconst hk dX2_clear_9 zc_iconst_0 ?_
  obtain ⟨s4, h5, h⟩ := bv_ok h
  refine Z_callT 2 hk [.ref (eA (kZ K) (a0 + 1)), .int 0] (c_J7_fill_53178 hk.loc hk.inj F 8 (a0 + 1) 0 (ha0.near) s1 h5) gX2_clear_J7_fill_53178 rfl ⟨rfl, rfl⟩ (by decide +kernel) ⟨Nat.le_of_ble_eq_true rfl, Nat.le_of_ble_eq_true rfl⟩ rfl rfl (Nat.le_of_ble_eq_true rfl) ⟨Nat.zero_le _, Nat.zero_le _⟩ dX2_clear_10 ?_
  show Z K 0 0 13 [(0, .ref (eA (kZ K) a0)), (1, .int a1)] [] s4
  refine Z_aload_n hk 0 dX2_clear_13 rfl rfl ?_
  refine Z_get hk in_X2_clear_Graph rfl ha0.cell.1 (ha0.cell.2 _) 2 (by decide) wd_X2_clear_3 rfl dX2_clear_14 ?_
  refine Z_iconst hk dX2_clear_17 zc_iconst_0 ?_
  obtain ⟨s7, h8, h⟩ := bv_ok h
  refine Z_callT 2 hk [.ref (eA (kZ K) (a0 + 2)), .int 0] (c_J7_fill_53178 hk.loc hk.inj F 8 (a0 + 2) 0 (ha0.colours) s4 h8) gX2_clear_J7_fill_53178 rfl ⟨rfl, rfl⟩ (by decide +kernel) ⟨Nat.le_of_ble_eq_true rfl, Nat.le_of_ble_eq_true rfl⟩ rfl rfl (Nat.le_of_ble_eq_true rfl) ⟨Nat.zero_le _, Nat.zero_le _⟩ dX2_clear_18 ?_
  show Z K 0 0 21 [(0, .ref (eA (kZ K) a0)), (1, .int a1)] [] s7
  cases h
  exact Z_vret hk hq dX2_clear_21
theorem c_X2_clear {l : Launch} {E : zE} (hL : eL E) (hJ : eJ E) (F : Nat) (a0 : Nat) (a1 : Int32) (ha0 : atGraph E a0) (σ : zST) {τ0 : zST} (h : m_X2_clear F a0 a1 σ = some τ0) : Ct l yX2_clear wsX2_clear r_X2_clear E [.ref (eA E a0), .int a1] σ none τ0 := by
  refine Ct_of (by decide) rfl hL hJ (Nat.le_of_ble_eq_true rfl) (fun K hE hl hk hq => ?_)
  subst hE
  exact w_X2_clear hk hq F a0 a1 ha0 σ h
end

-- CanonCote$Graph.hasEdge (II)Z
section
theorem dX2_hasEdge_0 : decode cX2_hasEdge 0 = .ok (.aload_n 0, 1) := by decide +kernel
theorem dX2_hasEdge_1 : decode cX2_hasEdge 1 = .ok (.getfield 15, 3) := by decide +kernel
theorem dX2_hasEdge_4 : decode cX2_hasEdge 4 = .ok (.iload_n 1, 1) := by decide +kernel
theorem dX2_hasEdge_5 : decode cX2_hasEdge 5 = .ok (.iaload, 1) := by decide +kernel
theorem dX2_hasEdge_6 : decode cX2_hasEdge 6 = .ok (.iload_n 2, 1) := by decide +kernel
theorem dX2_hasEdge_7 : decode cX2_hasEdge 7 = .ok (.invokestatic 28, 3) := by decide +kernel
theorem dX2_hasEdge_10 : decode cX2_hasEdge 10 = .ok (.ireturn, 1) := by decide +kernel
set_option maxRecDepth 20000 in
theorem ggX2_hasEdge_X7_isIn : GoodIn wsX2_hasEdge wsX7_isIn := goodIn_r _ [4] (by decide +kernel) (by decide +kernel)
set_option maxRecDepth 20000 in
theorem gX2_hasEdge_X7_isIn_n28 : GoodIn wsX2_hasEdge (wsX7_isIn) := ggX2_hasEdge_X7_isIn
theorem in_X2_hasEdge_Graph : ∀ w ∈ u_ws RX2 TX2 3, w ∈ wsX2_hasEdge := by decide +kernel
theorem wd_X2_hasEdge_1 : Cond.fieldLink RX2 15 (TX2 1).1 (TX2 1).2.1 (TX2 1).2.2.1 ∈ wsX2_hasEdge := by decide +kernel
theorem wd_X2_hasEdge_2 : Cond.initialized yX7_isIn.cls ∈ wsX2_hasEdge := by decide +kernel
theorem wd_X2_hasEdge_3 : Cond.static yX7_isIn ∈ wsX2_hasEdge := by decide +kernel
def r_X2_hasEdge : Room := { frames := 2, cells := 0, slots := 0, locals := 33 }
set_option maxRecDepth 100000 in
set_option maxHeartbeats 4000000 in
theorem w_X2_hasEdge {K : zK} (hk : zIs K RX2 cX2_hasEdge 3 wsX2_hasEdge (some .boolean) r_X2_hasEdge) {r0 : Int32} {τ0 : zST} (hq : zQ K (some (.int r0)) τ0) (F : Nat) (a0 : Nat) (a1 : Int32) (a2 : Int32) (ha0 : atGraph (kZ K) a0) (σ : zST) (h : m_X2_hasEdge F a0 a1 a2 σ = some (r0, τ0)) : Z K 0 0 0 [(0, .ref (eA (kZ K) a0)), (1, .int a1), (2, .int a2)] [] σ := by
  unfold m_X2_hasEdge at h
  refine Z_aload_n hk 0 dX2_hasEdge_0 rfl rfl ?_
  refine Z_get hk in_X2_hasEdge_Graph rfl ha0.cell.1 (ha0.cell.2 _) 1 (by decide) wd_X2_hasEdge_1 rfl dX2_hasEdge_1 ?_
  refine Z_iload_n hk 1 dX2_hasEdge_4 rfl rfl ?_
  obtain ⟨i3, x1, e2, h⟩ := ldI_get h
  refine Z_iald hk (ha0.near) i3 dX2_hasEdge_5 ?_
  refine Z_eqI e2 ?_
  refine Z_iload_n hk 2 dX2_hasEdge_6 rfl rfl ?_
  obtain ⟨x4, s5, h6, h⟩ := bd_ok h
  refine Z_callSN 2 hk [.int x1, .int a2] (c_X7_isIn hk.loc hk.inj F x1 a2 σ h6) gX2_hasEdge_X7_isIn_n28 nw_9 rfl ⟨rfl, rfl⟩ ⟨wd_X2_hasEdge_2, wd_X2_hasEdge_3⟩ (by decide +kernel) ⟨Nat.le_of_ble_eq_true rfl, Nat.le_of_ble_eq_true rfl⟩ rfl rfl (Nat.le_of_ble_eq_true rfl) ⟨Nat.zero_le _, Nat.zero_le _⟩ dX2_hasEdge_7 ?_
  show Z K 0 0 10 [(0, .ref (eA (kZ K) a0)), (1, .int a1), (2, .int a2)] [.int x4] s5
  obtain ⟨hz, h⟩ := gd_some h
  cases h
  exact Z_zret hk hz hq dX2_hasEdge_10
theorem c_X2_hasEdge {l : Launch} {E : zE} (hL : eL E) (hJ : eJ E) (F : Nat) (a0 : Nat) (a1 : Int32) (a2 : Int32) (ha0 : atGraph E a0) (σ : zST) {r0 : Int32} {τ0 : zST} (h : m_X2_hasEdge F a0 a1 a2 σ = some (r0, τ0)) : Ct l yX2_hasEdge wsX2_hasEdge r_X2_hasEdge E [.ref (eA E a0), .int a1, .int a2] σ (some (.int r0)) τ0 := by
  refine Ct_of (by decide) rfl hL hJ (Nat.le_of_ble_eq_true rfl) (fun K hE hl hk hq => ?_)
  subst hE
  exact w_X2_hasEdge hk hq F a0 a1 a2 ha0 σ h
end

-- CanonCote$Graph.flipEdge (II)V
section
theorem dX2_flipEdge_0 : decode cX2_flipEdge 0 = .ok (.aload_n 0, 1) := by decide +kernel
theorem dX2_flipEdge_1 : decode cX2_flipEdge 1 = .ok (.getfield 15, 3) := by decide +kernel
theorem dX2_flipEdge_4 : decode cX2_flipEdge 4 = .ok (.iload_n 1, 1) := by decide +kernel
theorem dX2_flipEdge_5 : decode cX2_flipEdge 5 = .ok (.dup2, 1) := by decide +kernel
theorem dX2_flipEdge_6 : decode cX2_flipEdge 6 = .ok (.iaload, 1) := by decide +kernel
theorem dX2_flipEdge_7 : decode cX2_flipEdge 7 = .ok (.iconst 1, 1) := by decide +kernel
theorem dX2_flipEdge_8 : decode cX2_flipEdge 8 = .ok (.iload_n 2, 1) := by decide +kernel
theorem dX2_flipEdge_9 : decode cX2_flipEdge 9 = .ok (.ishl, 1) := by decide +kernel
theorem dX2_flipEdge_10 : decode cX2_flipEdge 10 = .ok (.ixor, 1) := by decide +kernel
theorem dX2_flipEdge_11 : decode cX2_flipEdge 11 = .ok (.iastore, 1) := by decide +kernel
theorem dX2_flipEdge_12 : decode cX2_flipEdge 12 = .ok (.aload_n 0, 1) := by decide +kernel
theorem dX2_flipEdge_13 : decode cX2_flipEdge 13 = .ok (.getfield 15, 3) := by decide +kernel
theorem dX2_flipEdge_16 : decode cX2_flipEdge 16 = .ok (.iload_n 2, 1) := by decide +kernel
theorem dX2_flipEdge_17 : decode cX2_flipEdge 17 = .ok (.dup2, 1) := by decide +kernel
theorem dX2_flipEdge_18 : decode cX2_flipEdge 18 = .ok (.iaload, 1) := by decide +kernel
theorem dX2_flipEdge_19 : decode cX2_flipEdge 19 = .ok (.iconst 1, 1) := by decide +kernel
theorem dX2_flipEdge_20 : decode cX2_flipEdge 20 = .ok (.iload_n 1, 1) := by decide +kernel
theorem dX2_flipEdge_21 : decode cX2_flipEdge 21 = .ok (.ishl, 1) := by decide +kernel
theorem dX2_flipEdge_22 : decode cX2_flipEdge 22 = .ok (.ixor, 1) := by decide +kernel
theorem dX2_flipEdge_23 : decode cX2_flipEdge 23 = .ok (.iastore, 1) := by decide +kernel
theorem dX2_flipEdge_24 : decode cX2_flipEdge 24 = .ok (.return_, 1) := by decide +kernel
theorem in_X2_flipEdge_Graph : ∀ w ∈ u_ws RX2 TX2 3, w ∈ wsX2_flipEdge := by decide +kernel
theorem wd_X2_flipEdge_1 : Cond.fieldLink RX2 15 (TX2 1).1 (TX2 1).2.1 (TX2 1).2.2.1 ∈ wsX2_flipEdge := by decide +kernel
def r_X2_flipEdge : Room := { frames := 1, cells := 0, slots := 0, locals := 12 }
set_option maxRecDepth 100000 in
set_option maxHeartbeats 4000000 in
theorem w_X2_flipEdge {K : zK} (hk : zIs K RX2 cX2_flipEdge 3 wsX2_flipEdge none r_X2_flipEdge) {τ0 : zST} (hq : zQ K none τ0) (F : Nat) (a0 : Nat) (a1 : Int32) (a2 : Int32) (ha0 : atGraph (kZ K) a0) (σ : zST) (h : m_X2_flipEdge F a0 a1 a2 σ = some τ0) : Z K 0 0 0 [(0, .ref (eA (kZ K) a0)), (1, .int a1), (2, .int a2)] [] σ := by
  unfold m_X2_flipEdge at h
  refine Z_aload_n hk 0 dX2_flipEdge_0 rfl rfl ?_
  refine Z_get hk in_X2_flipEdge_Graph rfl ha0.cell.1 (ha0.cell.2 _) 1 (by decide) wd_X2_flipEdge_1 rfl dX2_flipEdge_1 ?_
  refine Z_iload_n hk 1 dX2_flipEdge_4 rfl rfl ?_
  refine Z_dup2 hk dX2_flipEdge_5 rfl rfl ?_
  obtain ⟨i3, x1, e2, h⟩ := ldI_get h
  refine Z_iald hk (ha0.near) i3 dX2_flipEdge_6 ?_
  refine Z_eqI e2 ?_
  refine Z_iconst hk dX2_flipEdge_7 zc_iconst_1 ?_
  refine Z_iload_n hk 2 dX2_flipEdge_8 rfl rfl ?_
  refine Z_ishl hk dX2_flipEdge_9 ?_
  refine Z_ixor hk dX2_flipEdge_10 ?_
  obtain ⟨i6, s4, e5, h⟩ := stI_get h
  refine Z_iast hk (ha0.near) i6 dX2_flipEdge_11 ?_
  refine Z_eqS e5 ?_
  refine Z_aload_n hk 0 dX2_flipEdge_12 rfl rfl ?_
  refine Z_get hk in_X2_flipEdge_Graph rfl ha0.cell.1 (ha0.cell.2 _) 1 (by decide) wd_X2_flipEdge_1 rfl dX2_flipEdge_13 ?_
  refine Z_iload_n hk 2 dX2_flipEdge_16 rfl rfl ?_
  refine Z_dup2 hk dX2_flipEdge_17 rfl rfl ?_
  obtain ⟨i9, x7, e8, h⟩ := ldI_get h
  refine Z_iald hk (ha0.near) i9 dX2_flipEdge_18 ?_
  refine Z_eqI e8 ?_
  refine Z_iconst hk dX2_flipEdge_19 zc_iconst_1 ?_
  refine Z_iload_n hk 1 dX2_flipEdge_20 rfl rfl ?_
  refine Z_ishl hk dX2_flipEdge_21 ?_
  refine Z_ixor hk dX2_flipEdge_22 ?_
  obtain ⟨i12, s10, e11, h⟩ := stI_get h
  refine Z_iast hk (ha0.near) i12 dX2_flipEdge_23 ?_
  refine Z_eqS e11 ?_
  cases h
  exact Z_vret hk hq dX2_flipEdge_24
theorem c_X2_flipEdge {l : Launch} {E : zE} (hL : eL E) (hJ : eJ E) (F : Nat) (a0 : Nat) (a1 : Int32) (a2 : Int32) (ha0 : atGraph E a0) (σ : zST) {τ0 : zST} (h : m_X2_flipEdge F a0 a1 a2 σ = some τ0) : Ct l yX2_flipEdge wsX2_flipEdge r_X2_flipEdge E [.ref (eA E a0), .int a1, .int a2] σ none τ0 := by
  refine Ct_of (by decide) rfl hL hJ (Nat.le_of_ble_eq_true rfl) (fun K hE hl hk hq => ?_)
  subst hE
  exact w_X2_flipEdge hk hq F a0 a1 a2 ha0 σ h
end

-- CanonCote$Graph.exchange (II)V
section
theorem dX2_exchange_0 : decode cX2_exchange 0 = .ok (.aload_n 0, 1) := by decide +kernel
theorem dX2_exchange_1 : decode cX2_exchange 1 = .ok (.getfield 19, 3) := by decide +kernel
theorem dX2_exchange_4 : decode cX2_exchange 4 = .ok (.iload_n 1, 1) := by decide +kernel
theorem dX2_exchange_5 : decode cX2_exchange 5 = .ok (.iaload, 1) := by decide +kernel
theorem dX2_exchange_6 : decode cX2_exchange 6 = .ok (.istore_n 3, 1) := by decide +kernel
theorem dX2_exchange_7 : decode cX2_exchange 7 = .ok (.aload_n 0, 1) := by decide +kernel
theorem dX2_exchange_8 : decode cX2_exchange 8 = .ok (.getfield 19, 3) := by decide +kernel
theorem dX2_exchange_11 : decode cX2_exchange 11 = .ok (.iload_n 1, 1) := by decide +kernel
theorem dX2_exchange_12 : decode cX2_exchange 12 = .ok (.aload_n 0, 1) := by decide +kernel
theorem dX2_exchange_13 : decode cX2_exchange 13 = .ok (.getfield 19, 3) := by decide +kernel
theorem dX2_exchange_16 : decode cX2_exchange 16 = .ok (.iload_n 2, 1) := by decide +kernel
theorem dX2_exchange_17 : decode cX2_exchange 17 = .ok (.iaload, 1) := by decide +kernel
theorem dX2_exchange_18 : decode cX2_exchange 18 = .ok (.iastore, 1) := by decide +kernel
theorem dX2_exchange_19 : decode cX2_exchange 19 = .ok (.aload_n 0, 1) := by decide +kernel
theorem dX2_exchange_20 : decode cX2_exchange 20 = .ok (.getfield 19, 3) := by decide +kernel
theorem dX2_exchange_23 : decode cX2_exchange 23 = .ok (.iload_n 2, 1) := by decide +kernel
theorem dX2_exchange_24 : decode cX2_exchange 24 = .ok (.iload_n 3, 1) := by decide +kernel
theorem dX2_exchange_25 : decode cX2_exchange 25 = .ok (.iastore, 1) := by decide +kernel
theorem dX2_exchange_26 : decode cX2_exchange 26 = .ok (.aload_n 0, 1) := by decide +kernel
theorem dX2_exchange_27 : decode cX2_exchange 27 = .ok (.getfield 15, 3) := by decide +kernel
theorem dX2_exchange_30 : decode cX2_exchange 30 = .ok (.iload_n 1, 1) := by decide +kernel
theorem dX2_exchange_31 : decode cX2_exchange 31 = .ok (.iaload, 1) := by decide +kernel
theorem dX2_exchange_32 : decode cX2_exchange 32 = .ok (.istore 4, 2) := by decide +kernel
theorem dX2_exchange_34 : decode cX2_exchange 34 = .ok (.aload_n 0, 1) := by decide +kernel
theorem dX2_exchange_35 : decode cX2_exchange 35 = .ok (.getfield 15, 3) := by decide +kernel
theorem dX2_exchange_38 : decode cX2_exchange 38 = .ok (.iload_n 1, 1) := by decide +kernel
theorem dX2_exchange_39 : decode cX2_exchange 39 = .ok (.aload_n 0, 1) := by decide +kernel
theorem dX2_exchange_40 : decode cX2_exchange 40 = .ok (.getfield 15, 3) := by decide +kernel
theorem dX2_exchange_43 : decode cX2_exchange 43 = .ok (.iload_n 2, 1) := by decide +kernel
theorem dX2_exchange_44 : decode cX2_exchange 44 = .ok (.iaload, 1) := by decide +kernel
theorem dX2_exchange_45 : decode cX2_exchange 45 = .ok (.iastore, 1) := by decide +kernel
theorem dX2_exchange_46 : decode cX2_exchange 46 = .ok (.aload_n 0, 1) := by decide +kernel
theorem dX2_exchange_47 : decode cX2_exchange 47 = .ok (.getfield 15, 3) := by decide +kernel
theorem dX2_exchange_50 : decode cX2_exchange 50 = .ok (.iload_n 2, 1) := by decide +kernel
theorem dX2_exchange_51 : decode cX2_exchange 51 = .ok (.iload 4, 2) := by decide +kernel
theorem dX2_exchange_53 : decode cX2_exchange 53 = .ok (.iastore, 1) := by decide +kernel
theorem dX2_exchange_54 : decode cX2_exchange 54 = .ok (.iconst 0, 1) := by decide +kernel
theorem dX2_exchange_55 : decode cX2_exchange 55 = .ok (.istore 5, 2) := by decide +kernel
theorem dX2_exchange_57 : decode cX2_exchange 57 = .ok (.iload 5, 2) := by decide +kernel
theorem dX2_exchange_59 : decode cX2_exchange 59 = .ok (.aload_n 0, 1) := by decide +kernel
theorem dX2_exchange_60 : decode cX2_exchange 60 = .ok (.getfield 9, 3) := by decide +kernel
theorem dX2_exchange_63 : decode cX2_exchange 63 = .ok (.if_icmp .ge 51, 3) := by decide +kernel
theorem dX2_exchange_66 : decode cX2_exchange 66 = .ok (.aload_n 0, 1) := by decide +kernel
theorem dX2_exchange_67 : decode cX2_exchange 67 = .ok (.getfield 15, 3) := by decide +kernel
theorem dX2_exchange_70 : decode cX2_exchange 70 = .ok (.iload 5, 2) := by decide +kernel
theorem dX2_exchange_72 : decode cX2_exchange 72 = .ok (.iaload, 1) := by decide +kernel
theorem dX2_exchange_73 : decode cX2_exchange 73 = .ok (.iload_n 1, 1) := by decide +kernel
theorem dX2_exchange_74 : decode cX2_exchange 74 = .ok (.invokestatic 28, 3) := by decide +kernel
theorem dX2_exchange_77 : decode cX2_exchange 77 = .ok (.aload_n 0, 1) := by decide +kernel
theorem dX2_exchange_78 : decode cX2_exchange 78 = .ok (.getfield 15, 3) := by decide +kernel
theorem dX2_exchange_81 : decode cX2_exchange 81 = .ok (.iload 5, 2) := by decide +kernel
theorem dX2_exchange_83 : decode cX2_exchange 83 = .ok (.iaload, 1) := by decide +kernel
theorem dX2_exchange_84 : decode cX2_exchange 84 = .ok (.iload_n 2, 1) := by decide +kernel
theorem dX2_exchange_85 : decode cX2_exchange 85 = .ok (.invokestatic 28, 3) := by decide +kernel
theorem dX2_exchange_88 : decode cX2_exchange 88 = .ok (.if_icmp .eq 20, 3) := by decide +kernel
theorem dX2_exchange_91 : decode cX2_exchange 91 = .ok (.aload_n 0, 1) := by decide +kernel
theorem dX2_exchange_92 : decode cX2_exchange 92 = .ok (.getfield 15, 3) := by decide +kernel
theorem dX2_exchange_95 : decode cX2_exchange 95 = .ok (.iload 5, 2) := by decide +kernel
theorem dX2_exchange_97 : decode cX2_exchange 97 = .ok (.dup2, 1) := by decide +kernel
theorem dX2_exchange_98 : decode cX2_exchange 98 = .ok (.iaload, 1) := by decide +kernel
theorem dX2_exchange_99 : decode cX2_exchange 99 = .ok (.iconst 1, 1) := by decide +kernel
theorem dX2_exchange_100 : decode cX2_exchange 100 = .ok (.iload_n 1, 1) := by decide +kernel
theorem dX2_exchange_101 : decode cX2_exchange 101 = .ok (.ishl, 1) := by decide +kernel
theorem dX2_exchange_102 : decode cX2_exchange 102 = .ok (.iconst 1, 1) := by decide +kernel
theorem dX2_exchange_103 : decode cX2_exchange 103 = .ok (.iload_n 2, 1) := by decide +kernel
theorem dX2_exchange_104 : decode cX2_exchange 104 = .ok (.ishl, 1) := by decide +kernel
theorem dX2_exchange_105 : decode cX2_exchange 105 = .ok (.ior, 1) := by decide +kernel
theorem dX2_exchange_106 : decode cX2_exchange 106 = .ok (.ixor, 1) := by decide +kernel
theorem dX2_exchange_107 : decode cX2_exchange 107 = .ok (.iastore, 1) := by decide +kernel
theorem dX2_exchange_108 : decode cX2_exchange 108 = .ok (.iinc 5 1, 3) := by decide +kernel
theorem dX2_exchange_111 : decode cX2_exchange 111 = .ok (.goto (-54), 3) := by decide +kernel
theorem dX2_exchange_114 : decode cX2_exchange 114 = .ok (.return_, 1) := by decide +kernel
set_option maxRecDepth 20000 in
theorem ggX2_exchange_X7_isIn : GoodIn wsX2_exchange wsX7_isIn := goodIn_r _ [6] (by decide +kernel) (by decide +kernel)
set_option maxRecDepth 20000 in
theorem gX2_exchange_X7_isIn_n28 : GoodIn wsX2_exchange (wsX7_isIn) := ggX2_exchange_X7_isIn
theorem in_X2_exchange_Graph : ∀ w ∈ u_ws RX2 TX2 3, w ∈ wsX2_exchange := by decide +kernel
theorem wd_X2_exchange_1 : Cond.fieldLink RX2 19 (TX2 2).1 (TX2 2).2.1 (TX2 2).2.2.1 ∈ wsX2_exchange := by decide +kernel
theorem wd_X2_exchange_2 : Cond.fieldLink RX2 15 (TX2 1).1 (TX2 1).2.1 (TX2 1).2.2.1 ∈ wsX2_exchange := by decide +kernel
theorem wd_X2_exchange_3 : Cond.fieldLink RX2 9 (TX2 0).1 (TX2 0).2.1 (TX2 0).2.2.1 ∈ wsX2_exchange := by decide +kernel
theorem wd_X2_exchange_4 : Cond.initialized yX7_isIn.cls ∈ wsX2_exchange := by decide +kernel
theorem wd_X2_exchange_5 : Cond.static yX7_isIn ∈ wsX2_exchange := by decide +kernel
def r_X2_exchange : Room := { frames := 2, cells := 0, slots := 0, locals := 33 }
set_option maxRecDepth 100000 in
set_option maxHeartbeats 4000000 in
theorem w_X2_exchange_108 {K : zK} (hk : zIs K RX2 cX2_exchange 6 wsX2_exchange none r_X2_exchange) {τ0 : zST} (hq : zQ K none τ0) (F : Nat) (k57 : Nat → Int32 → Int32 → Int32 → zST → Option zST) (hk57 : ∀ (a0 : Nat) (a1 : Int32) (a2 : Int32) (a5 : Int32) (ha0 : atGraph (kZ K) a0) (σ : zST), k57 a0 a1 a2 a5 σ = some τ0 → Z K 0 0 57 [(0, .ref (eA (kZ K) a0)), (1, .int a1), (2, .int a2), (5, .int a5)] [] σ) (a0 : Nat) (a1 : Int32) (a2 : Int32) (a5 : Int32) (ha0 : atGraph (kZ K) a0) (σ : zST) (h : m_X2_exchange_108 F k57 a0 a1 a2 a5 σ = some τ0) : Z K 0 0 108 [(0, .ref (eA (kZ K) a0)), (1, .int a1), (2, .int a2), (5, .int a5)] [] σ := by
  unfold m_X2_exchange_108 at h
  obtain ⟨x45, e46, h⟩ := nm_get h
  refine Z_iinc hk 3 (v := x45) (lv' := [(5, .int x45), (0, .ref (eA (kZ K) a0)), (1, .int a1), (2, .int a2)]) dX2_exchange_108 rfl (by rw [zc_iinc_1]; exact e46) (by decide) rfl ?_
  refine Z_goto hk (tgt := 57) dX2_exchange_111 (by decide) ?_
  refine Z_sub [1, 2, 3, 0] rfl ?_
  exact hk57 a0 a1 a2 x45 ha0 σ h
set_option maxRecDepth 100000 in
set_option maxHeartbeats 4000000 in
theorem w_X2_exchange_57 {K : zK} (hk : zIs K RX2 cX2_exchange 6 wsX2_exchange none r_X2_exchange) {τ0 : zST} (hq : zQ K none τ0) (F : Nat) : ∀ (n : Nat) (a0 : Nat) (a1 : Int32) (a2 : Int32) (a5 : Int32) (ha0 : atGraph (kZ K) a0) (σ : zST), m_X2_exchange_57 F n a0 a1 a2 a5 σ = some τ0 → Z K 0 0 57 [(0, .ref (eA (kZ K) a0)), (1, .int a1), (2, .int a2), (5, .int a5)] [] σ := by
  intro n
  induction n with
  | zero => intro a0 a1 a2 a5 ha0 σ h; cases h
  | succ n ih =>
    intro a0 a1 a2 a5 ha0 σ h
    rw [m_X2_exchange_57] at h
    refine Z_iload hk 3 dX2_exchange_57 rfl ?_
    refine Z_aload_n hk 0 dX2_exchange_59 rfl rfl ?_
    refine Z_get hk in_X2_exchange_Graph rfl ha0.cell.1 (ha0.cell.2 _) 0 (by decide) wd_X2_exchange_3 rfl dX2_exchange_60 ?_
    refine Z_icmp_ge hk (tgt := 114) dX2_exchange_63 (by decide) (fun c25 => ?_) (fun c25 => ?_)
    · have h := if_yes h c25
      cases h
      exact Z_vret hk hq dX2_exchange_114
    · have h := if_no h c25
      refine Z_aload_n hk 0 dX2_exchange_66 rfl rfl ?_
      refine Z_get hk in_X2_exchange_Graph rfl ha0.cell.1 (ha0.cell.2 _) 1 (by decide) wd_X2_exchange_2 rfl dX2_exchange_67 ?_
      refine Z_iload hk 3 dX2_exchange_70 rfl ?_
      obtain ⟨i28, x26, e27, h⟩ := ldI_get h
      refine Z_iald hk (ha0.near) i28 dX2_exchange_72 ?_
      refine Z_eqI e27 ?_
      refine Z_iload_n hk 1 dX2_exchange_73 rfl rfl ?_
      obtain ⟨x29, s30, h31, h⟩ := bd_ok h
      refine Z_callSN 2 hk [.int x26, .int a1] (c_X7_isIn hk.loc hk.inj F x26 a1 σ h31) gX2_exchange_X7_isIn_n28 nw_9 rfl ⟨rfl, rfl⟩ ⟨wd_X2_exchange_4, wd_X2_exchange_5⟩ (by decide +kernel) ⟨Nat.le_of_ble_eq_true rfl, Nat.le_of_ble_eq_true rfl⟩ rfl rfl (Nat.le_of_ble_eq_true rfl) ⟨Nat.zero_le _, Nat.zero_le _⟩ dX2_exchange_74 ?_
      show Z K 0 0 77 [(0, .ref (eA (kZ K) a0)), (1, .int a1), (2, .int a2), (5, .int a5)] [.int x29] s30
      refine Z_aload_n hk 0 dX2_exchange_77 rfl rfl ?_
      refine Z_get hk in_X2_exchange_Graph rfl ha0.cell.1 (ha0.cell.2 _) 1 (by decide) wd_X2_exchange_2 rfl dX2_exchange_78 ?_
      refine Z_iload hk 3 dX2_exchange_81 rfl ?_
      obtain ⟨i34, x32, e33, h⟩ := ldI_get h
      refine Z_iald hk (ha0.near) i34 dX2_exchange_83 ?_
      refine Z_eqI e33 ?_
      refine Z_iload_n hk 2 dX2_exchange_84 rfl rfl ?_
      obtain ⟨x35, s36, h37, h⟩ := bd_ok h
      refine Z_callSN 2 hk [.int x32, .int a2] (c_X7_isIn hk.loc hk.inj F x32 a2 s30 h37) gX2_exchange_X7_isIn_n28 nw_9 rfl ⟨rfl, rfl⟩ ⟨wd_X2_exchange_4, wd_X2_exchange_5⟩ (by decide +kernel) ⟨Nat.le_of_ble_eq_true rfl, Nat.le_of_ble_eq_true rfl⟩ rfl rfl (Nat.le_of_ble_eq_true rfl) ⟨Nat.zero_le _, Nat.zero_le _⟩ dX2_exchange_85 ?_
      show Z K 0 0 88 [(0, .ref (eA (kZ K) a0)), (1, .int a1), (2, .int a2), (5, .int a5)] [.int x35, .int x29] s36
      refine Z_icmp_eq hk (tgt := 108) dX2_exchange_88 (by decide) (fun c38 => ?_) (fun c38 => ?_)
      · have h := if_yes h c38
        refine Z_sub [0, 1, 2, 3] rfl ?_
        exact w_X2_exchange_108 hk hq F (m_X2_exchange_57 F n) ih a0 a1 a2 a5 ha0 s36 h
      · have h := if_no h c38
        refine Z_aload_n hk 0 dX2_exchange_91 rfl rfl ?_
        refine Z_get hk in_X2_exchange_Graph rfl ha0.cell.1 (ha0.cell.2 _) 1 (by decide) wd_X2_exchange_2 rfl dX2_exchange_92 ?_
        refine Z_iload hk 3 dX2_exchange_95 rfl ?_
        refine Z_dup2 hk dX2_exchange_97 rfl rfl ?_
        obtain ⟨i41, x39, e40, h⟩ := ldI_get h
        refine Z_iald hk (ha0.near) i41 dX2_exchange_98 ?_
        refine Z_eqI e40 ?_
        refine Z_iconst hk dX2_exchange_99 zc_iconst_1 ?_
        refine Z_iload_n hk 1 dX2_exchange_100 rfl rfl ?_
        refine Z_ishl hk dX2_exchange_101 ?_
        refine Z_iconst hk dX2_exchange_102 zc_iconst_1 ?_
        refine Z_iload_n hk 2 dX2_exchange_103 rfl rfl ?_
        refine Z_ishl hk dX2_exchange_104 ?_
        refine Z_ior hk dX2_exchange_105 ?_
        refine Z_ixor hk dX2_exchange_106 ?_
        obtain ⟨i44, s42, e43, h⟩ := stI_get h
        refine Z_iast hk (ha0.near) i44 dX2_exchange_107 ?_
        refine Z_eqS e43 ?_
        refine Z_sub [0, 1, 2, 3] rfl ?_
        exact w_X2_exchange_108 hk hq F (m_X2_exchange_57 F n) ih a0 a1 a2 a5 ha0 s42 h
set_option maxRecDepth 100000 in
set_option maxHeartbeats 4000000 in
theorem w_X2_exchange {K : zK} (hk : zIs K RX2 cX2_exchange 6 wsX2_exchange none r_X2_exchange) {τ0 : zST} (hq : zQ K none τ0) (F : Nat) (a0 : Nat) (a1 : Int32) (a2 : Int32) (ha0 : atGraph (kZ K) a0) (σ : zST) (h : m_X2_exchange F a0 a1 a2 σ = some τ0) : Z K 0 0 0 [(0, .ref (eA (kZ K) a0)), (1, .int a1), (2, .int a2)] [] σ := by
  unfold m_X2_exchange at h
  refine Z_aload_n hk 0 dX2_exchange_0 rfl rfl ?_
  refine Z_get hk in_X2_exchange_Graph rfl ha0.cell.1 (ha0.cell.2 _) 2 (by decide) wd_X2_exchange_1 rfl dX2_exchange_1 ?_
  refine Z_iload_n hk 1 dX2_exchange_4 rfl rfl ?_
  obtain ⟨i3, x1, e2, h⟩ := ldI_get h
  refine Z_iald hk (ha0.colours) i3 dX2_exchange_5 ?_
  refine Z_eqI e2 ?_
  refine Z_istore_n hk (lv' := [(3, .int x1), (0, .ref (eA (kZ K) a0)), (1, .int a1), (2, .int a2)]) dX2_exchange_6 rfl (by decide) rfl ?_
  refine Z_aload_n hk 1 dX2_exchange_7 rfl rfl ?_
  refine Z_get hk in_X2_exchange_Graph rfl ha0.cell.1 (ha0.cell.2 _) 2 (by decide) wd_X2_exchange_1 rfl dX2_exchange_8 ?_
  refine Z_iload_n hk 2 dX2_exchange_11 rfl rfl ?_
  refine Z_aload_n hk 1 dX2_exchange_12 rfl rfl ?_
  refine Z_get hk in_X2_exchange_Graph rfl ha0.cell.1 (ha0.cell.2 _) 2 (by decide) wd_X2_exchange_1 rfl dX2_exchange_13 ?_
  refine Z_iload_n hk 3 dX2_exchange_16 rfl rfl ?_
  obtain ⟨i6, x4, e5, h⟩ := ldI_get h
  refine Z_iald hk (ha0.colours) i6 dX2_exchange_17 ?_
  refine Z_eqI e5 ?_
  obtain ⟨i9, s7, e8, h⟩ := stI_get h
  refine Z_iast hk (ha0.colours) i9 dX2_exchange_18 ?_
  refine Z_eqS e8 ?_
  refine Z_aload_n hk 1 dX2_exchange_19 rfl rfl ?_
  refine Z_get hk in_X2_exchange_Graph rfl ha0.cell.1 (ha0.cell.2 _) 2 (by decide) wd_X2_exchange_1 rfl dX2_exchange_20 ?_
  refine Z_iload_n hk 3 dX2_exchange_23 rfl rfl ?_
  refine Z_iload_n hk 0 dX2_exchange_24 rfl rfl ?_
  obtain ⟨i12, s10, e11, h⟩ := stI_get h
  refine Z_iast hk (ha0.colours) i12 dX2_exchange_25 ?_
  refine Z_eqS e11 ?_
  refine Z_aload_n hk 1 dX2_exchange_26 rfl rfl ?_
  refine Z_get hk in_X2_exchange_Graph rfl ha0.cell.1 (ha0.cell.2 _) 1 (by decide) wd_X2_exchange_2 rfl dX2_exchange_27 ?_
  refine Z_iload_n hk 2 dX2_exchange_30 rfl rfl ?_
  obtain ⟨i15, x13, e14, h⟩ := ldI_get h
  refine Z_iald hk (ha0.near) i15 dX2_exchange_31 ?_
  refine Z_eqI e14 ?_
  refine Z_istore hk (lv' := [(4, .int x13), (3, .int x1), (0, .ref (eA (kZ K) a0)), (1, .int a1), (2, .int a2)]) dX2_exchange_32 (by decide) rfl ?_
  refine Z_aload_n hk 2 dX2_exchange_34 rfl rfl ?_
  refine Z_get hk in_X2_exchange_Graph rfl ha0.cell.1 (ha0.cell.2 _) 1 (by decide) wd_X2_exchange_2 rfl dX2_exchange_35 ?_
  refine Z_iload_n hk 3 dX2_exchange_38 rfl rfl ?_
  refine Z_aload_n hk 2 dX2_exchange_39 rfl rfl ?_
  refine Z_get hk in_X2_exchange_Graph rfl ha0.cell.1 (ha0.cell.2 _) 1 (by decide) wd_X2_exchange_2 rfl dX2_exchange_40 ?_
  refine Z_iload_n hk 4 dX2_exchange_43 rfl rfl ?_
  obtain ⟨i18, x16, e17, h⟩ := ldI_get h
  refine Z_iald hk (ha0.near) i18 dX2_exchange_44 ?_
  refine Z_eqI e17 ?_
  obtain ⟨i21, s19, e20, h⟩ := stI_get h
  refine Z_iast hk (ha0.near) i21 dX2_exchange_45 ?_
  refine Z_eqS e20 ?_
  refine Z_aload_n hk 2 dX2_exchange_46 rfl rfl ?_
  refine Z_get hk in_X2_exchange_Graph rfl ha0.cell.1 (ha0.cell.2 _) 1 (by decide) wd_X2_exchange_2 rfl dX2_exchange_47 ?_
  refine Z_iload_n hk 4 dX2_exchange_50 rfl rfl ?_
  refine Z_iload hk 0 dX2_exchange_51 rfl ?_
  obtain ⟨i24, s22, e23, h⟩ := stI_get h
  refine Z_iast hk (ha0.near) i24 dX2_exchange_53 ?_
  refine Z_eqS e23 ?_
  refine Z_iconst hk dX2_exchange_54 zc_iconst_0 ?_
  refine Z_istore hk (lv' := [(5, .int 0), (4, .int x13), (3, .int x1), (0, .ref (eA (kZ K) a0)), (1, .int a1), (2, .int a2)]) dX2_exchange_55 (by decide) rfl ?_
  refine Z_sub [3, 4, 5, 0] rfl ?_
  exact w_X2_exchange_57 hk hq F F a0 a1 a2 0 ha0 s22 h
theorem c_X2_exchange {l : Launch} {E : zE} (hL : eL E) (hJ : eJ E) (F : Nat) (a0 : Nat) (a1 : Int32) (a2 : Int32) (ha0 : atGraph E a0) (σ : zST) {τ0 : zST} (h : m_X2_exchange F a0 a1 a2 σ = some τ0) : Ct l yX2_exchange wsX2_exchange r_X2_exchange E [.ref (eA E a0), .int a1, .int a2] σ none τ0 := by
  refine Ct_of (by decide) rfl hL hJ (Nat.le_of_ble_eq_true rfl) (fun K hE hl hk hq => ?_)
  subst hE
  exact w_X2_exchange hk hq F a0 a1 a2 ha0 σ h
end

-- CanonCote$Graph.become (LCanonCote$Graph;)V
section
theorem dX2_become_0 : decode cX2_become 0 = .ok (.aload_n 0, 1) := by decide +kernel
theorem dX2_become_1 : decode cX2_become 1 = .ok (.aload_n 1, 1) := by decide +kernel
theorem dX2_become_2 : decode cX2_become 2 = .ok (.getfield 9, 3) := by decide +kernel
theorem dX2_become_5 : decode cX2_become 5 = .ok (.putfield 9, 3) := by decide +kernel
theorem dX2_become_8 : decode cX2_become 8 = .ok (.iconst 0, 1) := by decide +kernel
theorem dX2_become_9 : decode cX2_become 9 = .ok (.istore_n 2, 1) := by decide +kernel
theorem dX2_become_10 : decode cX2_become 10 = .ok (.iload_n 2, 1) := by decide +kernel
theorem dX2_become_11 : decode cX2_become 11 = .ok (.bipush 8, 2) := by decide +kernel
theorem dX2_become_13 : decode cX2_become 13 = .ok (.if_icmp .ge 33, 3) := by decide +kernel
theorem dX2_become_16 : decode cX2_become 16 = .ok (.aload_n 0, 1) := by decide +kernel
theorem dX2_become_17 : decode cX2_become 17 = .ok (.getfield 15, 3) := by decide +kernel
theorem dX2_become_20 : decode cX2_become 20 = .ok (.iload_n 2, 1) := by decide +kernel
theorem dX2_become_21 : decode cX2_become 21 = .ok (.aload_n 1, 1) := by decide +kernel
theorem dX2_become_22 : decode cX2_become 22 = .ok (.getfield 15, 3) := by decide +kernel
theorem dX2_become_25 : decode cX2_become 25 = .ok (.iload_n 2, 1) := by decide +kernel
theorem dX2_become_26 : decode cX2_become 26 = .ok (.iaload, 1) := by decide +kernel
theorem dX2_become_27 : decode cX2_become 27 = .ok (.iastore, 1) := by decide +kernel
theorem dX2_become_28 : decode cX2_become 28 = .ok (.aload_n 0, 1) := by decide +kernel
theorem dX2_become_29 : decode cX2_become 29 = .ok (.getfield 19, 3) := by decide +kernel
theorem dX2_become_32 : decode cX2_become 32 = .ok (.iload_n 2, 1) := by decide +kernel
theorem dX2_become_33 : decode cX2_become 33 = .ok (.aload_n 1, 1) := by decide +kernel
theorem dX2_become_34 : decode cX2_become 34 = .ok (.getfield 19, 3) := by decide +kernel
theorem dX2_become_37 : decode cX2_become 37 = .ok (.iload_n 2, 1) := by decide +kernel
theorem dX2_become_38 : decode cX2_become 38 = .ok (.iaload, 1) := by decide +kernel
theorem dX2_become_39 : decode cX2_become 39 = .ok (.iastore, 1) := by decide +kernel
theorem dX2_become_40 : decode cX2_become 40 = .ok (.iinc 2 1, 3) := by decide +kernel
theorem dX2_become_43 : decode cX2_become 43 = .ok (.goto (-33), 3) := by decide +kernel
theorem dX2_become_46 : decode cX2_become 46 = .ok (.return_, 1) := by decide +kernel
theorem in_X2_become_Graph : ∀ w ∈ u_ws RX2 TX2 3, w ∈ wsX2_become := by decide +kernel
theorem wd_X2_become_1 : Cond.fieldLink RX2 9 (TX2 0).1 (TX2 0).2.1 (TX2 0).2.2.1 ∈ wsX2_become := by decide +kernel
theorem wd_X2_become_2 : Cond.fieldLink RX2 15 (TX2 1).1 (TX2 1).2.1 (TX2 1).2.2.1 ∈ wsX2_become := by decide +kernel
theorem wd_X2_become_3 : Cond.fieldLink RX2 19 (TX2 2).1 (TX2 2).2.1 (TX2 2).2.2.1 ∈ wsX2_become := by decide +kernel
def r_X2_become : Room := { frames := 1, cells := 0, slots := 0, locals := 12 }
set_option maxRecDepth 100000 in
set_option maxHeartbeats 4000000 in
theorem w_X2_become_10 {K : zK} (hk : zIs K RX2 cX2_become 3 wsX2_become none r_X2_become) {τ0 : zST} (hq : zQ K none τ0) (F : Nat) : ∀ (n : Nat) (a0 : Nat) (a1 : Nat) (a2 : Int32) (ha0 : atGraph (kZ K) a0) (ha1 : atGraph (kZ K) a1) (σ : zST), m_X2_become_10 F n a0 a1 a2 σ = some τ0 → Z K 0 0 10 [(0, .ref (eA (kZ K) a0)), (1, .ref (eA (kZ K) a1)), (2, .int a2)] [] σ := by
  intro n
  induction n with
  | zero => intro a0 a1 a2 ha0 ha1 σ h; cases h
  | succ n ih =>
    intro a0 a1 a2 ha0 ha1 σ h
    rw [m_X2_become_10] at h
    refine Z_iload_n hk 2 dX2_become_10 rfl rfl ?_
    refine Z_bipush hk dX2_become_11 zc_bipush_8 ?_
    refine Z_icmp_ge hk (tgt := 46) dX2_become_13 (by decide) (fun c3 => ?_) (fun c3 => ?_)
    · have h := if_yes h c3
      cases h
      exact Z_vret hk hq dX2_become_46
    · have h := if_no h c3
      refine Z_aload_n hk 0 dX2_become_16 rfl rfl ?_
      refine Z_get hk in_X2_become_Graph rfl ha0.cell.1 (ha0.cell.2 _) 1 (by decide) wd_X2_become_2 rfl dX2_become_17 ?_
      refine Z_iload_n hk 2 dX2_become_20 rfl rfl ?_
      refine Z_aload_n hk 1 dX2_become_21 rfl rfl ?_
      refine Z_get hk in_X2_become_Graph rfl ha1.cell.1 (ha1.cell.2 _) 1 (by decide) wd_X2_become_2 rfl dX2_become_22 ?_
      refine Z_iload_n hk 2 dX2_become_25 rfl rfl ?_
      obtain ⟨i6, x4, e5, h⟩ := ldI_get h
      refine Z_iald hk (ha1.near) i6 dX2_become_26 ?_
      refine Z_eqI e5 ?_
      obtain ⟨i9, s7, e8, h⟩ := stI_get h
      refine Z_iast hk (ha0.near) i9 dX2_become_27 ?_
      refine Z_eqS e8 ?_
      refine Z_aload_n hk 0 dX2_become_28 rfl rfl ?_
      refine Z_get hk in_X2_become_Graph rfl ha0.cell.1 (ha0.cell.2 _) 2 (by decide) wd_X2_become_3 rfl dX2_become_29 ?_
      refine Z_iload_n hk 2 dX2_become_32 rfl rfl ?_
      refine Z_aload_n hk 1 dX2_become_33 rfl rfl ?_
      refine Z_get hk in_X2_become_Graph rfl ha1.cell.1 (ha1.cell.2 _) 2 (by decide) wd_X2_become_3 rfl dX2_become_34 ?_
      refine Z_iload_n hk 2 dX2_become_37 rfl rfl ?_
      obtain ⟨i12, x10, e11, h⟩ := ldI_get h
      refine Z_iald hk (ha1.colours) i12 dX2_become_38 ?_
      refine Z_eqI e11 ?_
      obtain ⟨i15, s13, e14, h⟩ := stI_get h
      refine Z_iast hk (ha0.colours) i15 dX2_become_39 ?_
      refine Z_eqS e14 ?_
      obtain ⟨x16, e17, h⟩ := nm_get h
      refine Z_iinc hk 2 (v := x16) (lv' := [(2, .int x16), (0, .ref (eA (kZ K) a0)), (1, .ref (eA (kZ K) a1))]) dX2_become_40 rfl (by rw [zc_iinc_1]; exact e17) (by decide) rfl ?_
      refine Z_goto hk (tgt := 10) dX2_become_43 (by decide) ?_
      refine Z_sub [1, 2, 0] rfl ?_
      exact ih a0 a1 x16 ha0 ha1 s13 h
set_option maxRecDepth 100000 in
set_option maxHeartbeats 4000000 in
theorem w_X2_become {K : zK} (hk : zIs K RX2 cX2_become 3 wsX2_become none r_X2_become) {τ0 : zST} (hq : zQ K none τ0) (F : Nat) (a0 : Nat) (a1 : Nat) (ha0 : atGraph (kZ K) a0) (ha1 : atGraph (kZ K) a1) (σ : zST) (h : m_X2_become F a0 a1 σ = some τ0) : Z K 0 0 0 [(0, .ref (eA (kZ K) a0)), (1, .ref (eA (kZ K) a1))] [] σ := by
  unfold m_X2_become at h
  refine Z_aload_n hk 0 dX2_become_0 rfl rfl ?_
  refine Z_aload_n hk 1 dX2_become_1 rfl rfl ?_
  refine Z_get hk in_X2_become_Graph rfl ha1.cell.1 (ha1.cell.2 _) 0 (by decide) wd_X2_become_1 rfl dX2_become_2 ?_
  obtain ⟨s1, e2, h⟩ := nm_get h
  refine Z_put hk in_X2_become_Graph tyX2 tok_TX2 tnm_TX2 rfl ha0.cell.1 (ha0.cell.2 _) 0 (by decide) wd_X2_become_1 rfl (by decide) (Nat.le_of_ble_eq_true rfl) (ha0.put_size _ _) dX2_become_5 ?_
  refine Z_eqS e2 ?_
  refine Z_iconst hk dX2_become_8 zc_iconst_0 ?_
  refine Z_istore_n hk (lv' := [(2, .int 0), (0, .ref (eA (kZ K) a0)), (1, .ref (eA (kZ K) a1))]) dX2_become_9 rfl (by decide) rfl ?_
  refine Z_sub [1, 2, 0] rfl ?_
  exact w_X2_become_10 hk hq F F a0 a1 0 ha0 ha1 s1 h
theorem c_X2_become {l : Launch} {E : zE} (hL : eL E) (hJ : eJ E) (F : Nat) (a0 : Nat) (a1 : Nat) (ha0 : atGraph E a0) (ha1 : atGraph E a1) (σ : zST) {τ0 : zST} (h : m_X2_become F a0 a1 σ = some τ0) : Ct l yX2_become wsX2_become r_X2_become E [.ref (eA E a0), .ref (eA E a1)] σ none τ0 := by
  refine Ct_of (by decide) rfl hL hJ (Nat.le_of_ble_eq_true rfl) (fun K hE hl hk hq => ?_)
  subst hE
  exact w_X2_become hk hq F a0 a1 ha0 ha1 σ h
end

-- CanonCote$Graph.invertEdges ()V
section
theorem dX2_invertEdges_0 : decode cX2_invertEdges 0 = .ok (.iconst 0, 1) := by decide +kernel
theorem dX2_invertEdges_1 : decode cX2_invertEdges 1 = .ok (.istore_n 1, 1) := by decide +kernel
theorem dX2_invertEdges_2 : decode cX2_invertEdges 2 = .ok (.iload_n 1, 1) := by decide +kernel
theorem dX2_invertEdges_3 : decode cX2_invertEdges 3 = .ok (.aload_n 0, 1) := by decide +kernel
theorem dX2_invertEdges_4 : decode cX2_invertEdges 4 = .ok (.getfield 9, 3) := by decide +kernel
theorem dX2_invertEdges_7 : decode cX2_invertEdges 7 = .ok (.if_icmp .ge 31, 3) := by decide +kernel
theorem dX2_invertEdges_10 : decode cX2_invertEdges 10 = .ok (.aload_n 0, 1) := by decide +kernel
theorem dX2_invertEdges_11 : decode cX2_invertEdges 11 = .ok (.getfield 15, 3) := by decide +kernel
theorem dX2_invertEdges_14 : decode cX2_invertEdges 14 = .ok (.iload_n 1, 1) := by decide +kernel
theorem dX2_invertEdges_15 : decode cX2_invertEdges 15 = .ok (.dup2, 1) := by decide +kernel
theorem dX2_invertEdges_16 : decode cX2_invertEdges 16 = .ok (.iaload, 1) := by decide +kernel
theorem dX2_invertEdges_17 : decode cX2_invertEdges 17 = .ok (.aload_n 0, 1) := by decide +kernel
theorem dX2_invertEdges_18 : decode cX2_invertEdges 18 = .ok (.getfield 9, 3) := by decide +kernel
theorem dX2_invertEdges_21 : decode cX2_invertEdges 21 = .ok (.invokestatic 32, 3) := by decide +kernel
theorem dX2_invertEdges_24 : decode cX2_invertEdges 24 = .ok (.iconst 1, 1) := by decide +kernel
theorem dX2_invertEdges_25 : decode cX2_invertEdges 25 = .ok (.iload_n 1, 1) := by decide +kernel
theorem dX2_invertEdges_26 : decode cX2_invertEdges 26 = .ok (.ishl, 1) := by decide +kernel
theorem dX2_invertEdges_27 : decode cX2_invertEdges 27 = .ok (.iconst (-1), 1) := by decide +kernel
theorem dX2_invertEdges_28 : decode cX2_invertEdges 28 = .ok (.ixor, 1) := by decide +kernel
theorem dX2_invertEdges_29 : decode cX2_invertEdges 29 = .ok (.iand, 1) := by decide +kernel
theorem dX2_invertEdges_30 : decode cX2_invertEdges 30 = .ok (.ixor, 1) := by decide +kernel
theorem dX2_invertEdges_31 : decode cX2_invertEdges 31 = .ok (.iastore, 1) := by decide +kernel
theorem dX2_invertEdges_32 : decode cX2_invertEdges 32 = .ok (.iinc 1 1, 3) := by decide +kernel
theorem dX2_invertEdges_35 : decode cX2_invertEdges 35 = .ok (.goto (-33), 3) := by decide +kernel
theorem dX2_invertEdges_38 : decode cX2_invertEdges 38 = .ok (.return_, 1) := by decide +kernel
set_option maxRecDepth 20000 in
theorem ggX2_invertEdges_X7_below : GoodIn wsX2_invertEdges wsX7_below := goodIn_r _ [5] (by decide +kernel) (by decide +kernel)
set_option maxRecDepth 20000 in
theorem gX2_invertEdges_X7_below_n32 : GoodIn wsX2_invertEdges (wsX7_below) := ggX2_invertEdges_X7_below
theorem in_X2_invertEdges_Graph : ∀ w ∈ u_ws RX2 TX2 3, w ∈ wsX2_invertEdges := by decide +kernel
theorem wd_X2_invertEdges_1 : Cond.fieldLink RX2 9 (TX2 0).1 (TX2 0).2.1 (TX2 0).2.2.1 ∈ wsX2_invertEdges := by decide +kernel
theorem wd_X2_invertEdges_2 : Cond.fieldLink RX2 15 (TX2 1).1 (TX2 1).2.1 (TX2 1).2.2.1 ∈ wsX2_invertEdges := by decide +kernel
theorem wd_X2_invertEdges_3 : Cond.initialized yX7_below.cls ∈ wsX2_invertEdges := by decide +kernel
theorem wd_X2_invertEdges_4 : Cond.static yX7_below ∈ wsX2_invertEdges := by decide +kernel
def r_X2_invertEdges : Room := { frames := 2, cells := 0, slots := 0, locals := 32 }
set_option maxRecDepth 100000 in
set_option maxHeartbeats 4000000 in
theorem w_X2_invertEdges_2 {K : zK} (hk : zIs K RX2 cX2_invertEdges 2 wsX2_invertEdges none r_X2_invertEdges) {τ0 : zST} (hq : zQ K none τ0) (F : Nat) : ∀ (n : Nat) (a0 : Nat) (a1 : Int32) (ha0 : atGraph (kZ K) a0) (σ : zST), m_X2_invertEdges_2 F n a0 a1 σ = some τ0 → Z K 0 0 2 [(0, .ref (eA (kZ K) a0)), (1, .int a1)] [] σ := by
  intro n
  induction n with
  | zero => intro a0 a1 ha0 σ h; cases h
  | succ n ih =>
    intro a0 a1 ha0 σ h
    rw [m_X2_invertEdges_2] at h
    refine Z_iload_n hk 1 dX2_invertEdges_2 rfl rfl ?_
    refine Z_aload_n hk 0 dX2_invertEdges_3 rfl rfl ?_
    refine Z_get hk in_X2_invertEdges_Graph rfl ha0.cell.1 (ha0.cell.2 _) 0 (by decide) wd_X2_invertEdges_1 rfl dX2_invertEdges_4 ?_
    refine Z_icmp_ge hk (tgt := 38) dX2_invertEdges_7 (by decide) (fun c1 => ?_) (fun c1 => ?_)
    · have h := if_yes h c1
      cases h
      exact Z_vret hk hq dX2_invertEdges_38
    · have h := if_no h c1
      refine Z_aload_n hk 0 dX2_invertEdges_10 rfl rfl ?_
      refine Z_get hk in_X2_invertEdges_Graph rfl ha0.cell.1 (ha0.cell.2 _) 1 (by decide) wd_X2_invertEdges_2 rfl dX2_invertEdges_11 ?_
      refine Z_iload_n hk 1 dX2_invertEdges_14 rfl rfl ?_
      refine Z_dup2 hk dX2_invertEdges_15 rfl rfl ?_
      obtain ⟨i4, x2, e3, h⟩ := ldI_get h
      refine Z_iald hk (ha0.near) i4 dX2_invertEdges_16 ?_
      refine Z_eqI e3 ?_
      refine Z_aload_n hk 0 dX2_invertEdges_17 rfl rfl ?_
      refine Z_get hk in_X2_invertEdges_Graph rfl ha0.cell.1 (ha0.cell.2 _) 0 (by decide) wd_X2_invertEdges_1 rfl dX2_invertEdges_18 ?_
      obtain ⟨x5, s6, h7, h⟩ := bd_ok h
      refine Z_callSN 1 hk [.int (gI σ a0 0)] (c_X7_below hk.loc hk.inj F (gI σ a0 0) σ h7) gX2_invertEdges_X7_below_n32 nw_10 rfl ⟨rfl, rfl⟩ ⟨wd_X2_invertEdges_3, wd_X2_invertEdges_4⟩ (by decide +kernel) ⟨Nat.le_of_ble_eq_true rfl, Nat.le_of_ble_eq_true rfl⟩ rfl rfl (Nat.le_of_ble_eq_true rfl) ⟨Nat.zero_le _, Nat.zero_le _⟩ dX2_invertEdges_21 ?_
      show Z K 0 0 24 [(0, .ref (eA (kZ K) a0)), (1, .int a1)] [.int x5, .int x2, .int a1, .ref (eA (kZ K) (a0 + 1))] s6
      refine Z_iconst hk dX2_invertEdges_24 zc_iconst_1 ?_
      refine Z_iload_n hk 1 dX2_invertEdges_25 rfl rfl ?_
      refine Z_ishl hk dX2_invertEdges_26 ?_
      refine Z_iconst hk dX2_invertEdges_27 zc_iconst_m1 ?_
      refine Z_ixor hk dX2_invertEdges_28 ?_
      refine Z_iand hk dX2_invertEdges_29 ?_
      refine Z_ixor hk dX2_invertEdges_30 ?_
      obtain ⟨i10, s8, e9, h⟩ := stI_get h
      refine Z_iast hk (ha0.near) i10 dX2_invertEdges_31 ?_
      refine Z_eqS e9 ?_
      obtain ⟨x11, e12, h⟩ := nm_get h
      refine Z_iinc hk 1 (v := x11) (lv' := [(1, .int x11), (0, .ref (eA (kZ K) a0))]) dX2_invertEdges_32 rfl (by rw [zc_iinc_1]; exact e12) (by decide) rfl ?_
      refine Z_goto hk (tgt := 2) dX2_invertEdges_35 (by decide) ?_
      refine Z_sub [1, 0] rfl ?_
      exact ih a0 x11 ha0 s8 h
set_option maxRecDepth 100000 in
set_option maxHeartbeats 4000000 in
theorem w_X2_invertEdges {K : zK} (hk : zIs K RX2 cX2_invertEdges 2 wsX2_invertEdges none r_X2_invertEdges) {τ0 : zST} (hq : zQ K none τ0) (F : Nat) (a0 : Nat) (ha0 : atGraph (kZ K) a0) (σ : zST) (h : m_X2_invertEdges F a0 σ = some τ0) : Z K 0 0 0 [(0, .ref (eA (kZ K) a0))] [] σ := by
  unfold m_X2_invertEdges at h
  refine Z_iconst hk dX2_invertEdges_0 zc_iconst_0 ?_
  refine Z_istore_n hk (lv' := [(1, .int 0), (0, .ref (eA (kZ K) a0))]) dX2_invertEdges_1 rfl (by decide) rfl ?_
  refine Z_sub [1, 0] rfl ?_
  exact w_X2_invertEdges_2 hk hq F F a0 0 ha0 σ h
theorem c_X2_invertEdges {l : Launch} {E : zE} (hL : eL E) (hJ : eJ E) (F : Nat) (a0 : Nat) (ha0 : atGraph E a0) (σ : zST) {τ0 : zST} (h : m_X2_invertEdges F a0 σ = some τ0) : Ct l yX2_invertEdges wsX2_invertEdges r_X2_invertEdges E [.ref (eA E a0)] σ none τ0 := by
  refine Ct_of (by decide) rfl hL hJ (Nat.le_of_ble_eq_true rfl) (fun K hE hl hk hq => ?_)
  subst hE
  exact w_X2_invertEdges hk hq F a0 ha0 σ h
end

-- CanonCote$Graph.countEdges ()I
section
theorem dX2_countEdges_0 : decode cX2_countEdges 0 = .ok (.iconst 0, 1) := by decide +kernel
theorem dX2_countEdges_1 : decode cX2_countEdges 1 = .ok (.istore_n 1, 1) := by decide +kernel
theorem dX2_countEdges_2 : decode cX2_countEdges 2 = .ok (.iconst 0, 1) := by decide +kernel
theorem dX2_countEdges_3 : decode cX2_countEdges 3 = .ok (.istore_n 2, 1) := by decide +kernel
theorem dX2_countEdges_4 : decode cX2_countEdges 4 = .ok (.iload_n 2, 1) := by decide +kernel
theorem dX2_countEdges_5 : decode cX2_countEdges 5 = .ok (.aload_n 0, 1) := by decide +kernel
theorem dX2_countEdges_6 : decode cX2_countEdges 6 = .ok (.getfield 9, 3) := by decide +kernel
theorem dX2_countEdges_9 : decode cX2_countEdges 9 = .ok (.if_icmp .ge 21, 3) := by decide +kernel
theorem dX2_countEdges_12 : decode cX2_countEdges 12 = .ok (.iload_n 1, 1) := by decide +kernel
theorem dX2_countEdges_13 : decode cX2_countEdges 13 = .ok (.aload_n 0, 1) := by decide +kernel
theorem dX2_countEdges_14 : decode cX2_countEdges 14 = .ok (.getfield 15, 3) := by decide +kernel
theorem dX2_countEdges_17 : decode cX2_countEdges 17 = .ok (.iload_n 2, 1) := by decide +kernel
theorem dX2_countEdges_18 : decode cX2_countEdges 18 = .ok (.iaload, 1) := by decide +kernel
theorem dX2_countEdges_19 : decode cX2_countEdges 19 = .ok (.invokestatic 36, 3) := by decide +kernel
theorem dX2_countEdges_22 : decode cX2_countEdges 22 = .ok (.iadd, 1) := by decide +kernel
theorem dX2_countEdges_23 : decode cX2_countEdges 23 = .ok (.istore_n 1, 1) := by decide +kernel
theorem dX2_countEdges_24 : decode cX2_countEdges 24 = .ok (.iinc 2 1, 3) := by decide +kernel
theorem dX2_countEdges_27 : decode cX2_countEdges 27 = .ok (.goto (-23), 3) := by decide +kernel
theorem dX2_countEdges_30 : decode cX2_countEdges 30 = .ok (.iload_n 1, 1) := by decide +kernel
theorem dX2_countEdges_31 : decode cX2_countEdges 31 = .ok (.iconst 2, 1) := by decide +kernel
theorem dX2_countEdges_32 : decode cX2_countEdges 32 = .ok (.idiv, 1) := by decide +kernel
theorem dX2_countEdges_33 : decode cX2_countEdges 33 = .ok (.ireturn, 1) := by decide +kernel
set_option maxRecDepth 20000 in
theorem ggX2_countEdges_J6_bitCount_0f7a4 : GoodIn wsX2_countEdges wsJ6_bitCount_0f7a4 := goodIn_r _ [6, 7, 8, 9] (by decide +kernel) (by decide +kernel)
set_option maxRecDepth 20000 in
theorem gX2_countEdges_J6_bitCount_0f7a4 : GoodIn wsX2_countEdges (va_wsS RX2 36 yJ6_bitCount_0f7a4 wsJ6_bitCount_0f7a4) := goodIn_app (goodIn_of _ (by decide +kernel)) ggX2_countEdges_J6_bitCount_0f7a4
theorem in_X2_countEdges_Graph : ∀ w ∈ u_ws RX2 TX2 3, w ∈ wsX2_countEdges := by decide +kernel
theorem wd_X2_countEdges_1 : Cond.fieldLink RX2 9 (TX2 0).1 (TX2 0).2.1 (TX2 0).2.2.1 ∈ wsX2_countEdges := by decide +kernel
theorem wd_X2_countEdges_2 : Cond.fieldLink RX2 15 (TX2 1).1 (TX2 1).2.1 (TX2 1).2.2.1 ∈ wsX2_countEdges := by decide +kernel
def r_X2_countEdges : Room := { frames := 2, cells := 0, slots := 0, locals := 32 }
set_option maxRecDepth 100000 in
set_option maxHeartbeats 4000000 in
theorem w_X2_countEdges_4 {K : zK} (hk : zIs K RX2 cX2_countEdges 3 wsX2_countEdges (some .int) r_X2_countEdges) {r0 : Int32} {τ0 : zST} (hq : zQ K (some (.int r0)) τ0) (F : Nat) : ∀ (n : Nat) (a0 : Nat) (a1 : Int32) (a2 : Int32) (ha0 : atGraph (kZ K) a0) (σ : zST), m_X2_countEdges_4 F n a0 a1 a2 σ = some (r0, τ0) → Z K 0 0 4 [(0, .ref (eA (kZ K) a0)), (1, .int a1), (2, .int a2)] [] σ := by
  intro n
  induction n with
  | zero => intro a0 a1 a2 ha0 σ h; cases h
  | succ n ih =>
    intro a0 a1 a2 ha0 σ h
    rw [m_X2_countEdges_4] at h
    refine Z_iload_n hk 2 dX2_countEdges_4 rfl rfl ?_
    refine Z_aload_n hk 0 dX2_countEdges_5 rfl rfl ?_
    refine Z_get hk in_X2_countEdges_Graph rfl ha0.cell.1 (ha0.cell.2 _) 0 (by decide) wd_X2_countEdges_1 rfl dX2_countEdges_6 ?_
    refine Z_icmp_ge hk (tgt := 30) dX2_countEdges_9 (by decide) (fun c1 => ?_) (fun c1 => ?_)
    · have h := if_yes h c1
      refine Z_iload_n hk 1 dX2_countEdges_30 rfl rfl ?_
      refine Z_iconst hk dX2_countEdges_31 zc_iconst_2 ?_
      refine Z_idiv hk dX2_countEdges_32 (by decide) ?_
      cases h
      exact Z_iret hk hq dX2_countEdges_33
    · have h := if_no h c1
      refine Z_iload_n hk 1 dX2_countEdges_12 rfl rfl ?_
      refine Z_aload_n hk 0 dX2_countEdges_13 rfl rfl ?_
      refine Z_get hk in_X2_countEdges_Graph rfl ha0.cell.1 (ha0.cell.2 _) 1 (by decide) wd_X2_countEdges_2 rfl dX2_countEdges_14 ?_
      refine Z_iload_n hk 2 dX2_countEdges_17 rfl rfl ?_
      obtain ⟨i4, x2, e3, h⟩ := ldI_get h
      refine Z_iald hk (ha0.near) i4 dX2_countEdges_18 ?_
      refine Z_eqI e3 ?_
      obtain ⟨x5, s6, h7, h⟩ := bd_ok h
      refine Z_callT 1 hk [.int x2] (c_J6_bitCount_0f7a4 hk.loc hk.inj F x2 σ h7) gX2_countEdges_J6_bitCount_0f7a4 rfl ⟨rfl, rfl⟩ (by decide +kernel) ⟨Nat.le_of_ble_eq_true rfl, Nat.le_of_ble_eq_true rfl⟩ rfl rfl (Nat.le_of_ble_eq_true rfl) ⟨Nat.zero_le _, Nat.zero_le _⟩ dX2_countEdges_19 ?_
      show Z K 0 0 22 [(0, .ref (eA (kZ K) a0)), (1, .int a1), (2, .int a2)] [.int x5, .int a1] s6
      refine Z_iadd hk dX2_countEdges_22 ?_
      obtain ⟨x8, e9, h⟩ := nm_get h
      refine Z_eqI e9 ?_
      refine Z_istore_n hk (lv' := [(1, .int x8), (0, .ref (eA (kZ K) a0)), (2, .int a2)]) dX2_countEdges_23 rfl (by decide) rfl ?_
      obtain ⟨x10, e11, h⟩ := nm_get h
      refine Z_iinc hk 2 (v := x10) (lv' := [(2, .int x10), (1, .int x8), (0, .ref (eA (kZ K) a0))]) dX2_countEdges_24 rfl (by rw [zc_iinc_1]; exact e11) (by decide) rfl ?_
      refine Z_goto hk (tgt := 4) dX2_countEdges_27 (by decide) ?_
      refine Z_sub [2, 1, 0] rfl ?_
      exact ih a0 x8 x10 ha0 s6 h
set_option maxRecDepth 100000 in
set_option maxHeartbeats 4000000 in
theorem w_X2_countEdges {K : zK} (hk : zIs K RX2 cX2_countEdges 3 wsX2_countEdges (some .int) r_X2_countEdges) {r0 : Int32} {τ0 : zST} (hq : zQ K (some (.int r0)) τ0) (F : Nat) (a0 : Nat) (ha0 : atGraph (kZ K) a0) (σ : zST) (h : m_X2_countEdges F a0 σ = some (r0, τ0)) : Z K 0 0 0 [(0, .ref (eA (kZ K) a0))] [] σ := by
  unfold m_X2_countEdges at h
  refine Z_iconst hk dX2_countEdges_0 zc_iconst_0 ?_
  refine Z_istore_n hk (lv' := [(1, .int 0), (0, .ref (eA (kZ K) a0))]) dX2_countEdges_1 rfl (by decide) rfl ?_
  refine Z_iconst hk dX2_countEdges_2 zc_iconst_0 ?_
  refine Z_istore_n hk (lv' := [(2, .int 0), (1, .int 0), (0, .ref (eA (kZ K) a0))]) dX2_countEdges_3 rfl (by decide) rfl ?_
  refine Z_sub [2, 1, 0] rfl ?_
  exact w_X2_countEdges_4 hk hq F F a0 0 0 ha0 σ h
theorem c_X2_countEdges {l : Launch} {E : zE} (hL : eL E) (hJ : eJ E) (F : Nat) (a0 : Nat) (ha0 : atGraph E a0) (σ : zST) {r0 : Int32} {τ0 : zST} (h : m_X2_countEdges F a0 σ = some (r0, τ0)) : Ct l yX2_countEdges wsX2_countEdges r_X2_countEdges E [.ref (eA E a0)] σ (some (.int r0)) τ0 := by
  refine Ct_of (by decide) rfl hL hJ (Nat.le_of_ble_eq_true rfl) (fun K hE hl hk hq => ?_)
  subst hE
  exact w_X2_countEdges hk hq F a0 ha0 σ h
end

-- CanonCote$Graph.squeeze (II)I
section
theorem dX2_squeeze_0 : decode cX2_squeeze 0 = .ok (.iconst 0, 1) := by decide +kernel
theorem dX2_squeeze_1 : decode cX2_squeeze 1 = .ok (.istore_n 2, 1) := by decide +kernel
theorem dX2_squeeze_2 : decode cX2_squeeze 2 = .ok (.iconst 0, 1) := by decide +kernel
theorem dX2_squeeze_3 : decode cX2_squeeze 3 = .ok (.istore_n 3, 1) := by decide +kernel
theorem dX2_squeeze_4 : decode cX2_squeeze 4 = .ok (.iconst 0, 1) := by decide +kernel
theorem dX2_squeeze_5 : decode cX2_squeeze 5 = .ok (.istore 4, 2) := by decide +kernel
theorem dX2_squeeze_7 : decode cX2_squeeze 7 = .ok (.iload 4, 2) := by decide +kernel
theorem dX2_squeeze_9 : decode cX2_squeeze 9 = .ok (.bipush 8, 2) := by decide +kernel
theorem dX2_squeeze_11 : decode cX2_squeeze 11 = .ok (.if_icmp .ge 32, 3) := by decide +kernel
theorem dX2_squeeze_14 : decode cX2_squeeze 14 = .ok (.iload_n 1, 1) := by decide +kernel
theorem dX2_squeeze_15 : decode cX2_squeeze 15 = .ok (.iload 4, 2) := by decide +kernel
theorem dX2_squeeze_17 : decode cX2_squeeze 17 = .ok (.invokestatic 28, 3) := by decide +kernel
theorem dX2_squeeze_20 : decode cX2_squeeze 20 = .ok (.ifCond .eq 17, 3) := by decide +kernel
theorem dX2_squeeze_23 : decode cX2_squeeze 23 = .ok (.iload_n 2, 1) := by decide +kernel
theorem dX2_squeeze_24 : decode cX2_squeeze 24 = .ok (.iload_n 0, 1) := by decide +kernel
theorem dX2_squeeze_25 : decode cX2_squeeze 25 = .ok (.iload 4, 2) := by decide +kernel
theorem dX2_squeeze_27 : decode cX2_squeeze 27 = .ok (.ishr, 1) := by decide +kernel
theorem dX2_squeeze_28 : decode cX2_squeeze 28 = .ok (.iconst 1, 1) := by decide +kernel
theorem dX2_squeeze_29 : decode cX2_squeeze 29 = .ok (.iand, 1) := by decide +kernel
theorem dX2_squeeze_30 : decode cX2_squeeze 30 = .ok (.iload_n 3, 1) := by decide +kernel
theorem dX2_squeeze_31 : decode cX2_squeeze 31 = .ok (.ishl, 1) := by decide +kernel
theorem dX2_squeeze_32 : decode cX2_squeeze 32 = .ok (.ior, 1) := by decide +kernel
theorem dX2_squeeze_33 : decode cX2_squeeze 33 = .ok (.istore_n 2, 1) := by decide +kernel
theorem dX2_squeeze_34 : decode cX2_squeeze 34 = .ok (.iinc 3 1, 3) := by decide +kernel
theorem dX2_squeeze_37 : decode cX2_squeeze 37 = .ok (.iinc 4 1, 3) := by decide +kernel
theorem dX2_squeeze_40 : decode cX2_squeeze 40 = .ok (.goto (-33), 3) := by decide +kernel
theorem dX2_squeeze_43 : decode cX2_squeeze 43 = .ok (.iload_n 2, 1) := by decide +kernel
theorem dX2_squeeze_44 : decode cX2_squeeze 44 = .ok (.ireturn, 1) := by decide +kernel
set_option maxRecDepth 20000 in
theorem ggX2_squeeze_X7_isIn : GoodIn wsX2_squeeze wsX7_isIn := goodIn_r _ [3] (by decide +kernel) (by decide +kernel)
set_option maxRecDepth 20000 in
theorem gX2_squeeze_X7_isIn_n28 : GoodIn wsX2_squeeze (wsX7_isIn) := ggX2_squeeze_X7_isIn
theorem wd_X2_squeeze_0 : Cond.initialized yX7_isIn.cls ∈ wsX2_squeeze := by decide +kernel
theorem wd_X2_squeeze_1 : Cond.static yX7_isIn ∈ wsX2_squeeze := by decide +kernel
def r_X2_squeeze : Room := { frames := 2, cells := 0, slots := 0, locals := 33 }
set_option maxRecDepth 100000 in
set_option maxHeartbeats 4000000 in
theorem w_X2_squeeze_37 {K : zK} (hk : zIs K RX2 cX2_squeeze 5 wsX2_squeeze (some .int) r_X2_squeeze) {r0 : Int32} {τ0 : zST} (hq : zQ K (some (.int r0)) τ0) (F : Nat) (k7 : Int32 → Int32 → Int32 → Int32 → Int32 → zST → Option (Int32 × zST)) (hk7 : ∀ (a0 : Int32) (a1 : Int32) (a2 : Int32) (a3 : Int32) (a4 : Int32) (σ : zST), k7 a0 a1 a2 a3 a4 σ = some (r0, τ0) → Z K 0 0 7 [(0, .int a0), (1, .int a1), (2, .int a2), (3, .int a3), (4, .int a4)] [] σ) (a0 : Int32) (a1 : Int32) (a2 : Int32) (a3 : Int32) (a4 : Int32) (σ : zST) (h : m_X2_squeeze_37 F k7 a0 a1 a2 a3 a4 σ = some (r0, τ0)) : Z K 0 0 37 [(0, .int a0), (1, .int a1), (2, .int a2), (3, .int a3), (4, .int a4)] [] σ := by
  unfold m_X2_squeeze_37 at h
  obtain ⟨x10, e11, h⟩ := nm_get h
  refine Z_iinc hk 4 (v := x10) (lv' := [(4, .int x10), (0, .int a0), (1, .int a1), (2, .int a2), (3, .int a3)]) dX2_squeeze_37 rfl (by rw [zc_iinc_1]; exact e11) (by decide) rfl ?_
  refine Z_goto hk (tgt := 7) dX2_squeeze_40 (by decide) ?_
  refine Z_sub [1, 2, 3, 4, 0] rfl ?_
  exact hk7 a0 a1 a2 a3 x10 σ h
set_option maxRecDepth 100000 in
set_option maxHeartbeats 4000000 in
theorem w_X2_squeeze_7 {K : zK} (hk : zIs K RX2 cX2_squeeze 5 wsX2_squeeze (some .int) r_X2_squeeze) {r0 : Int32} {τ0 : zST} (hq : zQ K (some (.int r0)) τ0) (F : Nat) : ∀ (n : Nat) (a0 : Int32) (a1 : Int32) (a2 : Int32) (a3 : Int32) (a4 : Int32) (σ : zST), m_X2_squeeze_7 F n a0 a1 a2 a3 a4 σ = some (r0, τ0) → Z K 0 0 7 [(0, .int a0), (1, .int a1), (2, .int a2), (3, .int a3), (4, .int a4)] [] σ := by
  intro n
  induction n with
  | zero => intro a0 a1 a2 a3 a4 σ h; cases h
  | succ n ih =>
    intro a0 a1 a2 a3 a4 σ h
    rw [m_X2_squeeze_7] at h
    refine Z_iload hk 4 dX2_squeeze_7 rfl ?_
    refine Z_bipush hk dX2_squeeze_9 zc_bipush_8 ?_
    refine Z_icmp_ge hk (tgt := 43) dX2_squeeze_11 (by decide) (fun c1 => ?_) (fun c1 => ?_)
    · have h := if_yes h c1
      refine Z_iload_n hk 2 dX2_squeeze_43 rfl rfl ?_
      cases h
      exact Z_iret hk hq dX2_squeeze_44
    · have h := if_no h c1
      refine Z_iload_n hk 1 dX2_squeeze_14 rfl rfl ?_
      refine Z_iload hk 4 dX2_squeeze_15 rfl ?_
      obtain ⟨x2, s3, h4, h⟩ := bd_ok h
      refine Z_callSN 2 hk [.int a1, .int a4] (c_X7_isIn hk.loc hk.inj F a1 a4 σ h4) gX2_squeeze_X7_isIn_n28 nw_9 rfl ⟨rfl, rfl⟩ ⟨wd_X2_squeeze_0, wd_X2_squeeze_1⟩ (by decide +kernel) ⟨Nat.le_of_ble_eq_true rfl, Nat.le_of_ble_eq_true rfl⟩ rfl rfl (Nat.le_of_ble_eq_true rfl) ⟨Nat.zero_le _, Nat.zero_le _⟩ dX2_squeeze_17 ?_
      show Z K 0 0 20 [(0, .int a0), (1, .int a1), (2, .int a2), (3, .int a3), (4, .int a4)] [.int x2] s3
      refine Z_if_eq hk (tgt := 37) dX2_squeeze_20 (by decide) (fun c5 => ?_) (fun c5 => ?_)
      · have h := if_yes h c5
        refine Z_sub [0, 1, 2, 3, 4] rfl ?_
        exact w_X2_squeeze_37 hk hq F (m_X2_squeeze_7 F n) ih a0 a1 a2 a3 a4 s3 h
      · have h := if_no h c5
        refine Z_iload_n hk 2 dX2_squeeze_23 rfl rfl ?_
        refine Z_iload_n hk 0 dX2_squeeze_24 rfl rfl ?_
        refine Z_iload hk 4 dX2_squeeze_25 rfl ?_
        refine Z_ishr hk dX2_squeeze_27 ?_
        refine Z_iconst hk dX2_squeeze_28 zc_iconst_1 ?_
        refine Z_iand hk dX2_squeeze_29 ?_
        refine Z_iload_n hk 3 dX2_squeeze_30 rfl rfl ?_
        refine Z_ishl hk dX2_squeeze_31 ?_
        refine Z_ior hk dX2_squeeze_32 ?_
        obtain ⟨x6, e7, h⟩ := nm_get h
        refine Z_eqI e7 ?_
        refine Z_istore_n hk (lv' := [(2, .int x6), (0, .int a0), (1, .int a1), (3, .int a3), (4, .int a4)]) dX2_squeeze_33 rfl (by decide) rfl ?_
        obtain ⟨x8, e9, h⟩ := nm_get h
        refine Z_iinc hk 3 (v := x8) (lv' := [(3, .int x8), (2, .int x6), (0, .int a0), (1, .int a1), (4, .int a4)]) dX2_squeeze_34 rfl (by rw [zc_iinc_1]; exact e9) (by decide) rfl ?_
        refine Z_sub [2, 3, 1, 0, 4] rfl ?_
        exact w_X2_squeeze_37 hk hq F (m_X2_squeeze_7 F n) ih a0 a1 x6 x8 a4 s3 h
set_option maxRecDepth 100000 in
set_option maxHeartbeats 4000000 in
theorem w_X2_squeeze {K : zK} (hk : zIs K RX2 cX2_squeeze 5 wsX2_squeeze (some .int) r_X2_squeeze) {r0 : Int32} {τ0 : zST} (hq : zQ K (some (.int r0)) τ0) (F : Nat) (a0 : Int32) (a1 : Int32) (σ : zST) (h : m_X2_squeeze F a0 a1 σ = some (r0, τ0)) : Z K 0 0 0 [(0, .int a0), (1, .int a1)] [] σ := by
  unfold m_X2_squeeze at h
  refine Z_iconst hk dX2_squeeze_0 zc_iconst_0 ?_
  refine Z_istore_n hk (lv' := [(2, .int 0), (0, .int a0), (1, .int a1)]) dX2_squeeze_1 rfl (by decide) rfl ?_
  refine Z_iconst hk dX2_squeeze_2 zc_iconst_0 ?_
  refine Z_istore_n hk (lv' := [(3, .int 0), (2, .int 0), (0, .int a0), (1, .int a1)]) dX2_squeeze_3 rfl (by decide) rfl ?_
  refine Z_iconst hk dX2_squeeze_4 zc_iconst_0 ?_
  refine Z_istore hk (lv' := [(4, .int 0), (3, .int 0), (2, .int 0), (0, .int a0), (1, .int a1)]) dX2_squeeze_5 (by decide) rfl ?_
  refine Z_sub [3, 4, 2, 1, 0] rfl ?_
  exact w_X2_squeeze_7 hk hq F F a0 a1 0 0 0 σ h
theorem c_X2_squeeze {l : Launch} {E : zE} (hL : eL E) (hJ : eJ E) (F : Nat) (a0 : Int32) (a1 : Int32) (σ : zST) {r0 : Int32} {τ0 : zST} (h : m_X2_squeeze F a0 a1 σ = some (r0, τ0)) : Ct l yX2_squeeze wsX2_squeeze r_X2_squeeze E [.int a0, .int a1] σ (some (.int r0)) τ0 := by
  refine Ct_of (by decide) rfl hL hJ (Nat.le_of_ble_eq_true rfl) (fun K hE hl hk hq => ?_)
  subst hE
  exact w_X2_squeeze hk hq F a0 a1 σ h
end

-- CanonCote$Graph.becomePart (LCanonCote$Graph;I)V
section
theorem dX2_becomePart_0 : decode cX2_becomePart 0 = .ok (.aload_n 0, 1) := by decide +kernel
theorem dX2_becomePart_1 : decode cX2_becomePart 1 = .ok (.iconst 0, 1) := by decide +kernel
theorem dX2_becomePart_2 : decode cX2_becomePart 2 = .ok (.putfield 9, 3) := by decide +kernel
theorem dX2_becomePart_5 : decode cX2_becomePart 5 = .ok (.iconst 0, 1) := by decide +kernel
theorem dX2_becomePart_6 : decode cX2_becomePart 6 = .ok (.istore_n 3, 1) := by decide +kernel
theorem dX2_becomePart_7 : decode cX2_becomePart 7 = .ok (.iload_n 3, 1) := by decide +kernel
theorem dX2_becomePart_8 : decode cX2_becomePart 8 = .ok (.aload_n 1, 1) := by decide +kernel
theorem dX2_becomePart_9 : decode cX2_becomePart 9 = .ok (.getfield 9, 3) := by decide +kernel
theorem dX2_becomePart_12 : decode cX2_becomePart 12 = .ok (.if_icmp .ge 61, 3) := by decide +kernel
theorem dX2_becomePart_15 : decode cX2_becomePart 15 = .ok (.iload_n 2, 1) := by decide +kernel
theorem dX2_becomePart_16 : decode cX2_becomePart 16 = .ok (.iload_n 3, 1) := by decide +kernel
theorem dX2_becomePart_17 : decode cX2_becomePart 17 = .ok (.invokestatic 28, 3) := by decide +kernel
theorem dX2_becomePart_20 : decode cX2_becomePart 20 = .ok (.ifCond .eq 47, 3) := by decide +kernel
theorem dX2_becomePart_23 : decode cX2_becomePart 23 = .ok (.aload_n 0, 1) := by decide +kernel
theorem dX2_becomePart_24 : decode cX2_becomePart 24 = .ok (.getfield 19, 3) := by decide +kernel
theorem dX2_becomePart_27 : decode cX2_becomePart 27 = .ok (.aload_n 0, 1) := by decide +kernel
theorem dX2_becomePart_28 : decode cX2_becomePart 28 = .ok (.getfield 9, 3) := by decide +kernel
theorem dX2_becomePart_31 : decode cX2_becomePart 31 = .ok (.aload_n 1, 1) := by decide +kernel
theorem dX2_becomePart_32 : decode cX2_becomePart 32 = .ok (.getfield 19, 3) := by decide +kernel
theorem dX2_becomePart_35 : decode cX2_becomePart 35 = .ok (.iload_n 3, 1) := by decide +kernel
theorem dX2_becomePart_36 : decode cX2_becomePart 36 = .ok (.iaload, 1) := by decide +kernel
theorem dX2_becomePart_37 : decode cX2_becomePart 37 = .ok (.iastore, 1) := by decide +kernel
theorem dX2_becomePart_38 : decode cX2_becomePart 38 = .ok (.aload_n 0, 1) := by decide +kernel
theorem dX2_becomePart_39 : decode cX2_becomePart 39 = .ok (.getfield 15, 3) := by decide +kernel
theorem dX2_becomePart_42 : decode cX2_becomePart 42 = .ok (.aload_n 0, 1) := by decide +kernel
theorem dX2_becomePart_43 : decode cX2_becomePart 43 = .ok (.getfield 9, 3) := by decide +kernel
theorem dX2_becomePart_46 : decode cX2_becomePart 46 = .ok (.aload_n 1, 1) := by decide +kernel
theorem dX2_becomePart_47 : decode cX2_becomePart 47 = .ok (.getfield 15, 3) := by decide +kernel
theorem dX2_becomePart_50 : decode cX2_becomePart 50 = .ok (.iload_n 3, 1) := by decide +kernel
theorem dX2_becomePart_51 : decode cX2_becomePart 51 = .ok (.iaload, 1) := by decide +kernel
theorem dX2_becomePart_52 : decode cX2_becomePart 52 = .ok (.iload_n 2, 1) := by decide +kernel
theorem dX2_becomePart_53 : decode cX2_becomePart 53 = .ok (.invokestatic 41, 3) := by decide +kernel
theorem dX2_becomePart_56 : decode cX2_becomePart 56 = .ok (.iastore, 1) := by decide +kernel
theorem dX2_becomePart_57 : decode cX2_becomePart 57 = .ok (.aload_n 0, 1) := by decide +kernel
theorem dX2_becomePart_58 : decode cX2_becomePart 58 = .ok (.dup, 1) := by decide +kernel
theorem dX2_becomePart_59 : decode cX2_becomePart 59 = .ok (.getfield 9, 3) := by decide +kernel
theorem dX2_becomePart_62 : decode cX2_becomePart 62 = .ok (.iconst 1, 1) := by decide +kernel
theorem dX2_becomePart_63 : decode cX2_becomePart 63 = .ok (.iadd, 1) := by decide +kernel
theorem dX2_becomePart_64 : decode cX2_becomePart 64 = .ok (.putfield 9, 3) := by decide +kernel
theorem dX2_becomePart_67 : decode cX2_becomePart 67 = .ok (.iinc 3 1, 3) := by decide +kernel
theorem dX2_becomePart_70 : decode cX2_becomePart 70 = .ok (.goto (-63), 3) := by decide +kernel
theorem dX2_becomePart_73 : decode cX2_becomePart 73 = .ok (.return_, 1) := by decide +kernel
set_option maxRecDepth 20000 in
theorem ggX2_becomePart_X7_isIn : GoodIn wsX2_becomePart wsX7_isIn := goodIn_r _ [6] (by decide +kernel) (by decide +kernel)
set_option maxRecDepth 20000 in
theorem gX2_becomePart_X7_isIn_n28 : GoodIn wsX2_becomePart (wsX7_isIn) := ggX2_becomePart_X7_isIn
set_option maxRecDepth 20000 in
theorem ggX2_becomePart_X2_squeeze : GoodIn wsX2_becomePart wsX2_squeeze := goodIn_r _ [10, 4, 5, 6] (by decide +kernel) (by decide +kernel)
set_option maxRecDepth 20000 in
theorem gX2_becomePart_X2_squeeze : GoodIn wsX2_becomePart (va_wsS RX2 41 yX2_squeeze wsX2_squeeze) := goodIn_app (goodIn_of _ (by decide +kernel)) ggX2_becomePart_X2_squeeze
theorem in_X2_becomePart_Graph : ∀ w ∈ u_ws RX2 TX2 3, w ∈ wsX2_becomePart := by decide +kernel
theorem wd_X2_becomePart_1 : Cond.fieldLink RX2 9 (TX2 0).1 (TX2 0).2.1 (TX2 0).2.2.1 ∈ wsX2_becomePart := by decide +kernel
theorem wd_X2_becomePart_2 : Cond.initialized yX7_isIn.cls ∈ wsX2_becomePart := by decide +kernel
theorem wd_X2_becomePart_3 : Cond.static yX7_isIn ∈ wsX2_becomePart := by decide +kernel
theorem wd_X2_becomePart_4 : Cond.fieldLink RX2 19 (TX2 2).1 (TX2 2).2.1 (TX2 2).2.2.1 ∈ wsX2_becomePart := by decide +kernel
theorem wd_X2_becomePart_5 : Cond.fieldLink RX2 15 (TX2 1).1 (TX2 1).2.1 (TX2 1).2.2.1 ∈ wsX2_becomePart := by decide +kernel
def r_X2_becomePart : Room := { frames := 3, cells := 0, slots := 0, locals := 57 }
set_option maxRecDepth 100000 in
set_option maxHeartbeats 4000000 in
theorem w_X2_becomePart_67 {K : zK} (hk : zIs K RX2 cX2_becomePart 4 wsX2_becomePart none r_X2_becomePart) {τ0 : zST} (hq : zQ K none τ0) (F : Nat) (k7 : Nat → Nat → Int32 → Int32 → zST → Option zST) (hk7 : ∀ (a0 : Nat) (a1 : Nat) (a2 : Int32) (a3 : Int32) (ha0 : atGraph (kZ K) a0) (ha1 : atGraph (kZ K) a1) (σ : zST), k7 a0 a1 a2 a3 σ = some τ0 → Z K 0 0 7 [(0, .ref (eA (kZ K) a0)), (1, .ref (eA (kZ K) a1)), (2, .int a2), (3, .int a3)] [] σ) (a0 : Nat) (a1 : Nat) (a2 : Int32) (a3 : Int32) (ha0 : atGraph (kZ K) a0) (ha1 : atGraph (kZ K) a1) (σ : zST) (h : m_X2_becomePart_67 F k7 a0 a1 a2 a3 σ = some τ0) : Z K 0 0 67 [(0, .ref (eA (kZ K) a0)), (1, .ref (eA (kZ K) a1)), (2, .int a2), (3, .int a3)] [] σ := by
  unfold m_X2_becomePart_67 at h
  obtain ⟨x25, e26, h⟩ := nm_get h
  refine Z_iinc hk 3 (v := x25) (lv' := [(3, .int x25), (0, .ref (eA (kZ K) a0)), (1, .ref (eA (kZ K) a1)), (2, .int a2)]) dX2_becomePart_67 rfl (by rw [zc_iinc_1]; exact e26) (by decide) rfl ?_
  refine Z_goto hk (tgt := 7) dX2_becomePart_70 (by decide) ?_
  refine Z_sub [1, 2, 3, 0] rfl ?_
  exact hk7 a0 a1 a2 x25 ha0 ha1 σ h
set_option maxRecDepth 100000 in
set_option maxHeartbeats 4000000 in
theorem w_X2_becomePart_7 {K : zK} (hk : zIs K RX2 cX2_becomePart 4 wsX2_becomePart none r_X2_becomePart) {τ0 : zST} (hq : zQ K none τ0) (F : Nat) : ∀ (n : Nat) (a0 : Nat) (a1 : Nat) (a2 : Int32) (a3 : Int32) (ha0 : atGraph (kZ K) a0) (ha1 : atGraph (kZ K) a1) (σ : zST), m_X2_becomePart_7 F n a0 a1 a2 a3 σ = some τ0 → Z K 0 0 7 [(0, .ref (eA (kZ K) a0)), (1, .ref (eA (kZ K) a1)), (2, .int a2), (3, .int a3)] [] σ := by
  intro n
  induction n with
  | zero => intro a0 a1 a2 a3 ha0 ha1 σ h; cases h
  | succ n ih =>
    intro a0 a1 a2 a3 ha0 ha1 σ h
    rw [m_X2_becomePart_7] at h
    refine Z_iload_n hk 3 dX2_becomePart_7 rfl rfl ?_
    refine Z_aload_n hk 1 dX2_becomePart_8 rfl rfl ?_
    refine Z_get hk in_X2_becomePart_Graph rfl ha1.cell.1 (ha1.cell.2 _) 0 (by decide) wd_X2_becomePart_1 rfl dX2_becomePart_9 ?_
    refine Z_icmp_ge hk (tgt := 73) dX2_becomePart_12 (by decide) (fun c3 => ?_) (fun c3 => ?_)
    · have h := if_yes h c3
      cases h
      exact Z_vret hk hq dX2_becomePart_73
    · have h := if_no h c3
      refine Z_iload_n hk 2 dX2_becomePart_15 rfl rfl ?_
      refine Z_iload_n hk 3 dX2_becomePart_16 rfl rfl ?_
      obtain ⟨x4, s5, h6, h⟩ := bd_ok h
      refine Z_callSN 2 hk [.int a2, .int a3] (c_X7_isIn hk.loc hk.inj F a2 a3 σ h6) gX2_becomePart_X7_isIn_n28 nw_9 rfl ⟨rfl, rfl⟩ ⟨wd_X2_becomePart_2, wd_X2_becomePart_3⟩ (by decide +kernel) ⟨Nat.le_of_ble_eq_true rfl, Nat.le_of_ble_eq_true rfl⟩ rfl rfl (Nat.le_of_ble_eq_true rfl) ⟨Nat.zero_le _, Nat.zero_le _⟩ dX2_becomePart_17 ?_
      show Z K 0 0 20 [(0, .ref (eA (kZ K) a0)), (1, .ref (eA (kZ K) a1)), (2, .int a2), (3, .int a3)] [.int x4] s5
      refine Z_if_eq hk (tgt := 67) dX2_becomePart_20 (by decide) (fun c7 => ?_) (fun c7 => ?_)
      · have h := if_yes h c7
        refine Z_sub [0, 1, 2, 3] rfl ?_
        exact w_X2_becomePart_67 hk hq F (m_X2_becomePart_7 F n) ih a0 a1 a2 a3 ha0 ha1 s5 h
      · have h := if_no h c7
        refine Z_aload_n hk 0 dX2_becomePart_23 rfl rfl ?_
        refine Z_get hk in_X2_becomePart_Graph rfl ha0.cell.1 (ha0.cell.2 _) 2 (by decide) wd_X2_becomePart_4 rfl dX2_becomePart_24 ?_
        refine Z_aload_n hk 0 dX2_becomePart_27 rfl rfl ?_
        refine Z_get hk in_X2_becomePart_Graph rfl ha0.cell.1 (ha0.cell.2 _) 0 (by decide) wd_X2_becomePart_1 rfl dX2_becomePart_28 ?_
        refine Z_aload_n hk 1 dX2_becomePart_31 rfl rfl ?_
        refine Z_get hk in_X2_becomePart_Graph rfl ha1.cell.1 (ha1.cell.2 _) 2 (by decide) wd_X2_becomePart_4 rfl dX2_becomePart_32 ?_
        refine Z_iload_n hk 3 dX2_becomePart_35 rfl rfl ?_
        obtain ⟨i10, x8, e9, h⟩ := ldI_get h
        refine Z_iald hk (ha1.colours) i10 dX2_becomePart_36 ?_
        refine Z_eqI e9 ?_
        obtain ⟨i13, s11, e12, h⟩ := stI_get h
        refine Z_iast hk (ha0.colours) i13 dX2_becomePart_37 ?_
        refine Z_eqS e12 ?_
        refine Z_aload_n hk 0 dX2_becomePart_38 rfl rfl ?_
        refine Z_get hk in_X2_becomePart_Graph rfl ha0.cell.1 (ha0.cell.2 _) 1 (by decide) wd_X2_becomePart_5 rfl dX2_becomePart_39 ?_
        refine Z_aload_n hk 0 dX2_becomePart_42 rfl rfl ?_
        refine Z_get hk in_X2_becomePart_Graph rfl ha0.cell.1 (ha0.cell.2 _) 0 (by decide) wd_X2_becomePart_1 rfl dX2_becomePart_43 ?_
        refine Z_aload_n hk 1 dX2_becomePart_46 rfl rfl ?_
        refine Z_get hk in_X2_becomePart_Graph rfl ha1.cell.1 (ha1.cell.2 _) 1 (by decide) wd_X2_becomePart_5 rfl dX2_becomePart_47 ?_
        refine Z_iload_n hk 3 dX2_becomePart_50 rfl rfl ?_
        obtain ⟨i16, x14, e15, h⟩ := ldI_get h
        refine Z_iald hk (ha1.near) i16 dX2_becomePart_51 ?_
        refine Z_eqI e15 ?_
        refine Z_iload_n hk 2 dX2_becomePart_52 rfl rfl ?_
        obtain ⟨x17, s18, h19, h⟩ := bd_ok h
        refine Z_callT 2 hk [.int x14, .int a2] (c_X2_squeeze hk.loc hk.inj F x14 a2 s11 h19) gX2_becomePart_X2_squeeze rfl ⟨rfl, rfl⟩ (by decide +kernel) ⟨Nat.le_of_ble_eq_true rfl, Nat.le_of_ble_eq_true rfl⟩ rfl rfl (Nat.le_of_ble_eq_true rfl) ⟨Nat.zero_le _, Nat.zero_le _⟩ dX2_becomePart_53 ?_
        show Z K 0 0 56 [(0, .ref (eA (kZ K) a0)), (1, .ref (eA (kZ K) a1)), (2, .int a2), (3, .int a3)] [.int x17, .int (gI s11 a0 0), .ref (eA (kZ K) (a0 + 1))] s18
        obtain ⟨i22, s20, e21, h⟩ := stI_get h
        refine Z_iast hk (ha0.near) i22 dX2_becomePart_56 ?_
        refine Z_eqS e21 ?_
        refine Z_aload_n hk 0 dX2_becomePart_57 rfl rfl ?_
        refine Z_dup hk dX2_becomePart_58 rfl ?_
        refine Z_get hk in_X2_becomePart_Graph rfl ha0.cell.1 (ha0.cell.2 _) 0 (by decide) wd_X2_becomePart_1 rfl dX2_becomePart_59 ?_
        refine Z_iconst hk dX2_becomePart_62 zc_iconst_1 ?_
        refine Z_iadd hk dX2_becomePart_63 ?_
        obtain ⟨s23, e24, h⟩ := nm_get h
        refine Z_put hk in_X2_becomePart_Graph tyX2 tok_TX2 tnm_TX2 rfl ha0.cell.1 (ha0.cell.2 _) 0 (by decide) wd_X2_becomePart_1 rfl (by decide) (Nat.le_of_ble_eq_true rfl) (ha0.put_size _ _) dX2_becomePart_64 ?_
        refine Z_eqS e24 ?_
        refine Z_sub [0, 1, 2, 3] rfl ?_
        exact w_X2_becomePart_67 hk hq F (m_X2_becomePart_7 F n) ih a0 a1 a2 a3 ha0 ha1 s23 h
set_option maxRecDepth 100000 in
set_option maxHeartbeats 4000000 in
theorem w_X2_becomePart {K : zK} (hk : zIs K RX2 cX2_becomePart 4 wsX2_becomePart none r_X2_becomePart) {τ0 : zST} (hq : zQ K none τ0) (F : Nat) (a0 : Nat) (a1 : Nat) (a2 : Int32) (ha0 : atGraph (kZ K) a0) (ha1 : atGraph (kZ K) a1) (σ : zST) (h : m_X2_becomePart F a0 a1 a2 σ = some τ0) : Z K 0 0 0 [(0, .ref (eA (kZ K) a0)), (1, .ref (eA (kZ K) a1)), (2, .int a2)] [] σ := by
  unfold m_X2_becomePart at h
  refine Z_aload_n hk 0 dX2_becomePart_0 rfl rfl ?_
  refine Z_iconst hk dX2_becomePart_1 zc_iconst_0 ?_
  obtain ⟨s1, e2, h⟩ := nm_get h
  refine Z_put hk in_X2_becomePart_Graph tyX2 tok_TX2 tnm_TX2 rfl ha0.cell.1 (ha0.cell.2 _) 0 (by decide) wd_X2_becomePart_1 rfl (by decide) (Nat.le_of_ble_eq_true rfl) (ha0.put_size _ _) dX2_becomePart_2 ?_
  refine Z_eqS e2 ?_
  refine Z_iconst hk dX2_becomePart_5 zc_iconst_0 ?_
  refine Z_istore_n hk (lv' := [(3, .int 0), (0, .ref (eA (kZ K) a0)), (1, .ref (eA (kZ K) a1)), (2, .int a2)]) dX2_becomePart_6 rfl (by decide) rfl ?_
  refine Z_sub [1, 2, 3, 0] rfl ?_
  exact w_X2_becomePart_7 hk hq F F a0 a1 a2 0 ha0 ha1 s1 h
theorem c_X2_becomePart {l : Launch} {E : zE} (hL : eL E) (hJ : eJ E) (F : Nat) (a0 : Nat) (a1 : Nat) (a2 : Int32) (ha0 : atGraph E a0) (ha1 : atGraph E a1) (σ : zST) {τ0 : zST} (h : m_X2_becomePart F a0 a1 a2 σ = some τ0) : Ct l yX2_becomePart wsX2_becomePart r_X2_becomePart E [.ref (eA E a0), .ref (eA E a1), .int a2] σ none τ0 := by
  refine Ct_of (by decide) rfl hL hJ (Nat.le_of_ble_eq_true rfl) (fun K hE hl hk hq => ?_)
  subst hE
  exact w_X2_becomePart hk hq F a0 a1 a2 ha0 ha1 σ h
end
end
section
theorem zz_true : True := trivial
end
