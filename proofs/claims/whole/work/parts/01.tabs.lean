-- ===== PART A: goes FIRST, ahead of the names: the tables' words, and 'selects' of the private methods out of them =====
/-- a private method of a class that the tables say can be made, by its rows of tables_1 -/
def lw_okq (q : MethodName × Nat) : Prop := (q.1.cls ≠ "java/lang/invoke/MethodHandle" ∧ q.1.cls ≠ "java/lang/invoke/VarHandle") ∧ Cond.instantiable q.1.cls q.2 ∈ tables_1 ∧ Cond.privateMethod q.1 ∈ tables_1 ∧ Cond.instanceMethod q.1 ∈ tables_1
theorem lw_p0 : lw_okq (⟨"NarrowSolver", "endOnTape", "(I)I"⟩, 4) := ⟨⟨by decide +kernel, by decide +kernel⟩, List.mem_of_getElem? (i := 25) (by decide +kernel), List.mem_of_getElem? (i := 311) (by decide +kernel), List.mem_of_getElem? (i := 312) (by decide +kernel)⟩
theorem lw_p1 : lw_okq (⟨"NarrowSolver", "faultOfRule", "(I)I"⟩, 4) := ⟨⟨by decide +kernel, by decide +kernel⟩, List.mem_of_getElem? (i := 25) (by decide +kernel), List.mem_of_getElem? (i := 327) (by decide +kernel), List.mem_of_getElem? (i := 328) (by decide +kernel)⟩
theorem lw_p2 : lw_okq (⟨"NarrowSolver", "faultOfVariables", "(I)I"⟩, 4) := ⟨⟨by decide +kernel, by decide +kernel⟩, List.mem_of_getElem? (i := 25) (by decide +kernel), List.mem_of_getElem? (i := 335) (by decide +kernel), List.mem_of_getElem? (i := 336) (by decide +kernel)⟩
theorem lw_p3 : lw_okq (⟨"NarrowSolver$Rules", "rulesOf", "(I)J"⟩, 5) := ⟨⟨by decide +kernel, by decide +kernel⟩, List.mem_of_getElem? (i := 70) (by decide +kernel), List.mem_of_getElem? (i := 378) (by decide +kernel), List.mem_of_getElem? (i := 379) (by decide +kernel)⟩
theorem lw_p4 : lw_okq (⟨"NarrowSolver$TreeMaker", "unfold", "(II)V"⟩, 4) := ⟨⟨by decide +kernel, by decide +kernel⟩, List.mem_of_getElem? (i := 120) (by decide +kernel), List.mem_of_getElem? (i := 388) (by decide +kernel), List.mem_of_getElem? (i := 389) (by decide +kernel)⟩
theorem lw_p5 : lw_okq (⟨"java/util/ArrayList", "add", "(Ljava/lang/Object;[Ljava/lang/Object;I)V"⟩, 3) := ⟨⟨by decide +kernel, by decide +kernel⟩, List.mem_of_getElem? (i := 85) (by decide +kernel), List.mem_of_getElem? (i := 478) (by decide +kernel), List.mem_of_getElem? (i := 479) (by decide +kernel)⟩
theorem lw_p6 : lw_okq (⟨"java/util/ArrayList", "grow", "()[Ljava/lang/Object;"⟩, 3) := ⟨⟨by decide +kernel, by decide +kernel⟩, List.mem_of_getElem? (i := 85) (by decide +kernel), List.mem_of_getElem? (i := 482) (by decide +kernel), List.mem_of_getElem? (i := 483) (by decide +kernel)⟩
theorem lw_p7 : lw_okq (⟨"java/util/ArrayList", "grow", "(I)[Ljava/lang/Object;"⟩, 3) := ⟨⟨by decide +kernel, by decide +kernel⟩, List.mem_of_getElem? (i := 85) (by decide +kernel), List.mem_of_getElem? (i := 486) (by decide +kernel), List.mem_of_getElem? (i := 487) (by decide +kernel)⟩
theorem lw_p8 : lw_okq (⟨"NarrowSolver$TreeMaker", "settle", "(LNarrowSolver$Node;)Z"⟩, 4) := ⟨⟨by decide +kernel, by decide +kernel⟩, List.mem_of_getElem? (i := 120) (by decide +kernel), List.mem_of_getElem? (i := 546) (by decide +kernel), List.mem_of_getElem? (i := 547) (by decide +kernel)⟩
theorem lw_p9 : lw_okq (⟨"NarrowSolver$TreeMaker", "firstBranch", "(J)I"⟩, 4) := ⟨⟨by decide +kernel, by decide +kernel⟩, List.mem_of_getElem? (i := 120) (by decide +kernel), List.mem_of_getElem? (i := 550) (by decide +kernel), List.mem_of_getElem? (i := 551) (by decide +kernel)⟩
theorem lw_p10 : lw_okq (⟨"NarrowSolver$TreeMaker", "shutVariables", "(LNarrowSolver$Numbers;)V"⟩, 4) := ⟨⟨by decide +kernel, by decide +kernel⟩, List.mem_of_getElem? (i := 120) (by decide +kernel), List.mem_of_getElem? (i := 556) (by decide +kernel), List.mem_of_getElem? (i := 557) (by decide +kernel)⟩
theorem lw_p11 : lw_okq (⟨"NarrowSolver$TreeMaker", "placeOf", "(I)I"⟩, 4) := ⟨⟨by decide +kernel, by decide +kernel⟩, List.mem_of_getElem? (i := 120) (by decide +kernel), List.mem_of_getElem? (i := 579) (by decide +kernel), List.mem_of_getElem? (i := 580) (by decide +kernel)⟩
theorem lw_p12 : lw_okq (⟨"NarrowSolver$TreeMaker", "growChild", "(LNarrowSolver$Tree;LNarrowSolver$Node;)LNarrowSolver$Node;"⟩, 4) := ⟨⟨by decide +kernel, by decide +kernel⟩, List.mem_of_getElem? (i := 120) (by decide +kernel), List.mem_of_getElem? (i := 587) (by decide +kernel), List.mem_of_getElem? (i := 588) (by decide +kernel)⟩
theorem lw_p13 : lw_okq (⟨"NarrowSolver$TreeMaker", "fold", "(I)V"⟩, 4) := ⟨⟨by decide +kernel, by decide +kernel⟩, List.mem_of_getElem? (i := 120) (by decide +kernel), List.mem_of_getElem? (i := 591) (by decide +kernel), List.mem_of_getElem? (i := 592) (by decide +kernel)⟩
theorem lw_p14 : lw_okq (⟨"NarrowSolver$TreeMaker", "leastBehind", "(ILNarrowSolver$Node;)I"⟩, 4) := ⟨⟨by decide +kernel, by decide +kernel⟩, List.mem_of_getElem? (i := 120) (by decide +kernel), List.mem_of_getElem? (i := 599) (by decide +kernel), List.mem_of_getElem? (i := 600) (by decide +kernel)⟩
theorem lw_p15 : lw_okq (⟨"NarrowSolver$TreeMaker", "standsIn", "(LNarrowSolver$Numbers;I)I"⟩, 4) := ⟨⟨by decide +kernel, by decide +kernel⟩, List.mem_of_getElem? (i := 120) (by decide +kernel), List.mem_of_getElem? (i := 603) (by decide +kernel), List.mem_of_getElem? (i := 604) (by decide +kernel)⟩
def lw_privs_1 : List (MethodName × Nat) := [(⟨"NarrowSolver", "endOnTape", "(I)I"⟩, 4), (⟨"NarrowSolver", "faultOfRule", "(I)I"⟩, 4), (⟨"NarrowSolver", "faultOfVariables", "(I)I"⟩, 4), (⟨"NarrowSolver$Rules", "rulesOf", "(I)J"⟩, 5), (⟨"NarrowSolver$TreeMaker", "unfold", "(II)V"⟩, 4), (⟨"java/util/ArrayList", "add", "(Ljava/lang/Object;[Ljava/lang/Object;I)V"⟩, 3), (⟨"java/util/ArrayList", "grow", "()[Ljava/lang/Object;"⟩, 3), (⟨"java/util/ArrayList", "grow", "(I)[Ljava/lang/Object;"⟩, 3), (⟨"NarrowSolver$TreeMaker", "settle", "(LNarrowSolver$Node;)Z"⟩, 4), (⟨"NarrowSolver$TreeMaker", "firstBranch", "(J)I"⟩, 4), (⟨"NarrowSolver$TreeMaker", "shutVariables", "(LNarrowSolver$Numbers;)V"⟩, 4), (⟨"NarrowSolver$TreeMaker", "placeOf", "(I)I"⟩, 4), (⟨"NarrowSolver$TreeMaker", "growChild", "(LNarrowSolver$Tree;LNarrowSolver$Node;)LNarrowSolver$Node;"⟩, 4), (⟨"NarrowSolver$TreeMaker", "fold", "(I)V"⟩, 4), (⟨"NarrowSolver$TreeMaker", "leastBehind", "(ILNarrowSolver$Node;)I"⟩, 4), (⟨"NarrowSolver$TreeMaker", "standsIn", "(LNarrowSolver$Numbers;I)I"⟩, 4)]
theorem lw_r1 : ∀ q ∈ lw_privs_1, lw_okq q := List.forall_mem_cons.mpr ⟨lw_p0, List.forall_mem_cons.mpr ⟨lw_p1, List.forall_mem_cons.mpr ⟨lw_p2, List.forall_mem_cons.mpr ⟨lw_p3, List.forall_mem_cons.mpr ⟨lw_p4, List.forall_mem_cons.mpr ⟨lw_p5, List.forall_mem_cons.mpr ⟨lw_p6, List.forall_mem_cons.mpr ⟨lw_p7, List.forall_mem_cons.mpr ⟨lw_p8, List.forall_mem_cons.mpr ⟨lw_p9, List.forall_mem_cons.mpr ⟨lw_p10, List.forall_mem_cons.mpr ⟨lw_p11, List.forall_mem_cons.mpr ⟨lw_p12, List.forall_mem_cons.mpr ⟨lw_p13, List.forall_mem_cons.mpr ⟨lw_p14, List.forall_mem_cons.mpr ⟨lw_p15, fun _ h => absurd h List.not_mem_nil⟩⟩⟩⟩⟩⟩⟩⟩⟩⟩⟩⟩⟩⟩⟩⟩
theorem lw_p16 : lw_okq (⟨"NarrowSolver$TreeMaker", "rulesWith", "(ILNarrowSolver$Node;)J"⟩, 4) := ⟨⟨by decide +kernel, by decide +kernel⟩, List.mem_of_getElem? (i := 120) (by decide +kernel), List.mem_of_getElem? (i := 607) (by decide +kernel), List.mem_of_getElem? (i := 608) (by decide +kernel)⟩
theorem lw_p17 : lw_okq (⟨"NarrowSolver", "equationsOnTape", "()I"⟩, 4) := ⟨⟨by decide +kernel, by decide +kernel⟩, List.mem_of_getElem? (i := 25) (by decide +kernel), List.mem_of_getElem? (i := 619) (by decide +kernel), List.mem_of_getElem? (i := 620) (by decide +kernel)⟩
theorem lw_p18 : lw_okq (⟨"NarrowSolver$Solver", "deliver", "()V"⟩, 13) := ⟨⟨by decide +kernel, by decide +kernel⟩, List.mem_of_getElem? (i := 158) (by decide +kernel), List.mem_of_getElem? (i := 631) (by decide +kernel), List.mem_of_getElem? (i := 632) (by decide +kernel)⟩
theorem lw_p19 : lw_okq (⟨"NarrowSolver$Solver", "workOn", "(I)Z"⟩, 13) := ⟨⟨by decide +kernel, by decide +kernel⟩, List.mem_of_getElem? (i := 158) (by decide +kernel), List.mem_of_getElem? (i := 664) (by decide +kernel), List.mem_of_getElem? (i := 665) (by decide +kernel)⟩
theorem lw_p20 : lw_okq (⟨"NarrowSolver$Solver", "rootFor", "(I)LNarrowSolver$Node;"⟩, 13) := ⟨⟨by decide +kernel, by decide +kernel⟩, List.mem_of_getElem? (i := 158) (by decide +kernel), List.mem_of_getElem? (i := 668) (by decide +kernel), List.mem_of_getElem? (i := 669) (by decide +kernel)⟩
theorem lw_p21 : lw_okq (⟨"NarrowSolver$Solver", "rewrite", "(ILNarrowSolver$Rule;)Z"⟩, 13) := ⟨⟨by decide +kernel, by decide +kernel⟩, List.mem_of_getElem? (i := 158) (by decide +kernel), List.mem_of_getElem? (i := 686) (by decide +kernel), List.mem_of_getElem? (i := 687) (by decide +kernel)⟩
theorem lw_p22 : lw_okq (⟨"NarrowSolver$Solver", "match", "(ILNarrowSolver$Numbers;)I"⟩, 13) := ⟨⟨by decide +kernel, by decide +kernel⟩, List.mem_of_getElem? (i := 158) (by decide +kernel), List.mem_of_getElem? (i := 690) (by decide +kernel), List.mem_of_getElem? (i := 691) (by decide +kernel)⟩
theorem lw_p23 : lw_okq (⟨"NarrowSolver$Solver", "startDraft", "()V"⟩, 13) := ⟨⟨by decide +kernel, by decide +kernel⟩, List.mem_of_getElem? (i := 158) (by decide +kernel), List.mem_of_getElem? (i := 694) (by decide +kernel), List.mem_of_getElem? (i := 695) (by decide +kernel)⟩
theorem lw_p24 : lw_okq (⟨"NarrowSolver$Solver", "finishDraft", "(I)V"⟩, 13) := ⟨⟨by decide +kernel, by decide +kernel⟩, List.mem_of_getElem? (i := 158) (by decide +kernel), List.mem_of_getElem? (i := 698) (by decide +kernel), List.mem_of_getElem? (i := 699) (by decide +kernel)⟩
theorem lw_p25 : lw_okq (⟨"NarrowSolver$Solver", "copyBound", "(II)V"⟩, 13) := ⟨⟨by decide +kernel, by decide +kernel⟩, List.mem_of_getElem? (i := 158) (by decide +kernel), List.mem_of_getElem? (i := 702) (by decide +kernel), List.mem_of_getElem? (i := 703) (by decide +kernel)⟩
theorem lw_p26 : lw_okq (⟨"NarrowSolver$Solver", "narrow", "(ILNarrowSolver$Node;)V"⟩, 13) := ⟨⟨by decide +kernel, by decide +kernel⟩, List.mem_of_getElem? (i := 158) (by decide +kernel), List.mem_of_getElem? (i := 713) (by decide +kernel), List.mem_of_getElem? (i := 714) (by decide +kernel)⟩
theorem lw_p27 : lw_okq (⟨"NarrowSolver$Solver", "bind", "(II)V"⟩, 13) := ⟨⟨by decide +kernel, by decide +kernel⟩, List.mem_of_getElem? (i := 158) (by decide +kernel), List.mem_of_getElem? (i := 717) (by decide +kernel), List.mem_of_getElem? (i := 718) (by decide +kernel)⟩
theorem lw_p28 : lw_okq (⟨"NarrowSolver$Solver", "unify", "(I)Z"⟩, 13) := ⟨⟨by decide +kernel, by decide +kernel⟩, List.mem_of_getElem? (i := 158) (by decide +kernel), List.mem_of_getElem? (i := 726) (by decide +kernel), List.mem_of_getElem? (i := 727) (by decide +kernel)⟩
theorem lw_p29 : lw_okq (⟨"NarrowSolver$Solver", "standsOpenly", "(III)Z"⟩, 13) := ⟨⟨by decide +kernel, by decide +kernel⟩, List.mem_of_getElem? (i := 158) (by decide +kernel), List.mem_of_getElem? (i := 730) (by decide +kernel), List.mem_of_getElem? (i := 731) (by decide +kernel)⟩
theorem lw_p30 : lw_okq (⟨"NarrowSolver$Solver", "putArguments", "(II)V"⟩, 13) := ⟨⟨by decide +kernel, by decide +kernel⟩, List.mem_of_getElem? (i := 158) (by decide +kernel), List.mem_of_getElem? (i := 734) (by decide +kernel), List.mem_of_getElem? (i := 735) (by decide +kernel)⟩
theorem lw_p31 : lw_okq (⟨"NarrowSolver$Solver", "putArgument", "(III)I"⟩, 13) := ⟨⟨by decide +kernel, by decide +kernel⟩, List.mem_of_getElem? (i := 158) (by decide +kernel), List.mem_of_getElem? (i := 738) (by decide +kernel), List.mem_of_getElem? (i := 739) (by decide +kernel)⟩
def lw_privs_2 : List (MethodName × Nat) := [(⟨"NarrowSolver$TreeMaker", "rulesWith", "(ILNarrowSolver$Node;)J"⟩, 4), (⟨"NarrowSolver", "equationsOnTape", "()I"⟩, 4), (⟨"NarrowSolver$Solver", "deliver", "()V"⟩, 13), (⟨"NarrowSolver$Solver", "workOn", "(I)Z"⟩, 13), (⟨"NarrowSolver$Solver", "rootFor", "(I)LNarrowSolver$Node;"⟩, 13), (⟨"NarrowSolver$Solver", "rewrite", "(ILNarrowSolver$Rule;)Z"⟩, 13), (⟨"NarrowSolver$Solver", "match", "(ILNarrowSolver$Numbers;)I"⟩, 13), (⟨"NarrowSolver$Solver", "startDraft", "()V"⟩, 13), (⟨"NarrowSolver$Solver", "finishDraft", "(I)V"⟩, 13), (⟨"NarrowSolver$Solver", "copyBound", "(II)V"⟩, 13), (⟨"NarrowSolver$Solver", "narrow", "(ILNarrowSolver$Node;)V"⟩, 13), (⟨"NarrowSolver$Solver", "bind", "(II)V"⟩, 13), (⟨"NarrowSolver$Solver", "unify", "(I)Z"⟩, 13), (⟨"NarrowSolver$Solver", "standsOpenly", "(III)Z"⟩, 13), (⟨"NarrowSolver$Solver", "putArguments", "(II)V"⟩, 13), (⟨"NarrowSolver$Solver", "putArgument", "(III)I"⟩, 13)]
theorem lw_r2 : ∀ q ∈ lw_privs_2, lw_okq q := List.forall_mem_cons.mpr ⟨lw_p16, List.forall_mem_cons.mpr ⟨lw_p17, List.forall_mem_cons.mpr ⟨lw_p18, List.forall_mem_cons.mpr ⟨lw_p19, List.forall_mem_cons.mpr ⟨lw_p20, List.forall_mem_cons.mpr ⟨lw_p21, List.forall_mem_cons.mpr ⟨lw_p22, List.forall_mem_cons.mpr ⟨lw_p23, List.forall_mem_cons.mpr ⟨lw_p24, List.forall_mem_cons.mpr ⟨lw_p25, List.forall_mem_cons.mpr ⟨lw_p26, List.forall_mem_cons.mpr ⟨lw_p27, List.forall_mem_cons.mpr ⟨lw_p28, List.forall_mem_cons.mpr ⟨lw_p29, List.forall_mem_cons.mpr ⟨lw_p30, List.forall_mem_cons.mpr ⟨lw_p31, fun _ h => absurd h List.not_mem_nil⟩⟩⟩⟩⟩⟩⟩⟩⟩⟩⟩⟩⟩⟩⟩⟩
theorem lw_p32 : lw_okq (⟨"NarrowSolverModel", "forget", "()V"⟩, 53) := ⟨⟨by decide +kernel, by decide +kernel⟩, List.mem_of_getElem? (i := 774) (by decide +kernel), List.mem_of_getElem? (i := 947) (by decide +kernel), List.mem_of_getElem? (i := 948) (by decide +kernel)⟩
theorem lw_p33 : lw_okq (⟨"NarrowSolverModel", "readTerm", "(I)I"⟩, 53) := ⟨⟨by decide +kernel, by decide +kernel⟩, List.mem_of_getElem? (i := 774) (by decide +kernel), List.mem_of_getElem? (i := 967) (by decide +kernel), List.mem_of_getElem? (i := 968) (by decide +kernel)⟩
theorem lw_p34 : lw_okq (⟨"NarrowSolverModel", "isKnown", "(I)Z"⟩, 53) := ⟨⟨by decide +kernel, by decide +kernel⟩, List.mem_of_getElem? (i := 774) (by decide +kernel), List.mem_of_getElem? (i := 971) (by decide +kernel), List.mem_of_getElem? (i := 972) (by decide +kernel)⟩
theorem lw_p35 : lw_okq (⟨"NarrowSolverModel", "argumentsOf", "(I)I"⟩, 53) := ⟨⟨by decide +kernel, by decide +kernel⟩, List.mem_of_getElem? (i := 774) (by decide +kernel), List.mem_of_getElem? (i := 975) (by decide +kernel), List.mem_of_getElem? (i := 976) (by decide +kernel)⟩
theorem lw_p36 : lw_okq (⟨"NarrowSolverModel", "faultOfTerms", "(I)I"⟩, 53) := ⟨⟨by decide +kernel, by decide +kernel⟩, List.mem_of_getElem? (i := 774) (by decide +kernel), List.mem_of_getElem? (i := 979) (by decide +kernel), List.mem_of_getElem? (i := 980) (by decide +kernel)⟩
theorem lw_p37 : lw_okq (⟨"NarrowSolverModel", "layTree", "(I)Z"⟩, 53) := ⟨⟨by decide +kernel, by decide +kernel⟩, List.mem_of_getElem? (i := 774) (by decide +kernel), List.mem_of_getElem? (i := 983) (by decide +kernel), List.mem_of_getElem? (i := 984) (by decide +kernel)⟩
theorem lw_p38 : lw_okq (⟨"NarrowSolverModel", "rulesOf", "(I)J"⟩, 53) := ⟨⟨by decide +kernel, by decide +kernel⟩, List.mem_of_getElem? (i := 774) (by decide +kernel), List.mem_of_getElem? (i := 987) (by decide +kernel), List.mem_of_getElem? (i := 988) (by decide +kernel)⟩
theorem lw_p39 : lw_okq (⟨"NarrowSolverModel", "begin", "(I[I)I"⟩, 53) := ⟨⟨by decide +kernel, by decide +kernel⟩, List.mem_of_getElem? (i := 774) (by decide +kernel), List.mem_of_getElem? (i := 991) (by decide +kernel), List.mem_of_getElem? (i := 992) (by decide +kernel)⟩
theorem lw_p40 : lw_okq (⟨"NarrowSolverModel", "later", "(IIIJ)V"⟩, 53) := ⟨⟨by decide +kernel, by decide +kernel⟩, List.mem_of_getElem? (i := 774) (by decide +kernel), List.mem_of_getElem? (i := 995) (by decide +kernel), List.mem_of_getElem? (i := 996) (by decide +kernel)⟩
theorem lw_p41 : lw_okq (⟨"NarrowSolverModel", "isLeaf", "(IJ)Z"⟩, 53) := ⟨⟨by decide +kernel, by decide +kernel⟩, List.mem_of_getElem? (i := 774) (by decide +kernel), List.mem_of_getElem? (i := 999) (by decide +kernel), List.mem_of_getElem? (i := 1000) (by decide +kernel)⟩
theorem lw_p42 : lw_okq (⟨"NarrowSolverModel", "firstOf", "(J)I"⟩, 53) := ⟨⟨by decide +kernel, by decide +kernel⟩, List.mem_of_getElem? (i := 774) (by decide +kernel), List.mem_of_getElem? (i := 1003) (by decide +kernel), List.mem_of_getElem? (i := 1004) (by decide +kernel)⟩
theorem lw_p43 : lw_okq (⟨"NarrowSolverModel", "branchOf", "([IIJ)I"⟩, 53) := ⟨⟨by decide +kernel, by decide +kernel⟩, List.mem_of_getElem? (i := 774) (by decide +kernel), List.mem_of_getElem? (i := 1007) (by decide +kernel), List.mem_of_getElem? (i := 1008) (by decide +kernel)⟩
theorem lw_p44 : lw_okq (⟨"NarrowSolverModel", "locate", "([III[II)I"⟩, 53) := ⟨⟨by decide +kernel, by decide +kernel⟩, List.mem_of_getElem? (i := 774) (by decide +kernel), List.mem_of_getElem? (i := 1011) (by decide +kernel), List.mem_of_getElem? (i := 1012) (by decide +kernel)⟩
theorem lw_p45 : lw_okq (⟨"NarrowSolverModel", "endOf", "([II)I"⟩, 53) := ⟨⟨by decide +kernel, by decide +kernel⟩, List.mem_of_getElem? (i := 774) (by decide +kernel), List.mem_of_getElem? (i := 1015) (by decide +kernel), List.mem_of_getElem? (i := 1016) (by decide +kernel)⟩
theorem lw_p46 : lw_okq (⟨"NarrowSolverModel", "placeOf", "([II)I"⟩, 53) := ⟨⟨by decide +kernel, by decide +kernel⟩, List.mem_of_getElem? (i := 774) (by decide +kernel), List.mem_of_getElem? (i := 1019) (by decide +kernel), List.mem_of_getElem? (i := 1020) (by decide +kernel)⟩
theorem lw_p47 : lw_okq (⟨"NarrowSolverModel", "layBranch", "(IIIJ)V"⟩, 53) := ⟨⟨by decide +kernel, by decide +kernel⟩, List.mem_of_getElem? (i := 774) (by decide +kernel), List.mem_of_getElem? (i := 1023) (by decide +kernel), List.mem_of_getElem? (i := 1024) (by decide +kernel)⟩
def lw_privs_3 : List (MethodName × Nat) := [(⟨"NarrowSolverModel", "forget", "()V"⟩, 53), (⟨"NarrowSolverModel", "readTerm", "(I)I"⟩, 53), (⟨"NarrowSolverModel", "isKnown", "(I)Z"⟩, 53), (⟨"NarrowSolverModel", "argumentsOf", "(I)I"⟩, 53), (⟨"NarrowSolverModel", "faultOfTerms", "(I)I"⟩, 53), (⟨"NarrowSolverModel", "layTree", "(I)Z"⟩, 53), (⟨"NarrowSolverModel", "rulesOf", "(I)J"⟩, 53), (⟨"NarrowSolverModel", "begin", "(I[I)I"⟩, 53), (⟨"NarrowSolverModel", "later", "(IIIJ)V"⟩, 53), (⟨"NarrowSolverModel", "isLeaf", "(IJ)Z"⟩, 53), (⟨"NarrowSolverModel", "firstOf", "(J)I"⟩, 53), (⟨"NarrowSolverModel", "branchOf", "([IIJ)I"⟩, 53), (⟨"NarrowSolverModel", "locate", "([III[II)I"⟩, 53), (⟨"NarrowSolverModel", "endOf", "([II)I"⟩, 53), (⟨"NarrowSolverModel", "placeOf", "([II)I"⟩, 53), (⟨"NarrowSolverModel", "layBranch", "(IIIJ)V"⟩, 53)]
theorem lw_r3 : ∀ q ∈ lw_privs_3, lw_okq q := List.forall_mem_cons.mpr ⟨lw_p32, List.forall_mem_cons.mpr ⟨lw_p33, List.forall_mem_cons.mpr ⟨lw_p34, List.forall_mem_cons.mpr ⟨lw_p35, List.forall_mem_cons.mpr ⟨lw_p36, List.forall_mem_cons.mpr ⟨lw_p37, List.forall_mem_cons.mpr ⟨lw_p38, List.forall_mem_cons.mpr ⟨lw_p39, List.forall_mem_cons.mpr ⟨lw_p40, List.forall_mem_cons.mpr ⟨lw_p41, List.forall_mem_cons.mpr ⟨lw_p42, List.forall_mem_cons.mpr ⟨lw_p43, List.forall_mem_cons.mpr ⟨lw_p44, List.forall_mem_cons.mpr ⟨lw_p45, List.forall_mem_cons.mpr ⟨lw_p46, List.forall_mem_cons.mpr ⟨lw_p47, fun _ h => absurd h List.not_mem_nil⟩⟩⟩⟩⟩⟩⟩⟩⟩⟩⟩⟩⟩⟩⟩⟩
theorem lw_p48 : lw_okq (⟨"NarrowSolverModel", "withAt", "([IIIJI)J"⟩, 53) := ⟨⟨by decide +kernel, by decide +kernel⟩, List.mem_of_getElem? (i := 774) (by decide +kernel), List.mem_of_getElem? (i := 1027) (by decide +kernel), List.mem_of_getElem? (i := 1028) (by decide +kernel)⟩
theorem lw_p49 : lw_okq (⟨"NarrowSolverModel", "refine", "([IIII[I)I"⟩, 53) := ⟨⟨by decide +kernel, by decide +kernel⟩, List.mem_of_getElem? (i := 774) (by decide +kernel), List.mem_of_getElem? (i := 1031) (by decide +kernel), List.mem_of_getElem? (i := 1032) (by decide +kernel)⟩
theorem lw_p50 : lw_okq (⟨"NarrowSolverModel", "beginNew", "()V"⟩, 53) := ⟨⟨by decide +kernel, by decide +kernel⟩, List.mem_of_getElem? (i := 774) (by decide +kernel), List.mem_of_getElem? (i := 1043) (by decide +kernel), List.mem_of_getElem? (i := 1044) (by decide +kernel)⟩
theorem lw_p51 : lw_okq (⟨"NarrowSolverModel", "give", "(I)V"⟩, 53) := ⟨⟨by decide +kernel, by decide +kernel⟩, List.mem_of_getElem? (i := 774) (by decide +kernel), List.mem_of_getElem? (i := 1047) (by decide +kernel), List.mem_of_getElem? (i := 1048) (by decide +kernel)⟩
theorem lw_p52 : lw_okq (⟨"NarrowSolverModel", "keep", "(I)V"⟩, 53) := ⟨⟨by decide +kernel, by decide +kernel⟩, List.mem_of_getElem? (i := 774) (by decide +kernel), List.mem_of_getElem? (i := 1051) (by decide +kernel), List.mem_of_getElem? (i := 1052) (by decide +kernel)⟩
theorem lw_p53 : lw_okq (⟨"NarrowSolverModel", "take", "()V"⟩, 53) := ⟨⟨by decide +kernel, by decide +kernel⟩, List.mem_of_getElem? (i := 774) (by decide +kernel), List.mem_of_getElem? (i := 1059) (by decide +kernel), List.mem_of_getElem? (i := 1060) (by decide +kernel)⟩
theorem lw_p54 : lw_okq (⟨"NarrowSolverModel", "step", "()V"⟩, 53) := ⟨⟨by decide +kernel, by decide +kernel⟩, List.mem_of_getElem? (i := 774) (by decide +kernel), List.mem_of_getElem? (i := 1063) (by decide +kernel), List.mem_of_getElem? (i := 1064) (by decide +kernel)⟩
theorem lw_p55 : lw_okq (⟨"NarrowSolverModel", "isFunctionAt", "(I)Z"⟩, 53) := ⟨⟨by decide +kernel, by decide +kernel⟩, List.mem_of_getElem? (i := 774) (by decide +kernel), List.mem_of_getElem? (i := 1067) (by decide +kernel), List.mem_of_getElem? (i := 1068) (by decide +kernel)⟩
theorem lw_p56 : lw_okq (⟨"NarrowSolverModel", "workOn", "(I)V"⟩, 53) := ⟨⟨by decide +kernel, by decide +kernel⟩, List.mem_of_getElem? (i := 774) (by decide +kernel), List.mem_of_getElem? (i := 1071) (by decide +kernel), List.mem_of_getElem? (i := 1072) (by decide +kernel)⟩
theorem lw_p57 : lw_okq (⟨"NarrowSolverModel", "part", "(IIJI)V"⟩, 53) := ⟨⟨by decide +kernel, by decide +kernel⟩, List.mem_of_getElem? (i := 774) (by decide +kernel), List.mem_of_getElem? (i := 1075) (by decide +kernel), List.mem_of_getElem? (i := 1076) (by decide +kernel)⟩
theorem lw_p58 : lw_okq (⟨"NarrowSolverModel", "bindTo", "(I)V"⟩, 53) := ⟨⟨by decide +kernel, by decide +kernel⟩, List.mem_of_getElem? (i := 774) (by decide +kernel), List.mem_of_getElem? (i := 1079) (by decide +kernel), List.mem_of_getElem? (i := 1080) (by decide +kernel)⟩
theorem lw_p59 : lw_okq (⟨"NarrowSolverModel", "giveAll", "(III)V"⟩, 53) := ⟨⟨by decide +kernel, by decide +kernel⟩, List.mem_of_getElem? (i := 774) (by decide +kernel), List.mem_of_getElem? (i := 1083) (by decide +kernel), List.mem_of_getElem? (i := 1084) (by decide +kernel)⟩
theorem lw_p60 : lw_okq (⟨"NarrowSolverModel", "giveAnswers", "(I)V"⟩, 53) := ⟨⟨by decide +kernel, by decide +kernel⟩, List.mem_of_getElem? (i := 774) (by decide +kernel), List.mem_of_getElem? (i := 1087) (by decide +kernel), List.mem_of_getElem? (i := 1088) (by decide +kernel)⟩
theorem lw_p61 : lw_okq (⟨"NarrowSolverModel", "giveAnswer", "(I)V"⟩, 53) := ⟨⟨by decide +kernel, by decide +kernel⟩, List.mem_of_getElem? (i := 774) (by decide +kernel), List.mem_of_getElem? (i := 1091) (by decide +kernel), List.mem_of_getElem? (i := 1092) (by decide +kernel)⟩
theorem lw_p62 : lw_okq (⟨"NarrowSolverModel", "use", "(II)V"⟩, 53) := ⟨⟨by decide +kernel, by decide +kernel⟩, List.mem_of_getElem? (i := 774) (by decide +kernel), List.mem_of_getElem? (i := 1095) (by decide +kernel), List.mem_of_getElem? (i := 1096) (by decide +kernel)⟩
theorem lw_p63 : lw_okq (⟨"NarrowSolverModel", "bindSide", "(II)V"⟩, 53) := ⟨⟨by decide +kernel, by decide +kernel⟩, List.mem_of_getElem? (i := 774) (by decide +kernel), List.mem_of_getElem? (i := 1099) (by decide +kernel), List.mem_of_getElem? (i := 1100) (by decide +kernel)⟩
def lw_privs_4 : List (MethodName × Nat) := [(⟨"NarrowSolverModel", "withAt", "([IIIJI)J"⟩, 53), (⟨"NarrowSolverModel", "refine", "([IIII[I)I"⟩, 53), (⟨"NarrowSolverModel", "beginNew", "()V"⟩, 53), (⟨"NarrowSolverModel", "give", "(I)V"⟩, 53), (⟨"NarrowSolverModel", "keep", "(I)V"⟩, 53), (⟨"NarrowSolverModel", "take", "()V"⟩, 53), (⟨"NarrowSolverModel", "step", "()V"⟩, 53), (⟨"NarrowSolverModel", "isFunctionAt", "(I)Z"⟩, 53), (⟨"NarrowSolverModel", "workOn", "(I)V"⟩, 53), (⟨"NarrowSolverModel", "part", "(IIJI)V"⟩, 53), (⟨"NarrowSolverModel", "bindTo", "(I)V"⟩, 53), (⟨"NarrowSolverModel", "giveAll", "(III)V"⟩, 53), (⟨"NarrowSolverModel", "giveAnswers", "(I)V"⟩, 53), (⟨"NarrowSolverModel", "giveAnswer", "(I)V"⟩, 53), (⟨"NarrowSolverModel", "use", "(II)V"⟩, 53), (⟨"NarrowSolverModel", "bindSide", "(II)V"⟩, 53)]
theorem lw_r4 : ∀ q ∈ lw_privs_4, lw_okq q := List.forall_mem_cons.mpr ⟨lw_p48, List.forall_mem_cons.mpr ⟨lw_p49, List.forall_mem_cons.mpr ⟨lw_p50, List.forall_mem_cons.mpr ⟨lw_p51, List.forall_mem_cons.mpr ⟨lw_p52, List.forall_mem_cons.mpr ⟨lw_p53, List.forall_mem_cons.mpr ⟨lw_p54, List.forall_mem_cons.mpr ⟨lw_p55, List.forall_mem_cons.mpr ⟨lw_p56, List.forall_mem_cons.mpr ⟨lw_p57, List.forall_mem_cons.mpr ⟨lw_p58, List.forall_mem_cons.mpr ⟨lw_p59, List.forall_mem_cons.mpr ⟨lw_p60, List.forall_mem_cons.mpr ⟨lw_p61, List.forall_mem_cons.mpr ⟨lw_p62, List.forall_mem_cons.mpr ⟨lw_p63, fun _ h => absurd h List.not_mem_nil⟩⟩⟩⟩⟩⟩⟩⟩⟩⟩⟩⟩⟩⟩⟩⟩
theorem lw_p64 : lw_okq (⟨"NarrowSolverModel", "stands", "(II)Z"⟩, 53) := ⟨⟨by decide +kernel, by decide +kernel⟩, List.mem_of_getElem? (i := 774) (by decide +kernel), List.mem_of_getElem? (i := 1103) (by decide +kernel), List.mem_of_getElem? (i := 1104) (by decide +kernel)⟩
theorem lw_p65 : lw_okq (⟨"NarrowSolverModel", "giveArguments", "(IIII)V"⟩, 53) := ⟨⟨by decide +kernel, by decide +kernel⟩, List.mem_of_getElem? (i := 774) (by decide +kernel), List.mem_of_getElem? (i := 1107) (by decide +kernel), List.mem_of_getElem? (i := 1108) (by decide +kernel)⟩
def lw_privs_5 : List (MethodName × Nat) := [(⟨"NarrowSolverModel", "stands", "(II)Z"⟩, 53), (⟨"NarrowSolverModel", "giveArguments", "(IIII)V"⟩, 53)]
theorem lw_r5 : ∀ q ∈ lw_privs_5, lw_okq q := List.forall_mem_cons.mpr ⟨lw_p64, List.forall_mem_cons.mpr ⟨lw_p65, fun _ h => absurd h List.not_mem_nil⟩⟩
def lw_privs : List (MethodName × Nat) := lw_privs_1 ++ (lw_privs_2 ++ (lw_privs_3 ++ (lw_privs_4 ++ (lw_privs_5))))
def lw_tbl : List Cond := k2_sels lw_privs ++ tables_1
theorem lw_privs_ok : ∀ q ∈ lw_privs, lw_okq q := by
  show ∀ q ∈ lw_privs_1 ++ (lw_privs_2 ++ (lw_privs_3 ++ (lw_privs_4 ++ (lw_privs_5)))), lw_okq q
  exact List.forall_mem_append.mpr ⟨lw_r1, List.forall_mem_append.mpr ⟨lw_r2, List.forall_mem_append.mpr ⟨lw_r3, List.forall_mem_append.mpr ⟨lw_r4, lw_r5⟩⟩⟩⟩

/-! ===== BEGIN words of one list among another's, by their places ===== -/
theorem goodIn_r {big : List Cond} (ws : List Cond) (ps : List Nat) (hp : ws = ps.filterMap (fun i => big[i]?)) (h : ws.all goodWord = true) : GoodIn big ws := by
  intro w hw
  have h1 := List.all_eq_true.mp h w hw
  rw [hp] at hw
  obtain ⟨i, -, hi⟩ := List.mem_filterMap.mp hw
  have hm : w ∈ big := by first | exact List.mem_of_getElem? hi | exact List.getElem?_mem hi
  exact ⟨hm, good_of_word h1⟩
theorem goodIn_app {big a b : List Cond} (ha : GoodIn big a) (hb : GoodIn big b) : GoodIn big (a ++ b) := fun w h => (List.mem_append.mp h).elim (ha w) (hb w)
theorem goodIn_ca {big a b : List Cond} {c : Cond} (ha : GoodIn big (c :: a)) (hb : GoodIn big b) : GoodIn big (c :: (a ++ b)) := fun w h => (List.mem_cons.mp h).elim (fun e => ha w (List.mem_cons.mpr (Or.inl e))) (fun h => (List.mem_append.mp h).elim (fun h => ha w (List.mem_cons.mpr (Or.inr h))) (hb w))
theorem goodIn_sub {big ws : List Cond} (hm : ∀ w ∈ ws, w ∈ big) (h : ws.all goodWord = true) : GoodIn big ws := fun w hw => ⟨hm w hw, good_of_word (List.all_eq_true.mp h w hw)⟩
/-! ===== END ===== -/

def RX0 : String := "NarrowSolver$Node"
def TX0 : u_T := fun k => match k with
  | 0 => ("NarrowSolver$Node", "number", "I", false)
  | 1 => ("NarrowSolver$Node", "constructor", "I", false)
  | 2 => ("NarrowSolver$Node", "place", "I", false)
  | 3 => ("NarrowSolver$Node", "leafRule", "I", false)
  | 4 => ("NarrowSolver$Node", "children", "I", false)
  | 5 => ("NarrowSolver$Node", "firstChild", "LNarrowSolver$Node;", false)
  | 6 => ("NarrowSolver$Node", "next", "LNarrowSolver$Node;", false)
  | 7 => ("NarrowSolver$Node", "chosen", "J", false)
  | 8 => ("NarrowSolver$Node", "position", "I", false)
  | 9 => ("NarrowSolver$Node", "parent", "LNarrowSolver$Node;", false)
  | _ => ("NarrowSolver$Node", "lastChild", "LNarrowSolver$Node;", false)
def tyX0 : Nat → FieldType := fun k => match k with
  | 0 => .int
  | 1 => .int
  | 2 => .int
  | 3 => .int
  | 4 => .int
  | 5 => .object "NarrowSolver$Node"
  | 6 => .object "NarrowSolver$Node"
  | 7 => .long
  | 8 => .int
  | 9 => .object "NarrowSolver$Node"
  | _ => .object "NarrowSolver$Node"
abbrev wsX00 : List Cond := u_ws RX0 TX0 11
theorem nmX0 : ∀ a, a < 11 → ∀ b, b < 11 → a ≠ b → (TX0 a).2.1 ≠ (TX0 b).2.1 := by decide +kernel
theorem tyX0_ok : ∀ k, k < 11 → parseFieldDescriptor (TX0 k).2.2.1 = some (tyX0 k) := by decide +kernel
abbrev cX0_init : ByteArray := prog_2_method_1_code
def yX0_init : MethodName := ⟨RX0, "<init>", "()V"⟩
abbrev cX0_isLeaf : ByteArray := prog_2_method_2_code
def yX0_isLeaf : MethodName := ⟨RX0, "isLeaf", "()Z"⟩
abbrev cX0_childFor : ByteArray := prog_2_method_3_code
def yX0_childFor : MethodName := ⟨RX0, "childFor", "(I)LNarrowSolver$Node;"⟩
abbrev cX0_numberOfChild : ByteArray := prog_2_method_4_code
def yX0_numberOfChild : MethodName := ⟨RX0, "numberOfChild", "(I)I"⟩
abbrev cX0_append : ByteArray := prog_2_method_5_code
def yX0_append : MethodName := ⟨RX0, "append", "(LNarrowSolver$Node;)V"⟩
def RX1 : String := "NarrowSolver$Numbers"
def TX1 : u_T := fun k => match k with
  | 0 => ("NarrowSolver$Numbers", "cells", "[I", true)
  | _ => ("NarrowSolver$Numbers", "size", "I", false)
def tyX1 : Nat → FieldType := fun k => match k with
  | 0 => .array .int
  | _ => .int
abbrev wsX10 : List Cond := u_ws RX1 TX1 2
theorem nmX1 : ∀ a, a < 2 → ∀ b, b < 2 → a ≠ b → (TX1 a).2.1 ≠ (TX1 b).2.1 := by decide +kernel
theorem tyX1_ok : ∀ k, k < 2 → parseFieldDescriptor (TX1 k).2.2.1 = some (tyX1 k) := by decide +kernel
abbrev cX1_init : ByteArray := prog_3_method_1_code
def yX1_init : MethodName := ⟨RX1, "<init>", "(I)V"⟩
abbrev cX1_empty : ByteArray := prog_3_method_2_code
def yX1_empty : MethodName := ⟨RX1, "empty", "()V"⟩
abbrev cX1_isOver : ByteArray := prog_3_method_3_code
def yX1_isOver : MethodName := ⟨RX1, "isOver", "()Z"⟩
abbrev cX1_at : ByteArray := prog_3_method_4_code
def yX1_at : MethodName := ⟨RX1, "at", "(I)I"⟩
abbrev cX1_put : ByteArray := prog_3_method_5_code
def yX1_put : MethodName := ⟨RX1, "put", "(I)V"⟩
abbrev cX1_putAll : ByteArray := prog_3_method_6_code
def yX1_putAll : MethodName := ⟨RX1, "putAll", "(LNarrowSolver$Numbers;II)V"⟩
abbrev cX1_set : ByteArray := prog_3_method_7_code
def yX1_set : MethodName := ⟨RX1, "set", "(II)V"⟩
abbrev cX1_insert : ByteArray := prog_3_method_8_code
def yX1_insert : MethodName := ⟨RX1, "insert", "(II)V"⟩
abbrev cX1_remove : ByteArray := prog_3_method_9_code
def yX1_remove : MethodName := ⟨RX1, "remove", "(I)V"⟩
def RX2 : String := "NarrowSolver$Problem"
def TX2 : u_T := fun k => match k with
  | 0 => ("NarrowSolver$Problem", "numbers", "LNarrowSolver$Numbers;", true)
  | 1 => ("NarrowSolver$Problem", "equations", "I", false)
  | 2 => ("NarrowSolver$Problem", "equationsEnd", "I", false)
  | _ => ("NarrowSolver$Problem", "fresh", "I", false)
def tyX2 : Nat → FieldType := fun k => match k with
  | 0 => .object "NarrowSolver$Numbers"
  | 1 => .int
  | 2 => .int
  | _ => .int
abbrev wsX20 : List Cond := u_ws RX2 TX2 4
theorem nmX2 : ∀ a, a < 4 → ∀ b, b < 4 → a ≠ b → (TX2 a).2.1 ≠ (TX2 b).2.1 := by decide +kernel
theorem tyX2_ok : ∀ k, k < 4 → parseFieldDescriptor (TX2 k).2.2.1 = some (tyX2 k) := by decide +kernel
abbrev cX2_init : ByteArray := prog_4_method_1_code
def yX2_init : MethodName := ⟨RX2, "<init>", "()V"⟩
abbrev cX2_isLost : ByteArray := prog_4_method_2_code
def yX2_isLost : MethodName := ⟨RX2, "isLost", "()Z"⟩
def RX3 : String := "NarrowSolver$Row"
def TX3 : u_T := fun k => match k with
  | 0 => ("NarrowSolver$Row", "slots", "[LNarrowSolver$Problem;", true)
  | 1 => ("NarrowSolver$Row", "first", "I", false)
  | _ => ("NarrowSolver$Row", "size", "I", false)
def tyX3 : Nat → FieldType := fun k => match k with
  | 0 => .array (.object "NarrowSolver$Problem")
  | 1 => .int
  | _ => .int
abbrev wsX30 : List Cond := u_ws RX3 TX3 3
theorem nmX3 : ∀ a, a < 3 → ∀ b, b < 3 → a ≠ b → (TX3 a).2.1 ≠ (TX3 b).2.1 := by decide +kernel
theorem tyX3_ok : ∀ k, k < 3 → parseFieldDescriptor (TX3 k).2.2.1 = some (tyX3 k) := by decide +kernel
abbrev cX3_init : ByteArray := prog_5_method_1_code
def yX3_init : MethodName := ⟨RX3, "<init>", "(I)V"⟩
abbrev cX3_empty : ByteArray := prog_5_method_2_code
def yX3_empty : MethodName := ⟨RX3, "empty", "()V"⟩
abbrev cX3_isFull : ByteArray := prog_5_method_3_code
def yX3_isFull : MethodName := ⟨RX3, "isFull", "()Z"⟩
abbrev cX3_at : ByteArray := prog_5_method_4_code
def yX3_at : MethodName := ⟨RX3, "at", "(I)LNarrowSolver$Problem;"⟩
abbrev cX3_append : ByteArray := prog_5_method_5_code
def yX3_append : MethodName := ⟨RX3, "append", "(LNarrowSolver$Problem;)LNarrowSolver$Problem;"⟩
abbrev cX3_takeFirst : ByteArray := prog_5_method_6_code
def yX3_takeFirst : MethodName := ⟨RX3, "takeFirst", "(LNarrowSolver$Problem;)LNarrowSolver$Problem;"⟩
def RX4 : String := "NarrowSolver$Rule"
def TX4 : u_T := fun k => match k with
  | 0 => ("NarrowSolver$Rule", "left", "LNarrowSolver$Numbers;", true)
  | _ => ("NarrowSolver$Rule", "right", "LNarrowSolver$Numbers;", true)
def tyX4 : Nat → FieldType := fun k => match k with
  | 0 => .object "NarrowSolver$Numbers"
  | _ => .object "NarrowSolver$Numbers"
abbrev wsX40 : List Cond := u_ws RX4 TX4 2
theorem nmX4 : ∀ a, a < 2 → ∀ b, b < 2 → a ≠ b → (TX4 a).2.1 ≠ (TX4 b).2.1 := by decide +kernel
theorem tyX4_ok : ∀ k, k < 2 → parseFieldDescriptor (TX4 k).2.2.1 = some (tyX4 k) := by decide +kernel
abbrev cX4_init : ByteArray := prog_6_method_1_code
def yX4_init : MethodName := ⟨RX4, "<init>", "(LNarrowSolver$Numbers;I)V"⟩
def RX5 : String := "NarrowSolver$Rules"
def TX5 : u_T := fun k => match k with
  | 0 => ("NarrowSolver$Rules", "list", "[LNarrowSolver$Rule;", true)
  | 1 => ("NarrowSolver$Rules", "trees", "[LNarrowSolver$Tree;", true)
  | 2 => ("NarrowSolver$Rules", "maker", "LNarrowSolver$TreeMaker;", true)
  | 3 => ("NarrowSolver$Rules", "spare", "LNarrowSolver$Tree;", false)
  | _ => ("NarrowSolver$Rules", "size", "I", false)
def tyX5 : Nat → FieldType := fun k => match k with
  | 0 => .array (.object "NarrowSolver$Rule")
  | 1 => .array (.object "NarrowSolver$Tree")
  | 2 => .object "NarrowSolver$TreeMaker"
  | 3 => .object "NarrowSolver$Tree"
  | _ => .int
abbrev wsX50 : List Cond := u_ws RX5 TX5 5
theorem nmX5 : ∀ a, a < 5 → ∀ b, b < 5 → a ≠ b → (TX5 a).2.1 ≠ (TX5 b).2.1 := by decide +kernel
theorem tyX5_ok : ∀ k, k < 5 → parseFieldDescriptor (TX5 k).2.2.1 = some (tyX5 k) := by decide +kernel
abbrev cX5_init : ByteArray := prog_7_method_1_code
def yX5_init : MethodName := ⟨RX5, "<init>", "(LNarrowSolver$Symbols;)V"⟩
abbrev cX5_empty : ByteArray := prog_7_method_2_code
def yX5_empty : MethodName := ⟨RX5, "empty", "()V"⟩
abbrev cX5_at : ByteArray := prog_7_method_3_code
def yX5_at : MethodName := ⟨RX5, "at", "(I)LNarrowSolver$Rule;"⟩
abbrev cX5_treeOf : ByteArray := prog_7_method_4_code
def yX5_treeOf : MethodName := ⟨RX5, "treeOf", "(I)LNarrowSolver$Tree;"⟩
abbrev cX5_add : ByteArray := prog_7_method_5_code
def yX5_add : MethodName := ⟨RX5, "add", "(LNarrowSolver$Numbers;I)I"⟩
abbrev cX5_rulesOf : ByteArray := prog_7_method_6_code
def yX5_rulesOf : MethodName := ⟨RX5, "rulesOf", "(I)J"⟩
def RX6 : String := "NarrowSolver$Solver"
def TX6 : u_T := fun k => match k with
  | 0 => ("NarrowSolver$Solver", "symbols", "LNarrowSolver$Symbols;", true)
  | 1 => ("NarrowSolver$Solver", "rules", "LNarrowSolver$Rules;", true)
  | 2 => ("NarrowSolver$Solver", "row", "LNarrowSolver$Row;", true)
  | 3 => ("NarrowSolver$Solver", "solved", "LNarrowSolver$Row;", true)
  | 4 => ("NarrowSolver$Solver", "boundTo", "LNarrowSolver$Numbers;", true)
  | 5 => ("NarrowSolver$Solver", "matched", "[I", true)
  | 6 => ("NarrowSolver$Solver", "current", "LNarrowSolver$Problem;", false)
  | 7 => ("NarrowSolver$Solver", "draft", "LNarrowSolver$Problem;", false)
  | 8 => ("NarrowSolver$Solver", "boundVariable", "I", false)
  | 9 => ("NarrowSolver$Solver", "steps", "I", false)
  | 10 => ("NarrowSolver$Solver", "failed", "I", false)
  | 11 => ("NarrowSolver$Solver", "rewritten", "I", false)
  | _ => ("NarrowSolver$Solver", "lost", "I", false)
def tyX6 : Nat → FieldType := fun k => match k with
  | 0 => .object "NarrowSolver$Symbols"
  | 1 => .object "NarrowSolver$Rules"
  | 2 => .object "NarrowSolver$Row"
  | 3 => .object "NarrowSolver$Row"
  | 4 => .object "NarrowSolver$Numbers"
  | 5 => .array .int
  | 6 => .object "NarrowSolver$Problem"
  | 7 => .object "NarrowSolver$Problem"
  | 8 => .int
  | 9 => .int
  | 10 => .int
  | 11 => .int
  | _ => .int
abbrev wsX60 : List Cond := u_ws RX6 TX6 13
theorem nmX6 : ∀ a, a < 13 → ∀ b, b < 13 → a ≠ b → (TX6 a).2.1 ≠ (TX6 b).2.1 := by decide +kernel
theorem tyX6_ok : ∀ k, k < 13 → parseFieldDescriptor (TX6 k).2.2.1 = some (tyX6 k) := by decide +kernel
abbrev cX6_init : ByteArray := prog_8_method_1_code
def yX6_init : MethodName := ⟨RX6, "<init>", "(LNarrowSolver$Symbols;LNarrowSolver$Rules;)V"⟩
abbrev cX6_empty : ByteArray := prog_8_method_2_code
def yX6_empty : MethodName := ⟨RX6, "empty", "()V"⟩
abbrev cX6_begin : ByteArray := prog_8_method_3_code
def yX6_begin : MethodName := ⟨RX6, "begin", "(LNarrowSolver$Numbers;I)V"⟩
abbrev cX6_step : ByteArray := prog_8_method_4_code
def yX6_step : MethodName := ⟨RX6, "step", "()V"⟩
abbrev cX6_unify : ByteArray := prog_8_method_5_code
def yX6_unify : MethodName := ⟨RX6, "unify", "(I)Z"⟩
abbrev cX6_standsOpenly : ByteArray := prog_8_method_6_code
def yX6_standsOpenly : MethodName := ⟨RX6, "standsOpenly", "(III)Z"⟩
abbrev cX6_putArguments : ByteArray := prog_8_method_7_code
def yX6_putArguments : MethodName := ⟨RX6, "putArguments", "(II)V"⟩
abbrev cX6_putArgument : ByteArray := prog_8_method_8_code
def yX6_putArgument : MethodName := ⟨RX6, "putArgument", "(III)I"⟩
abbrev cX6_workOn : ByteArray := prog_8_method_9_code
def yX6_workOn : MethodName := ⟨RX6, "workOn", "(I)Z"⟩
abbrev cX6_rootFor : ByteArray := prog_8_method_10_code
def yX6_rootFor : MethodName := ⟨RX6, "rootFor", "(I)LNarrowSolver$Node;"⟩
abbrev cX6_narrow : ByteArray := prog_8_method_11_code
def yX6_narrow : MethodName := ⟨RX6, "narrow", "(ILNarrowSolver$Node;)V"⟩
abbrev cX6_rewrite : ByteArray := prog_8_method_12_code
def yX6_rewrite : MethodName := ⟨RX6, "rewrite", "(ILNarrowSolver$Rule;)Z"⟩
abbrev cX6_match : ByteArray := prog_8_method_13_code
def yX6_match : MethodName := ⟨RX6, "match", "(ILNarrowSolver$Numbers;)I"⟩
abbrev cX6_startDraft : ByteArray := prog_8_method_14_code
def yX6_startDraft : MethodName := ⟨RX6, "startDraft", "()V"⟩
abbrev cX6_bind : ByteArray := prog_8_method_15_code
def yX6_bind : MethodName := ⟨RX6, "bind", "(II)V"⟩
abbrev cX6_copyBound : ByteArray := prog_8_method_16_code
def yX6_copyBound : MethodName := ⟨RX6, "copyBound", "(II)V"⟩
abbrev cX6_finishDraft : ByteArray := prog_8_method_17_code
def yX6_finishDraft : MethodName := ⟨RX6, "finishDraft", "(I)V"⟩
abbrev cX6_deliver : ByteArray := prog_8_method_18_code
def yX6_deliver : MethodName := ⟨RX6, "deliver", "()V"⟩
def RX7 : String := "NarrowSolver$Symbols"
def TX7 : u_T := fun k => match k with
  | 0 => ("NarrowSolver$Symbols", "arguments", "[I", true)
  | 1 => ("NarrowSolver$Symbols", "functions", "[Z", true)
  | _ => ("NarrowSolver$Symbols", "size", "I", false)
def tyX7 : Nat → FieldType := fun k => match k with
  | 0 => .array .int
  | 1 => .array .boolean
  | _ => .int
abbrev wsX70 : List Cond := u_ws RX7 TX7 3
theorem nmX7 : ∀ a, a < 3 → ∀ b, b < 3 → a ≠ b → (TX7 a).2.1 ≠ (TX7 b).2.1 := by decide +kernel
theorem tyX7_ok : ∀ k, k < 3 → parseFieldDescriptor (TX7 k).2.2.1 = some (tyX7 k) := by decide +kernel
abbrev cX7_init : ByteArray := prog_9_method_1_code
def yX7_init : MethodName := ⟨RX7, "<init>", "()V"⟩
abbrev cX7_add : ByteArray := prog_9_method_2_code
def yX7_add : MethodName := ⟨RX7, "add", "(ZI)I"⟩
abbrev cX7_has : ByteArray := prog_9_method_3_code
def yX7_has : MethodName := ⟨RX7, "has", "(I)Z"⟩
abbrev cX7_isFunction : ByteArray := prog_9_method_4_code
def yX7_isFunction : MethodName := ⟨RX7, "isFunction", "(I)Z"⟩
abbrev cX7_argumentsOf : ByteArray := prog_9_method_5_code
def yX7_argumentsOf : MethodName := ⟨RX7, "argumentsOf", "(I)I"⟩
abbrev cX7_endOfTerm : ByteArray := prog_9_method_6_code
def yX7_endOfTerm : MethodName := ⟨RX7, "endOfTerm", "(LNarrowSolver$Numbers;I)I"⟩
abbrev cX7_follow : ByteArray := prog_9_method_7_code
def yX7_follow : MethodName := ⟨RX7, "follow", "(LNarrowSolver$Numbers;II)I"⟩
def RX8 : String := "NarrowSolver$Tree"
def TX8 : u_T := fun k => match k with
  | 0 => ("NarrowSolver$Tree", "nodes", "Ljava/util/ArrayList;", true)
  | _ => ("NarrowSolver$Tree", "size", "I", false)
def tyX8 : Nat → FieldType := fun k => match k with
  | 0 => .object "java/util/ArrayList"
  | _ => .int
abbrev wsX80 : List Cond := u_ws RX8 TX8 2
theorem nmX8 : ∀ a, a < 2 → ∀ b, b < 2 → a ≠ b → (TX8 a).2.1 ≠ (TX8 b).2.1 := by decide +kernel
theorem tyX8_ok : ∀ k, k < 2 → parseFieldDescriptor (TX8 k).2.2.1 = some (tyX8 k) := by decide +kernel
abbrev cX8_init : ByteArray := prog_10_method_1_code
def yX8_init : MethodName := ⟨RX8, "<init>", "()V"⟩
abbrev cX8_at : ByteArray := prog_10_method_2_code
def yX8_at : MethodName := ⟨RX8, "at", "(I)LNarrowSolver$Node;"⟩
abbrev cX8_add : ByteArray := prog_10_method_3_code
def yX8_add : MethodName := ⟨RX8, "add", "(IJLNarrowSolver$Node;)LNarrowSolver$Node;"⟩
def RX9 : String := "NarrowSolver$TreeMaker"
def TX9 : u_T := fun k => match k with
  | 0 => ("NarrowSolver$TreeMaker", "symbols", "LNarrowSolver$Symbols;", true)
  | 1 => ("NarrowSolver$TreeMaker", "list", "[LNarrowSolver$Rule;", true)
  | 2 => ("NarrowSolver$TreeMaker", "pattern", "LNarrowSolver$Numbers;", true)
  | _ => ("NarrowSolver$TreeMaker", "shut", "[Z", true)
def tyX9 : Nat → FieldType := fun k => match k with
  | 0 => .object "NarrowSolver$Symbols"
  | 1 => .array (.object "NarrowSolver$Rule")
  | 2 => .object "NarrowSolver$Numbers"
  | _ => .array .boolean
abbrev wsX90 : List Cond := u_ws RX9 TX9 4
theorem nmX9 : ∀ a, a < 4 → ∀ b, b < 4 → a ≠ b → (TX9 a).2.1 ≠ (TX9 b).2.1 := by decide +kernel
theorem tyX9_ok : ∀ k, k < 4 → parseFieldDescriptor (TX9 k).2.2.1 = some (tyX9 k) := by decide +kernel
abbrev cX9_init : ByteArray := prog_11_method_1_code
def yX9_init : MethodName := ⟨RX9, "<init>", "(LNarrowSolver$Symbols;[LNarrowSolver$Rule;)V"⟩
abbrev cX9_make : ByteArray := prog_11_method_2_code
def yX9_make : MethodName := ⟨RX9, "make", "(LNarrowSolver$Tree;IJ)Z"⟩
abbrev cX9_settle : ByteArray := prog_11_method_3_code
def yX9_settle : MethodName := ⟨RX9, "settle", "(LNarrowSolver$Node;)Z"⟩
abbrev cX9_growChild : ByteArray := prog_11_method_4_code
def yX9_growChild : MethodName := ⟨RX9, "growChild", "(LNarrowSolver$Tree;LNarrowSolver$Node;)LNarrowSolver$Node;"⟩
abbrev cX9_unfold : ByteArray := prog_11_method_5_code
def yX9_unfold : MethodName := ⟨RX9, "unfold", "(II)V"⟩
abbrev cX9_fold : ByteArray := prog_11_method_6_code
def yX9_fold : MethodName := ⟨RX9, "fold", "(I)V"⟩
abbrev cX9_firstBranch : ByteArray := prog_11_method_7_code
def yX9_firstBranch : MethodName := ⟨RX9, "firstBranch", "(J)I"⟩
abbrev cX9_shutVariables : ByteArray := prog_11_method_8_code
def yX9_shutVariables : MethodName := ⟨RX9, "shutVariables", "(LNarrowSolver$Numbers;)V"⟩
abbrev cX9_standsIn : ByteArray := prog_11_method_9_code
def yX9_standsIn : MethodName := ⟨RX9, "standsIn", "(LNarrowSolver$Numbers;I)I"⟩
abbrev cX9_leastBehind : ByteArray := prog_11_method_10_code
def yX9_leastBehind : MethodName := ⟨RX9, "leastBehind", "(ILNarrowSolver$Node;)I"⟩
abbrev cX9_rulesWith : ByteArray := prog_11_method_11_code
def yX9_rulesWith : MethodName := ⟨RX9, "rulesWith", "(ILNarrowSolver$Node;)J"⟩
abbrev cX9_placeOf : ByteArray := prog_11_method_12_code
def yX9_placeOf : MethodName := ⟨RX9, "placeOf", "(I)I"⟩
def RX10 : String := "NarrowSolver"
def TX10 : u_T := fun k => match k with
  | 0 => ("NarrowSolver", "symbols", "LNarrowSolver$Symbols;", true)
  | 1 => ("NarrowSolver", "tape", "LNarrowSolver$Numbers;", true)
  | 2 => ("NarrowSolver", "rules", "LNarrowSolver$Rules;", true)
  | _ => ("NarrowSolver", "solver", "LNarrowSolver$Solver;", true)
def tyX10 : Nat → FieldType := fun k => match k with
  | 0 => .object "NarrowSolver$Symbols"
  | 1 => .object "NarrowSolver$Numbers"
  | 2 => .object "NarrowSolver$Rules"
  | _ => .object "NarrowSolver$Solver"
abbrev wsX100 : List Cond := u_ws RX10 TX10 4
theorem nmX10 : ∀ a, a < 4 → ∀ b, b < 4 → a ≠ b → (TX10 a).2.1 ≠ (TX10 b).2.1 := by decide +kernel
theorem tyX10_ok : ∀ k, k < 4 → parseFieldDescriptor (TX10 k).2.2.1 = some (tyX10 k) := by decide +kernel
abbrev cX10_init : ByteArray := prog_1_method_1_code
def yX10_init : MethodName := ⟨RX10, "<init>", "()V"⟩
abbrev cX10_clear : ByteArray := prog_1_method_2_code
def yX10_clear : MethodName := ⟨RX10, "clear", "()I"⟩
abbrev cX10_symbol : ByteArray := prog_1_method_3_code
def yX10_symbol : MethodName := ⟨RX10, "symbol", "(ZI)I"⟩
abbrev cX10_feed : ByteArray := prog_1_method_4_code
def yX10_feed : MethodName := ⟨RX10, "feed", "(JI)I"⟩
abbrev cX10_rule : ByteArray := prog_1_method_5_code
def yX10_rule : MethodName := ⟨RX10, "rule", "()I"⟩
abbrev cX10_problem : ByteArray := prog_1_method_6_code
def yX10_problem : MethodName := ⟨RX10, "problem", "()I"⟩
abbrev cX10_solve : ByteArray := prog_1_method_7_code
def yX10_solve : MethodName := ⟨RX10, "solve", "(I)I"⟩
abbrev cX10_solutions : ByteArray := prog_1_method_8_code
def yX10_solutions : MethodName := ⟨RX10, "solutions", "()I"⟩
abbrev cX10_answer : ByteArray := prog_1_method_9_code
def yX10_answer : MethodName := ⟨RX10, "answer", "(III)I"⟩
abbrev cX10_node : ByteArray := prog_1_method_10_code
def yX10_node : MethodName := ⟨RX10, "node", "(III)I"⟩
abbrev cX10_waiting : ByteArray := prog_1_method_11_code
def yX10_waiting : MethodName := ⟨RX10, "waiting", "(II)I"⟩
abbrev cX10_count : ByteArray := prog_1_method_12_code
def yX10_count : MethodName := ⟨RX10, "count", "(I)I"⟩
abbrev cX10_endOnTape : ByteArray := prog_1_method_13_code
def yX10_endOnTape : MethodName := ⟨RX10, "endOnTape", "(I)I"⟩
abbrev cX10_equationsOnTape : ByteArray := prog_1_method_14_code
def yX10_equationsOnTape : MethodName := ⟨RX10, "equationsOnTape", "()I"⟩
abbrev cX10_faultOfRule : ByteArray := prog_1_method_15_code
def yX10_faultOfRule : MethodName := ⟨RX10, "faultOfRule", "(I)I"⟩
abbrev cX10_faultOfVariables : ByteArray := prog_1_method_16_code
def yX10_faultOfVariables : MethodName := ⟨RX10, "faultOfVariables", "(I)I"⟩
abbrev cX10_variableBit : ByteArray := prog_1_method_17_code
def yX10_variableBit : MethodName := ⟨RX10, "variableBit", "(I)I"⟩
abbrev cX10_isVariable : ByteArray := prog_1_method_18_code
def yX10_isVariable : MethodName := ⟨RX10, "isVariable", "(I)Z"⟩
def RX11 : String := "NarrowSolverModel"
def TX11 : u_T := fun k => match k with
  | 0 => ("NarrowSolverModel", "symbols", "I", false)
  | 1 => ("NarrowSolverModel", "isFunction", "[Z", true)
  | 2 => ("NarrowSolverModel", "arguments", "[I", true)
  | 3 => ("NarrowSolverModel", "tape", "[I", true)
  | 4 => ("NarrowSolverModel", "tapeSize", "I", false)
  | 5 => ("NarrowSolverModel", "rules", "I", false)
  | 6 => ("NarrowSolverModel", "rule", "[[I", true)
  | 7 => ("NarrowSolverModel", "leftSize", "[I", true)
  | 8 => ("NarrowSolverModel", "ruleSize", "[I", true)
  | 9 => ("NarrowSolverModel", "patterns", "[[I", true)
  | 10 => ("NarrowSolverModel", "patternSizes", "[I", true)
  | 11 => ("NarrowSolverModel", "masks", "[J", true)
  | 12 => ("NarrowSolverModel", "patternParent", "[I", true)
  | 13 => ("NarrowSolverModel", "patternOrder", "[I", true)
  | 14 => ("NarrowSolverModel", "patternMany", "I", false)
  | 15 => ("NarrowSolverModel", "nodes", "I", false)
  | 16 => ("NarrowSolverModel", "nodeKind", "[I", true)
  | 17 => ("NarrowSolverModel", "nodeValue", "[I", true)
  | 18 => ("NarrowSolverModel", "nodeMany", "[I", true)
  | 19 => ("NarrowSolverModel", "nodeParent", "[I", true)
  | 20 => ("NarrowSolverModel", "nodeOrder", "[I", true)
  | 21 => ("NarrowSolverModel", "waits", "[[I", true)
  | 22 => ("NarrowSolverModel", "waitSize", "[I", true)
  | 23 => ("NarrowSolverModel", "waitAll", "[I", true)
  | 24 => ("NarrowSolverModel", "waitMany", "[I", true)
  | 25 => ("NarrowSolverModel", "waitFresh", "[I", true)
  | 26 => ("NarrowSolverModel", "waiting", "I", false)
  | 27 => ("NarrowSolverModel", "solved", "[[I", true)
  | 28 => ("NarrowSolverModel", "solvedSize", "[I", true)
  | 29 => ("NarrowSolverModel", "solutions", "I", false)
  | 30 => ("NarrowSolverModel", "steps", "I", false)
  | 31 => ("NarrowSolverModel", "failed", "I", false)
  | 32 => ("NarrowSolverModel", "used", "I", false)
  | 33 => ("NarrowSolverModel", "lost", "I", false)
  | 34 => ("NarrowSolverModel", "eq", "[I", true)
  | 35 => ("NarrowSolverModel", "eqSize", "I", false)
  | 36 => ("NarrowSolverModel", "eqMany", "I", false)
  | 37 => ("NarrowSolverModel", "ans", "[I", true)
  | 38 => ("NarrowSolverModel", "ansSize", "I", false)
  | 39 => ("NarrowSolverModel", "fresh", "I", false)
  | 40 => ("NarrowSolverModel", "newEq", "[I", true)
  | 41 => ("NarrowSolverModel", "newEqSize", "I", false)
  | 42 => ("NarrowSolverModel", "newEqMany", "I", false)
  | 43 => ("NarrowSolverModel", "newAns", "[I", true)
  | 44 => ("NarrowSolverModel", "newAnsSize", "I", false)
  | 45 => ("NarrowSolverModel", "isTooMuch", "Z", false)
  | 46 => ("NarrowSolverModel", "bound", "[I", true)
  | 47 => ("NarrowSolverModel", "boundSize", "I", false)
  | 48 => ("NarrowSolverModel", "places", "[I", true)
  | 49 => ("NarrowSolverModel", "around", "[I", true)
  | 50 => ("NarrowSolverModel", "which", "[I", true)
  | 51 => ("NarrowSolverModel", "depth", "I", false)
  | _ => ("NarrowSolverModel", "pattern", "[I", true)
def tyX11 : Nat → FieldType := fun k => match k with
  | 0 => .int
  | 1 => .array .boolean
  | 2 => .array .int
  | 3 => .array .int
  | 4 => .int
  | 5 => .int
  | 6 => .array (.array .int)
  | 7 => .array .int
  | 8 => .array .int
  | 9 => .array (.array .int)
  | 10 => .array .int
  | 11 => .array .long
  | 12 => .array .int
  | 13 => .array .int
  | 14 => .int
  | 15 => .int
  | 16 => .array .int
  | 17 => .array .int
  | 18 => .array .int
  | 19 => .array .int
  | 20 => .array .int
  | 21 => .array (.array .int)
  | 22 => .array .int
  | 23 => .array .int
  | 24 => .array .int
  | 25 => .array .int
  | 26 => .int
  | 27 => .array (.array .int)
  | 28 => .array .int
  | 29 => .int
  | 30 => .int
  | 31 => .int
  | 32 => .int
  | 33 => .int
  | 34 => .array .int
  | 35 => .int
  | 36 => .int
  | 37 => .array .int
  | 38 => .int
  | 39 => .int
  | 40 => .array .int
  | 41 => .int
  | 42 => .int
  | 43 => .array .int
  | 44 => .int
  | 45 => .boolean
  | 46 => .array .int
  | 47 => .int
  | 48 => .array .int
  | 49 => .array .int
  | 50 => .array .int
  | 51 => .int
  | _ => .array .int
abbrev wsX110 : List Cond := u_ws RX11 TX11 53
theorem nmX11 : ∀ a, a < 53 → ∀ b, b < 53 → a ≠ b → (TX11 a).2.1 ≠ (TX11 b).2.1 := by decide +kernel
theorem tyX11_ok : ∀ k, k < 53 → parseFieldDescriptor (TX11 k).2.2.1 = some (tyX11 k) := by decide +kernel
abbrev cX11_init : ByteArray := prog_13_method_1_code
def yX11_init : MethodName := ⟨RX11, "<init>", "()V"⟩
abbrev cX11_in : ByteArray := prog_13_method_2_code
def yX11_in : MethodName := ⟨RX11, "in", "(III)Z"⟩
abbrev cX11_clear : ByteArray := prog_13_method_3_code
def yX11_clear : MethodName := ⟨RX11, "clear", "()I"⟩
abbrev cX11_forget : ByteArray := prog_13_method_4_code
def yX11_forget : MethodName := ⟨RX11, "forget", "()V"⟩
abbrev cX11_symbol : ByteArray := prog_13_method_5_code
def yX11_symbol : MethodName := ⟨RX11, "symbol", "(ZI)I"⟩
abbrev cX11_feed : ByteArray := prog_13_method_6_code
def yX11_feed : MethodName := ⟨RX11, "feed", "(JI)I"⟩
abbrev cX11_argumentsOf : ByteArray := prog_13_method_7_code
def yX11_argumentsOf : MethodName := ⟨RX11, "argumentsOf", "(I)I"⟩
abbrev cX11_endOf : ByteArray := prog_13_method_8_code
def yX11_endOf : MethodName := ⟨RX11, "endOf", "([II)I"⟩
abbrev cX11_isKnown : ByteArray := prog_13_method_9_code
def yX11_isKnown : MethodName := ⟨RX11, "isKnown", "(I)Z"⟩
abbrev cX11_readTerm : ByteArray := prog_13_method_10_code
def yX11_readTerm : MethodName := ⟨RX11, "readTerm", "(I)I"⟩
abbrev cX11_faultOfTerms : ByteArray := prog_13_method_11_code
def yX11_faultOfTerms : MethodName := ⟨RX11, "faultOfTerms", "(I)I"⟩
abbrev cX11_rule : ByteArray := prog_13_method_12_code
def yX11_rule : MethodName := ⟨RX11, "rule", "()I"⟩
abbrev cX11_rulesOf : ByteArray := prog_13_method_13_code
def yX11_rulesOf : MethodName := ⟨RX11, "rulesOf", "(I)J"⟩
abbrev cX11_locate : ByteArray := prog_13_method_14_code
def yX11_locate : MethodName := ⟨RX11, "locate", "([III[II)I"⟩
abbrev cX11_firstOf : ByteArray := prog_13_method_15_code
def yX11_firstOf : MethodName := ⟨RX11, "firstOf", "(J)I"⟩
abbrev cX11_isLeaf : ByteArray := prog_13_method_16_code
def yX11_isLeaf : MethodName := ⟨RX11, "isLeaf", "(IJ)Z"⟩
abbrev cX11_branchOf : ByteArray := prog_13_method_17_code
def yX11_branchOf : MethodName := ⟨RX11, "branchOf", "([IIJ)I"⟩
abbrev cX11_withAt : ByteArray := prog_13_method_18_code
def yX11_withAt : MethodName := ⟨RX11, "withAt", "([IIIJI)J"⟩
abbrev cX11_refine : ByteArray := prog_13_method_19_code
def yX11_refine : MethodName := ⟨RX11, "refine", "([IIII[I)I"⟩
abbrev cX11_begin : ByteArray := prog_13_method_20_code
def yX11_begin : MethodName := ⟨RX11, "begin", "(I[I)I"⟩
abbrev cX11_placeOf : ByteArray := prog_13_method_21_code
def yX11_placeOf : MethodName := ⟨RX11, "placeOf", "([II)I"⟩
abbrev cX11_later : ByteArray := prog_13_method_22_code
def yX11_later : MethodName := ⟨RX11, "later", "(IIIJ)V"⟩
abbrev cX11_layTree : ByteArray := prog_13_method_23_code
def yX11_layTree : MethodName := ⟨RX11, "layTree", "(I)Z"⟩
abbrev cX11_layBranch : ByteArray := prog_13_method_24_code
def yX11_layBranch : MethodName := ⟨RX11, "layBranch", "(IIIJ)V"⟩
abbrev cX11_node : ByteArray := prog_13_method_25_code
def yX11_node : MethodName := ⟨RX11, "node", "(III)I"⟩
abbrev cX11_problem : ByteArray := prog_13_method_26_code
def yX11_problem : MethodName := ⟨RX11, "problem", "()I"⟩
abbrev cX11_beginNew : ByteArray := prog_13_method_27_code
def yX11_beginNew : MethodName := ⟨RX11, "beginNew", "()V"⟩
abbrev cX11_give : ByteArray := prog_13_method_28_code
def yX11_give : MethodName := ⟨RX11, "give", "(I)V"⟩
abbrev cX11_giveAnswer : ByteArray := prog_13_method_29_code
def yX11_giveAnswer : MethodName := ⟨RX11, "giveAnswer", "(I)V"⟩
abbrev cX11_keep : ByteArray := prog_13_method_30_code
def yX11_keep : MethodName := ⟨RX11, "keep", "(I)V"⟩
abbrev cX11_take : ByteArray := prog_13_method_31_code
def yX11_take : MethodName := ⟨RX11, "take", "()V"⟩
abbrev cX11_isFunctionAt : ByteArray := prog_13_method_32_code
def yX11_isFunctionAt : MethodName := ⟨RX11, "isFunctionAt", "(I)Z"⟩
abbrev cX11_stands : ByteArray := prog_13_method_33_code
def yX11_stands : MethodName := ⟨RX11, "stands", "(II)Z"⟩
abbrev cX11_bindTo : ByteArray := prog_13_method_34_code
def yX11_bindTo : MethodName := ⟨RX11, "bindTo", "(I)V"⟩
abbrev cX11_giveAll : ByteArray := prog_13_method_35_code
def yX11_giveAll : MethodName := ⟨RX11, "giveAll", "(III)V"⟩
abbrev cX11_giveAnswers : ByteArray := prog_13_method_36_code
def yX11_giveAnswers : MethodName := ⟨RX11, "giveAnswers", "(I)V"⟩
abbrev cX11_step : ByteArray := prog_13_method_37_code
def yX11_step : MethodName := ⟨RX11, "step", "()V"⟩
abbrev cX11_giveArguments : ByteArray := prog_13_method_38_code
def yX11_giveArguments : MethodName := ⟨RX11, "giveArguments", "(IIII)V"⟩
abbrev cX11_bindSide : ByteArray := prog_13_method_39_code
def yX11_bindSide : MethodName := ⟨RX11, "bindSide", "(II)V"⟩
abbrev cX11_workOn : ByteArray := prog_13_method_40_code
def yX11_workOn : MethodName := ⟨RX11, "workOn", "(I)V"⟩
abbrev cX11_part : ByteArray := prog_13_method_41_code
def yX11_part : MethodName := ⟨RX11, "part", "(IIJI)V"⟩
abbrev cX11_use : ByteArray := prog_13_method_42_code
def yX11_use : MethodName := ⟨RX11, "use", "(II)V"⟩
abbrev cX11_solve : ByteArray := prog_13_method_43_code
def yX11_solve : MethodName := ⟨RX11, "solve", "(I)I"⟩
abbrev cX11_solutions : ByteArray := prog_13_method_44_code
def yX11_solutions : MethodName := ⟨RX11, "solutions", "()I"⟩
abbrev cX11_answer : ByteArray := prog_13_method_45_code
def yX11_answer : MethodName := ⟨RX11, "answer", "(III)I"⟩
abbrev cX11_waiting : ByteArray := prog_13_method_46_code
def yX11_waiting : MethodName := ⟨RX11, "waiting", "(II)I"⟩
abbrev cX11_count : ByteArray := prog_13_method_47_code
def yX11_count : MethodName := ⟨RX11, "count", "(I)I"⟩
def RJx145de : String := "java/io/Serializable"
def TJx145de : u_T := fun k => match k with
  | _ => ("", "", "", false)
def tyJx145de : Nat → FieldType := fun k => match k with
  | _ => .int
abbrev wsJx145de0 : List Cond := u_ws RJx145de TJx145de 0
theorem nmJx145de : ∀ a, a < 0 → ∀ b, b < 0 → a ≠ b → (TJx145de a).2.1 ≠ (TJx145de b).2.1 := by decide +kernel
theorem tyJx145de_ok : ∀ k, k < 0 → parseFieldDescriptor (TJx145de k).2.2.1 = some (tyJx145de k) := by decide +kernel
def RJx8e188 : String := "java/lang/Cloneable"
def TJx8e188 : u_T := fun k => match k with
  | _ => ("", "", "", false)
def tyJx8e188 : Nat → FieldType := fun k => match k with
  | _ => .int
abbrev wsJx8e1880 : List Cond := u_ws RJx8e188 TJx8e188 0
theorem nmJx8e188 : ∀ a, a < 0 → ∀ b, b < 0 → a ≠ b → (TJx8e188 a).2.1 ≠ (TJx8e188 b).2.1 := by decide +kernel
theorem tyJx8e188_ok : ∀ k, k < 0 → parseFieldDescriptor (TJx8e188 k).2.2.1 = some (tyJx8e188 k) := by decide +kernel
def RJ6 : String := "java/lang/Integer"
def TJ6 : u_T := fun k => match k with
  | _ => ("", "", "", false)
def tyJ6 : Nat → FieldType := fun k => match k with
  | _ => .int
abbrev wsJ60 : List Cond := u_ws RJ6 TJ6 0
theorem nmJ6 : ∀ a, a < 0 → ∀ b, b < 0 → a ≠ b → (TJ6 a).2.1 ≠ (TJ6 b).2.1 := by decide +kernel
theorem tyJ6_ok : ∀ k, k < 0 → parseFieldDescriptor (TJ6 k).2.2.1 = some (tyJ6 k) := by decide +kernel
abbrev cJ6_numberOfTrailingZeros_0f7a4 : ByteArray := prog_16_method_48_code
def yJ6_numberOfTrailingZeros_0f7a4 : MethodName := ⟨RJ6, "numberOfTrailingZeros", "(I)I"⟩
def RJxab1ab : String := "java/lang/Iterable"
def TJxab1ab : u_T := fun k => match k with
  | _ => ("", "", "", false)
def tyJxab1ab : Nat → FieldType := fun k => match k with
  | _ => .int
abbrev wsJxab1ab0 : List Cond := u_ws RJxab1ab TJxab1ab 0
theorem nmJxab1ab : ∀ a, a < 0 → ∀ b, b < 0 → a ≠ b → (TJxab1ab a).2.1 ≠ (TJxab1ab b).2.1 := by decide +kernel
theorem tyJxab1ab_ok : ∀ k, k < 0 → parseFieldDescriptor (TJxab1ab k).2.2.1 = some (tyJxab1ab k) := by decide +kernel
def RJ13 : String := "java/lang/Long"
def TJ13 : u_T := fun k => match k with
  | _ => ("", "", "", false)
def tyJ13 : Nat → FieldType := fun k => match k with
  | _ => .int
abbrev wsJ130 : List Cond := u_ws RJ13 TJ13 0
theorem nmJ13 : ∀ a, a < 0 → ∀ b, b < 0 → a ≠ b → (TJ13 a).2.1 ≠ (TJ13 b).2.1 := by decide +kernel
theorem tyJ13_ok : ∀ k, k < 0 → parseFieldDescriptor (TJ13 k).2.2.1 = some (tyJ13 k) := by decide +kernel
abbrev cJ13_numberOfTrailingZeros_95d88 : ByteArray := prog_18_method_49_code
def yJ13_numberOfTrailingZeros_95d88 : MethodName := ⟨RJ13, "numberOfTrailingZeros", "(J)I"⟩
abbrev cJ13_bitCount_95d88 : ByteArray := prog_18_method_50_code
def yJ13_bitCount_95d88 : MethodName := ⟨RJ13, "bitCount", "(J)I"⟩
def RJ9 : String := "java/lang/Math"
def TJ9 : u_T := fun k => match k with
  | _ => ("", "", "", false)
def tyJ9 : Nat → FieldType := fun k => match k with
  | _ => .int
abbrev wsJ90 : List Cond := u_ws RJ9 TJ9 0
theorem nmJ9 : ∀ a, a < 0 → ∀ b, b < 0 → a ≠ b → (TJ9 a).2.1 ≠ (TJ9 b).2.1 := by decide +kernel
theorem tyJ9_ok : ∀ k, k < 0 → parseFieldDescriptor (TJ9 k).2.2.1 = some (tyJ9 k) := by decide +kernel
abbrev cJ9_max_7cf53 : ByteArray := prog_19_method_65_code
def yJ9_max_7cf53 : MethodName := ⟨RJ9, "max", "(II)I"⟩
abbrev cJ9_min_7cf53 : ByteArray := prog_19_method_69_code
def yJ9_min_7cf53 : MethodName := ⟨RJ9, "min", "(II)I"⟩
def RJ10 : String := "java/lang/System"
def TJ10 : u_T := fun k => match k with
  | _ => ("", "", "", false)
def tyJ10 : Nat → FieldType := fun k => match k with
  | _ => .int
abbrev wsJ100 : List Cond := u_ws RJ10 TJ10 0
theorem nmJ10 : ∀ a, a < 0 → ∀ b, b < 0 → a ≠ b → (TJ10 a).2.1 ≠ (TJ10 b).2.1 := by decide +kernel
theorem tyJ10_ok : ∀ k, k < 0 → parseFieldDescriptor (TJ10 k).2.2.1 = some (tyJ10 k) := by decide +kernel
def RJxa1e45 : String := "java/util/AbstractCollection"
def TJxa1e45 : u_T := fun k => match k with
  | _ => ("", "", "", false)
def tyJxa1e45 : Nat → FieldType := fun k => match k with
  | _ => .int
abbrev wsJxa1e450 : List Cond := u_ws RJxa1e45 TJxa1e45 0
theorem nmJxa1e45 : ∀ a, a < 0 → ∀ b, b < 0 → a ≠ b → (TJxa1e45 a).2.1 ≠ (TJxa1e45 b).2.1 := by decide +kernel
theorem tyJxa1e45_ok : ∀ k, k < 0 → parseFieldDescriptor (TJxa1e45 k).2.2.1 = some (tyJxa1e45 k) := by decide +kernel
abbrev cJxa1e45_init_da8c8 : ByteArray := prog_21_method_1_code
def yJxa1e45_init_da8c8 : MethodName := ⟨RJxa1e45, "<init>", "()V"⟩
def RJxc12de : String := "java/util/AbstractList"
def TJxc12de : u_T := fun k => match k with
  | _ => ("", "", "", false)
def tyJxc12de : Nat → FieldType := fun k => match k with
  | _ => .int
abbrev wsJxc12de0 : List Cond := u_ws RJxc12de TJxc12de 0
theorem nmJxc12de : ∀ a, a < 0 → ∀ b, b < 0 → a ≠ b → (TJxc12de a).2.1 ≠ (TJxc12de b).2.1 := by decide +kernel
theorem tyJxc12de_ok : ∀ k, k < 0 → parseFieldDescriptor (TJxc12de k).2.2.1 = some (tyJxc12de k) := by decide +kernel
abbrev cJxc12de_init_da8c8 : ByteArray := prog_22_method_1_code
def yJxc12de_init_da8c8 : MethodName := ⟨RJxc12de, "<init>", "()V"⟩
def RJx4a65c : String := "java/util/ArrayList"
def TJx4a65c : u_T := fun k => match k with
  | 0 => ("java/util/AbstractList", "modCount", "I", false)
  | 1 => ("java/util/ArrayList", "elementData", "[Ljava/lang/Object;", false)
  | _ => ("java/util/ArrayList", "size", "I", false)
def tyJx4a65c : Nat → FieldType := fun k => match k with
  | 0 => .int
  | 1 => .array (.object "java/lang/Object")
  | _ => .int
abbrev wsJx4a65c0 : List Cond := u_ws RJx4a65c TJx4a65c 3
theorem nmJx4a65c : ∀ a, a < 3 → ∀ b, b < 3 → a ≠ b → (TJx4a65c a).2.1 ≠ (TJx4a65c b).2.1 := by decide +kernel
theorem tyJx4a65c_ok : ∀ k, k < 3 → parseFieldDescriptor (TJx4a65c k).2.2.1 = some (tyJx4a65c k) := by decide +kernel
abbrev cJx4a65c_init_da8c8 : ByteArray := prog_23_method_2_code
def yJx4a65c_init_da8c8 : MethodName := ⟨RJx4a65c, "<init>", "()V"⟩
abbrev cJx4a65c_grow_92f84 : ByteArray := prog_23_method_6_code
def yJx4a65c_grow_92f84 : MethodName := ⟨RJx4a65c, "grow", "(I)[Ljava/lang/Object;"⟩
abbrev cJx4a65c_grow_d5877 : ByteArray := prog_23_method_7_code
def yJx4a65c_grow_d5877 : MethodName := ⟨RJx4a65c, "grow", "()[Ljava/lang/Object;"⟩
abbrev cJx4a65c_size_8abf5 : ByteArray := prog_23_method_8_code
def yJx4a65c_size_8abf5 : MethodName := ⟨RJx4a65c, "size", "()I"⟩
abbrev cJx4a65c_elementData_915e3 : ByteArray := prog_23_method_18_code
def yJx4a65c_elementData_915e3 : MethodName := ⟨RJx4a65c, "elementData", "(I)Ljava/lang/Object;"⟩
abbrev cJx4a65c_get_915e3 : ByteArray := prog_23_method_20_code
def yJx4a65c_get_915e3 : MethodName := ⟨RJx4a65c, "get", "(I)Ljava/lang/Object;"⟩
abbrev cJx4a65c_add_72be8 : ByteArray := prog_23_method_24_code
def yJx4a65c_add_72be8 : MethodName := ⟨RJx4a65c, "add", "(Ljava/lang/Object;[Ljava/lang/Object;I)V"⟩
abbrev cJx4a65c_add_9ea2d : ByteArray := prog_23_method_25_code
def yJx4a65c_add_9ea2d : MethodName := ⟨RJx4a65c, "add", "(Ljava/lang/Object;)Z"⟩
def RJ7 : String := "java/util/Arrays"
def TJ7 : u_T := fun k => match k with
  | _ => ("", "", "", false)
def tyJ7 : Nat → FieldType := fun k => match k with
  | _ => .int
abbrev wsJ70 : List Cond := u_ws RJ7 TJ7 0
theorem nmJ7 : ∀ a, a < 0 → ∀ b, b < 0 → a ≠ b → (TJ7 a).2.1 ≠ (TJ7 b).2.1 := by decide +kernel
theorem tyJ7_ok : ∀ k, k < 0 → parseFieldDescriptor (TJ7 k).2.2.1 = some (tyJ7 k) := by decide +kernel
abbrev cJ7_copyOf_1904c : ByteArray := prog_24_method_119_code
def yJ7_copyOf_1904c : MethodName := ⟨RJ7, "copyOf", "([Ljava/lang/Object;I)[Ljava/lang/Object;"⟩
abbrev cJ7_copyOf_6403c : ByteArray := prog_24_method_120_code
def yJ7_copyOf_6403c : MethodName := ⟨RJ7, "copyOf", "([Ljava/lang/Object;ILjava/lang/Class;)[Ljava/lang/Object;"⟩
def RJx5ef63 : String := "java/util/Collection"
def TJx5ef63 : u_T := fun k => match k with
  | _ => ("", "", "", false)
def tyJx5ef63 : Nat → FieldType := fun k => match k with
  | _ => .int
abbrev wsJx5ef630 : List Cond := u_ws RJx5ef63 TJx5ef63 0
theorem nmJx5ef63 : ∀ a, a < 0 → ∀ b, b < 0 → a ≠ b → (TJx5ef63 a).2.1 ≠ (TJx5ef63 b).2.1 := by decide +kernel
theorem tyJx5ef63_ok : ∀ k, k < 0 → parseFieldDescriptor (TJx5ef63 k).2.2.1 = some (tyJx5ef63 k) := by decide +kernel
def RJxbd725 : String := "java/util/List"
def TJxbd725 : u_T := fun k => match k with
  | _ => ("", "", "", false)
def tyJxbd725 : Nat → FieldType := fun k => match k with
  | _ => .int
abbrev wsJxbd7250 : List Cond := u_ws RJxbd725 TJxbd725 0
theorem nmJxbd725 : ∀ a, a < 0 → ∀ b, b < 0 → a ≠ b → (TJxbd725 a).2.1 ≠ (TJxbd725 b).2.1 := by decide +kernel
theorem tyJxbd725_ok : ∀ k, k < 0 → parseFieldDescriptor (TJxbd725 k).2.2.1 = some (tyJxbd725 k) := by decide +kernel
def RJ15 : String := "java/util/Objects"
def TJ15 : u_T := fun k => match k with
  | _ => ("", "", "", false)
def tyJ15 : Nat → FieldType := fun k => match k with
  | _ => .int
abbrev wsJ150 : List Cond := u_ws RJ15 TJ15 0
theorem nmJ15 : ∀ a, a < 0 → ∀ b, b < 0 → a ≠ b → (TJ15 a).2.1 ≠ (TJ15 b).2.1 := by decide +kernel
theorem tyJ15_ok : ∀ k, k < 0 → parseFieldDescriptor (TJ15 k).2.2.1 = some (tyJ15 k) := by decide +kernel
abbrev cJ15_checkIndex_7cf53 : ByteArray := prog_27_method_17_code
def yJ15_checkIndex_7cf53 : MethodName := ⟨RJ15, "checkIndex", "(II)I"⟩
def RJxf0a74 : String := "java/util/RandomAccess"
def TJxf0a74 : u_T := fun k => match k with
  | _ => ("", "", "", false)
def tyJxf0a74 : Nat → FieldType := fun k => match k with
  | _ => .int
abbrev wsJxf0a740 : List Cond := u_ws RJxf0a74 TJxf0a74 0
theorem nmJxf0a74 : ∀ a, a < 0 → ∀ b, b < 0 → a ≠ b → (TJxf0a74 a).2.1 ≠ (TJxf0a74 b).2.1 := by decide +kernel
theorem tyJxf0a74_ok : ∀ k, k < 0 → parseFieldDescriptor (TJxf0a74 k).2.2.1 = some (tyJxf0a74 k) := by decide +kernel
def RJxa66e6 : String := "java/util/SequencedCollection"
def TJxa66e6 : u_T := fun k => match k with
  | _ => ("", "", "", false)
def tyJxa66e6 : Nat → FieldType := fun k => match k with
  | _ => .int
abbrev wsJxa66e60 : List Cond := u_ws RJxa66e6 TJxa66e6 0
theorem nmJxa66e6 : ∀ a, a < 0 → ∀ b, b < 0 → a ≠ b → (TJxa66e6 a).2.1 ≠ (TJxa66e6 b).2.1 := by decide +kernel
theorem tyJxa66e6_ok : ∀ k, k < 0 → parseFieldDescriptor (TJxa66e6 k).2.2.1 = some (tyJxa66e6 k) := by decide +kernel
def RJ8 : String := "jdk/internal/util/ArraysSupport"
def TJ8 : u_T := fun k => match k with
  | _ => ("", "", "", false)
def tyJ8 : Nat → FieldType := fun k => match k with
  | _ => .int
abbrev wsJ80 : List Cond := u_ws RJ8 TJ8 0
theorem nmJ8 : ∀ a, a < 0 → ∀ b, b < 0 → a ≠ b → (TJ8 a).2.1 ≠ (TJ8 b).2.1 := by decide +kernel
theorem tyJ8_ok : ∀ k, k < 0 → parseFieldDescriptor (TJ8 k).2.2.1 = some (tyJ8 k) := by decide +kernel
abbrev cJ8_newLength_cabcc : ByteArray := prog_30_method_27_code
def yJ8_newLength_cabcc : MethodName := ⟨RJ8, "newLength", "(III)I"⟩
abbrev cJ8_hugeLength_7cf53 : ByteArray := prog_30_method_28_code
def yJ8_hugeLength_7cf53 : MethodName := ⟨RJ8, "hugeLength", "(II)I"⟩
def RJ3 : String := "jdk/internal/util/Preconditions"
def TJ3 : u_T := fun k => match k with
  | _ => ("", "", "", false)
def tyJ3 : Nat → FieldType := fun k => match k with
  | _ => .int
abbrev wsJ30 : List Cond := u_ws RJ3 TJ3 0
theorem nmJ3 : ∀ a, a < 0 → ∀ b, b < 0 → a ≠ b → (TJ3 a).2.1 ≠ (TJ3 b).2.1 := by decide +kernel
theorem tyJ3_ok : ∀ k, k < 0 → parseFieldDescriptor (TJ3 k).2.2.1 = some (tyJ3 k) := by decide +kernel
abbrev cJ3_checkIndex_8e157 : ByteArray := prog_31_method_11_code
def yJ3_checkIndex_8e157 : MethodName := ⟨RJ3, "checkIndex", "(IILjava/util/function/BiFunction;)I"⟩
def RL : String := "NarrowSolverLaw"
abbrev cL_law : ByteArray := code
def yL_law : MethodName := ⟨RL, "law", "([I)Z"⟩
