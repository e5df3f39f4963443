section
-- ===== PART A: goes FIRST, ahead of the names: the tables' words, and 'selects' of the private methods out of them =====
/-- a private method of a class that the tables say can be made, by its rows of tables_1 -/
def lw_okq (q : MethodName × Nat) : Prop := (q.1.cls ≠ "java/lang/invoke/MethodHandle" ∧ q.1.cls ≠ "java/lang/invoke/VarHandle") ∧ Cond.instantiable q.1.cls q.2 ∈ tables_1 ∧ Cond.privateMethod q.1 ∈ tables_1 ∧ Cond.instanceMethod q.1 ∈ tables_1
theorem lw_p0 : lw_okq (⟨"RuleEngine", "addPart", "(IIIII)I"⟩, 4) := ⟨⟨by decide +kernel, by decide +kernel⟩, List.mem_of_getElem? (i := 13) (by decide +kernel), List.mem_of_getElem? (i := 283) (by decide +kernel), List.mem_of_getElem? (i := 284) (by decide +kernel)⟩
theorem lw_p1 : lw_okq (⟨"RuleEngine", "isBadRule", "(I)Z"⟩, 4) := ⟨⟨by decide +kernel, by decide +kernel⟩, List.mem_of_getElem? (i := 13) (by decide +kernel), List.mem_of_getElem? (i := 287) (by decide +kernel), List.mem_of_getElem? (i := 288) (by decide +kernel)⟩
theorem lw_p2 : lw_okq (⟨"RuleEngine$Model", "startLevels", "(LRuleEngine$Facts;[LRuleEngine$Rule;I)I"⟩, 11) := ⟨⟨by decide +kernel, by decide +kernel⟩, List.mem_of_getElem? (i := 38) (by decide +kernel), List.mem_of_getElem? (i := 333) (by decide +kernel), List.mem_of_getElem? (i := 334) (by decide +kernel)⟩
theorem lw_p3 : lw_okq (⟨"RuleEngine$Strata", "readRule", "(LRuleEngine$Rule;)V"⟩, 5) := ⟨⟨by decide +kernel, by decide +kernel⟩, List.mem_of_getElem? (i := 44) (by decide +kernel), List.mem_of_getElem? (i := 352) (by decide +kernel), List.mem_of_getElem? (i := 353) (by decide +kernel)⟩
theorem lw_p4 : lw_okq (⟨"RuleEngine$Strata", "reachAll", "()V"⟩, 5) := ⟨⟨by decide +kernel, by decide +kernel⟩, List.mem_of_getElem? (i := 44) (by decide +kernel), List.mem_of_getElem? (i := 356) (by decide +kernel), List.mem_of_getElem? (i := 357) (by decide +kernel)⟩
theorem lw_p5 : lw_okq (⟨"RuleEngine$Strata", "leastCircle", "()I"⟩, 5) := ⟨⟨by decide +kernel, by decide +kernel⟩, List.mem_of_getElem? (i := 44) (by decide +kernel), List.mem_of_getElem? (i := 362) (by decide +kernel), List.mem_of_getElem? (i := 363) (by decide +kernel)⟩
theorem lw_p6 : lw_okq (⟨"RuleEngine$Strata", "number", "()V"⟩, 5) := ⟨⟨by decide +kernel, by decide +kernel⟩, List.mem_of_getElem? (i := 44) (by decide +kernel), List.mem_of_getElem? (i := 366) (by decide +kernel), List.mem_of_getElem? (i := 367) (by decide +kernel)⟩
theorem lw_p7 : lw_okq (⟨"RuleEngine$Strata", "leastLevel", "(I)I"⟩, 5) := ⟨⟨by decide +kernel, by decide +kernel⟩, List.mem_of_getElem? (i := 44) (by decide +kernel), List.mem_of_getElem? (i := 370) (by decide +kernel), List.mem_of_getElem? (i := 371) (by decide +kernel)⟩
theorem lw_p8 : lw_okq (⟨"RuleEngine$Model", "isDue", "(LRuleEngine$Rule;II)Z"⟩, 11) := ⟨⟨by decide +kernel, by decide +kernel⟩, List.mem_of_getElem? (i := 38) (by decide +kernel), List.mem_of_getElem? (i := 379) (by decide +kernel), List.mem_of_getElem? (i := 380) (by decide +kernel)⟩
theorem lw_p9 : lw_okq (⟨"RuleEngine$Model", "give", "(LRuleEngine$Rule;I)V"⟩, 11) := ⟨⟨by decide +kernel, by decide +kernel⟩, List.mem_of_getElem? (i := 38) (by decide +kernel), List.mem_of_getElem? (i := 384) (by decide +kernel), List.mem_of_getElem? (i := 385) (by decide +kernel)⟩
theorem lw_p10 : lw_okq (⟨"RuleEngine$Cases", "readFacts", "(LRuleEngine$Facts;IZ)V"⟩, 16) := ⟨⟨by decide +kernel, by decide +kernel⟩, List.mem_of_getElem? (i := 72) (by decide +kernel), List.mem_of_getElem? (i := 399) (by decide +kernel), List.mem_of_getElem? (i := 400) (by decide +kernel)⟩
theorem lw_p11 : lw_okq (⟨"RuleEngine$Cases", "readFilter", "(I)V"⟩, 16) := ⟨⟨by decide +kernel, by decide +kernel⟩, List.mem_of_getElem? (i := 72) (by decide +kernel), List.mem_of_getElem? (i := 404) (by decide +kernel), List.mem_of_getElem? (i := 405) (by decide +kernel)⟩
theorem lw_p12 : lw_okq (⟨"RuleEngine$Cases", "join", "(II)V"⟩, 16) := ⟨⟨by decide +kernel, by decide +kernel⟩, List.mem_of_getElem? (i := 72) (by decide +kernel), List.mem_of_getElem? (i := 408) (by decide +kernel), List.mem_of_getElem? (i := 409) (by decide +kernel)⟩
theorem lw_p13 : lw_okq (⟨"RuleEngine$Cases", "narrow", "(II)V"⟩, 16) := ⟨⟨by decide +kernel, by decide +kernel⟩, List.mem_of_getElem? (i := 72) (by decide +kernel), List.mem_of_getElem? (i := 413) (by decide +kernel), List.mem_of_getElem? (i := 414) (by decide +kernel)⟩
theorem lw_p14 : lw_okq (⟨"RuleEngine$Cases", "numbersWithThemselves", "()I"⟩, 16) := ⟨⟨by decide +kernel, by decide +kernel⟩, List.mem_of_getElem? (i := 72) (by decide +kernel), List.mem_of_getElem? (i := 417) (by decide +kernel), List.mem_of_getElem? (i := 418) (by decide +kernel)⟩
theorem lw_p15 : lw_okq (⟨"RuleEngine$Cases", "link", "(II[I)I"⟩, 16) := ⟨⟨by decide +kernel, by decide +kernel⟩, List.mem_of_getElem? (i := 72) (by decide +kernel), List.mem_of_getElem? (i := 421) (by decide +kernel), List.mem_of_getElem? (i := 422) (by decide +kernel)⟩
def lw_privs_1 : List (MethodName × Nat) := [(⟨"RuleEngine", "addPart", "(IIIII)I"⟩, 4), (⟨"RuleEngine", "isBadRule", "(I)Z"⟩, 4), (⟨"RuleEngine$Model", "startLevels", "(LRuleEngine$Facts;[LRuleEngine$Rule;I)I"⟩, 11), (⟨"RuleEngine$Strata", "readRule", "(LRuleEngine$Rule;)V"⟩, 5), (⟨"RuleEngine$Strata", "reachAll", "()V"⟩, 5), (⟨"RuleEngine$Strata", "leastCircle", "()I"⟩, 5), (⟨"RuleEngine$Strata", "number", "()V"⟩, 5), (⟨"RuleEngine$Strata", "leastLevel", "(I)I"⟩, 5), (⟨"RuleEngine$Model", "isDue", "(LRuleEngine$Rule;II)Z"⟩, 11), (⟨"RuleEngine$Model", "give", "(LRuleEngine$Rule;I)V"⟩, 11), (⟨"RuleEngine$Cases", "readFacts", "(LRuleEngine$Facts;IZ)V"⟩, 16), (⟨"RuleEngine$Cases", "readFilter", "(I)V"⟩, 16), (⟨"RuleEngine$Cases", "join", "(II)V"⟩, 16), (⟨"RuleEngine$Cases", "narrow", "(II)V"⟩, 16), (⟨"RuleEngine$Cases", "numbersWithThemselves", "()I"⟩, 16), (⟨"RuleEngine$Cases", "link", "(II[I)I"⟩, 16)]
theorem lw_r1 : ∀ q ∈ lw_privs_1, lw_okq q := List.forall_mem_cons.mpr ⟨lw_p0, List.forall_mem_cons.mpr ⟨lw_p1, List.forall_mem_cons.mpr ⟨lw_p2, List.forall_mem_cons.mpr ⟨lw_p3, List.forall_mem_cons.mpr ⟨lw_p4, List.forall_mem_cons.mpr ⟨lw_p5, List.forall_mem_cons.mpr ⟨lw_p6, List.forall_mem_cons.mpr ⟨lw_p7, List.forall_mem_cons.mpr ⟨lw_p8, List.forall_mem_cons.mpr ⟨lw_p9, List.forall_mem_cons.mpr ⟨lw_p10, List.forall_mem_cons.mpr ⟨lw_p11, List.forall_mem_cons.mpr ⟨lw_p12, List.forall_mem_cons.mpr ⟨lw_p13, List.forall_mem_cons.mpr ⟨lw_p14, List.forall_mem_cons.mpr ⟨lw_p15, fun _ h => absurd h List.not_mem_nil⟩⟩⟩⟩⟩⟩⟩⟩⟩⟩⟩⟩⟩⟩⟩⟩
theorem lw_p16 : lw_okq (⟨"RuleEngine$Cases", "begin", "(II)Z"⟩, 16) := ⟨⟨by decide +kernel, by decide +kernel⟩, List.mem_of_getElem? (i := 72) (by decide +kernel), List.mem_of_getElem? (i := 433) (by decide +kernel), List.mem_of_getElem? (i := 434) (by decide +kernel)⟩
theorem lw_p17 : lw_okq (⟨"RuleEngine$Cases", "copyLevel", "(I)V"⟩, 16) := ⟨⟨by decide +kernel, by decide +kernel⟩, List.mem_of_getElem? (i := 72) (by decide +kernel), List.mem_of_getElem? (i := 438) (by decide +kernel), List.mem_of_getElem? (i := 439) (by decide +kernel)⟩
theorem lw_p18 : lw_okq (⟨"RuleEngine$Cases", "fix", "(III)Z"⟩, 16) := ⟨⟨by decide +kernel, by decide +kernel⟩, List.mem_of_getElem? (i := 72) (by decide +kernel), List.mem_of_getElem? (i := 442) (by decide +kernel), List.mem_of_getElem? (i := 443) (by decide +kernel)⟩
theorem lw_p19 : lw_okq (⟨"RuleEngine$Cases", "foldAll", "(I)Z"⟩, 16) := ⟨⟨by decide +kernel, by decide +kernel⟩, List.mem_of_getElem? (i := 72) (by decide +kernel), List.mem_of_getElem? (i := 446) (by decide +kernel), List.mem_of_getElem? (i := 447) (by decide +kernel)⟩
theorem lw_p20 : lw_okq (⟨"RuleEngine$Cases", "linkCount", "(II)I"⟩, 16) := ⟨⟨by decide +kernel, by decide +kernel⟩, List.mem_of_getElem? (i := 72) (by decide +kernel), List.mem_of_getElem? (i := 450) (by decide +kernel), List.mem_of_getElem? (i := 451) (by decide +kernel)⟩
theorem lw_p21 : lw_okq (⟨"RuleEngine$Cases", "fold", "(II)Z"⟩, 16) := ⟨⟨by decide +kernel, by decide +kernel⟩, List.mem_of_getElem? (i := 72) (by decide +kernel), List.mem_of_getElem? (i := 460) (by decide +kernel), List.mem_of_getElem? (i := 461) (by decide +kernel)⟩
theorem lw_p22 : lw_okq (⟨"RuleEngine$Cases", "weightOf", "(I)I"⟩, 16) := ⟨⟨by decide +kernel, by decide +kernel⟩, List.mem_of_getElem? (i := 72) (by decide +kernel), List.mem_of_getElem? (i := 464) (by decide +kernel), List.mem_of_getElem? (i := 465) (by decide +kernel)⟩
theorem lw_p23 : lw_okq (⟨"RuleEngine$Cases", "weigh", "(III)V"⟩, 16) := ⟨⟨by decide +kernel, by decide +kernel⟩, List.mem_of_getElem? (i := 72) (by decide +kernel), List.mem_of_getElem? (i := 472) (by decide +kernel), List.mem_of_getElem? (i := 473) (by decide +kernel)⟩
theorem lw_p24 : lw_okq (⟨"RuleEngine$Cases", "mostLinked", "()I"⟩, 16) := ⟨⟨by decide +kernel, by decide +kernel⟩, List.mem_of_getElem? (i := 72) (by decide +kernel), List.mem_of_getElem? (i := 476) (by decide +kernel), List.mem_of_getElem? (i := 477) (by decide +kernel)⟩
theorem lw_p25 : lw_okq (⟨"RuleEngine$Cases", "gather", "(I)I"⟩, 16) := ⟨⟨by decide +kernel, by decide +kernel⟩, List.mem_of_getElem? (i := 72) (by decide +kernel), List.mem_of_getElem? (i := 480) (by decide +kernel), List.mem_of_getElem? (i := 481) (by decide +kernel)⟩
theorem lw_p26 : lw_okq (⟨"RuleEngine$Model", "keepFresh", "(I)Z"⟩, 11) := ⟨⟨by decide +kernel, by decide +kernel⟩, List.mem_of_getElem? (i := 38) (by decide +kernel), List.mem_of_getElem? (i := 493) (by decide +kernel), List.mem_of_getElem? (i := 494) (by decide +kernel)⟩
theorem lw_p27 : lw_okq (⟨"RuleEngine$Model", "keepName", "(II)V"⟩, 11) := ⟨⟨by decide +kernel, by decide +kernel⟩, List.mem_of_getElem? (i := 38) (by decide +kernel), List.mem_of_getElem? (i := 501) (by decide +kernel), List.mem_of_getElem? (i := 502) (by decide +kernel)⟩
theorem lw_p28 : lw_okq (⟨"RuleEngineModel", "isRule", "(I)Z"⟩, 26) := ⟨⟨by decide +kernel, by decide +kernel⟩, List.mem_of_getElem? (i := 547) (by decide +kernel), List.mem_of_getElem? (i := 664) (by decide +kernel), List.mem_of_getElem? (i := 665) (by decide +kernel)⟩
theorem lw_p29 : lw_okq (⟨"RuleEngineModel", "part", "(IIIII)I"⟩, 26) := ⟨⟨by decide +kernel, by decide +kernel⟩, List.mem_of_getElem? (i := 547) (by decide +kernel), List.mem_of_getElem? (i := 668) (by decide +kernel), List.mem_of_getElem? (i := 669) (by decide +kernel)⟩
theorem lw_p30 : lw_okq (⟨"RuleEngineModel", "isSafe", "(I)Z"⟩, 26) := ⟨⟨by decide +kernel, by decide +kernel⟩, List.mem_of_getElem? (i := 547) (by decide +kernel), List.mem_of_getElem? (i := 688) (by decide +kernel), List.mem_of_getElem? (i := 689) (by decide +kernel)⟩
theorem lw_p31 : lw_okq (⟨"RuleEngineModel", "isBound", "(II)Z"⟩, 26) := ⟨⟨by decide +kernel, by decide +kernel⟩, List.mem_of_getElem? (i := 547) (by decide +kernel), List.mem_of_getElem? (i := 692) (by decide +kernel), List.mem_of_getElem? (i := 693) (by decide +kernel)⟩
def lw_privs_2 : List (MethodName × Nat) := [(⟨"RuleEngine$Cases", "begin", "(II)Z"⟩, 16), (⟨"RuleEngine$Cases", "copyLevel", "(I)V"⟩, 16), (⟨"RuleEngine$Cases", "fix", "(III)Z"⟩, 16), (⟨"RuleEngine$Cases", "foldAll", "(I)Z"⟩, 16), (⟨"RuleEngine$Cases", "linkCount", "(II)I"⟩, 16), (⟨"RuleEngine$Cases", "fold", "(II)Z"⟩, 16), (⟨"RuleEngine$Cases", "weightOf", "(I)I"⟩, 16), (⟨"RuleEngine$Cases", "weigh", "(III)V"⟩, 16), (⟨"RuleEngine$Cases", "mostLinked", "()I"⟩, 16), (⟨"RuleEngine$Cases", "gather", "(I)I"⟩, 16), (⟨"RuleEngine$Model", "keepFresh", "(I)Z"⟩, 11), (⟨"RuleEngine$Model", "keepName", "(II)V"⟩, 11), (⟨"RuleEngineModel", "isRule", "(I)Z"⟩, 26), (⟨"RuleEngineModel", "part", "(IIIII)I"⟩, 26), (⟨"RuleEngineModel", "isSafe", "(I)Z"⟩, 26), (⟨"RuleEngineModel", "isBound", "(II)Z"⟩, 26)]
theorem lw_r2 : ∀ q ∈ lw_privs_2, lw_okq q := List.forall_mem_cons.mpr ⟨lw_p16, List.forall_mem_cons.mpr ⟨lw_p17, List.forall_mem_cons.mpr ⟨lw_p18, List.forall_mem_cons.mpr ⟨lw_p19, List.forall_mem_cons.mpr ⟨lw_p20, List.forall_mem_cons.mpr ⟨lw_p21, List.forall_mem_cons.mpr ⟨lw_p22, List.forall_mem_cons.mpr ⟨lw_p23, List.forall_mem_cons.mpr ⟨lw_p24, List.forall_mem_cons.mpr ⟨lw_p25, List.forall_mem_cons.mpr ⟨lw_p26, List.forall_mem_cons.mpr ⟨lw_p27, List.forall_mem_cons.mpr ⟨lw_p28, List.forall_mem_cons.mpr ⟨lw_p29, List.forall_mem_cons.mpr ⟨lw_p30, List.forall_mem_cons.mpr ⟨lw_p31, fun _ h => absurd h List.not_mem_nil⟩⟩⟩⟩⟩⟩⟩⟩⟩⟩⟩⟩⟩⟩⟩⟩
theorem lw_p32 : lw_okq (⟨"RuleEngineModel", "work", "()V"⟩, 26) := ⟨⟨by decide +kernel, by decide +kernel⟩, List.mem_of_getElem? (i := 547) (by decide +kernel), List.mem_of_getElem? (i := 700) (by decide +kernel), List.mem_of_getElem? (i := 701) (by decide +kernel)⟩
theorem lw_p33 : lw_okq (⟨"RuleEngineModel", "need", "()V"⟩, 26) := ⟨⟨by decide +kernel, by decide +kernel⟩, List.mem_of_getElem? (i := 547) (by decide +kernel), List.mem_of_getElem? (i := 704) (by decide +kernel), List.mem_of_getElem? (i := 705) (by decide +kernel)⟩
theorem lw_p34 : lw_okq (⟨"RuleEngineModel", "layer", "()V"⟩, 26) := ⟨⟨by decide +kernel, by decide +kernel⟩, List.mem_of_getElem? (i := 547) (by decide +kernel), List.mem_of_getElem? (i := 708) (by decide +kernel), List.mem_of_getElem? (i := 709) (by decide +kernel)⟩
theorem lw_p35 : lw_okq (⟨"RuleEngineModel", "spread", "(II)V"⟩, 26) := ⟨⟨by decide +kernel, by decide +kernel⟩, List.mem_of_getElem? (i := 547) (by decide +kernel), List.mem_of_getElem? (i := 712) (by decide +kernel), List.mem_of_getElem? (i := 713) (by decide +kernel)⟩
theorem lw_p36 : lw_okq (⟨"RuleEngineModel", "begin", "(I)V"⟩, 26) := ⟨⟨by decide +kernel, by decide +kernel⟩, List.mem_of_getElem? (i := 547) (by decide +kernel), List.mem_of_getElem? (i := 716) (by decide +kernel), List.mem_of_getElem? (i := 717) (by decide +kernel)⟩
theorem lw_p37 : lw_okq (⟨"RuleEngineModel", "next", "(IZ)Z"⟩, 26) := ⟨⟨by decide +kernel, by decide +kernel⟩, List.mem_of_getElem? (i := 547) (by decide +kernel), List.mem_of_getElem? (i := 720) (by decide +kernel), List.mem_of_getElem? (i := 721) (by decide +kernel)⟩
theorem lw_p38 : lw_okq (⟨"RuleEngineModel", "tell", "(II)Z"⟩, 26) := ⟨⟨by decide +kernel, by decide +kernel⟩, List.mem_of_getElem? (i := 547) (by decide +kernel), List.mem_of_getElem? (i := 724) (by decide +kernel), List.mem_of_getElem? (i := 725) (by decide +kernel)⟩
theorem lw_p39 : lw_okq (⟨"RuleEngineModel", "passes", "(I)Z"⟩, 26) := ⟨⟨by decide +kernel, by decide +kernel⟩, List.mem_of_getElem? (i := 547) (by decide +kernel), List.mem_of_getElem? (i := 728) (by decide +kernel), List.mem_of_getElem? (i := 729) (by decide +kernel)⟩
theorem lw_p40 : lw_okq (⟨"RuleEngineModel", "valueOf", "(I)I"⟩, 26) := ⟨⟨by decide +kernel, by decide +kernel⟩, List.mem_of_getElem? (i := 547) (by decide +kernel), List.mem_of_getElem? (i := 732) (by decide +kernel), List.mem_of_getElem? (i := 733) (by decide +kernel)⟩
theorem lw_p41 : lw_okq (⟨"RuleEngineModel", "isOld", "(I)Z"⟩, 26) := ⟨⟨by decide +kernel, by decide +kernel⟩, List.mem_of_getElem? (i := 547) (by decide +kernel), List.mem_of_getElem? (i := 736) (by decide +kernel), List.mem_of_getElem? (i := 737) (by decide +kernel)⟩
theorem lw_p42 : lw_okq (⟨"RuleEngineModel", "give", "(II)V"⟩, 26) := ⟨⟨by decide +kernel, by decide +kernel⟩, List.mem_of_getElem? (i := 547) (by decide +kernel), List.mem_of_getElem? (i := 740) (by decide +kernel), List.mem_of_getElem? (i := 741) (by decide +kernel)⟩
def lw_privs_3 : List (MethodName × Nat) := [(⟨"RuleEngineModel", "work", "()V"⟩, 26), (⟨"RuleEngineModel", "need", "()V"⟩, 26), (⟨"RuleEngineModel", "layer", "()V"⟩, 26), (⟨"RuleEngineModel", "spread", "(II)V"⟩, 26), (⟨"RuleEngineModel", "begin", "(I)V"⟩, 26), (⟨"RuleEngineModel", "next", "(IZ)Z"⟩, 26), (⟨"RuleEngineModel", "tell", "(II)Z"⟩, 26), (⟨"RuleEngineModel", "passes", "(I)Z"⟩, 26), (⟨"RuleEngineModel", "valueOf", "(I)I"⟩, 26), (⟨"RuleEngineModel", "isOld", "(I)Z"⟩, 26), (⟨"RuleEngineModel", "give", "(II)V"⟩, 26)]
theorem lw_r3 : ∀ q ∈ lw_privs_3, lw_okq q := List.forall_mem_cons.mpr ⟨lw_p32, List.forall_mem_cons.mpr ⟨lw_p33, List.forall_mem_cons.mpr ⟨lw_p34, List.forall_mem_cons.mpr ⟨lw_p35, List.forall_mem_cons.mpr ⟨lw_p36, List.forall_mem_cons.mpr ⟨lw_p37, List.forall_mem_cons.mpr ⟨lw_p38, List.forall_mem_cons.mpr ⟨lw_p39, List.forall_mem_cons.mpr ⟨lw_p40, List.forall_mem_cons.mpr ⟨lw_p41, List.forall_mem_cons.mpr ⟨lw_p42, fun _ h => absurd h List.not_mem_nil⟩⟩⟩⟩⟩⟩⟩⟩⟩⟩⟩
def lw_privs : List (MethodName × Nat) := lw_privs_1 ++ (lw_privs_2 ++ (lw_privs_3))
def lw_tbl : List Cond := k2_sels lw_privs ++ tables_1
theorem lw_privs_ok : ∀ q ∈ lw_privs, lw_okq q := by
  show ∀ q ∈ lw_privs_1 ++ (lw_privs_2 ++ (lw_privs_3)), lw_okq q
  exact List.forall_mem_append.mpr ⟨lw_r1, List.forall_mem_append.mpr ⟨lw_r2, lw_r3⟩⟩
-- ===== end of PART A =====
-- ===== THE TABLES of the small machine: laid by program out of the Statement =====
/-- the words that stay true in every call -/
def vt_T : List Jvm.Cond := lw_tbl.filter goodWord
theorem vt_T_in : ∀ w ∈ vt_T, w ∈ lw_tbl := fun _ h => (List.mem_filter.mp h).1
def vt_host : String := "RuleEngine"
/-- the links between nest mates -/
def vt_NL : List (String × Nat × MethodName) := [("RuleEngine", 11, ⟨"RuleEngine$Facts", "<init>", "()V"⟩), ("RuleEngine", 18, ⟨"RuleEngine$Model", "<init>", "()V"⟩), ("RuleEngine$Model", 21, ⟨"RuleEngine$Strata", "<init>", "()V"⟩), ("RuleEngine$Model", 28, ⟨"RuleEngine$Facts", "<init>", "()V"⟩), ("RuleEngine$Model", 35, ⟨"RuleEngine$Cases", "<init>", "()V"⟩), ("RuleEngine", 29, ⟨"RuleEngine$Rule", "<init>", "()V"⟩), ("RuleEngine$Facts", 18, ⟨"RuleEngine", "isIn", "(II)Z"⟩), ("RuleEngine$Rule", 51, ⟨"RuleEngine", "variableOf", "(I)I"⟩), ("RuleEngine$Strata", 75, ⟨"RuleEngine", "isIn", "(II)Z"⟩), ("RuleEngine$Model", 118, ⟨"RuleEngine", "isIn", "(II)Z"⟩), ("RuleEngine$Cases", 65, ⟨"RuleEngine", "variableOf", "(I)I"⟩), ("RuleEngine$Cases", 119, ⟨"RuleEngine", "isIn", "(II)Z"⟩), ("RuleEngine$Cases", 174, ⟨"RuleEngine", "leastOf", "(I)I"⟩), ("RuleEngine$Facts", 32, ⟨"RuleEngine", "leastOf", "(I)I"⟩)]
def vt_T0 : u_T := fun k => match k with
  | 0 => ("RuleEngine$Cases", "links", "[I", true)
  | 1 => ("RuleEngine$Cases", "near", "[I", true)
  | 2 => ("RuleEngine$Cases", "forth", "[I", true)
  | 3 => ("RuleEngine$Cases", "back", "[I", true)
  | 4 => ("RuleEngine$Cases", "free", "[I", true)
  | 5 => ("RuleEngine$Cases", "times", "[I", true)
  | 6 => ("RuleEngine$Cases", "range", "[I", true)
  | 7 => ("RuleEngine$Cases", "weight", "[I", true)
  | 8 => ("RuleEngine$Cases", "sums", "[I", true)
  | 9 => ("RuleEngine$Cases", "tally", "[I", true)
  | 10 => ("RuleEngine$Cases", "counting", "Z", false)
  | 11 => ("RuleEngine$Cases", "impossible", "Z", false)
  | 12 => ("RuleEngine$Cases", "first", "I", false)
  | 13 => ("RuleEngine$Cases", "second", "I", false)
  | 14 => ("RuleEngine$Cases", "kept", "I", false)
  | _ => ("RuleEngine$Cases", "keptNumber", "I", false)
def vt_ty0 : Nat → FieldType := fun k => match k with
  | 0 => .array .int
  | 1 => .array .int
  | 2 => .array .int
  | 3 => .array .int
  | 4 => .array .int
  | 5 => .array .int
  | 6 => .array .int
  | 7 => .array .int
  | 8 => .array .int
  | 9 => .array .int
  | 10 => .boolean
  | 11 => .boolean
  | 12 => .int
  | 13 => .int
  | 14 => .int
  | _ => .int
def vt_T1 : u_T := fun k => match k with
  | 0 => ("RuleEngine$Facts", "seconds", "[I", true)
  | _ => ("RuleEngine$Facts", "firsts", "[I", true)
def vt_ty1 : Nat → FieldType := fun k => match k with
  | 0 => .array .int
  | _ => .array .int
def vt_T2 : u_T := fun k => match k with
  | 0 => ("RuleEngine$Model", "stale", "Z", false)
  | 1 => ("RuleEngine$Model", "roundCount", "I", false)
  | 2 => ("RuleEngine$Model", "strata", "LRuleEngine$Strata;", true)
  | 3 => ("RuleEngine$Model", "held", "LRuleEngine$Facts;", true)
  | 4 => ("RuleEngine$Model", "cases", "LRuleEngine$Cases;", true)
  | 5 => ("RuleEngine$Model", "rounds", "[[I", true)
  | 6 => ("RuleEngine$Model", "ruleLevel", "[I", true)
  | 7 => ("RuleEngine$Model", "last", "LRuleEngine$Facts;", false)
  | 8 => ("RuleEngine$Model", "fresh", "LRuleEngine$Facts;", false)
  | 9 => ("RuleEngine$Model", "lastNames", "I", false)
  | _ => ("RuleEngine$Model", "freshNames", "I", false)
def vt_ty2 : Nat → FieldType := fun k => match k with
  | 0 => .boolean
  | 1 => .int
  | 2 => .object "RuleEngine$Strata"
  | 3 => .object "RuleEngine$Facts"
  | 4 => .object "RuleEngine$Cases"
  | 5 => .array (.array .int)
  | 6 => .array .int
  | 7 => .object "RuleEngine$Facts"
  | 8 => .object "RuleEngine$Facts"
  | 9 => .int
  | _ => .int
def vt_T3 : u_T := fun k => match k with
  | 0 => ("RuleEngine$Rule", "name", "I", false)
  | 1 => ("RuleEngine$Rule", "x", "I", false)
  | 2 => ("RuleEngine$Rule", "y", "I", false)
  | 3 => ("RuleEngine$Rule", "kind", "I", false)
  | 4 => ("RuleEngine$Rule", "variable", "I", false)
  | 5 => ("RuleEngine$Rule", "size", "I", false)
  | 6 => ("RuleEngine$Rule", "does", "[I", true)
  | 7 => ("RuleEngine$Rule", "names", "[I", true)
  | 8 => ("RuleEngine$Rule", "xs", "[I", true)
  | _ => ("RuleEngine$Rule", "ys", "[I", true)
def vt_ty3 : Nat → FieldType := fun k => match k with
  | 0 => .int
  | 1 => .int
  | 2 => .int
  | 3 => .int
  | 4 => .int
  | 5 => .int
  | 6 => .array .int
  | 7 => .array .int
  | 8 => .array .int
  | _ => .array .int
def vt_T4 : u_T := fun k => match k with
  | 0 => ("RuleEngine$Strata", "needs", "[I", true)
  | 1 => ("RuleEngine$Strata", "strict", "[I", true)
  | 2 => ("RuleEngine$Strata", "reach", "[I", true)
  | 3 => ("RuleEngine$Strata", "level", "[I", true)
  | _ => ("RuleEngine$Strata", "circle", "I", false)
def vt_ty4 : Nat → FieldType := fun k => match k with
  | 0 => .array .int
  | 1 => .array .int
  | 2 => .array .int
  | 3 => .array .int
  | _ => .int
def vt_T5 : u_T := fun k => match k with
  | 0 => ("RuleEngine", "said", "LRuleEngine$Facts;", true)
  | 1 => ("RuleEngine", "rules", "[LRuleEngine$Rule;", true)
  | 2 => ("RuleEngine", "model", "LRuleEngine$Model;", true)
  | _ => ("RuleEngine", "ruleCount", "I", false)
def vt_ty5 : Nat → FieldType := fun k => match k with
  | 0 => .object "RuleEngine$Facts"
  | 1 => .array (.object "RuleEngine$Rule")
  | 2 => .object "RuleEngine$Model"
  | _ => .int
def vt_T6 : u_T := fun k => match k with
  | 0 => ("RuleEngineModel", "said", "[Z", true)
  | 1 => ("RuleEngineModel", "heads", "[I", true)
  | 2 => ("RuleEngineModel", "kinds", "[I", true)
  | 3 => ("RuleEngineModel", "folded", "[I", true)
  | 4 => ("RuleEngineModel", "lengths", "[I", true)
  | 5 => ("RuleEngineModel", "parts", "[I", true)
  | 6 => ("RuleEngineModel", "rules", "I", false)
  | 7 => ("RuleEngineModel", "known", "Z", false)
  | 8 => ("RuleEngineModel", "rounds", "[I", true)
  | 9 => ("RuleEngineModel", "given", "[I", true)
  | 10 => ("RuleEngineModel", "strata", "[I", true)
  | 11 => ("RuleEngineModel", "circle", "I", false)
  | 12 => ("RuleEngineModel", "turns", "I", false)
  | 13 => ("RuleEngineModel", "needs", "[I", true)
  | 14 => ("RuleEngineModel", "comes", "[Z", true)
  | 15 => ("RuleEngineModel", "values", "[I", true)
  | 16 => ("RuleEngineModel", "plain", "[I", true)
  | 17 => ("RuleEngineModel", "plainCount", "I", false)
  | 18 => ("RuleEngineModel", "pointers", "[I", true)
  | 19 => ("RuleEngineModel", "now", "I", false)
  | 20 => ("RuleEngineModel", "fresh", "[I", true)
  | 21 => ("RuleEngineModel", "many", "[I", true)
  | 22 => ("RuleEngineModel", "sums", "[I", true)
  | 23 => ("RuleEngineModel", "lows", "[I", true)
  | 24 => ("RuleEngineModel", "highs", "[I", true)
  | _ => ("RuleEngineModel", "layed", "I", false)
def vt_ty6 : Nat → FieldType := fun k => match k with
  | 0 => .array .boolean
  | 1 => .array .int
  | 2 => .array .int
  | 3 => .array .int
  | 4 => .array .int
  | 5 => .array .int
  | 6 => .int
  | 7 => .boolean
  | 8 => .array .int
  | 9 => .array .int
  | 10 => .array .int
  | 11 => .int
  | 12 => .int
  | 13 => .array .int
  | 14 => .array .boolean
  | 15 => .array .int
  | 16 => .array .int
  | 17 => .int
  | 18 => .array .int
  | 19 => .int
  | 20 => .array .int
  | 21 => .array .int
  | 22 => .array .int
  | 23 => .array .int
  | 24 => .array .int
  | _ => .int
/-- the classes: name, fields, how many -/
def vt_cl : List vw_C := [("RuleEngine$Cases", vt_T0, 16), ("RuleEngine$Facts", vt_T1, 2), ("RuleEngine$Model", vt_T2, 11), ("RuleEngine$Rule", vt_T3, 10), ("RuleEngine$Strata", vt_T4, 5), ("RuleEngine", vt_T5, 4), ("RuleEngineModel", vt_T6, 26)]
def vt_ty (ci k : Nat) : FieldType := match ci with
  | 0 => vt_ty0 k
  | 1 => vt_ty1 k
  | 2 => vt_ty2 k
  | 3 => vt_ty3 k
  | 4 => vt_ty4 k
  | 5 => vt_ty5 k
  | _ => vt_ty6 k
def vt_isobj : FieldType → Bool
  | .object _ => true
  | .array _ => true
  | _ => false
/-- is a field a reference -/
def vt_ref (ci k : Nat) : Bool := vt_isobj (vt_ty ci k)
/-- the kinds of arrays -/
def vt_aks : List (Nat × FieldType) := [(1, .int), (2, .object "RuleEngine$Rule"), (3, .array .int), (4, .boolean)]
def vt_ak (a : Nat) : Option FieldType := vt_aks.lookup a
/-- a method: name, bytes, locals, result -/
abbrev vt_M : Type := MethodName × ByteArray × Nat × Option FieldType
def vt_ml0 : List vt_M := [
  (⟨"RuleEngineLaw", "law", "([I)Z"⟩, code, 4, (some .boolean)),
  (⟨"RuleEngine", "<init>", "()V"⟩, prog_1_method_1_code, 2, none),
  (⟨"RuleEngine$Facts", "<init>", "()V"⟩, prog_3_method_1_code, 1, none),
  (⟨"RuleEngine$Model", "<init>", "()V"⟩, prog_4_method_1_code, 1, none),
  (⟨"RuleEngine$Strata", "<init>", "()V"⟩, prog_6_method_1_code, 1, none),
  (⟨"RuleEngine$Cases", "<init>", "()V"⟩, prog_2_method_1_code, 1, none),
  (⟨"RuleEngine$Rule", "<init>", "()V"⟩, prog_5_method_1_code, 1, none),
  (⟨"RuleEngine", "fact", "(III)I"⟩, prog_1_method_2_code, 4, (some .int)),
  (⟨"RuleEngine", "isBadFact", "(III)Z"⟩, prog_1_method_21_code, 3, (some .boolean)),
  (⟨"RuleEngine", "isBadName", "(I)Z"⟩, prog_1_method_19_code, 1, (some .boolean)),
  (⟨"RuleEngine$Facts", "has", "(III)Z"⟩, prog_3_method_2_code, 4, (some .boolean)),
  (⟨"RuleEngine", "isIn", "(II)Z"⟩, prog_1_method_23_code, 2, (some .boolean)),
  (⟨"RuleEngine$Facts", "add", "(III)V"⟩, prog_3_method_3_code, 4, none),
  (⟨"RuleEngine", "remove", "(III)I"⟩, prog_1_method_3_code, 4, (some .int)),
  (⟨"RuleEngine$Facts", "cut", "(III)V"⟩, prog_3_method_4_code, 4, none),
  (⟨"RuleEngine", "rule", "(III)I"⟩, prog_1_method_4_code, 4, (some .int)),
  (⟨"RuleEngine", "isBadItem", "(I)Z"⟩, prog_1_method_20_code, 1, (some .boolean)),
  (⟨"RuleEngine$Rule", "start", "(III)V"⟩, prog_5_method_2_code, 4, none),
  (⟨"RuleEngine", "body", "(IIIIZ)I"⟩, prog_1_method_5_code, 6, (some .int)),
  (⟨"RuleEngine", "addPart", "(IIIII)I"⟩, prog_1_method_17_code, 6, (some .int)),
  (⟨"RuleEngine", "isBadRule", "(I)Z"⟩, prog_1_method_18_code, 2, (some .boolean)),
  (⟨"RuleEngine$Rule", "addPart", "(IIII)V"⟩, prog_5_method_3_code, 5, none),
  (⟨"RuleEngine", "filter", "(IIII)I"⟩, prog_1_method_6_code, 5, (some .int)),
  (⟨"RuleEngine", "aggregate", "(III)I"⟩, prog_1_method_7_code, 4, (some .int)),
  (⟨"RuleEngine", "drop", "(I)I"⟩, prog_1_method_8_code, 4, (some .int)),
  (⟨"RuleEngine", "safe", "(I)I"⟩, prog_1_method_9_code, 2, (some .int)),
  (⟨"RuleEngine$Rule", "isSafe", "()Z"⟩, prog_5_method_6_code, 4, (some .boolean)),
  (⟨"RuleEngine$Rule", "secondItem", "()I"⟩, prog_5_method_4_code, 1, (some .int)),
  (⟨"RuleEngine$Rule", "variables", "(II)I"⟩, prog_5_method_7_code, 3, (some .int)),
  (⟨"RuleEngine", "variableOf", "(I)I"⟩, prog_1_method_22_code, 1, (some .int))]
def vt_ml1 : List vt_M := [
  (⟨"RuleEngine", "run", "()I"⟩, prog_1_method_10_code, 2, (some .int)),
  (⟨"RuleEngine$Model", "settle", "(LRuleEngine$Facts;[LRuleEngine$Rule;I)V"⟩, prog_4_method_2_code, 10, none),
  (⟨"RuleEngine$Model", "startLevels", "(LRuleEngine$Facts;[LRuleEngine$Rule;I)I"⟩, prog_4_method_3_code, 6, (some .int)),
  (⟨"RuleEngine$Facts", "takeAll", "(LRuleEngine$Facts;)V"⟩, prog_3_method_6_code, 2, none),
  (⟨"RuleEngine$Strata", "read", "([LRuleEngine$Rule;I)V"⟩, prog_6_method_2_code, 4, none),
  (⟨"java/util/Arrays", "fill", "([II)V"⟩, prog_12_method_103_code, 4, none),
  (⟨"RuleEngine$Strata", "readRule", "(LRuleEngine$Rule;)V"⟩, prog_6_method_3_code, 4, none),
  (⟨"RuleEngine$Strata", "reachAll", "()V"⟩, prog_6_method_4_code, 3, none),
  (⟨"RuleEngine$Strata", "leastCircle", "()I"⟩, prog_6_method_5_code, 3, (some .int)),
  (⟨"RuleEngine$Strata", "number", "()V"⟩, prog_6_method_6_code, 5, none),
  (⟨"RuleEngine$Strata", "leastLevel", "(I)I"⟩, prog_6_method_7_code, 4, (some .int)),
  (⟨"java/lang/Math", "max", "(II)I"⟩, prog_10_method_65_code, 2, (some .int)),
  (⟨"RuleEngine$Model", "isDue", "(LRuleEngine$Rule;II)Z"⟩, prog_4_method_4_code, 4, (some .boolean)),
  (⟨"RuleEngine$Model", "give", "(LRuleEngine$Rule;I)V"⟩, prog_4_method_5_code, 8, none),
  (⟨"RuleEngine$Rule", "isTallied", "()Z"⟩, prog_5_method_5_code, 1, (some .boolean)),
  (⟨"RuleEngine$Cases", "load", "(LRuleEngine$Rule;LRuleEngine$Facts;LRuleEngine$Facts;IZ)V"⟩, prog_2_method_2_code, 7, none),
  (⟨"RuleEngine$Cases", "readFacts", "(LRuleEngine$Facts;IZ)V"⟩, prog_2_method_3_code, 5, none),
  (⟨"RuleEngine$Cases", "readFilter", "(I)V"⟩, prog_2_method_4_code, 4, none),
  (⟨"RuleEngine$Cases", "join", "(II)V"⟩, prog_2_method_5_code, 3, none),
  (⟨"RuleEngine$Cases", "narrow", "(II)V"⟩, prog_2_method_6_code, 3, none),
  (⟨"RuleEngine$Cases", "numbersWithThemselves", "()I"⟩, prog_2_method_7_code, 3, (some .int)),
  (⟨"RuleEngine$Cases", "link", "(II[I)I"⟩, prog_2_method_8_code, 8, (some .int)),
  (⟨"RuleEngine$Cases", "firstNumbers", "()I"⟩, prog_2_method_9_code, 1, (some .int)),
  (⟨"RuleEngine$Cases", "find", "(II)I"⟩, prog_2_method_10_code, 8, (some .int)),
  (⟨"RuleEngine$Cases", "begin", "(II)Z"⟩, prog_2_method_11_code, 3, (some .boolean)),
  (⟨"RuleEngine$Cases", "copyLevel", "(I)V"⟩, prog_2_method_12_code, 4, none),
  (⟨"RuleEngine$Cases", "fix", "(III)Z"⟩, prog_2_method_13_code, 6, (some .boolean)),
  (⟨"RuleEngine$Cases", "foldAll", "(I)Z"⟩, prog_2_method_14_code, 5, (some .boolean)),
  (⟨"RuleEngine$Cases", "linkCount", "(II)I"⟩, prog_2_method_15_code, 3, (some .int)),
  (⟨"java/lang/Integer", "bitCount", "(I)I"⟩, prog_9_method_49_code, 1, (some .int))]
def vt_ml2 : List vt_M := [
  (⟨"RuleEngine$Cases", "fold", "(II)Z"⟩, prog_2_method_17_code, 11, (some .boolean)),
  (⟨"RuleEngine$Cases", "weightOf", "(I)I"⟩, prog_2_method_18_code, 4, (some .int)),
  (⟨"RuleEngine", "leastOf", "(I)I"⟩, prog_1_method_24_code, 1, (some .int)),
  (⟨"RuleEngine$Cases", "weigh", "(III)V"⟩, prog_2_method_19_code, 7, none),
  (⟨"RuleEngine$Cases", "mostLinked", "()I"⟩, prog_2_method_16_code, 3, (some .int)),
  (⟨"RuleEngine$Cases", "gather", "(I)I"⟩, prog_2_method_20_code, 4, (some .int)),
  (⟨"RuleEngine$Cases", "total", "(II)I"⟩, prog_2_method_21_code, 5, (some .int)),
  (⟨"RuleEngine$Facts", "addAll", "(III)V"⟩, prog_3_method_5_code, 5, none),
  (⟨"RuleEngine$Model", "keepFresh", "(I)Z"⟩, prog_4_method_8_code, 3, (some .boolean)),
  (⟨"RuleEngine$Facts", "clear", "(I)V"⟩, prog_3_method_7_code, 3, none),
  (⟨"RuleEngine$Model", "keepName", "(II)V"⟩, prog_4_method_9_code, 6, none),
  (⟨"RuleEngine", "stratum", "(I)I"⟩, prog_1_method_11_code, 2, (some .int)),
  (⟨"RuleEngine", "holds", "(III)I"⟩, prog_1_method_12_code, 4, (some .int)),
  (⟨"RuleEngine", "round", "(III)I"⟩, prog_1_method_13_code, 4, (some .int)),
  (⟨"RuleEngine$Model", "roundOf", "(III)I"⟩, prog_4_method_7_code, 5, (some .int)),
  (⟨"RuleEngine", "counts", "(III)I"⟩, prog_1_method_14_code, 7, (some .int)),
  (⟨"RuleEngine$Model", "timesGiven", "(LRuleEngine$Rule;II)I"⟩, prog_4_method_6_code, 5, (some .int)),
  (⟨"RuleEngine", "row", "(I)I"⟩, prog_1_method_15_code, 2, (some .int)),
  (⟨"RuleEngine$Facts", "codeFrom", "(I)I"⟩, prog_3_method_8_code, 5, (some .int)),
  (⟨"RuleEngine", "size", "()I"⟩, prog_1_method_16_code, 1, (some .int)),
  (⟨"RuleEngine$Facts", "total", "()I"⟩, prog_3_method_9_code, 3, (some .int)),
  (⟨"RuleEngineModel", "<init>", "()V"⟩, prog_8_method_1_code, 1, none),
  (⟨"RuleEngineModel", "fact", "(III)I"⟩, prog_8_method_7_code, 4, (some .int)),
  (⟨"RuleEngineModel", "isFact", "(III)Z"⟩, prog_8_method_5_code, 3, (some .boolean)),
  (⟨"RuleEngineModel", "isName", "(I)Z"⟩, prog_8_method_2_code, 1, (some .boolean)),
  (⟨"RuleEngineModel", "isNumber", "(I)Z"⟩, prog_8_method_3_code, 1, (some .boolean)),
  (⟨"RuleEngineModel", "code", "(III)I"⟩, prog_8_method_6_code, 3, (some .int)),
  (⟨"RuleEngineModel", "remove", "(III)I"⟩, prog_8_method_8_code, 4, (some .int)),
  (⟨"RuleEngineModel", "rule", "(III)I"⟩, prog_8_method_10_code, 4, (some .int)),
  (⟨"RuleEngineModel", "isItem", "(I)Z"⟩, prog_8_method_4_code, 1, (some .boolean))]
def vt_ml3 : List vt_M := [
  (⟨"RuleEngineModel", "body", "(IIIIZ)I"⟩, prog_8_method_12_code, 6, (some .int)),
  (⟨"RuleEngineModel", "isRule", "(I)Z"⟩, prog_8_method_9_code, 2, (some .boolean)),
  (⟨"RuleEngineModel", "part", "(IIIII)I"⟩, prog_8_method_11_code, 7, (some .int)),
  (⟨"RuleEngineModel", "filter", "(IIII)I"⟩, prog_8_method_13_code, 5, (some .int)),
  (⟨"RuleEngineModel", "aggregate", "(III)I"⟩, prog_8_method_14_code, 4, (some .int)),
  (⟨"RuleEngineModel", "drop", "(I)I"⟩, prog_8_method_15_code, 4, (some .int)),
  (⟨"RuleEngineModel", "safe", "(I)I"⟩, prog_8_method_18_code, 2, (some .int)),
  (⟨"RuleEngineModel", "isSafe", "(I)Z"⟩, prog_8_method_17_code, 5, (some .boolean)),
  (⟨"RuleEngineModel", "isBound", "(II)Z"⟩, prog_8_method_16_code, 6, (some .boolean)),
  (⟨"RuleEngineModel", "run", "()I"⟩, prog_8_method_30_code, 1, (some .int)),
  (⟨"RuleEngineModel", "work", "()V"⟩, prog_8_method_29_code, 4, none),
  (⟨"RuleEngineModel", "need", "()V"⟩, prog_8_method_19_code, 6, none),
  (⟨"RuleEngineModel", "layer", "()V"⟩, prog_8_method_20_code, 4, none),
  (⟨"RuleEngineModel", "spread", "(II)V"⟩, prog_8_method_28_code, 8, none),
  (⟨"RuleEngineModel", "begin", "(I)V"⟩, prog_8_method_24_code, 3, none),
  (⟨"RuleEngineModel", "next", "(IZ)Z"⟩, prog_8_method_25_code, 6, (some .boolean)),
  (⟨"RuleEngineModel", "tell", "(II)Z"⟩, prog_8_method_23_code, 9, (some .boolean)),
  (⟨"RuleEngineModel", "passes", "(I)Z"⟩, prog_8_method_26_code, 7, (some .boolean)),
  (⟨"RuleEngineModel", "valueOf", "(I)I"⟩, prog_8_method_21_code, 2, (some .int)),
  (⟨"RuleEngineModel", "isOld", "(I)Z"⟩, prog_8_method_22_code, 2, (some .boolean)),
  (⟨"RuleEngineModel", "give", "(II)V"⟩, prog_8_method_27_code, 3, none),
  (⟨"RuleEngineModel", "stratum", "(I)I"⟩, prog_8_method_31_code, 2, (some .int)),
  (⟨"RuleEngineModel", "holds", "(III)I"⟩, prog_8_method_32_code, 5, (some .int)),
  (⟨"RuleEngineModel", "round", "(III)I"⟩, prog_8_method_33_code, 5, (some .int)),
  (⟨"RuleEngineModel", "counts", "(III)I"⟩, prog_8_method_34_code, 4, (some .int)),
  (⟨"RuleEngineModel", "row", "(I)I"⟩, prog_8_method_35_code, 3, (some .int)),
  (⟨"RuleEngineModel", "size", "()I"⟩, prog_8_method_36_code, 3, (some .int))]
def vt_ml : List vt_M := vt_ml0 ++ (vt_ml1 ++ (vt_ml2 ++ (vt_ml3)))
def vt_m (a : Nat) : vt_M := vt_ml.getD a (⟨"", "", ""⟩, ⟨#[]⟩, 0, none)
/-- of a method: static 0, virtual 1, constructor 2; parameters; places of its words -/
def vt_mxl : List (Nat × Nat × Nat × Nat × Nat × Nat) := [(9, 0, 0, 0, 0, 0), (2, 0, 59, 44, 58, 0), (2, 0, 67, 45, 66, 0), (2, 0, 84, 46, 83, 0), (2, 0, 90, 47, 89, 0), (2, 0, 118, 48, 117, 0), (2, 0, 215, 49, 214, 0), (1, 3, 284, 44, 282, 283), (0, 3, 287, 44, 286, 0), (0, 1, 290, 44, 289, 0), (1, 3, 294, 45, 292, 293), (0, 2, 297, 44, 296, 0), (1, 3, 301, 45, 299, 300), (1, 3, 305, 44, 303, 304), (1, 3, 309, 45, 307, 308), (1, 3, 313, 44, 311, 312), (0, 1, 316, 44, 315, 0), (1, 3, 320, 49, 318, 319), (1, 5, 324, 44, 322, 323), (1, 5, 328, 44, 327, 0), (1, 1, 332, 44, 331, 1), (1, 4, 336, 49, 334, 335), (1, 4, 340, 44, 338, 339), (1, 3, 344, 44, 342, 343), (1, 1, 348, 44, 346, 347), (1, 1, 352, 44, 350, 351), (1, 0, 356, 49, 354, 355), (1, 0, 360, 49, 358, 359), (0, 2, 363, 49, 362, 0), (0, 1, 366, 44, 365, 0), (1, 0, 370, 44, 368, 369), (1, 3, 374, 46, 372, 373), (1, 3, 378, 46, 377, 2), (1, 1, 382, 45, 380, 381), (1, 2, 389, 47, 387, 388), (0, 2, 392, 52, 391, 0), (1, 1, 397, 47, 396, 3), (1, 0, 401, 47, 400, 4), (1, 0, 407, 47, 406, 5), (1, 0, 411, 47, 410, 6), (1, 1, 415, 47, 414, 7), (0, 2, 418, 53, 417, 0), (1, 3, 424, 46, 423, 8), (1, 2, 429, 46, 428, 9), (1, 0, 433, 49, 431, 432), (1, 5, 437, 48, 435, 436), (1, 3, 444, 48, 443, 10), (1, 1, 449, 48, 448, 11), (1, 2, 453, 48, 452, 12), (1, 2, 458, 48, 457, 13), (1, 0, 462, 48, 461, 14), (1, 3, 466, 48, 465, 15), (1, 0, 470, 48, 468, 469), (1, 2, 474, 48, 472, 473), (1, 2, 478, 48, 477, 16), (1, 1, 483, 48, 482, 17), (1, 3, 487, 48, 486, 18), (1, 1, 491, 48, 490, 19), (1, 2, 495, 48, 494, 20), (0, 1, 498, 54, 497, 0), (1, 2, 505, 48, 504, 21), (1, 1, 509, 48, 508, 22), (0, 1, 512, 44, 511, 0), (1, 3, 517, 48, 516, 23), (1, 0, 521, 48, 520, 24), (1, 1, 525, 48, 524, 25), (1, 2, 529, 48, 527, 528), (1, 3, 533, 45, 531, 532), (1, 1, 538, 46, 537, 26), (1, 1, 542, 45, 540, 541), (1, 2, 546, 46, 545, 27), (1, 1, 550, 44, 548, 549), (1, 3, 554, 44, 552, 553), (1, 3, 558, 44, 556, 557), (1, 3, 562, 46, 560, 561), (1, 3, 566, 44, 564, 565), (1, 3, 570, 46, 568, 569), (1, 1, 574, 44, 572, 573), (1, 1, 578, 45, 576, 577), (1, 0, 583, 44, 581, 582), (1, 0, 587, 45, 585, 586), (2, 0, 593, 50, 592, 0), (1, 3, 678, 50, 676, 677), (0, 3, 681, 50, 680, 0), (0, 1, 684, 50, 683, 0), (0, 1, 687, 50, 686, 0), (0, 3, 690, 50, 689, 0), (1, 3, 694, 50, 692, 693), (1, 3, 698, 50, 696, 697), (0, 1, 701, 50, 700, 0), (1, 5, 705, 50, 703, 704), (1, 1, 709, 50, 708, 28), (1, 5, 713, 50, 712, 29), (1, 4, 717, 50, 715, 716), (1, 3, 721, 50, 719, 720), (1, 1, 725, 50, 723, 724), (1, 1, 729, 50, 727, 728), (1, 1, 733, 50, 732, 30), (1, 2, 737, 50, 736, 31), (1, 0, 741, 50, 739, 740), (1, 0, 745, 50, 744, 32), (1, 0, 749, 50, 748, 33), (1, 0, 753, 50, 752, 34), (1, 2, 757, 50, 756, 35), (1, 1, 761, 50, 760, 36), (1, 2, 765, 50, 764, 37), (1, 2, 769, 50, 768, 38), (1, 1, 773, 50, 772, 39), (1, 1, 777, 50, 776, 40), (1, 1, 781, 50, 780, 41), (1, 2, 785, 50, 784, 42), (1, 1, 789, 50, 787, 788), (1, 3, 793, 50, 791, 792), (1, 3, 797, 50, 795, 796), (1, 3, 801, 50, 799, 800), (1, 1, 805, 50, 803, 804), (1, 0, 809, 50, 807, 808)]
def vt_mx (a : Nat) : Nat × Nat × Nat × Nat × Nat × Nat := vt_mxl.getD a (9, 0, 0, 0, 0, 0)
/-- how deep calls go from a method -/
def vt_dpl : List Nat := [8, 3, 1, 2, 1, 1, 1, 2, 1, 0, 1, 0, 0, 2, 0, 1, 0, 0, 2, 1, 0, 0, 2, 1, 1, 3, 2, 0, 1, 0, 7, 6, 4, 1, 3, 0, 0, 1, 1, 2, 1, 0, 1, 5, 0, 3, 1, 0, 2, 0, 0, 1, 1, 4, 2, 1, 1, 3, 1, 0, 2, 1, 1, 1, 2, 1, 2, 1, 3, 0, 2, 7, 7, 7, 0, 7, 5, 7, 2, 7, 1, 1, 2, 1, 0, 0, 0, 2, 1, 0, 1, 0, 0, 1, 1, 1, 2, 1, 0, 5, 4, 2, 0, 3, 0, 2, 0, 1, 0, 0, 0, 5, 5, 5, 5, 5, 5]
def vt_dp (a : Nat) : Nat := vt_dpl.getD a 0
/-- the places of the law's switch -/
def vt_sw : List Nat := [108, 151, 194, 237, 316, 369, 412, 435, 458, 471, 494, 537, 580, 623, 646]
abbrev vt_I : Type := Nat × Nat × Int × Nat × Nat × Nat × Nat
def vl_0_0 : List (Nat × vt_I) := [(0, 32, 0, 0, 5, 4, 7, 55), (3, 10, 0, 0, 0, 0, 0, 0), (4, 40, 0, 105, 1, 1, 9, 57), (7, 4, 0, 0, 1, 1, 0, 0), (8, 32, 0, 0, 6, 26, 10, 589), (11, 10, 0, 0, 0, 0, 0, 0), (12, 40, 0, 106, 81, 1, 12, 591), (15, 4, 0, 0, 2, 1, 0, 0), (16, 0, 0, 0, 1, 0, 0, 0), (17, 3, 0, 0, 3, 1, 0, 0), (18, 1, 0, 0, 3, 1, 0, 0), (19, 2, 0, 0, 0, 1, 0, 0), (20, 29, 0, 0, 0, 0, 0, 0), (21, 0, 1, 6, 2, 0, 0, 0), (23, 6, 0, 0, 1, 0, 0, 0), (24, 16, 0, 0, 4, 665, 0, 0), (27, 2, 0, 0, 0, 1, 0, 0), (28, 1, 0, 0, 3, 1, 0, 0), (29, 25, 0, 0, 0, 0, 0, 0), (30, 0, 1, 15, 2, 0, 0, 0), (32, 6, 0, 0, 3, 0, 0, 0), (33, 38, 0, 0, 15, 659, 75, 0), (108, 2, 0, 0, 1, 1, 0, 0), (109, 2, 0, 0, 0, 1, 0, 0), (110, 1, 0, 0, 3, 1, 0, 0), (111, 0, 0, 1, 1, 0, 0, 0), (112, 6, 0, 0, 0, 0, 0, 0), (113, 25, 0, 0, 0, 0, 0, 0), (114, 2, 0, 0, 0, 1, 0, 0), (115, 1, 0, 0, 3, 1, 0, 0), (116, 0, 0, 2, 1, 0, 0, 0), (117, 6, 0, 0, 0, 0, 0, 0), (118, 25, 0, 0, 0, 0, 0, 0), (119, 2, 0, 0, 0, 1, 0, 0), (120, 1, 0, 0, 3, 1, 0, 0), (121, 0, 0, 3, 1, 0, 0, 0), (122, 6, 0, 0, 0, 0, 0, 0), (123, 25, 0, 0, 0, 0, 0, 0), (124, 40, 0, 105, 7, 4, 13, 281), (127, 2, 0, 0, 2, 1, 0, 0), (128, 2, 0, 0, 0, 1, 0, 0), (129, 1, 0, 0, 3, 1, 0, 0), (130, 0, 0, 1, 1, 0, 0, 0), (131, 6, 0, 0, 0, 0, 0, 0), (132, 25, 0, 0, 0, 0, 0, 0), (133, 2, 0, 0, 0, 1, 0, 0), (134, 1, 0, 0, 3, 1, 0, 0), (135, 0, 0, 2, 1, 0, 0, 0), (136, 6, 0, 0, 0, 0, 0, 0), (137, 25, 0, 0, 0, 0, 0, 0), (138, 2, 0, 0, 0, 1, 0, 0), (139, 1, 0, 0, 3, 1, 0, 0), (140, 0, 0, 3, 1, 0, 0, 0), (141, 6, 0, 0, 0, 0, 0, 0), (142, 25, 0, 0, 0, 0, 0, 0), (143, 40, 0, 106, 82, 4, 17, 675), (146, 16, 0, 0, 0, 659, 0, 0), (149, 0, 0, 0, 1, 0, 0, 0), (150, 50, 0, 0, 0, 0, 0, 0), (151, 2, 0, 0, 1, 1, 0, 0)]
def vl_0_1 : List (Nat × vt_I) := [(152, 2, 0, 0, 0, 1, 0, 0), (153, 1, 0, 0, 3, 1, 0, 0), (154, 0, 0, 1, 1, 0, 0, 0), (155, 6, 0, 0, 0, 0, 0, 0), (156, 25, 0, 0, 0, 0, 0, 0), (157, 2, 0, 0, 0, 1, 0, 0), (158, 1, 0, 0, 3, 1, 0, 0), (159, 0, 0, 2, 1, 0, 0, 0), (160, 6, 0, 0, 0, 0, 0, 0), (161, 25, 0, 0, 0, 0, 0, 0), (162, 2, 0, 0, 0, 1, 0, 0), (163, 1, 0, 0, 3, 1, 0, 0), (164, 0, 0, 3, 1, 0, 0, 0), (165, 6, 0, 0, 0, 0, 0, 0), (166, 25, 0, 0, 0, 0, 0, 0), (167, 40, 0, 105, 13, 4, 18, 302), (170, 2, 0, 0, 2, 1, 0, 0), (171, 2, 0, 0, 0, 1, 0, 0), (172, 1, 0, 0, 3, 1, 0, 0), (173, 0, 0, 1, 1, 0, 0, 0), (174, 6, 0, 0, 0, 0, 0, 0), (175, 25, 0, 0, 0, 0, 0, 0), (176, 2, 0, 0, 0, 1, 0, 0), (177, 1, 0, 0, 3, 1, 0, 0), (178, 0, 0, 2, 1, 0, 0, 0), (179, 6, 0, 0, 0, 0, 0, 0), (180, 25, 0, 0, 0, 0, 0, 0), (181, 2, 0, 0, 0, 1, 0, 0), (182, 1, 0, 0, 3, 1, 0, 0), (183, 0, 0, 3, 1, 0, 0, 0), (184, 6, 0, 0, 0, 0, 0, 0), (185, 25, 0, 0, 0, 0, 0, 0), (186, 40, 0, 106, 87, 4, 21, 691), (189, 16, 0, 0, 0, 659, 0, 0), (192, 0, 0, 0, 1, 0, 0, 0), (193, 50, 0, 0, 0, 0, 0, 0), (194, 2, 0, 0, 1, 1, 0, 0), (195, 2, 0, 0, 0, 1, 0, 0), (196, 1, 0, 0, 3, 1, 0, 0), (197, 0, 0, 1, 1, 0, 0, 0), (198, 6, 0, 0, 0, 0, 0, 0), (199, 25, 0, 0, 0, 0, 0, 0), (200, 2, 0, 0, 0, 1, 0, 0), (201, 1, 0, 0, 3, 1, 0, 0), (202, 0, 0, 2, 1, 0, 0, 0), (203, 6, 0, 0, 0, 0, 0, 0), (204, 25, 0, 0, 0, 0, 0, 0), (205, 2, 0, 0, 0, 1, 0, 0), (206, 1, 0, 0, 3, 1, 0, 0), (207, 0, 0, 3, 1, 0, 0, 0), (208, 6, 0, 0, 0, 0, 0, 0), (209, 25, 0, 0, 0, 0, 0, 0), (210, 40, 0, 105, 15, 4, 22, 310), (213, 2, 0, 0, 2, 1, 0, 0), (214, 2, 0, 0, 0, 1, 0, 0), (215, 1, 0, 0, 3, 1, 0, 0), (216, 0, 0, 1, 1, 0, 0, 0), (217, 6, 0, 0, 0, 0, 0, 0), (218, 25, 0, 0, 0, 0, 0, 0), (219, 2, 0, 0, 0, 1, 0, 0)]
def vl_0_2 : List (Nat × vt_I) := [(220, 1, 0, 0, 3, 1, 0, 0), (221, 0, 0, 2, 1, 0, 0, 0), (222, 6, 0, 0, 0, 0, 0, 0), (223, 25, 0, 0, 0, 0, 0, 0), (224, 2, 0, 0, 0, 1, 0, 0), (225, 1, 0, 0, 3, 1, 0, 0), (226, 0, 0, 3, 1, 0, 0, 0), (227, 6, 0, 0, 0, 0, 0, 0), (228, 25, 0, 0, 0, 0, 0, 0), (229, 40, 0, 106, 88, 4, 25, 695), (232, 16, 0, 0, 0, 659, 0, 0), (235, 0, 0, 0, 1, 0, 0, 0), (236, 50, 0, 0, 0, 0, 0, 0), (237, 2, 0, 0, 1, 1, 0, 0), (238, 2, 0, 0, 0, 1, 0, 0), (239, 1, 0, 0, 3, 1, 0, 0), (240, 0, 0, 1, 1, 0, 0, 0), (241, 6, 0, 0, 0, 0, 0, 0), (242, 25, 0, 0, 0, 0, 0, 0), (243, 2, 0, 0, 0, 1, 0, 0), (244, 1, 0, 0, 3, 1, 0, 0), (245, 0, 0, 2, 1, 0, 0, 0), (246, 6, 0, 0, 0, 0, 0, 0), (247, 25, 0, 0, 0, 0, 0, 0), (248, 2, 0, 0, 0, 1, 0, 0), (249, 1, 0, 0, 3, 1, 0, 0), (250, 0, 0, 3, 1, 0, 0, 0), (251, 6, 0, 0, 0, 0, 0, 0), (252, 25, 0, 0, 0, 0, 0, 0), (253, 2, 0, 0, 0, 1, 0, 0), (254, 1, 0, 0, 3, 1, 0, 0), (255, 0, 0, 4, 1, 0, 0, 0), (256, 6, 0, 0, 0, 0, 0, 0), (257, 25, 0, 0, 0, 0, 0, 0), (258, 2, 0, 0, 0, 1, 0, 0), (259, 1, 0, 0, 3, 1, 0, 0), (260, 0, 0, 5, 1, 0, 0, 0), (261, 6, 0, 0, 0, 0, 0, 0), (262, 25, 0, 0, 0, 0, 0, 0), (263, 15, 0, 0, 0, 270, 0, 0), (266, 0, 0, 1, 1, 0, 0, 0), (267, 17, 0, 0, 0, 271, 0, 0), (270, 0, 0, 0, 1, 0, 0, 0), (271, 40, 0, 105, 18, 6, 26, 321), (274, 2, 0, 0, 2, 1, 0, 0), (275, 2, 0, 0, 0, 1, 0, 0), (276, 1, 0, 0, 3, 1, 0, 0), (277, 0, 0, 1, 1, 0, 0, 0), (278, 6, 0, 0, 0, 0, 0, 0), (279, 25, 0, 0, 0, 0, 0, 0), (280, 2, 0, 0, 0, 1, 0, 0), (281, 1, 0, 0, 3, 1, 0, 0), (282, 0, 0, 2, 1, 0, 0, 0), (283, 6, 0, 0, 0, 0, 0, 0), (284, 25, 0, 0, 0, 0, 0, 0), (285, 2, 0, 0, 0, 1, 0, 0), (286, 1, 0, 0, 3, 1, 0, 0), (287, 0, 0, 3, 1, 0, 0, 0), (288, 6, 0, 0, 0, 0, 0, 0), (289, 25, 0, 0, 0, 0, 0, 0)]
def vl_0_3 : List (Nat × vt_I) := [(290, 2, 0, 0, 0, 1, 0, 0), (291, 1, 0, 0, 3, 1, 0, 0), (292, 0, 0, 4, 1, 0, 0, 0), (293, 6, 0, 0, 0, 0, 0, 0), (294, 25, 0, 0, 0, 0, 0, 0), (295, 2, 0, 0, 0, 1, 0, 0), (296, 1, 0, 0, 3, 1, 0, 0), (297, 0, 0, 5, 1, 0, 0, 0), (298, 6, 0, 0, 0, 0, 0, 0), (299, 25, 0, 0, 0, 0, 0, 0), (300, 15, 0, 0, 0, 307, 0, 0), (303, 0, 0, 1, 1, 0, 0, 0), (304, 17, 0, 0, 0, 308, 0, 0), (307, 0, 0, 0, 1, 0, 0, 0), (308, 40, 0, 106, 90, 6, 30, 702), (311, 16, 0, 0, 0, 659, 0, 0), (314, 0, 0, 0, 1, 0, 0, 0), (315, 50, 0, 0, 0, 0, 0, 0), (316, 2, 0, 0, 1, 1, 0, 0), (317, 2, 0, 0, 0, 1, 0, 0), (318, 1, 0, 0, 3, 1, 0, 0), (319, 0, 0, 1, 1, 0, 0, 0), (320, 6, 0, 0, 0, 0, 0, 0), (321, 25, 0, 0, 0, 0, 0, 0), (322, 2, 0, 0, 0, 1, 0, 0), (323, 1, 0, 0, 3, 1, 0, 0), (324, 0, 0, 2, 1, 0, 0, 0), (325, 6, 0, 0, 0, 0, 0, 0), (326, 25, 0, 0, 0, 0, 0, 0), (327, 2, 0, 0, 0, 1, 0, 0), (328, 1, 0, 0, 3, 1, 0, 0), (329, 0, 0, 3, 1, 0, 0, 0), (330, 6, 0, 0, 0, 0, 0, 0), (331, 25, 0, 0, 0, 0, 0, 0), (332, 2, 0, 0, 0, 1, 0, 0), (333, 1, 0, 0, 3, 1, 0, 0), (334, 0, 0, 4, 1, 0, 0, 0), (335, 6, 0, 0, 0, 0, 0, 0), (336, 25, 0, 0, 0, 0, 0, 0), (337, 40, 0, 105, 22, 5, 31, 337), (340, 2, 0, 0, 2, 1, 0, 0), (341, 2, 0, 0, 0, 1, 0, 0), (342, 1, 0, 0, 3, 1, 0, 0), (343, 0, 0, 1, 1, 0, 0, 0), (344, 6, 0, 0, 0, 0, 0, 0), (345, 25, 0, 0, 0, 0, 0, 0), (346, 2, 0, 0, 0, 1, 0, 0), (347, 1, 0, 0, 3, 1, 0, 0), (348, 0, 0, 2, 1, 0, 0, 0), (349, 6, 0, 0, 0, 0, 0, 0), (350, 25, 0, 0, 0, 0, 0, 0), (351, 2, 0, 0, 0, 1, 0, 0), (352, 1, 0, 0, 3, 1, 0, 0), (353, 0, 0, 3, 1, 0, 0, 0), (354, 6, 0, 0, 0, 0, 0, 0), (355, 25, 0, 0, 0, 0, 0, 0), (356, 2, 0, 0, 0, 1, 0, 0), (357, 1, 0, 0, 3, 1, 0, 0), (358, 0, 0, 4, 1, 0, 0, 0), (359, 6, 0, 0, 0, 0, 0, 0)]
def vl_0_4 : List (Nat × vt_I) := [(360, 25, 0, 0, 0, 0, 0, 0), (361, 40, 0, 106, 93, 5, 35, 714), (364, 16, 0, 0, 0, 659, 0, 0), (367, 0, 0, 0, 1, 0, 0, 0), (368, 50, 0, 0, 0, 0, 0, 0), (369, 2, 0, 0, 1, 1, 0, 0), (370, 2, 0, 0, 0, 1, 0, 0), (371, 1, 0, 0, 3, 1, 0, 0), (372, 0, 0, 1, 1, 0, 0, 0), (373, 6, 0, 0, 0, 0, 0, 0), (374, 25, 0, 0, 0, 0, 0, 0), (375, 2, 0, 0, 0, 1, 0, 0), (376, 1, 0, 0, 3, 1, 0, 0), (377, 0, 0, 2, 1, 0, 0, 0), (378, 6, 0, 0, 0, 0, 0, 0), (379, 25, 0, 0, 0, 0, 0, 0), (380, 2, 0, 0, 0, 1, 0, 0), (381, 1, 0, 0, 3, 1, 0, 0), (382, 0, 0, 3, 1, 0, 0, 0), (383, 6, 0, 0, 0, 0, 0, 0), (384, 25, 0, 0, 0, 0, 0, 0), (385, 40, 0, 105, 23, 4, 36, 341), (388, 2, 0, 0, 2, 1, 0, 0), (389, 2, 0, 0, 0, 1, 0, 0), (390, 1, 0, 0, 3, 1, 0, 0), (391, 0, 0, 1, 1, 0, 0, 0), (392, 6, 0, 0, 0, 0, 0, 0), (393, 25, 0, 0, 0, 0, 0, 0), (394, 2, 0, 0, 0, 1, 0, 0), (395, 1, 0, 0, 3, 1, 0, 0), (396, 0, 0, 2, 1, 0, 0, 0), (397, 6, 0, 0, 0, 0, 0, 0), (398, 25, 0, 0, 0, 0, 0, 0), (399, 2, 0, 0, 0, 1, 0, 0), (400, 1, 0, 0, 3, 1, 0, 0), (401, 0, 0, 3, 1, 0, 0, 0), (402, 6, 0, 0, 0, 0, 0, 0), (403, 25, 0, 0, 0, 0, 0, 0), (404, 40, 0, 106, 94, 4, 39, 718), (407, 16, 0, 0, 0, 659, 0, 0), (410, 0, 0, 0, 1, 0, 0, 0), (411, 50, 0, 0, 0, 0, 0, 0), (412, 2, 0, 0, 1, 1, 0, 0), (413, 2, 0, 0, 0, 1, 0, 0), (414, 1, 0, 0, 3, 1, 0, 0), (415, 0, 0, 1, 1, 0, 0, 0), (416, 6, 0, 0, 0, 0, 0, 0), (417, 25, 0, 0, 0, 0, 0, 0), (418, 40, 0, 105, 24, 2, 40, 345), (421, 2, 0, 0, 2, 1, 0, 0), (422, 2, 0, 0, 0, 1, 0, 0), (423, 1, 0, 0, 3, 1, 0, 0), (424, 0, 0, 1, 1, 0, 0, 0), (425, 6, 0, 0, 0, 0, 0, 0), (426, 25, 0, 0, 0, 0, 0, 0), (427, 40, 0, 106, 95, 2, 44, 722), (430, 16, 0, 0, 0, 659, 0, 0), (433, 0, 0, 0, 1, 0, 0, 0), (434, 50, 0, 0, 0, 0, 0, 0), (435, 2, 0, 0, 1, 1, 0, 0)]
def vl_0_5 : List (Nat × vt_I) := [(436, 2, 0, 0, 0, 1, 0, 0), (437, 1, 0, 0, 3, 1, 0, 0), (438, 0, 0, 1, 1, 0, 0, 0), (439, 6, 0, 0, 0, 0, 0, 0), (440, 25, 0, 0, 0, 0, 0, 0), (441, 40, 0, 105, 25, 2, 45, 349), (444, 2, 0, 0, 2, 1, 0, 0), (445, 2, 0, 0, 0, 1, 0, 0), (446, 1, 0, 0, 3, 1, 0, 0), (447, 0, 0, 1, 1, 0, 0, 0), (448, 6, 0, 0, 0, 0, 0, 0), (449, 25, 0, 0, 0, 0, 0, 0), (450, 40, 0, 106, 96, 2, 48, 726), (453, 16, 0, 0, 0, 659, 0, 0), (456, 0, 0, 0, 1, 0, 0, 0), (457, 50, 0, 0, 0, 0, 0, 0), (458, 2, 0, 0, 1, 1, 0, 0), (459, 40, 0, 105, 30, 1, 49, 367), (462, 2, 0, 0, 2, 1, 0, 0), (463, 40, 0, 106, 99, 1, 53, 738), (466, 16, 0, 0, 0, 659, 0, 0), (469, 0, 0, 0, 1, 0, 0, 0), (470, 50, 0, 0, 0, 0, 0, 0), (471, 2, 0, 0, 1, 1, 0, 0), (472, 2, 0, 0, 0, 1, 0, 0), (473, 1, 0, 0, 3, 1, 0, 0), (474, 0, 0, 1, 1, 0, 0, 0), (475, 6, 0, 0, 0, 0, 0, 0), (476, 25, 0, 0, 0, 0, 0, 0), (477, 40, 0, 105, 71, 2, 54, 547), (480, 2, 0, 0, 2, 1, 0, 0), (481, 2, 0, 0, 0, 1, 0, 0), (482, 1, 0, 0, 3, 1, 0, 0), (483, 0, 0, 1, 1, 0, 0, 0), (484, 6, 0, 0, 0, 0, 0, 0), (485, 25, 0, 0, 0, 0, 0, 0), (486, 40, 0, 106, 111, 2, 57, 786), (489, 16, 0, 0, 0, 659, 0, 0), (492, 0, 0, 0, 1, 0, 0, 0), (493, 50, 0, 0, 0, 0, 0, 0), (494, 2, 0, 0, 1, 1, 0, 0), (495, 2, 0, 0, 0, 1, 0, 0), (496, 1, 0, 0, 3, 1, 0, 0), (497, 0, 0, 1, 1, 0, 0, 0), (498, 6, 0, 0, 0, 0, 0, 0), (499, 25, 0, 0, 0, 0, 0, 0), (500, 2, 0, 0, 0, 1, 0, 0), (501, 1, 0, 0, 3, 1, 0, 0), (502, 0, 0, 2, 1, 0, 0, 0), (503, 6, 0, 0, 0, 0, 0, 0), (504, 25, 0, 0, 0, 0, 0, 0), (505, 2, 0, 0, 0, 1, 0, 0), (506, 1, 0, 0, 3, 1, 0, 0), (507, 0, 0, 3, 1, 0, 0, 0), (508, 6, 0, 0, 0, 0, 0, 0), (509, 25, 0, 0, 0, 0, 0, 0), (510, 40, 0, 105, 72, 4, 58, 551), (513, 2, 0, 0, 2, 1, 0, 0), (514, 2, 0, 0, 0, 1, 0, 0), (515, 1, 0, 0, 3, 1, 0, 0)]
def vl_0_6 : List (Nat × vt_I) := [(516, 0, 0, 1, 1, 0, 0, 0), (517, 6, 0, 0, 0, 0, 0, 0), (518, 25, 0, 0, 0, 0, 0, 0), (519, 2, 0, 0, 0, 1, 0, 0), (520, 1, 0, 0, 3, 1, 0, 0), (521, 0, 0, 2, 1, 0, 0, 0), (522, 6, 0, 0, 0, 0, 0, 0), (523, 25, 0, 0, 0, 0, 0, 0), (524, 2, 0, 0, 0, 1, 0, 0), (525, 1, 0, 0, 3, 1, 0, 0), (526, 0, 0, 3, 1, 0, 0, 0), (527, 6, 0, 0, 0, 0, 0, 0), (528, 25, 0, 0, 0, 0, 0, 0), (529, 40, 0, 106, 112, 4, 61, 790), (532, 16, 0, 0, 0, 659, 0, 0), (535, 0, 0, 0, 1, 0, 0, 0), (536, 50, 0, 0, 0, 0, 0, 0), (537, 2, 0, 0, 1, 1, 0, 0), (538, 2, 0, 0, 0, 1, 0, 0), (539, 1, 0, 0, 3, 1, 0, 0), (540, 0, 0, 1, 1, 0, 0, 0), (541, 6, 0, 0, 0, 0, 0, 0), (542, 25, 0, 0, 0, 0, 0, 0), (543, 2, 0, 0, 0, 1, 0, 0), (544, 1, 0, 0, 3, 1, 0, 0), (545, 0, 0, 2, 1, 0, 0, 0), (546, 6, 0, 0, 0, 0, 0, 0), (547, 25, 0, 0, 0, 0, 0, 0), (548, 2, 0, 0, 0, 1, 0, 0), (549, 1, 0, 0, 3, 1, 0, 0), (550, 0, 0, 3, 1, 0, 0, 0), (551, 6, 0, 0, 0, 0, 0, 0), (552, 25, 0, 0, 0, 0, 0, 0), (553, 40, 0, 105, 73, 4, 62, 555), (556, 2, 0, 0, 2, 1, 0, 0), (557, 2, 0, 0, 0, 1, 0, 0), (558, 1, 0, 0, 3, 1, 0, 0), (559, 0, 0, 1, 1, 0, 0, 0), (560, 6, 0, 0, 0, 0, 0, 0), (561, 25, 0, 0, 0, 0, 0, 0), (562, 2, 0, 0, 0, 1, 0, 0), (563, 1, 0, 0, 3, 1, 0, 0), (564, 0, 0, 2, 1, 0, 0, 0), (565, 6, 0, 0, 0, 0, 0, 0), (566, 25, 0, 0, 0, 0, 0, 0), (567, 2, 0, 0, 0, 1, 0, 0), (568, 1, 0, 0, 3, 1, 0, 0), (569, 0, 0, 3, 1, 0, 0, 0), (570, 6, 0, 0, 0, 0, 0, 0), (571, 25, 0, 0, 0, 0, 0, 0), (572, 40, 0, 106, 113, 4, 65, 794), (575, 16, 0, 0, 0, 659, 0, 0), (578, 0, 0, 0, 1, 0, 0, 0), (579, 50, 0, 0, 0, 0, 0, 0), (580, 2, 0, 0, 1, 1, 0, 0), (581, 2, 0, 0, 0, 1, 0, 0), (582, 1, 0, 0, 3, 1, 0, 0), (583, 0, 0, 1, 1, 0, 0, 0), (584, 6, 0, 0, 0, 0, 0, 0), (585, 25, 0, 0, 0, 0, 0, 0)]
def vl_0_7 : List (Nat × vt_I) := [(586, 2, 0, 0, 0, 1, 0, 0), (587, 1, 0, 0, 3, 1, 0, 0), (588, 0, 0, 2, 1, 0, 0, 0), (589, 6, 0, 0, 0, 0, 0, 0), (590, 25, 0, 0, 0, 0, 0, 0), (591, 2, 0, 0, 0, 1, 0, 0), (592, 1, 0, 0, 3, 1, 0, 0), (593, 0, 0, 3, 1, 0, 0, 0), (594, 6, 0, 0, 0, 0, 0, 0), (595, 25, 0, 0, 0, 0, 0, 0), (596, 40, 0, 105, 75, 4, 66, 563), (599, 2, 0, 0, 2, 1, 0, 0), (600, 2, 0, 0, 0, 1, 0, 0), (601, 1, 0, 0, 3, 1, 0, 0), (602, 0, 0, 1, 1, 0, 0, 0), (603, 6, 0, 0, 0, 0, 0, 0), (604, 25, 0, 0, 0, 0, 0, 0), (605, 2, 0, 0, 0, 1, 0, 0), (606, 1, 0, 0, 3, 1, 0, 0), (607, 0, 0, 2, 1, 0, 0, 0), (608, 6, 0, 0, 0, 0, 0, 0), (609, 25, 0, 0, 0, 0, 0, 0), (610, 2, 0, 0, 0, 1, 0, 0), (611, 1, 0, 0, 3, 1, 0, 0), (612, 0, 0, 3, 1, 0, 0, 0), (613, 6, 0, 0, 0, 0, 0, 0), (614, 25, 0, 0, 0, 0, 0, 0), (615, 40, 0, 106, 114, 4, 69, 798), (618, 16, 0, 0, 0, 659, 0, 0), (621, 0, 0, 0, 1, 0, 0, 0), (622, 50, 0, 0, 0, 0, 0, 0), (623, 2, 0, 0, 1, 1, 0, 0), (624, 2, 0, 0, 0, 1, 0, 0), (625, 1, 0, 0, 3, 1, 0, 0), (626, 0, 0, 1, 1, 0, 0, 0), (627, 6, 0, 0, 0, 0, 0, 0), (628, 25, 0, 0, 0, 0, 0, 0), (629, 40, 0, 105, 77, 2, 70, 571), (632, 2, 0, 0, 2, 1, 0, 0), (633, 2, 0, 0, 0, 1, 0, 0), (634, 1, 0, 0, 3, 1, 0, 0), (635, 0, 0, 1, 1, 0, 0, 0), (636, 6, 0, 0, 0, 0, 0, 0), (637, 25, 0, 0, 0, 0, 0, 0), (638, 40, 0, 106, 115, 2, 73, 802), (641, 16, 0, 0, 0, 659, 0, 0), (644, 0, 0, 0, 1, 0, 0, 0), (645, 50, 0, 0, 0, 0, 0, 0), (646, 2, 0, 0, 1, 1, 0, 0), (647, 40, 0, 105, 79, 1, 74, 580), (650, 2, 0, 0, 2, 1, 0, 0), (651, 40, 0, 106, 116, 1, 77, 806), (654, 16, 0, 0, 0, 659, 0, 0), (657, 0, 0, 0, 1, 0, 0, 0), (658, 50, 0, 0, 0, 0, 0, 0), (659, 5, 0, 6, 3, 0, 0, 0), (662, 17, 0, 0, 0, 18, 0, 0), (665, 0, 0, 1, 1, 0, 0, 0), (666, 50, 0, 0, 0, 0, 0, 0)]
def vl_1_0 : List (Nat × vt_I) := [(0, 2, 0, 0, 0, 1, 0, 0), (1, 35, 0, 0, 0, 0, 3, 60), (4, 2, 0, 0, 0, 1, 0, 0), (5, 32, 0, 0, 1, 2, 9, 63), (8, 10, 0, 0, 0, 0, 0, 0), (9, 40, 1, 101, 2, 1, 11, 0), (12, 24, 2, 0, 5, 0, 12, 268), (15, 2, 0, 0, 0, 1, 0, 0), (16, 32, 0, 0, 2, 11, 16, 80), (19, 10, 0, 0, 0, 0, 0, 0), (20, 40, 1, 102, 3, 1, 18, 1), (23, 24, 2, 0, 5, 2, 19, 270), (26, 2, 0, 0, 0, 1, 0, 0), (27, 0, 1, 16, 2, 0, 0, 0), (29, 31, 0, 0, 2, 0, 23, 210), (32, 24, 2, 0, 5, 1, 25, 269), (35, 0, 0, 0, 1, 0, 0, 0), (36, 3, 0, 0, 1, 1, 0, 0), (37, 1, 0, 0, 1, 1, 0, 0), (38, 0, 1, 16, 2, 0, 0, 0), (40, 16, 0, 0, 3, 62, 0, 0), (43, 2, 0, 0, 0, 1, 0, 0), (44, 22, 0, 0, 5, 1, 25, 269), (47, 1, 0, 0, 1, 1, 0, 0), (48, 32, 0, 0, 3, 10, 23, 210), (51, 10, 0, 0, 0, 0, 0, 0), (52, 40, 1, 103, 6, 1, 29, 5), (55, 28, 0, 0, 2, 103, 0, 0), (56, 5, 0, 1, 1, 0, 0, 0), (59, 17, 0, 0, 0, 37, 0, 0), (62, 2, 0, 0, 0, 1, 0, 0), (63, 0, 0, 0, 1, 0, 0, 0), (64, 23, 0, 0, 5, 3, 30, 271), (67, 51, 0, 0, 0, 0, 0, 0)]
def vl_2_0 : List (Nat × vt_I) := [(0, 2, 0, 0, 0, 1, 0, 0), (1, 35, 0, 0, 0, 0, 3, 68), (4, 2, 0, 0, 0, 1, 0, 0), (5, 0, 2, 512, 3, 0, 0, 0), (8, 30, 0, 0, 0, 0, 0, 0), (10, 24, 2, 0, 1, 0, 9, 69), (13, 2, 0, 0, 0, 1, 0, 0), (14, 0, 2, 512, 3, 0, 0, 0), (17, 30, 0, 0, 0, 0, 0, 0), (19, 24, 2, 0, 1, 1, 15, 72), (22, 51, 0, 0, 0, 0, 0, 0)]
def vl_3_0 : List (Nat × vt_I) := [(0, 2, 0, 0, 0, 1, 0, 0), (1, 35, 0, 0, 0, 0, 3, 85), (4, 2, 0, 0, 0, 1, 0, 0), (5, 0, 0, 0, 1, 0, 0, 0), (6, 23, 0, 1, 2, 0, 9, 172), (9, 2, 0, 0, 0, 1, 0, 0), (10, 0, 0, 0, 1, 0, 0, 0), (11, 23, 0, 0, 2, 1, 15, 174), (14, 2, 0, 0, 0, 1, 0, 0), (15, 32, 0, 0, 4, 5, 19, 86), (18, 10, 0, 0, 0, 0, 0, 0), (19, 40, 1, 104, 4, 1, 21, 2), (22, 24, 2, 0, 2, 2, 22, 176), (25, 2, 0, 0, 0, 1, 0, 0), (26, 32, 0, 0, 1, 2, 26, 112), (29, 10, 0, 0, 0, 0, 0, 0), (30, 40, 1, 101, 2, 1, 28, 3), (33, 24, 2, 0, 2, 3, 29, 178), (36, 2, 0, 0, 0, 1, 0, 0), (37, 32, 0, 0, 0, 16, 33, 114), (40, 10, 0, 0, 0, 0, 0, 0), (41, 40, 1, 100, 5, 1, 35, 4), (44, 24, 2, 0, 2, 4, 36, 180), (47, 2, 0, 0, 0, 1, 0, 0), (48, 0, 1, 16, 2, 0, 0, 0), (50, 0, 0, 0, 1, 0, 0, 0), (51, 33, 0, 0, 3, 1, 40, 170), (55, 24, 2, 0, 2, 5, 42, 181), (58, 2, 0, 0, 0, 1, 0, 0), (59, 0, 1, 16, 2, 0, 0, 0), (61, 30, 0, 0, 0, 0, 0, 0), (63, 24, 2, 0, 2, 6, 45, 182), (66, 2, 0, 0, 0, 1, 0, 0), (67, 32, 0, 0, 1, 2, 26, 112), (70, 10, 0, 0, 0, 0, 0, 0), (71, 40, 1, 101, 2, 1, 28, 3), (74, 24, 0, 0, 2, 7, 49, 183), (77, 2, 0, 0, 0, 1, 0, 0), (78, 32, 0, 0, 1, 2, 26, 112), (81, 10, 0, 0, 0, 0, 0, 0), (82, 40, 1, 101, 2, 1, 28, 3), (85, 24, 0, 0, 2, 8, 52, 184), (88, 2, 0, 0, 0, 1, 0, 0), (89, 0, 0, 0, 1, 0, 0, 0), (90, 23, 0, 0, 2, 9, 55, 185), (93, 2, 0, 0, 0, 1, 0, 0), (94, 0, 0, 0, 1, 0, 0, 0), (95, 23, 0, 0, 2, 10, 58, 186), (98, 51, 0, 0, 0, 0, 0, 0)]
def vl_4_0 : List (Nat × vt_I) := [(0, 2, 0, 0, 0, 1, 0, 0), (1, 35, 0, 0, 0, 0, 3, 91), (4, 2, 0, 0, 0, 1, 0, 0), (5, 0, 1, 16, 2, 0, 0, 0), (7, 30, 0, 0, 0, 0, 0, 0), (9, 24, 2, 0, 4, 0, 9, 92), (12, 2, 0, 0, 0, 1, 0, 0), (13, 0, 1, 16, 2, 0, 0, 0), (15, 30, 0, 0, 0, 0, 0, 0), (17, 24, 2, 0, 4, 1, 15, 93), (20, 2, 0, 0, 0, 1, 0, 0), (21, 0, 1, 16, 2, 0, 0, 0), (23, 30, 0, 0, 0, 0, 0, 0), (25, 24, 2, 0, 4, 2, 18, 94), (28, 2, 0, 0, 0, 1, 0, 0), (29, 0, 1, 16, 2, 0, 0, 0), (31, 30, 0, 0, 0, 0, 0, 0), (33, 24, 2, 0, 4, 3, 21, 95), (36, 2, 0, 0, 0, 1, 0, 0), (37, 0, 0, -1, 1, 0, 0, 0), (38, 23, 0, 0, 4, 4, 24, 98), (41, 51, 0, 0, 0, 0, 0, 0)]
def vl_5_0 : List (Nat × vt_I) := [(0, 2, 0, 0, 0, 1, 0, 0), (1, 35, 0, 0, 0, 0, 3, 119), (4, 2, 0, 0, 0, 1, 0, 0), (5, 0, 2, 1152, 3, 0, 0, 0), (8, 30, 0, 0, 0, 0, 0, 0), (10, 24, 2, 0, 0, 0, 9, 120), (13, 2, 0, 0, 0, 1, 0, 0), (14, 0, 1, 6, 2, 0, 0, 0), (16, 30, 0, 0, 0, 0, 0, 0), (18, 24, 2, 0, 0, 1, 15, 121), (21, 2, 0, 0, 0, 1, 0, 0), (22, 0, 1, 32, 2, 0, 0, 0), (24, 30, 0, 0, 0, 0, 0, 0), (26, 24, 2, 0, 0, 2, 18, 122), (29, 2, 0, 0, 0, 1, 0, 0), (30, 0, 1, 32, 2, 0, 0, 0), (32, 30, 0, 0, 0, 0, 0, 0), (34, 24, 2, 0, 0, 3, 21, 123), (37, 2, 0, 0, 0, 1, 0, 0), (38, 0, 0, 3, 1, 0, 0, 0), (39, 30, 0, 0, 0, 0, 0, 0), (41, 24, 2, 0, 0, 4, 24, 124), (44, 2, 0, 0, 0, 1, 0, 0), (45, 0, 0, 3, 1, 0, 0, 0), (46, 30, 0, 0, 0, 0, 0, 0), (48, 24, 2, 0, 0, 5, 27, 125), (51, 2, 0, 0, 0, 1, 0, 0), (52, 0, 1, 18, 2, 0, 0, 0), (54, 30, 0, 0, 0, 0, 0, 0), (56, 24, 2, 0, 0, 6, 30, 126), (59, 2, 0, 0, 0, 1, 0, 0), (60, 0, 2, 576, 3, 0, 0, 0), (63, 30, 0, 0, 0, 0, 0, 0), (65, 24, 2, 0, 0, 7, 33, 127), (68, 2, 0, 0, 0, 1, 0, 0), (69, 0, 1, 32, 2, 0, 0, 0), (71, 30, 0, 0, 0, 0, 0, 0), (73, 24, 2, 0, 0, 8, 36, 128), (76, 2, 0, 0, 0, 1, 0, 0), (77, 0, 1, 32, 2, 0, 0, 0), (79, 30, 0, 0, 0, 0, 0, 0), (81, 24, 2, 0, 0, 9, 39, 129), (84, 51, 0, 0, 0, 0, 0, 0)]
def vl_6_0 : List (Nat × vt_I) := [(0, 2, 0, 0, 0, 1, 0, 0), (1, 35, 0, 0, 0, 0, 3, 216), (4, 2, 0, 0, 0, 1, 0, 0), (5, 0, 0, -1, 1, 0, 0, 0), (6, 23, 0, 0, 3, 3, 9, 224), (9, 2, 0, 0, 0, 1, 0, 0), (10, 0, 0, 5, 1, 0, 0, 0), (11, 30, 0, 0, 0, 0, 0, 0), (13, 24, 2, 0, 3, 6, 15, 235), (16, 2, 0, 0, 0, 1, 0, 0), (17, 0, 0, 5, 1, 0, 0, 0), (18, 30, 0, 0, 0, 0, 0, 0), (20, 24, 2, 0, 3, 7, 19, 239), (23, 2, 0, 0, 0, 1, 0, 0), (24, 0, 0, 5, 1, 0, 0, 0), (25, 30, 0, 0, 0, 0, 0, 0), (27, 24, 2, 0, 3, 8, 22, 243), (30, 2, 0, 0, 0, 1, 0, 0), (31, 0, 0, 5, 1, 0, 0, 0), (32, 30, 0, 0, 0, 0, 0, 0), (34, 24, 2, 0, 3, 9, 25, 245), (37, 51, 0, 0, 0, 0, 0, 0)]
def vl_7_0 : List (Nat × vt_I) := [(0, 1, 0, 0, 1, 1, 0, 0), (1, 1, 0, 0, 2, 1, 0, 0), (2, 1, 0, 0, 3, 1, 0, 0), (3, 40, 0, 0, 8, 3, 34, 285), (6, 15, 0, 0, 0, 11, 0, 0), (9, 0, 0, -1, 1, 0, 0, 0), (10, 50, 0, 0, 0, 0, 0, 0), (11, 2, 0, 0, 0, 1, 0, 0), (12, 22, 0, 0, 5, 0, 12, 268), (15, 1, 0, 0, 1, 1, 0, 0), (16, 1, 0, 0, 2, 1, 0, 0), (17, 1, 0, 0, 3, 1, 0, 0), (18, 40, 0, 101, 10, 4, 38, 291), (21, 15, 0, 0, 0, 26, 0, 0), (24, 0, 0, 0, 1, 0, 0, 0), (25, 50, 0, 0, 0, 0, 0, 0), (26, 2, 0, 0, 0, 1, 0, 0), (27, 22, 0, 0, 5, 0, 12, 268), (30, 1, 0, 0, 1, 1, 0, 0), (31, 1, 0, 0, 2, 1, 0, 0), (32, 1, 0, 0, 3, 1, 0, 0), (33, 40, 0, 101, 12, 4, 41, 298), (36, 2, 0, 0, 0, 1, 0, 0), (37, 22, 0, 0, 5, 2, 19, 270), (40, 0, 0, 1, 1, 0, 0, 0), (41, 23, 0, 1, 2, 0, 45, 173), (44, 0, 0, 1, 1, 0, 0, 0), (45, 50, 0, 0, 0, 0, 0, 0)]
def vl_8_0 : List (Nat × vt_I) := [(0, 1, 0, 0, 0, 1, 0, 0), (1, 40, 0, 0, 9, 1, 52, 288), (4, 15, 0, 0, 1, 27, 0, 0), (7, 1, 0, 0, 1, 1, 0, 0), (8, 15, 0, 0, 2, 27, 0, 0), (11, 1, 0, 0, 1, 1, 0, 0), (12, 0, 1, 32, 2, 0, 0, 0), (14, 16, 0, 0, 3, 27, 0, 0), (17, 1, 0, 0, 2, 1, 0, 0), (18, 15, 0, 0, 2, 27, 0, 0), (21, 1, 0, 0, 2, 1, 0, 0), (22, 0, 1, 32, 2, 0, 0, 0), (24, 16, 0, 0, 2, 31, 0, 0), (27, 0, 0, 1, 1, 0, 0, 0), (28, 17, 0, 0, 0, 32, 0, 0), (31, 0, 0, 0, 1, 0, 0, 0), (32, 50, 0, 0, 0, 0, 0, 0)]
def vl_9_0 : List (Nat × vt_I) := [(0, 1, 0, 0, 0, 1, 0, 0), (1, 15, 0, 0, 2, 10, 0, 0), (4, 1, 0, 0, 0, 1, 0, 0), (5, 0, 1, 16, 2, 0, 0, 0), (7, 16, 0, 0, 2, 14, 0, 0), (10, 0, 0, 1, 1, 0, 0, 0), (11, 17, 0, 0, 0, 15, 0, 0), (14, 0, 0, 0, 1, 0, 0, 0), (15, 50, 0, 0, 0, 0, 0, 0)]
def vl_10_0 : List (Nat × vt_I) := [(0, 2, 0, 0, 0, 1, 0, 0), (1, 22, 0, 0, 1, 0, 9, 69), (4, 0, 1, 32, 2, 0, 0, 0), (6, 1, 0, 0, 1, 1, 0, 0), (7, 6, 0, 0, 2, 0, 0, 0), (8, 1, 0, 0, 2, 1, 0, 0), (9, 6, 0, 0, 0, 0, 0, 0), (10, 25, 0, 0, 0, 0, 0, 0), (11, 1, 0, 0, 3, 1, 0, 0), (12, 40, 1, 0, 11, 2, 18, 6), (15, 50, 0, 0, 0, 0, 0, 0)]
def vl_11_0 : List (Nat × vt_I) := [(0, 1, 0, 0, 0, 1, 0, 0), (1, 1, 0, 0, 1, 1, 0, 0), (2, 6, 0, 0, 8, 0, 0, 0), (3, 0, 0, 1, 1, 0, 0, 0), (4, 6, 0, 0, 3, 0, 0, 0), (5, 15, 0, 0, 0, 12, 0, 0), (8, 0, 0, 1, 1, 0, 0, 0), (9, 17, 0, 0, 0, 13, 0, 0), (12, 0, 0, 0, 1, 0, 0, 0), (13, 50, 0, 0, 0, 0, 0, 0)]
def vl_12_0 : List (Nat × vt_I) := [(0, 2, 0, 0, 0, 1, 0, 0), (1, 22, 0, 0, 1, 0, 9, 69), (4, 0, 1, 32, 2, 0, 0, 0), (6, 1, 0, 0, 1, 1, 0, 0), (7, 6, 0, 0, 2, 0, 0, 0), (8, 1, 0, 0, 2, 1, 0, 0), (9, 6, 0, 0, 0, 0, 0, 0), (10, 14, 0, 0, 0, 0, 0, 0), (11, 25, 0, 0, 0, 0, 0, 0), (12, 0, 0, 1, 1, 0, 0, 0), (13, 1, 0, 0, 3, 1, 0, 0), (14, 6, 0, 0, 6, 0, 0, 0), (15, 6, 0, 0, 4, 0, 0, 0), (16, 26, 0, 0, 0, 0, 0, 0), (17, 2, 0, 0, 0, 1, 0, 0), (18, 22, 0, 0, 1, 1, 15, 72), (21, 0, 1, 32, 2, 0, 0, 0), (23, 1, 0, 0, 1, 1, 0, 0), (24, 6, 0, 0, 2, 0, 0, 0), (25, 1, 0, 0, 3, 1, 0, 0), (26, 6, 0, 0, 0, 0, 0, 0), (27, 14, 0, 0, 0, 0, 0, 0), (28, 25, 0, 0, 0, 0, 0, 0), (29, 0, 0, 1, 1, 0, 0, 0), (30, 1, 0, 0, 2, 1, 0, 0), (31, 6, 0, 0, 6, 0, 0, 0), (32, 6, 0, 0, 4, 0, 0, 0), (33, 26, 0, 0, 0, 0, 0, 0), (34, 51, 0, 0, 0, 0, 0, 0)]
def vl_13_0 : List (Nat × vt_I) := [(0, 1, 0, 0, 1, 1, 0, 0), (1, 1, 0, 0, 2, 1, 0, 0), (2, 1, 0, 0, 3, 1, 0, 0), (3, 40, 0, 0, 8, 3, 34, 285), (6, 15, 0, 0, 0, 11, 0, 0), (9, 0, 0, -1, 1, 0, 0, 0), (10, 50, 0, 0, 0, 0, 0, 0), (11, 2, 0, 0, 0, 1, 0, 0), (12, 22, 0, 0, 5, 0, 12, 268), (15, 1, 0, 0, 1, 1, 0, 0), (16, 1, 0, 0, 2, 1, 0, 0), (17, 1, 0, 0, 3, 1, 0, 0), (18, 40, 0, 101, 10, 4, 38, 291), (21, 15, 0, 0, 1, 26, 0, 0), (24, 0, 0, 0, 1, 0, 0, 0), (25, 50, 0, 0, 0, 0, 0, 0), (26, 2, 0, 0, 0, 1, 0, 0), (27, 22, 0, 0, 5, 0, 12, 268), (30, 1, 0, 0, 1, 1, 0, 0), (31, 1, 0, 0, 2, 1, 0, 0), (32, 1, 0, 0, 3, 1, 0, 0), (33, 40, 0, 101, 14, 4, 49, 306), (36, 2, 0, 0, 0, 1, 0, 0), (37, 22, 0, 0, 5, 2, 19, 270), (40, 0, 0, 1, 1, 0, 0, 0), (41, 23, 0, 1, 2, 0, 45, 173), (44, 0, 0, 1, 1, 0, 0, 0), (45, 50, 0, 0, 0, 0, 0, 0)]
def vl_14_0 : List (Nat × vt_I) := [(0, 2, 0, 0, 0, 1, 0, 0), (1, 22, 0, 0, 1, 0, 9, 69), (4, 0, 1, 32, 2, 0, 0, 0), (6, 1, 0, 0, 1, 1, 0, 0), (7, 6, 0, 0, 2, 0, 0, 0), (8, 1, 0, 0, 2, 1, 0, 0), (9, 6, 0, 0, 0, 0, 0, 0), (10, 14, 0, 0, 0, 0, 0, 0), (11, 25, 0, 0, 0, 0, 0, 0), (12, 0, 0, 1, 1, 0, 0, 0), (13, 1, 0, 0, 3, 1, 0, 0), (14, 6, 0, 0, 6, 0, 0, 0), (15, 0, 0, -1, 1, 0, 0, 0), (16, 6, 0, 0, 5, 0, 0, 0), (17, 6, 0, 0, 3, 0, 0, 0), (18, 26, 0, 0, 0, 0, 0, 0), (19, 2, 0, 0, 0, 1, 0, 0), (20, 22, 0, 0, 1, 1, 15, 72), (23, 0, 1, 32, 2, 0, 0, 0), (25, 1, 0, 0, 1, 1, 0, 0), (26, 6, 0, 0, 2, 0, 0, 0), (27, 1, 0, 0, 3, 1, 0, 0), (28, 6, 0, 0, 0, 0, 0, 0), (29, 14, 0, 0, 0, 0, 0, 0), (30, 25, 0, 0, 0, 0, 0, 0), (31, 0, 0, 1, 1, 0, 0, 0), (32, 1, 0, 0, 2, 1, 0, 0), (33, 6, 0, 0, 6, 0, 0, 0), (34, 0, 0, -1, 1, 0, 0, 0), (35, 6, 0, 0, 5, 0, 0, 0), (36, 6, 0, 0, 3, 0, 0, 0), (37, 26, 0, 0, 0, 0, 0, 0), (38, 51, 0, 0, 0, 0, 0, 0)]
def vl_15_0 : List (Nat × vt_I) := [(0, 1, 0, 0, 1, 1, 0, 0), (1, 40, 0, 0, 9, 1, 52, 288), (4, 15, 0, 0, 1, 21, 0, 0), (7, 1, 0, 0, 2, 1, 0, 0), (8, 40, 0, 0, 16, 1, 56, 314), (11, 15, 0, 0, 1, 21, 0, 0), (14, 1, 0, 0, 3, 1, 0, 0), (15, 40, 0, 0, 16, 1, 56, 314), (18, 15, 0, 0, 0, 23, 0, 0), (21, 0, 0, -1, 1, 0, 0, 0), (22, 50, 0, 0, 0, 0, 0, 0), (23, 2, 0, 0, 0, 1, 0, 0), (24, 21, 0, 0, 5, 3, 30, 271), (27, 0, 1, 16, 2, 0, 0, 0), (29, 16, 0, 0, 2, 35, 0, 0), (32, 0, 1, -3, 2, 0, 0, 0), (34, 50, 0, 0, 0, 0, 0, 0), (35, 2, 0, 0, 0, 1, 0, 0), (36, 22, 0, 0, 5, 1, 25, 269), (39, 2, 0, 0, 0, 1, 0, 0), (40, 21, 0, 0, 5, 3, 30, 271), (43, 27, 0, 0, 2, 0, 0, 0), (44, 1, 0, 0, 1, 1, 0, 0), (45, 1, 0, 0, 2, 1, 0, 0), (46, 1, 0, 0, 3, 1, 0, 0), (47, 40, 0, 103, 17, 4, 59, 317), (50, 2, 0, 0, 0, 1, 0, 0), (51, 22, 0, 0, 5, 2, 19, 270), (54, 0, 0, 1, 1, 0, 0, 0), (55, 23, 0, 1, 2, 0, 45, 173), (58, 2, 0, 0, 0, 1, 0, 0), (59, 10, 0, 0, 0, 0, 0, 0), (60, 21, 0, 0, 5, 3, 30, 271), (63, 0, 0, 1, 1, 0, 0, 0), (64, 6, 0, 0, 0, 0, 0, 0), (65, 23, 0, 0, 5, 3, 30, 271), (68, 2, 0, 0, 0, 1, 0, 0), (69, 21, 0, 0, 5, 3, 30, 271), (72, 0, 0, 1, 1, 0, 0, 0), (73, 6, 0, 0, 1, 0, 0, 0), (74, 50, 0, 0, 0, 0, 0, 0)]
def vl_16_0 : List (Nat × vt_I) := [(0, 1, 0, 0, 0, 1, 0, 0), (1, 0, 1, -6, 2, 0, 0, 0), (3, 16, 0, 0, 2, 12, 0, 0), (6, 1, 0, 0, 0, 1, 0, 0), (7, 0, 1, 32, 2, 0, 0, 0), (9, 16, 0, 0, 2, 16, 0, 0), (12, 0, 0, 1, 1, 0, 0, 0), (13, 17, 0, 0, 0, 17, 0, 0), (16, 0, 0, 0, 1, 0, 0, 0), (17, 50, 0, 0, 0, 0, 0, 0)]
def vl_17_0 : List (Nat × vt_I) := [(0, 2, 0, 0, 0, 1, 0, 0), (1, 1, 0, 0, 1, 1, 0, 0), (2, 23, 0, 0, 3, 0, 28, 217), (5, 2, 0, 0, 0, 1, 0, 0), (6, 1, 0, 0, 2, 1, 0, 0), (7, 23, 0, 0, 3, 1, 31, 221), (10, 2, 0, 0, 0, 1, 0, 0), (11, 1, 0, 0, 3, 1, 0, 0), (12, 23, 0, 0, 3, 2, 34, 223), (15, 2, 0, 0, 0, 1, 0, 0), (16, 0, 0, -1, 1, 0, 0, 0), (17, 23, 0, 0, 3, 3, 9, 224), (20, 2, 0, 0, 0, 1, 0, 0), (21, 0, 0, 0, 1, 0, 0, 0), (22, 23, 0, 0, 3, 4, 37, 228), (25, 2, 0, 0, 0, 1, 0, 0), (26, 0, 0, 0, 1, 0, 0, 0), (27, 23, 0, 0, 3, 5, 40, 230), (30, 51, 0, 0, 0, 0, 0, 0)]
def vl_18_0 : List (Nat × vt_I) := [(0, 1, 0, 0, 2, 1, 0, 0), (1, 40, 0, 0, 9, 1, 52, 288), (4, 15, 0, 0, 0, 9, 0, 0), (7, 0, 0, -1, 1, 0, 0, 0), (8, 50, 0, 0, 0, 0, 0, 0), (9, 2, 0, 0, 0, 1, 0, 0), (10, 1, 0, 0, 1, 1, 0, 0), (11, 1, 1, 0, 5, 2, 0, 0), (13, 15, 0, 0, 0, 20, 0, 0), (16, 0, 0, 4, 1, 0, 0, 0), (17, 17, 0, 0, 0, 21, 0, 0), (20, 0, 0, 3, 1, 0, 0, 0), (21, 1, 0, 0, 2, 1, 0, 0), (22, 1, 0, 0, 3, 1, 0, 0), (23, 1, 1, 0, 4, 2, 0, 0), (25, 40, 0, 105, 19, 6, 62, 325), (28, 50, 0, 0, 0, 0, 0, 0)]
def vl_19_0 : List (Nat × vt_I) := [(0, 2, 0, 0, 0, 1, 0, 0), (1, 1, 0, 0, 1, 1, 0, 0), (2, 40, 0, 105, 20, 2, 66, 329), (5, 15, 0, 0, 1, 24, 0, 0), (8, 1, 1, 0, 4, 2, 0, 0), (10, 40, 0, 0, 16, 1, 56, 314), (13, 15, 0, 0, 1, 24, 0, 0), (16, 1, 1, 0, 5, 2, 0, 0), (18, 40, 0, 0, 16, 1, 56, 314), (21, 15, 0, 0, 0, 26, 0, 0), (24, 0, 0, -1, 1, 0, 0, 0), (25, 50, 0, 0, 0, 0, 0, 0), (26, 2, 0, 0, 0, 1, 0, 0), (27, 22, 0, 0, 5, 1, 25, 269), (30, 1, 0, 0, 1, 1, 0, 0), (31, 27, 0, 0, 2, 0, 0, 0), (32, 21, 0, 0, 3, 5, 121, 234), (35, 0, 0, 5, 1, 0, 0, 0), (36, 16, 0, 0, 2, 42, 0, 0), (39, 0, 1, -3, 2, 0, 0, 0), (41, 50, 0, 0, 0, 0, 0, 0), (42, 2, 0, 0, 0, 1, 0, 0), (43, 22, 0, 0, 5, 1, 25, 269), (46, 1, 0, 0, 1, 1, 0, 0), (47, 27, 0, 0, 2, 0, 0, 0), (48, 1, 0, 0, 2, 1, 0, 0), (49, 1, 0, 0, 3, 1, 0, 0), (50, 1, 1, 0, 4, 2, 0, 0), (52, 1, 1, 0, 5, 2, 0, 0), (54, 40, 0, 103, 21, 5, 124, 333), (57, 2, 0, 0, 0, 1, 0, 0), (58, 22, 0, 0, 5, 2, 19, 270), (61, 0, 0, 1, 1, 0, 0, 0), (62, 23, 0, 1, 2, 0, 45, 173), (65, 2, 0, 0, 0, 1, 0, 0), (66, 22, 0, 0, 5, 1, 25, 269), (69, 1, 0, 0, 1, 1, 0, 0), (70, 27, 0, 0, 2, 0, 0, 0), (71, 21, 0, 0, 3, 5, 121, 234), (74, 50, 0, 0, 0, 0, 0, 0)]
def vl_20_0 : List (Nat × vt_I) := [(0, 1, 0, 0, 1, 1, 0, 0), (1, 15, 0, 0, 2, 12, 0, 0), (4, 1, 0, 0, 1, 1, 0, 0), (5, 2, 0, 0, 0, 1, 0, 0), (6, 21, 0, 0, 5, 3, 30, 271), (9, 16, 0, 0, 2, 16, 0, 0), (12, 0, 0, 1, 1, 0, 0, 0), (13, 17, 0, 0, 0, 17, 0, 0), (16, 0, 0, 0, 1, 0, 0, 0), (17, 50, 0, 0, 0, 0, 0, 0)]
def vl_21_0 : List (Nat × vt_I) := [(0, 2, 0, 0, 0, 1, 0, 0), (1, 21, 0, 0, 3, 5, 40, 230), (4, 0, 0, 5, 1, 0, 0, 0), (5, 16, 0, 0, 3, 59, 0, 0), (8, 2, 0, 0, 0, 1, 0, 0), (9, 22, 0, 0, 3, 6, 15, 235), (12, 2, 0, 0, 0, 1, 0, 0), (13, 21, 0, 0, 3, 5, 40, 230), (16, 1, 0, 0, 1, 1, 0, 0), (17, 26, 0, 0, 0, 0, 0, 0), (18, 2, 0, 0, 0, 1, 0, 0), (19, 22, 0, 0, 3, 7, 19, 239), (22, 2, 0, 0, 0, 1, 0, 0), (23, 21, 0, 0, 3, 5, 40, 230), (26, 1, 0, 0, 2, 1, 0, 0), (27, 26, 0, 0, 0, 0, 0, 0), (28, 2, 0, 0, 0, 1, 0, 0), (29, 22, 0, 0, 3, 8, 22, 243), (32, 2, 0, 0, 0, 1, 0, 0), (33, 21, 0, 0, 3, 5, 40, 230), (36, 1, 0, 0, 3, 1, 0, 0), (37, 26, 0, 0, 0, 0, 0, 0), (38, 2, 0, 0, 0, 1, 0, 0), (39, 22, 0, 0, 3, 9, 25, 245), (42, 2, 0, 0, 0, 1, 0, 0), (43, 21, 0, 0, 3, 5, 40, 230), (46, 1, 1, 0, 4, 2, 0, 0), (48, 26, 0, 0, 0, 0, 0, 0), (49, 2, 0, 0, 0, 1, 0, 0), (50, 10, 0, 0, 0, 0, 0, 0), (51, 21, 0, 0, 3, 5, 40, 230), (54, 0, 0, 1, 1, 0, 0, 0), (55, 6, 0, 0, 0, 0, 0, 0), (56, 23, 0, 0, 3, 5, 40, 230), (59, 51, 0, 0, 0, 0, 0, 0)]
def vl_22_0 : List (Nat × vt_I) := [(0, 1, 0, 0, 2, 1, 0, 0), (1, 15, 0, 0, 2, 9, 0, 0), (4, 1, 0, 0, 2, 1, 0, 0), (5, 0, 0, 2, 1, 0, 0, 0), (6, 16, 0, 0, 5, 11, 0, 0), (9, 0, 0, -1, 1, 0, 0, 0), (10, 50, 0, 0, 0, 0, 0, 0), (11, 2, 0, 0, 0, 1, 0, 0), (12, 1, 0, 0, 1, 1, 0, 0), (13, 1, 0, 0, 2, 1, 0, 0), (14, 0, 0, 0, 1, 0, 0, 0), (15, 1, 0, 0, 3, 1, 0, 0), (16, 1, 1, 0, 4, 2, 0, 0), (18, 40, 0, 105, 19, 6, 62, 325), (21, 50, 0, 0, 0, 0, 0, 0)]
def vl_23_0 : List (Nat × vt_I) := [(0, 2, 0, 0, 0, 1, 0, 0), (1, 1, 0, 0, 1, 1, 0, 0), (2, 40, 0, 105, 20, 2, 66, 329), (5, 15, 0, 0, 1, 18, 0, 0), (8, 1, 0, 0, 2, 1, 0, 0), (9, 0, 0, -1, 1, 0, 0, 0), (10, 16, 0, 0, 2, 18, 0, 0), (13, 1, 0, 0, 2, 1, 0, 0), (14, 0, 0, 3, 1, 0, 0, 0), (15, 16, 0, 0, 5, 20, 0, 0), (18, 0, 0, -1, 1, 0, 0, 0), (19, 50, 0, 0, 0, 0, 0, 0), (20, 1, 0, 0, 2, 1, 0, 0), (21, 0, 0, -1, 1, 0, 0, 0), (22, 16, 0, 0, 0, 38, 0, 0), (25, 1, 0, 0, 3, 1, 0, 0), (26, 0, 1, -6, 2, 0, 0, 0), (28, 16, 0, 0, 2, 36, 0, 0), (31, 1, 0, 0, 3, 1, 0, 0), (32, 0, 0, -1, 1, 0, 0, 0), (33, 16, 0, 0, 5, 38, 0, 0), (36, 0, 0, -1, 1, 0, 0, 0), (37, 50, 0, 0, 0, 0, 0, 0), (38, 2, 0, 0, 0, 1, 0, 0), (39, 22, 0, 0, 5, 1, 25, 269), (42, 1, 0, 0, 1, 1, 0, 0), (43, 27, 0, 0, 2, 0, 0, 0), (44, 1, 0, 0, 2, 1, 0, 0), (45, 23, 0, 0, 3, 3, 69, 227), (48, 2, 0, 0, 0, 1, 0, 0), (49, 22, 0, 0, 5, 1, 25, 269), (52, 1, 0, 0, 1, 1, 0, 0), (53, 27, 0, 0, 2, 0, 0, 0), (54, 1, 0, 0, 3, 1, 0, 0), (55, 23, 0, 0, 3, 4, 72, 229), (58, 2, 0, 0, 0, 1, 0, 0), (59, 22, 0, 0, 5, 2, 19, 270), (62, 0, 0, 1, 1, 0, 0, 0), (63, 23, 0, 1, 2, 0, 45, 173), (66, 0, 0, 1, 1, 0, 0, 0), (67, 50, 0, 0, 0, 0, 0, 0)]
def vl_24_0 : List (Nat × vt_I) := [(0, 2, 0, 0, 0, 1, 0, 0), (1, 1, 0, 0, 1, 1, 0, 0), (2, 40, 0, 105, 20, 2, 66, 329), (5, 15, 0, 0, 0, 10, 0, 0), (8, 0, 0, -1, 1, 0, 0, 0), (9, 50, 0, 0, 0, 0, 0, 0), (10, 2, 0, 0, 0, 1, 0, 0), (11, 22, 0, 0, 5, 1, 25, 269), (14, 1, 0, 0, 1, 1, 0, 0), (15, 27, 0, 0, 2, 0, 0, 0), (16, 4, 0, 0, 2, 1, 0, 0), (17, 1, 0, 0, 1, 1, 0, 0), (18, 3, 0, 0, 3, 1, 0, 0), (19, 1, 0, 0, 3, 1, 0, 0), (20, 0, 0, 1, 1, 0, 0, 0), (21, 6, 0, 0, 0, 0, 0, 0), (22, 2, 0, 0, 0, 1, 0, 0), (23, 21, 0, 0, 5, 3, 30, 271), (26, 16, 0, 0, 3, 49, 0, 0), (29, 2, 0, 0, 0, 1, 0, 0), (30, 22, 0, 0, 5, 1, 25, 269), (33, 1, 0, 0, 3, 1, 0, 0), (34, 2, 0, 0, 0, 1, 0, 0), (35, 22, 0, 0, 5, 1, 25, 269), (38, 1, 0, 0, 3, 1, 0, 0), (39, 0, 0, 1, 1, 0, 0, 0), (40, 6, 0, 0, 0, 0, 0, 0), (41, 27, 0, 0, 2, 0, 0, 0), (42, 28, 0, 0, 2, 103, 0, 0), (43, 5, 0, 1, 3, 0, 0, 0), (46, 17, 0, 0, 0, 19, 0, 0), (49, 2, 0, 0, 0, 1, 0, 0), (50, 10, 0, 0, 0, 0, 0, 0), (51, 21, 0, 0, 5, 3, 30, 271), (54, 0, 0, 1, 1, 0, 0, 0), (55, 6, 0, 0, 1, 0, 0, 0), (56, 23, 0, 0, 5, 3, 30, 271), (59, 2, 0, 0, 0, 1, 0, 0), (60, 22, 0, 0, 5, 1, 25, 269), (63, 2, 0, 0, 0, 1, 0, 0), (64, 21, 0, 0, 5, 3, 30, 271), (67, 2, 0, 0, 2, 1, 0, 0), (68, 28, 0, 0, 2, 103, 0, 0), (69, 2, 0, 0, 0, 1, 0, 0), (70, 22, 0, 0, 5, 2, 19, 270), (73, 0, 0, 1, 1, 0, 0, 0), (74, 23, 0, 1, 2, 0, 45, 173), (77, 2, 0, 0, 0, 1, 0, 0), (78, 21, 0, 0, 5, 3, 30, 271), (81, 50, 0, 0, 0, 0, 0, 0)]
def vl_25_0 : List (Nat × vt_I) := [(0, 2, 0, 0, 0, 1, 0, 0), (1, 1, 0, 0, 1, 1, 0, 0), (2, 40, 0, 105, 20, 2, 66, 329), (5, 15, 0, 0, 0, 10, 0, 0), (8, 0, 0, -1, 1, 0, 0, 0), (9, 50, 0, 0, 0, 0, 0, 0), (10, 2, 0, 0, 0, 1, 0, 0), (11, 22, 0, 0, 5, 1, 25, 269), (14, 1, 0, 0, 1, 1, 0, 0), (15, 27, 0, 0, 2, 0, 0, 0), (16, 40, 0, 103, 26, 1, 75, 353), (19, 15, 0, 0, 0, 26, 0, 0), (22, 0, 0, 1, 1, 0, 0, 0), (23, 17, 0, 0, 0, 27, 0, 0), (26, 0, 0, 0, 1, 0, 0, 0), (27, 50, 0, 0, 0, 0, 0, 0)]
def vl_26_0 : List (Nat × vt_I) := [(0, 0, 0, 0, 1, 0, 0, 0), (1, 3, 0, 0, 1, 1, 0, 0), (2, 2, 0, 0, 0, 1, 0, 0), (3, 21, 0, 0, 3, 1, 31, 221), (6, 2, 0, 0, 0, 1, 0, 0), (7, 40, 0, 103, 27, 1, 43, 357), (10, 40, 0, 0, 28, 2, 47, 361), (13, 3, 0, 0, 2, 1, 0, 0), (14, 0, 0, 0, 1, 0, 0, 0), (15, 3, 0, 0, 3, 1, 0, 0), (16, 1, 0, 0, 3, 1, 0, 0), (17, 2, 0, 0, 0, 1, 0, 0), (18, 21, 0, 0, 3, 5, 40, 230), (21, 16, 0, 0, 3, 79, 0, 0), (24, 2, 0, 0, 0, 1, 0, 0), (25, 22, 0, 0, 3, 6, 15, 235), (28, 1, 0, 0, 3, 1, 0, 0), (29, 25, 0, 0, 0, 0, 0, 0), (30, 0, 0, 3, 1, 0, 0, 0), (31, 16, 0, 0, 1, 55, 0, 0), (34, 1, 0, 0, 1, 1, 0, 0), (35, 2, 0, 0, 0, 1, 0, 0), (36, 22, 0, 0, 3, 8, 22, 243), (39, 1, 0, 0, 3, 1, 0, 0), (40, 25, 0, 0, 0, 0, 0, 0), (41, 2, 0, 0, 0, 1, 0, 0), (42, 22, 0, 0, 3, 9, 25, 245), (45, 1, 0, 0, 3, 1, 0, 0), (46, 25, 0, 0, 0, 0, 0, 0), (47, 40, 0, 0, 28, 2, 47, 361), (50, 6, 0, 0, 4, 0, 0, 0), (51, 3, 0, 0, 1, 1, 0, 0), (52, 17, 0, 0, 0, 73, 0, 0), (55, 1, 0, 0, 2, 1, 0, 0), (56, 2, 0, 0, 0, 1, 0, 0), (57, 22, 0, 0, 3, 8, 22, 243), (60, 1, 0, 0, 3, 1, 0, 0), (61, 25, 0, 0, 0, 0, 0, 0), (62, 2, 0, 0, 0, 1, 0, 0), (63, 22, 0, 0, 3, 9, 25, 245), (66, 1, 0, 0, 3, 1, 0, 0), (67, 25, 0, 0, 0, 0, 0, 0), (68, 40, 0, 0, 28, 2, 47, 361), (71, 6, 0, 0, 4, 0, 0, 0), (72, 3, 0, 0, 2, 1, 0, 0), (73, 5, 0, 1, 3, 0, 0, 0), (76, 17, 0, 0, 0, 16, 0, 0), (79, 1, 0, 0, 2, 1, 0, 0), (80, 1, 0, 0, 1, 1, 0, 0), (81, 0, 0, -1, 1, 0, 0, 0), (82, 6, 0, 0, 5, 0, 0, 0), (83, 6, 0, 0, 3, 0, 0, 0), (84, 15, 0, 0, 1, 91, 0, 0), (87, 0, 0, 1, 1, 0, 0, 0), (88, 17, 0, 0, 0, 92, 0, 0), (91, 0, 0, 0, 1, 0, 0, 0), (92, 50, 0, 0, 0, 0, 0, 0)]
def vl_27_0 : List (Nat × vt_I) := [(0, 2, 0, 0, 0, 1, 0, 0), (1, 21, 0, 0, 3, 3, 9, 224), (4, 0, 0, -1, 1, 0, 0, 0), (5, 16, 0, 0, 1, 15, 0, 0), (8, 2, 0, 0, 0, 1, 0, 0), (9, 21, 0, 0, 3, 2, 34, 223), (12, 17, 0, 0, 0, 19, 0, 0), (15, 2, 0, 0, 0, 1, 0, 0), (16, 21, 0, 0, 3, 4, 37, 228), (19, 50, 0, 0, 0, 0, 0, 0)]
def vl_28_0 : List (Nat × vt_I) := [(0, 1, 0, 0, 0, 1, 0, 0), (1, 15, 0, 0, 3, 13, 0, 0), (4, 0, 0, 1, 1, 0, 0, 0), (5, 1, 0, 0, 0, 1, 0, 0), (6, 40, 1, 0, 29, 1, 51, 7), (9, 6, 0, 0, 6, 0, 0, 0), (10, 17, 0, 0, 0, 14, 0, 0), (13, 0, 0, 0, 1, 0, 0, 0), (14, 3, 0, 0, 2, 1, 0, 0), (15, 1, 0, 0, 1, 1, 0, 0), (16, 15, 0, 0, 3, 30, 0, 0), (19, 1, 0, 0, 2, 1, 0, 0), (20, 0, 0, 1, 1, 0, 0, 0), (21, 1, 0, 0, 1, 1, 0, 0), (22, 40, 1, 0, 29, 1, 51, 7), (25, 6, 0, 0, 6, 0, 0, 0), (26, 6, 0, 0, 4, 0, 0, 0), (27, 17, 0, 0, 0, 31, 0, 0), (30, 1, 0, 0, 2, 1, 0, 0), (31, 50, 0, 0, 0, 0, 0, 0)]
def vl_29_0 : List (Nat × vt_I) := [(0, 0, 0, -1, 1, 0, 0, 0), (1, 1, 0, 0, 0, 1, 0, 0), (2, 6, 0, 0, 1, 0, 0, 0), (3, 50, 0, 0, 0, 0, 0, 0)]
def vl_30_0 : List (Nat × vt_I) := [(0, 2, 0, 0, 0, 1, 0, 0), (1, 22, 0, 0, 5, 2, 19, 270), (4, 2, 0, 0, 0, 1, 0, 0), (5, 22, 0, 0, 5, 0, 12, 268), (8, 2, 0, 0, 0, 1, 0, 0), (9, 22, 0, 0, 5, 1, 25, 269), (12, 2, 0, 0, 0, 1, 0, 0), (13, 21, 0, 0, 5, 3, 30, 271), (16, 40, 0, 102, 31, 4, 79, 371), (19, 2, 0, 0, 0, 1, 0, 0), (20, 22, 0, 0, 5, 2, 19, 270), (23, 22, 0, 0, 2, 2, 83, 177), (26, 21, 0, 0, 4, 4, 87, 100), (29, 3, 0, 0, 1, 1, 0, 0), (30, 1, 0, 0, 1, 1, 0, 0), (31, 15, 0, 0, 2, 41, 0, 0), (34, 0, 1, -10, 2, 0, 0, 0), (36, 1, 0, 0, 1, 1, 0, 0), (37, 6, 0, 0, 1, 0, 0, 0), (38, 17, 0, 0, 0, 48, 0, 0), (41, 2, 0, 0, 0, 1, 0, 0), (42, 22, 0, 0, 5, 2, 19, 270), (45, 21, 0, 0, 2, 1, 92, 175), (48, 50, 0, 0, 0, 0, 0, 0)]
def vl_31_0 : List (Nat × vt_I) := [(0, 2, 0, 0, 0, 1, 0, 0), (1, 21, 0, 0, 2, 0, 9, 172), (4, 15, 0, 0, 1, 8, 0, 0), (7, 51, 0, 0, 0, 0, 0, 0), (8, 2, 0, 0, 0, 1, 0, 0), (9, 0, 0, 0, 1, 0, 0, 0), (10, 23, 0, 1, 2, 0, 9, 172), (13, 2, 0, 0, 0, 1, 0, 0), (14, 2, 0, 0, 1, 1, 0, 0), (15, 2, 0, 0, 2, 1, 0, 0), (16, 1, 0, 0, 3, 1, 0, 0), (17, 40, 0, 102, 32, 4, 61, 375), (20, 3, 1, 0, 4, 2, 0, 0), (22, 0, 0, 0, 1, 0, 0, 0), (23, 3, 1, 0, 5, 2, 0, 0), (25, 0, 0, 1, 1, 0, 0, 0), (26, 3, 1, 0, 6, 2, 0, 0), (28, 0, 0, 0, 1, 0, 0, 0), (29, 3, 1, 0, 7, 2, 0, 0), (31, 1, 1, 0, 5, 2, 0, 0), (33, 1, 1, 0, 4, 2, 0, 0), (35, 16, 0, 0, 3, 156, 0, 0), (38, 1, 1, 0, 7, 2, 0, 0), (40, 0, 2, 16400, 3, 0, 0, 0), (43, 16, 0, 0, 3, 156, 0, 0), (46, 0, 0, 0, 1, 0, 0, 0), (47, 3, 1, 0, 8, 2, 0, 0), (49, 1, 1, 0, 8, 2, 0, 0), (51, 1, 0, 0, 3, 1, 0, 0), (52, 16, 0, 0, 3, 119, 0, 0), (55, 0, 0, -1, 1, 0, 0, 0), (56, 3, 1, 0, 9, 2, 0, 0), (58, 2, 0, 0, 0, 1, 0, 0), (59, 22, 0, 0, 2, 6, 45, 182), (62, 1, 1, 0, 8, 2, 0, 0), (64, 25, 0, 0, 0, 0, 0, 0), (65, 1, 1, 0, 5, 2, 0, 0), (67, 16, 0, 0, 1, 113, 0, 0), (70, 1, 1, 0, 9, 2, 0, 0), (72, 2, 0, 0, 2, 1, 0, 0), (73, 1, 1, 0, 8, 2, 0, 0), (75, 27, 0, 0, 2, 0, 0, 0), (76, 21, 0, 0, 3, 5, 65, 231), (79, 16, 0, 0, 3, 113, 0, 0), (82, 2, 0, 0, 0, 1, 0, 0), (83, 2, 0, 0, 2, 1, 0, 0), (84, 1, 1, 0, 8, 2, 0, 0), (86, 27, 0, 0, 2, 0, 0, 0), (87, 1, 1, 0, 9, 2, 0, 0), (89, 1, 1, 0, 6, 2, 0, 0), (91, 40, 0, 102, 42, 4, 70, 421), (94, 15, 0, 0, 0, 107, 0, 0), (97, 2, 0, 0, 0, 1, 0, 0), (98, 2, 0, 0, 2, 1, 0, 0), (99, 1, 1, 0, 8, 2, 0, 0), (101, 27, 0, 0, 2, 0, 0, 0), (102, 1, 1, 0, 9, 2, 0, 0), (104, 40, 0, 102, 43, 3, 74, 426), (107, 5, 0, 1, 9, 0, 0, 0), (110, 17, 0, 0, 0, 58, 0, 0)]
def vl_31_1 : List (Nat × vt_I) := [(113, 5, 0, 1, 8, 0, 0, 0), (116, 17, 0, 0, 0, 49, 0, 0), (119, 2, 0, 0, 0, 1, 0, 0), (120, 1, 1, 0, 6, 2, 0, 0), (122, 40, 0, 102, 68, 2, 78, 535), (125, 15, 0, 0, 0, 144, 0, 0), (128, 2, 0, 0, 0, 1, 0, 0), (129, 10, 0, 0, 0, 0, 0, 0), (130, 21, 0, 0, 2, 1, 15, 174), (133, 0, 0, 1, 1, 0, 0, 0), (134, 6, 0, 0, 0, 0, 0, 0), (135, 23, 0, 0, 2, 1, 15, 174), (138, 5, 0, 1, 6, 0, 0, 0), (141, 17, 0, 0, 0, 150, 0, 0), (144, 5, 0, 1, 5, 0, 0, 0), (147, 0, 0, 1, 1, 0, 0, 0), (148, 3, 1, 0, 6, 2, 0, 0), (150, 5, 0, 1, 7, 0, 0, 0), (153, 17, 0, 0, 0, 31, 0, 0), (156, 51, 0, 0, 0, 0, 0, 0)]
def vl_32_0 : List (Nat × vt_I) := [(0, 2, 0, 0, 0, 1, 0, 0), (1, 0, 0, 0, 1, 0, 0, 0), (2, 23, 0, 0, 2, 1, 15, 174), (5, 2, 0, 0, 0, 1, 0, 0), (6, 22, 0, 0, 2, 3, 29, 178), (9, 2, 0, 0, 1, 1, 0, 0), (10, 40, 0, 101, 33, 2, 82, 379), (13, 2, 0, 0, 0, 1, 0, 0), (14, 22, 0, 0, 2, 2, 22, 176), (17, 2, 0, 0, 2, 1, 0, 0), (18, 1, 0, 0, 3, 1, 0, 0), (19, 40, 0, 104, 34, 3, 86, 386), (22, 0, 0, 0, 1, 0, 0, 0), (23, 3, 1, 0, 4, 2, 0, 0), (25, 0, 0, 0, 1, 0, 0, 0), (26, 3, 1, 0, 5, 2, 0, 0), (28, 1, 1, 0, 5, 2, 0, 0), (30, 1, 0, 0, 3, 1, 0, 0), (31, 16, 0, 0, 3, 92, 0, 0), (34, 2, 0, 0, 0, 1, 0, 0), (35, 22, 0, 0, 2, 6, 45, 182), (38, 1, 1, 0, 5, 2, 0, 0), (40, 2, 0, 0, 2, 1, 0, 0), (41, 1, 1, 0, 5, 2, 0, 0), (43, 27, 0, 0, 2, 0, 0, 0), (44, 40, 0, 103, 26, 1, 90, 419), (47, 15, 0, 0, 0, 68, 0, 0), (50, 2, 0, 0, 0, 1, 0, 0), (51, 22, 0, 0, 2, 2, 22, 176), (54, 22, 0, 0, 4, 3, 94, 96), (57, 2, 0, 0, 2, 1, 0, 0), (58, 1, 1, 0, 5, 2, 0, 0), (60, 27, 0, 0, 2, 0, 0, 0), (61, 21, 0, 0, 3, 0, 97, 219), (64, 25, 0, 0, 0, 0, 0, 0), (65, 17, 0, 0, 0, 69, 0, 0), (68, 0, 0, -1, 1, 0, 0, 0), (69, 26, 0, 0, 0, 0, 0, 0), (70, 1, 1, 0, 4, 2, 0, 0), (72, 2, 0, 0, 0, 1, 0, 0), (73, 22, 0, 0, 2, 6, 45, 182), (76, 1, 1, 0, 5, 2, 0, 0), (78, 25, 0, 0, 0, 0, 0, 0), (79, 0, 0, 1, 1, 0, 0, 0), (80, 6, 0, 0, 0, 0, 0, 0), (81, 41, 0, 0, 0, 0, 100, 420), (84, 3, 1, 0, 4, 2, 0, 0), (86, 5, 0, 1, 5, 0, 0, 0), (89, 17, 0, 0, 0, 28, 0, 0), (92, 2, 0, 0, 0, 1, 0, 0), (93, 22, 0, 0, 2, 2, 22, 176), (96, 21, 0, 0, 4, 4, 106, 99), (99, 15, 0, 0, 2, 106, 0, 0), (102, 0, 0, 0, 1, 0, 0, 0), (103, 17, 0, 0, 0, 108, 0, 0), (106, 1, 1, 0, 4, 2, 0, 0), (108, 50, 0, 0, 0, 0, 0, 0)]
def vl_33_0 : List (Nat × vt_I) := [(0, 2, 0, 0, 1, 1, 0, 0), (1, 22, 0, 0, 1, 0, 9, 69), (4, 0, 0, 0, 1, 0, 0, 0), (5, 2, 0, 0, 0, 1, 0, 0), (6, 22, 0, 0, 1, 0, 9, 69), (9, 0, 0, 0, 1, 0, 0, 0), (10, 0, 2, 512, 3, 0, 0, 0), (13, 34, 0, 0, 0, 0, 26, 383), (16, 2, 0, 0, 1, 1, 0, 0), (17, 22, 0, 0, 1, 1, 15, 72), (20, 0, 0, 0, 1, 0, 0, 0), (21, 2, 0, 0, 0, 1, 0, 0), (22, 22, 0, 0, 1, 1, 15, 72), (25, 0, 0, 0, 1, 0, 0, 0), (26, 0, 2, 512, 3, 0, 0, 0), (29, 34, 0, 0, 0, 0, 26, 383), (32, 51, 0, 0, 0, 0, 0, 0)]
def vl_34_0 : List (Nat × vt_I) := [(0, 2, 0, 0, 0, 1, 0, 0), (1, 22, 0, 0, 4, 0, 9, 92), (4, 0, 0, 0, 1, 0, 0, 0), (5, 40, 0, 0, 35, 2, 28, 390), (8, 2, 0, 0, 0, 1, 0, 0), (9, 22, 0, 0, 4, 1, 15, 93), (12, 0, 0, 0, 1, 0, 0, 0), (13, 40, 0, 0, 35, 2, 28, 390), (16, 2, 0, 0, 0, 1, 0, 0), (17, 22, 0, 0, 4, 3, 21, 95), (20, 0, 0, 0, 1, 0, 0, 0), (21, 40, 0, 0, 35, 2, 28, 390), (24, 0, 0, 0, 1, 0, 0, 0), (25, 3, 0, 0, 3, 1, 0, 0), (26, 1, 0, 0, 3, 1, 0, 0), (27, 1, 0, 0, 2, 1, 0, 0), (28, 16, 0, 0, 3, 53, 0, 0), (31, 2, 0, 0, 1, 1, 0, 0), (32, 1, 0, 0, 3, 1, 0, 0), (33, 27, 0, 0, 2, 0, 0, 0), (34, 40, 0, 103, 26, 1, 34, 393), (37, 15, 0, 0, 0, 47, 0, 0), (40, 2, 0, 0, 0, 1, 0, 0), (41, 2, 0, 0, 1, 1, 0, 0), (42, 1, 0, 0, 3, 1, 0, 0), (43, 27, 0, 0, 2, 0, 0, 0), (44, 40, 0, 104, 36, 2, 40, 394), (47, 5, 0, 1, 3, 0, 0, 0), (50, 17, 0, 0, 0, 26, 0, 0), (53, 2, 0, 0, 0, 1, 0, 0), (54, 40, 0, 104, 37, 1, 44, 398), (57, 2, 0, 0, 0, 1, 0, 0), (58, 2, 0, 0, 0, 1, 0, 0), (59, 40, 0, 104, 38, 1, 47, 404), (62, 23, 0, 0, 4, 4, 24, 98), (65, 2, 0, 0, 0, 1, 0, 0), (66, 21, 0, 0, 4, 4, 24, 98), (69, 15, 0, 0, 3, 76, 0, 0), (72, 2, 0, 0, 0, 1, 0, 0), (73, 40, 0, 104, 39, 1, 51, 408), (76, 51, 0, 0, 0, 0, 0, 0)]
def vl_35_0 : List (Nat × vt_I) := [(0, 0, 0, 0, 1, 0, 0, 0), (1, 3, 0, 0, 2, 1, 0, 0), (2, 2, 0, 0, 0, 1, 0, 0), (3, 29, 0, 0, 0, 0, 0, 0), (4, 3, 0, 0, 3, 1, 0, 0), (5, 1, 0, 0, 2, 1, 0, 0), (6, 1, 0, 0, 3, 1, 0, 0), (7, 16, 0, 0, 3, 20, 0, 0), (10, 2, 0, 0, 0, 1, 0, 0), (11, 1, 0, 0, 2, 1, 0, 0), (12, 1, 0, 0, 1, 1, 0, 0), (13, 26, 0, 0, 0, 0, 0, 0), (14, 5, 0, 1, 2, 0, 0, 0), (17, 17, 0, 0, 0, 5, 0, 0), (20, 51, 0, 0, 0, 0, 0, 0)]
def vl_36_0 : List (Nat × vt_I) := [(0, 0, 0, 0, 1, 0, 0, 0), (1, 3, 0, 0, 2, 1, 0, 0), (2, 1, 0, 0, 2, 1, 0, 0), (3, 2, 0, 0, 1, 1, 0, 0), (4, 21, 0, 0, 3, 5, 54, 233), (7, 16, 0, 0, 3, 108, 0, 0), (10, 2, 0, 0, 1, 1, 0, 0), (11, 22, 0, 0, 3, 6, 57, 237), (14, 1, 0, 0, 2, 1, 0, 0), (15, 25, 0, 0, 0, 0, 0, 0), (16, 0, 0, 3, 1, 0, 0, 0), (17, 16, 0, 0, 0, 30, 0, 0), (20, 2, 0, 0, 1, 1, 0, 0), (21, 22, 0, 0, 3, 6, 57, 237), (24, 1, 0, 0, 2, 1, 0, 0), (25, 25, 0, 0, 0, 0, 0, 0), (26, 0, 0, 4, 1, 0, 0, 0), (27, 16, 0, 0, 1, 34, 0, 0), (30, 0, 0, 1, 1, 0, 0, 0), (31, 17, 0, 0, 0, 35, 0, 0), (34, 0, 0, 0, 1, 0, 0, 0), (35, 3, 0, 0, 3, 1, 0, 0), (36, 1, 0, 0, 3, 1, 0, 0), (37, 15, 0, 0, 0, 60, 0, 0), (40, 2, 0, 0, 0, 1, 0, 0), (41, 22, 0, 0, 4, 0, 9, 92), (44, 2, 0, 0, 1, 1, 0, 0), (45, 21, 0, 0, 3, 0, 60, 218), (48, 14, 0, 0, 0, 0, 0, 0), (49, 25, 0, 0, 0, 0, 0, 0), (50, 0, 0, 1, 1, 0, 0, 0), (51, 2, 0, 0, 1, 1, 0, 0), (52, 22, 0, 0, 3, 7, 63, 241), (55, 1, 0, 0, 2, 1, 0, 0), (56, 25, 0, 0, 0, 0, 0, 0), (57, 6, 0, 0, 6, 0, 0, 0), (58, 6, 0, 0, 4, 0, 0, 0), (59, 26, 0, 0, 0, 0, 0, 0), (60, 1, 0, 0, 3, 1, 0, 0), (61, 15, 0, 0, 0, 102, 0, 0), (64, 2, 0, 0, 1, 1, 0, 0), (65, 22, 0, 0, 3, 6, 57, 237), (68, 1, 0, 0, 2, 1, 0, 0), (69, 25, 0, 0, 0, 0, 0, 0), (70, 0, 0, 4, 1, 0, 0, 0), (71, 16, 0, 0, 0, 82, 0, 0), (74, 2, 0, 0, 1, 1, 0, 0), (75, 21, 0, 0, 3, 3, 66, 225), (78, 0, 0, -1, 1, 0, 0, 0), (79, 16, 0, 0, 0, 102, 0, 0), (82, 2, 0, 0, 0, 1, 0, 0), (83, 22, 0, 0, 4, 1, 15, 93), (86, 2, 0, 0, 1, 1, 0, 0), (87, 21, 0, 0, 3, 0, 60, 218), (90, 14, 0, 0, 0, 0, 0, 0), (91, 25, 0, 0, 0, 0, 0, 0), (92, 0, 0, 1, 1, 0, 0, 0), (93, 2, 0, 0, 1, 1, 0, 0), (94, 22, 0, 0, 3, 7, 63, 241), (97, 1, 0, 0, 2, 1, 0, 0)]
def vl_36_1 : List (Nat × vt_I) := [(98, 25, 0, 0, 0, 0, 0, 0), (99, 6, 0, 0, 6, 0, 0, 0), (100, 6, 0, 0, 4, 0, 0, 0), (101, 26, 0, 0, 0, 0, 0, 0), (102, 5, 0, 1, 2, 0, 0, 0), (105, 17, 0, 0, 0, 2, 0, 0), (108, 51, 0, 0, 0, 0, 0, 0)]
def vl_37_0 : List (Nat × vt_I) := [(0, 2, 0, 0, 0, 1, 0, 0), (1, 22, 0, 0, 4, 0, 9, 92), (4, 0, 0, 0, 1, 0, 0, 0), (5, 2, 0, 0, 0, 1, 0, 0), (6, 22, 0, 0, 4, 2, 18, 94), (9, 0, 0, 0, 1, 0, 0, 0), (10, 0, 1, 16, 2, 0, 0, 0), (12, 34, 0, 0, 0, 0, 69, 402), (15, 0, 0, 0, 1, 0, 0, 0), (16, 3, 0, 0, 1, 1, 0, 0), (17, 1, 0, 0, 1, 1, 0, 0), (18, 0, 1, 16, 2, 0, 0, 0), (20, 16, 0, 0, 3, 71, 0, 0), (23, 0, 0, 0, 1, 0, 0, 0), (24, 3, 0, 0, 2, 1, 0, 0), (25, 1, 0, 0, 2, 1, 0, 0), (26, 0, 1, 16, 2, 0, 0, 0), (28, 16, 0, 0, 3, 65, 0, 0), (31, 2, 0, 0, 0, 1, 0, 0), (32, 22, 0, 0, 4, 2, 18, 94), (35, 1, 0, 0, 2, 1, 0, 0), (36, 25, 0, 0, 0, 0, 0, 0), (37, 1, 0, 0, 1, 1, 0, 0), (38, 40, 1, 0, 11, 2, 75, 8), (41, 15, 0, 0, 0, 59, 0, 0), (44, 2, 0, 0, 0, 1, 0, 0), (45, 22, 0, 0, 4, 2, 18, 94), (48, 1, 0, 0, 2, 1, 0, 0), (49, 14, 0, 0, 0, 0, 0, 0), (50, 25, 0, 0, 0, 0, 0, 0), (51, 2, 0, 0, 0, 1, 0, 0), (52, 22, 0, 0, 4, 2, 18, 94), (55, 1, 0, 0, 1, 1, 0, 0), (56, 25, 0, 0, 0, 0, 0, 0), (57, 6, 0, 0, 4, 0, 0, 0), (58, 26, 0, 0, 0, 0, 0, 0), (59, 5, 0, 1, 2, 0, 0, 0), (62, 17, 0, 0, 0, 25, 0, 0), (65, 5, 0, 1, 1, 0, 0, 0), (68, 17, 0, 0, 0, 17, 0, 0), (71, 51, 0, 0, 0, 0, 0, 0)]
def vl_38_0 : List (Nat × vt_I) := [(0, 0, 0, 0, 1, 0, 0, 0), (1, 3, 0, 0, 1, 1, 0, 0), (2, 1, 0, 0, 1, 1, 0, 0), (3, 0, 1, 16, 2, 0, 0, 0), (5, 16, 0, 0, 3, 61, 0, 0), (8, 0, 0, 0, 1, 0, 0, 0), (9, 3, 0, 0, 2, 1, 0, 0), (10, 1, 0, 0, 2, 1, 0, 0), (11, 0, 1, 16, 2, 0, 0, 0), (13, 16, 0, 0, 3, 55, 0, 0), (16, 2, 0, 0, 0, 1, 0, 0), (17, 22, 0, 0, 4, 1, 15, 93), (20, 1, 0, 0, 1, 1, 0, 0), (21, 25, 0, 0, 0, 0, 0, 0), (22, 1, 0, 0, 2, 1, 0, 0), (23, 40, 1, 0, 11, 2, 75, 8), (26, 15, 0, 0, 0, 49, 0, 0), (29, 1, 0, 0, 2, 1, 0, 0), (30, 1, 0, 0, 1, 1, 0, 0), (31, 16, 0, 0, 0, 47, 0, 0), (34, 2, 0, 0, 0, 1, 0, 0), (35, 22, 0, 0, 4, 2, 18, 94), (38, 1, 0, 0, 2, 1, 0, 0), (39, 25, 0, 0, 0, 0, 0, 0), (40, 1, 0, 0, 1, 1, 0, 0), (41, 40, 1, 0, 11, 2, 75, 8), (44, 15, 0, 0, 0, 49, 0, 0), (47, 1, 0, 0, 1, 1, 0, 0), (48, 50, 0, 0, 0, 0, 0, 0), (49, 5, 0, 1, 2, 0, 0, 0), (52, 17, 0, 0, 0, 10, 0, 0), (55, 5, 0, 1, 1, 0, 0, 0), (58, 17, 0, 0, 0, 2, 0, 0), (61, 0, 0, -1, 1, 0, 0, 0), (62, 50, 0, 0, 0, 0, 0, 0)]
def vl_39_0 : List (Nat × vt_I) := [(0, 0, 0, 1, 1, 0, 0, 0), (1, 3, 0, 0, 1, 1, 0, 0), (2, 0, 0, 0, 1, 0, 0, 0), (3, 3, 0, 0, 2, 1, 0, 0), (4, 1, 0, 0, 1, 1, 0, 0), (5, 15, 0, 0, 0, 64, 0, 0), (8, 1, 0, 0, 2, 1, 0, 0), (9, 0, 1, 16, 2, 0, 0, 0), (11, 16, 0, 0, 4, 64, 0, 0), (14, 0, 0, 0, 1, 0, 0, 0), (15, 3, 0, 0, 1, 1, 0, 0), (16, 0, 0, 0, 1, 0, 0, 0), (17, 3, 0, 0, 3, 1, 0, 0), (18, 1, 0, 0, 3, 1, 0, 0), (19, 0, 1, 16, 2, 0, 0, 0), (21, 16, 0, 0, 3, 58, 0, 0), (24, 2, 0, 0, 0, 1, 0, 0), (25, 1, 0, 0, 3, 1, 0, 0), (26, 40, 0, 104, 40, 2, 79, 412), (29, 3, 1, 0, 4, 2, 0, 0), (31, 1, 1, 0, 4, 2, 0, 0), (33, 2, 0, 0, 0, 1, 0, 0), (34, 22, 0, 0, 4, 3, 21, 95), (37, 1, 0, 0, 3, 1, 0, 0), (38, 25, 0, 0, 0, 0, 0, 0), (39, 16, 0, 0, 5, 52, 0, 0), (42, 2, 0, 0, 0, 1, 0, 0), (43, 22, 0, 0, 4, 3, 21, 95), (46, 1, 0, 0, 3, 1, 0, 0), (47, 1, 1, 0, 4, 2, 0, 0), (49, 26, 0, 0, 0, 0, 0, 0), (50, 0, 0, 1, 1, 0, 0, 0), (51, 3, 0, 0, 1, 1, 0, 0), (52, 5, 0, 1, 3, 0, 0, 0), (55, 17, 0, 0, 0, 18, 0, 0), (58, 5, 0, 1, 2, 0, 0, 0), (61, 17, 0, 0, 0, 4, 0, 0), (64, 51, 0, 0, 0, 0, 0, 0)]
def vl_40_0 : List (Nat × vt_I) := [(0, 0, 0, 0, 1, 0, 0, 0), (1, 3, 0, 0, 2, 1, 0, 0), (2, 0, 0, 0, 1, 0, 0, 0), (3, 3, 0, 0, 3, 1, 0, 0), (4, 1, 0, 0, 3, 1, 0, 0), (5, 0, 1, 16, 2, 0, 0, 0), (7, 16, 0, 0, 3, 59, 0, 0), (10, 2, 0, 0, 0, 1, 0, 0), (11, 22, 0, 0, 4, 0, 9, 92), (14, 1, 0, 0, 1, 1, 0, 0), (15, 25, 0, 0, 0, 0, 0, 0), (16, 1, 0, 0, 3, 1, 0, 0), (17, 40, 1, 0, 11, 2, 75, 8), (20, 15, 0, 0, 0, 53, 0, 0), (23, 1, 0, 0, 2, 1, 0, 0), (24, 2, 0, 0, 0, 1, 0, 0), (25, 22, 0, 0, 4, 3, 21, 95), (28, 1, 0, 0, 3, 1, 0, 0), (29, 25, 0, 0, 0, 0, 0, 0), (30, 2, 0, 0, 0, 1, 0, 0), (31, 22, 0, 0, 4, 1, 15, 93), (34, 1, 0, 0, 1, 1, 0, 0), (35, 25, 0, 0, 0, 0, 0, 0), (36, 1, 0, 0, 3, 1, 0, 0), (37, 40, 1, 0, 11, 2, 75, 8), (40, 15, 0, 0, 0, 47, 0, 0), (43, 0, 0, 1, 1, 0, 0, 0), (44, 17, 0, 0, 0, 48, 0, 0), (47, 0, 0, 0, 1, 0, 0, 0), (48, 6, 0, 0, 0, 0, 0, 0), (49, 41, 0, 0, 0, 0, 83, 416), (52, 3, 0, 0, 2, 1, 0, 0), (53, 5, 0, 1, 3, 0, 0, 0), (56, 17, 0, 0, 0, 4, 0, 0), (59, 1, 0, 0, 2, 1, 0, 0), (60, 50, 0, 0, 0, 0, 0, 0)]
def vl_41_0 : List (Nat × vt_I) := [(0, 1, 0, 0, 0, 1, 0, 0), (1, 1, 0, 0, 1, 1, 0, 0), (2, 16, 0, 0, 2, 9, 0, 0), (5, 1, 0, 0, 0, 1, 0, 0), (6, 17, 0, 0, 0, 10, 0, 0), (9, 1, 0, 0, 1, 1, 0, 0), (10, 50, 0, 0, 0, 0, 0, 0)]
def vl_42_0 : List (Nat × vt_I) := [(0, 1, 0, 0, 2, 1, 0, 0), (1, 15, 0, 0, 2, 9, 0, 0), (4, 1, 0, 0, 3, 1, 0, 0), (5, 0, 0, 1, 1, 0, 0, 0), (6, 16, 0, 0, 1, 24, 0, 0), (9, 1, 0, 0, 2, 1, 0, 0), (10, 15, 0, 0, 3, 22, 0, 0), (13, 1, 0, 0, 3, 1, 0, 0), (14, 0, 0, 1, 1, 0, 0, 0), (15, 16, 0, 0, 1, 22, 0, 0), (18, 0, 0, 1, 1, 0, 0, 0), (19, 17, 0, 0, 0, 23, 0, 0), (22, 0, 0, 0, 1, 0, 0, 0), (23, 50, 0, 0, 0, 0, 0, 0), (24, 2, 0, 0, 1, 1, 0, 0), (25, 21, 0, 0, 3, 3, 109, 226), (28, 0, 0, -1, 1, 0, 0, 0), (29, 16, 0, 0, 1, 62, 0, 0), (32, 2, 0, 0, 1, 1, 0, 0), (33, 22, 0, 0, 3, 6, 112, 238), (36, 1, 0, 0, 2, 1, 0, 0), (37, 25, 0, 0, 0, 0, 0, 0), (38, 0, 0, 3, 1, 0, 0, 0), (39, 16, 0, 0, 1, 62, 0, 0), (42, 2, 0, 0, 0, 1, 0, 0), (43, 21, 0, 0, 2, 9, 55, 185), (46, 2, 0, 0, 1, 1, 0, 0), (47, 22, 0, 0, 3, 7, 115, 242), (50, 1, 0, 0, 2, 1, 0, 0), (51, 25, 0, 0, 0, 0, 0, 0), (52, 40, 1, 0, 11, 2, 118, 9), (55, 15, 0, 0, 0, 62, 0, 0), (58, 0, 0, 1, 1, 0, 0, 0), (59, 17, 0, 0, 0, 63, 0, 0), (62, 0, 0, 0, 1, 0, 0, 0), (63, 50, 0, 0, 0, 0, 0, 0)]
def vl_43_0 : List (Nat × vt_I) := [(0, 2, 0, 0, 0, 1, 0, 0), (1, 22, 0, 0, 2, 4, 36, 180), (4, 2, 0, 0, 1, 1, 0, 0), (5, 2, 0, 0, 0, 1, 0, 0), (6, 22, 0, 0, 2, 3, 29, 178), (9, 2, 0, 0, 0, 1, 0, 0), (10, 22, 0, 0, 2, 7, 49, 183), (13, 1, 0, 0, 2, 1, 0, 0), (14, 2, 0, 0, 1, 1, 0, 0), (15, 40, 0, 103, 44, 1, 122, 430), (18, 40, 0, 100, 45, 6, 125, 434), (21, 2, 0, 0, 0, 1, 0, 0), (22, 22, 0, 0, 2, 4, 36, 180), (25, 40, 0, 100, 52, 1, 129, 467), (28, 3, 0, 0, 3, 1, 0, 0), (29, 0, 0, 0, 1, 0, 0, 0), (30, 3, 1, 0, 4, 2, 0, 0), (32, 1, 1, 0, 4, 2, 0, 0), (34, 0, 1, 32, 2, 0, 0, 0), (36, 16, 0, 0, 3, 195, 0, 0), (39, 1, 0, 0, 3, 1, 0, 0), (40, 1, 1, 0, 4, 2, 0, 0), (42, 6, 0, 0, 8, 0, 0, 0), (43, 15, 0, 0, 0, 195, 0, 0), (46, 0, 1, 32, 2, 0, 0, 0), (48, 2, 0, 0, 1, 1, 0, 0), (49, 21, 0, 0, 3, 0, 97, 219), (52, 6, 0, 0, 2, 0, 0, 0), (53, 1, 1, 0, 4, 2, 0, 0), (55, 6, 0, 0, 0, 0, 0, 0), (56, 3, 1, 0, 5, 2, 0, 0), (58, 2, 0, 0, 0, 1, 0, 0), (59, 22, 0, 0, 2, 3, 29, 178), (62, 22, 0, 0, 1, 0, 133, 71), (65, 1, 1, 0, 5, 2, 0, 0), (67, 25, 0, 0, 0, 0, 0, 0), (68, 2, 0, 0, 0, 1, 0, 0), (69, 22, 0, 0, 2, 8, 52, 184), (72, 22, 0, 0, 1, 0, 133, 71), (75, 1, 1, 0, 5, 2, 0, 0), (77, 25, 0, 0, 0, 0, 0, 0), (78, 6, 0, 0, 4, 0, 0, 0), (79, 0, 0, -1, 1, 0, 0, 0), (80, 6, 0, 0, 5, 0, 0, 0), (81, 3, 1, 0, 6, 2, 0, 0), (83, 1, 0, 0, 3, 1, 0, 0), (84, 1, 1, 0, 4, 2, 0, 0), (86, 40, 1, 0, 11, 2, 118, 9), (89, 15, 0, 0, 0, 118, 0, 0), (92, 2, 0, 0, 0, 1, 0, 0), (93, 22, 0, 0, 2, 4, 36, 180), (96, 1, 1, 0, 4, 2, 0, 0), (98, 2, 0, 0, 1, 1, 0, 0), (99, 21, 0, 0, 3, 3, 109, 226), (102, 0, 0, -1, 1, 0, 0, 0), (103, 16, 0, 0, 1, 111, 0, 0), (106, 1, 1, 0, 6, 2, 0, 0), (108, 17, 0, 0, 0, 112, 0, 0), (111, 0, 0, -1, 1, 0, 0, 0), (112, 40, 0, 100, 53, 3, 136, 471)]
def vl_43_1 : List (Nat × vt_I) := [(115, 17, 0, 0, 0, 119, 0, 0), (118, 0, 0, 0, 1, 0, 0, 0), (119, 3, 1, 0, 7, 2, 0, 0), (121, 2, 0, 0, 1, 1, 0, 0), (122, 21, 0, 0, 3, 3, 109, 226), (125, 0, 0, -1, 1, 0, 0, 0), (126, 16, 0, 0, 0, 154, 0, 0), (129, 1, 1, 0, 7, 2, 0, 0), (131, 15, 0, 0, 0, 154, 0, 0), (134, 1, 1, 0, 6, 2, 0, 0), (136, 0, 0, 1, 1, 0, 0, 0), (137, 2, 0, 0, 0, 1, 0, 0), (138, 22, 0, 0, 2, 4, 36, 180), (141, 2, 0, 0, 1, 1, 0, 0), (142, 21, 0, 0, 3, 3, 109, 226), (145, 1, 1, 0, 7, 2, 0, 0), (147, 40, 0, 100, 66, 3, 139, 526), (150, 6, 0, 0, 6, 0, 0, 0), (151, 6, 0, 0, 3, 0, 0, 0), (152, 3, 1, 0, 7, 2, 0, 0), (154, 1, 1, 0, 7, 2, 0, 0), (156, 15, 0, 0, 0, 189, 0, 0), (159, 2, 0, 0, 0, 1, 0, 0), (160, 22, 0, 0, 2, 8, 52, 184), (163, 2, 0, 0, 1, 1, 0, 0), (164, 21, 0, 0, 3, 0, 97, 219), (167, 1, 1, 0, 4, 2, 0, 0), (169, 1, 1, 0, 7, 2, 0, 0), (171, 40, 0, 101, 67, 4, 142, 530), (174, 2, 0, 0, 0, 1, 0, 0), (175, 10, 0, 0, 0, 0, 0, 0), (176, 21, 0, 0, 2, 10, 58, 186), (179, 0, 0, 1, 1, 0, 0, 0), (180, 2, 0, 0, 1, 1, 0, 0), (181, 21, 0, 0, 3, 0, 97, 219), (184, 6, 0, 0, 6, 0, 0, 0), (185, 6, 0, 0, 4, 0, 0, 0), (186, 23, 0, 0, 2, 10, 58, 186), (189, 5, 0, 1, 4, 0, 0, 0), (192, 17, 0, 0, 0, 32, 0, 0), (195, 51, 0, 0, 0, 0, 0, 0)]
def vl_44_0 : List (Nat × vt_I) := [(0, 2, 0, 0, 0, 1, 0, 0), (1, 21, 0, 0, 3, 3, 9, 224), (4, 15, 0, 0, 0, 15, 0, 0), (7, 2, 0, 0, 0, 1, 0, 0), (8, 21, 0, 0, 3, 3, 9, 224), (11, 0, 0, 1, 1, 0, 0, 0), (12, 16, 0, 0, 1, 19, 0, 0), (15, 0, 0, 1, 1, 0, 0, 0), (16, 17, 0, 0, 0, 20, 0, 0), (19, 0, 0, 0, 1, 0, 0, 0), (20, 50, 0, 0, 0, 0, 0, 0)]
def vl_45_0 : List (Nat × vt_I) := [(0, 2, 0, 0, 0, 1, 0, 0), (1, 1, 1, 0, 5, 2, 0, 0), (3, 23, 0, 1, 0, 10, 42, 131), (6, 2, 0, 0, 0, 1, 0, 0), (7, 0, 0, 0, 1, 0, 0, 0), (8, 23, 0, 1, 0, 11, 46, 132), (11, 2, 0, 0, 0, 1, 0, 0), (12, 2, 0, 0, 1, 1, 0, 0), (13, 21, 0, 0, 3, 1, 49, 222), (16, 23, 0, 0, 0, 12, 55, 133), (19, 2, 0, 0, 0, 1, 0, 0), (20, 2, 0, 0, 1, 1, 0, 0), (21, 40, 0, 103, 27, 1, 58, 438), (24, 23, 0, 0, 0, 13, 62, 134), (27, 2, 0, 0, 0, 1, 0, 0), (28, 2, 0, 0, 0, 1, 0, 0), (29, 21, 0, 0, 0, 13, 62, 134), (32, 15, 0, 0, 3, 56, 0, 0), (35, 2, 0, 0, 0, 1, 0, 0), (36, 21, 0, 0, 0, 13, 62, 134), (39, 2, 0, 0, 0, 1, 0, 0), (40, 21, 0, 0, 0, 12, 55, 133), (43, 16, 0, 0, 0, 56, 0, 0), (46, 2, 0, 0, 0, 1, 0, 0), (47, 21, 0, 0, 0, 13, 62, 134), (50, 40, 1, 0, 29, 1, 65, 10), (53, 17, 0, 0, 0, 57, 0, 0), (56, 0, 0, -1, 1, 0, 0, 0), (57, 23, 0, 0, 0, 14, 69, 135), (60, 2, 0, 0, 0, 1, 0, 0), (61, 22, 0, 0, 0, 4, 24, 124), (64, 0, 0, 0, 1, 0, 0, 0), (65, 0, 0, 0, 1, 0, 0, 0), (66, 26, 0, 0, 0, 0, 0, 0), (67, 2, 0, 0, 0, 1, 0, 0), (68, 22, 0, 0, 0, 5, 27, 125), (71, 0, 0, 0, 1, 0, 0, 0), (72, 0, 0, 1, 1, 0, 0, 0), (73, 26, 0, 0, 0, 0, 0, 0), (74, 2, 0, 0, 0, 1, 0, 0), (75, 22, 0, 0, 0, 1, 15, 121), (78, 0, 0, 0, 1, 0, 0, 0), (79, 40, 0, 0, 35, 2, 72, 440), (82, 0, 0, 0, 1, 0, 0, 0), (83, 3, 1, 0, 6, 2, 0, 0), (85, 1, 1, 0, 6, 2, 0, 0), (87, 0, 1, 6, 2, 0, 0, 0), (89, 16, 0, 0, 3, 106, 0, 0), (92, 2, 0, 0, 0, 1, 0, 0), (93, 22, 0, 0, 0, 6, 30, 126), (96, 1, 1, 0, 6, 2, 0, 0), (98, 0, 0, -1, 1, 0, 0, 0), (99, 26, 0, 0, 0, 0, 0, 0), (100, 5, 0, 1, 6, 0, 0, 0), (103, 17, 0, 0, 0, 85, 0, 0), (106, 2, 0, 0, 0, 1, 0, 0), (107, 21, 0, 0, 0, 10, 42, 131), (110, 15, 0, 0, 0, 121, 0, 0), (113, 2, 0, 0, 0, 1, 0, 0), (114, 22, 0, 0, 0, 7, 33, 127)]
def vl_45_1 : List (Nat × vt_I) := [(117, 0, 0, 1, 1, 0, 0, 0), (118, 40, 0, 0, 35, 2, 72, 440), (121, 0, 0, 0, 1, 0, 0, 0), (122, 3, 1, 0, 6, 2, 0, 0), (124, 1, 1, 0, 6, 2, 0, 0), (126, 2, 0, 0, 1, 1, 0, 0), (127, 21, 0, 0, 3, 5, 78, 232), (130, 16, 0, 0, 3, 232, 0, 0), (133, 2, 0, 0, 1, 1, 0, 0), (134, 22, 0, 0, 3, 6, 81, 236), (137, 1, 1, 0, 6, 2, 0, 0), (139, 25, 0, 0, 0, 0, 0, 0), (140, 0, 0, 3, 1, 0, 0, 0), (141, 16, 0, 0, 0, 155, 0, 0), (144, 2, 0, 0, 1, 1, 0, 0), (145, 22, 0, 0, 3, 6, 81, 236), (148, 1, 1, 0, 6, 2, 0, 0), (150, 25, 0, 0, 0, 0, 0, 0), (151, 0, 0, 4, 1, 0, 0, 0), (152, 16, 0, 0, 1, 197, 0, 0), (155, 2, 0, 0, 0, 1, 0, 0), (156, 1, 1, 0, 6, 2, 0, 0), (158, 1, 1, 0, 4, 2, 0, 0), (160, 16, 0, 0, 1, 167, 0, 0), (163, 2, 0, 0, 3, 1, 0, 0), (164, 17, 0, 0, 0, 168, 0, 0), (167, 2, 0, 0, 2, 1, 0, 0), (168, 2, 0, 0, 1, 1, 0, 0), (169, 22, 0, 0, 3, 7, 84, 240), (172, 1, 1, 0, 6, 2, 0, 0), (174, 25, 0, 0, 0, 0, 0, 0), (175, 2, 0, 0, 1, 1, 0, 0), (176, 22, 0, 0, 3, 6, 81, 236), (179, 1, 1, 0, 6, 2, 0, 0), (181, 25, 0, 0, 0, 0, 0, 0), (182, 0, 0, 4, 1, 0, 0, 0), (183, 16, 0, 0, 1, 190, 0, 0), (186, 0, 0, 1, 1, 0, 0, 0), (187, 17, 0, 0, 0, 191, 0, 0), (190, 0, 0, 0, 1, 0, 0, 0), (191, 40, 0, 100, 46, 4, 87, 441), (194, 17, 0, 0, 0, 208, 0, 0), (197, 2, 0, 0, 0, 1, 0, 0), (198, 2, 0, 0, 1, 1, 0, 0), (199, 22, 0, 0, 3, 6, 81, 236), (202, 1, 1, 0, 6, 2, 0, 0), (204, 25, 0, 0, 0, 0, 0, 0), (205, 40, 0, 100, 47, 2, 91, 446), (208, 2, 0, 0, 0, 1, 0, 0), (209, 2, 0, 0, 1, 1, 0, 0), (210, 22, 0, 0, 3, 8, 95, 244), (213, 1, 1, 0, 6, 2, 0, 0), (215, 25, 0, 0, 0, 0, 0, 0), (216, 2, 0, 0, 1, 1, 0, 0), (217, 22, 0, 0, 3, 9, 98, 246), (220, 1, 1, 0, 6, 2, 0, 0), (222, 25, 0, 0, 0, 0, 0, 0), (223, 40, 0, 100, 48, 3, 101, 450), (226, 5, 0, 1, 6, 0, 0, 0), (229, 17, 0, 0, 0, 124, 0, 0)]
def vl_45_2 : List (Nat × vt_I) := [(232, 51, 0, 0, 0, 0, 0, 0)]
def vl_46_0 : List (Nat × vt_I) := [(0, 2, 0, 0, 1, 1, 0, 0), (1, 22, 0, 0, 1, 0, 105, 70), (4, 0, 1, 32, 2, 0, 0, 0), (6, 1, 0, 0, 2, 1, 0, 0), (7, 6, 0, 0, 2, 0, 0, 0), (8, 2, 0, 0, 0, 1, 0, 0), (9, 22, 0, 0, 0, 2, 18, 122), (12, 0, 0, 0, 1, 0, 0, 0), (13, 0, 1, 32, 2, 0, 0, 0), (15, 34, 0, 0, 0, 0, 110, 445), (18, 2, 0, 0, 1, 1, 0, 0), (19, 22, 0, 0, 1, 1, 116, 73), (22, 0, 1, 32, 2, 0, 0, 0), (24, 1, 0, 0, 2, 1, 0, 0), (25, 6, 0, 0, 2, 0, 0, 0), (26, 2, 0, 0, 0, 1, 0, 0), (27, 22, 0, 0, 0, 3, 21, 123), (30, 0, 0, 0, 1, 0, 0, 0), (31, 0, 1, 32, 2, 0, 0, 0), (33, 34, 0, 0, 0, 0, 110, 445), (36, 0, 0, 0, 1, 0, 0, 0), (37, 3, 1, 0, 4, 2, 0, 0), (39, 1, 0, 0, 3, 1, 0, 0), (40, 15, 0, 0, 0, 88, 0, 0), (43, 1, 1, 0, 4, 2, 0, 0), (45, 0, 1, 32, 2, 0, 0, 0), (47, 16, 0, 0, 3, 88, 0, 0), (50, 2, 0, 0, 0, 1, 0, 0), (51, 22, 0, 0, 0, 2, 18, 122), (54, 1, 1, 0, 4, 2, 0, 0), (56, 2, 0, 0, 0, 1, 0, 0), (57, 22, 0, 0, 0, 2, 18, 122), (60, 1, 1, 0, 4, 2, 0, 0), (62, 25, 0, 0, 0, 0, 0, 0), (63, 0, 0, -1, 1, 0, 0, 0), (64, 6, 0, 0, 5, 0, 0, 0), (65, 26, 0, 0, 0, 0, 0, 0), (66, 2, 0, 0, 0, 1, 0, 0), (67, 22, 0, 0, 0, 3, 21, 123), (70, 1, 1, 0, 4, 2, 0, 0), (72, 2, 0, 0, 0, 1, 0, 0), (73, 22, 0, 0, 0, 3, 21, 123), (76, 1, 1, 0, 4, 2, 0, 0), (78, 25, 0, 0, 0, 0, 0, 0), (79, 0, 0, -1, 1, 0, 0, 0), (80, 6, 0, 0, 5, 0, 0, 0), (81, 26, 0, 0, 0, 0, 0, 0), (82, 5, 0, 1, 4, 0, 0, 0), (85, 17, 0, 0, 0, 39, 0, 0), (88, 51, 0, 0, 0, 0, 0, 0)]
def vl_47_0 : List (Nat × vt_I) := [(0, 0, 0, 0, 1, 0, 0, 0), (1, 3, 0, 0, 2, 1, 0, 0), (2, 1, 0, 0, 2, 1, 0, 0), (3, 0, 1, 32, 2, 0, 0, 0), (5, 16, 0, 0, 3, 88, 0, 0), (8, 0, 0, 1, 1, 0, 0, 0), (9, 1, 0, 0, 2, 1, 0, 0), (10, 6, 0, 0, 6, 0, 0, 0), (11, 3, 0, 0, 3, 1, 0, 0), (12, 1, 0, 0, 1, 1, 0, 0), (13, 15, 0, 0, 1, 38, 0, 0), (16, 2, 0, 0, 0, 1, 0, 0), (17, 22, 0, 0, 0, 2, 18, 122), (20, 1, 0, 0, 2, 1, 0, 0), (21, 1, 0, 0, 3, 1, 0, 0), (22, 9, 0, 0, 0, 0, 0, 0), (23, 0, 0, 1, 1, 0, 0, 0), (24, 6, 0, 0, 6, 0, 0, 0), (25, 26, 0, 0, 0, 0, 0, 0), (26, 2, 0, 0, 0, 1, 0, 0), (27, 22, 0, 0, 0, 3, 21, 123), (30, 1, 0, 0, 2, 1, 0, 0), (31, 1, 0, 0, 3, 1, 0, 0), (32, 0, 0, 1, 1, 0, 0, 0), (33, 6, 0, 0, 1, 0, 0, 0), (34, 26, 0, 0, 0, 0, 0, 0), (35, 17, 0, 0, 0, 82, 0, 0), (38, 1, 0, 0, 1, 1, 0, 0), (39, 0, 0, 1, 1, 0, 0, 0), (40, 16, 0, 0, 1, 64, 0, 0), (43, 2, 0, 0, 0, 1, 0, 0), (44, 22, 0, 0, 0, 2, 18, 122), (47, 1, 0, 0, 2, 1, 0, 0), (48, 1, 0, 0, 3, 1, 0, 0), (49, 0, 0, -1, 1, 0, 0, 0), (50, 6, 0, 0, 5, 0, 0, 0), (51, 26, 0, 0, 0, 0, 0, 0), (52, 2, 0, 0, 0, 1, 0, 0), (53, 22, 0, 0, 0, 3, 21, 123), (56, 1, 0, 0, 2, 1, 0, 0), (57, 1, 0, 0, 3, 1, 0, 0), (58, 0, 0, -1, 1, 0, 0, 0), (59, 6, 0, 0, 5, 0, 0, 0), (60, 26, 0, 0, 0, 0, 0, 0), (61, 17, 0, 0, 0, 82, 0, 0), (64, 2, 0, 0, 0, 1, 0, 0), (65, 22, 0, 0, 0, 2, 18, 122), (68, 1, 0, 0, 2, 1, 0, 0), (69, 1, 0, 0, 3, 1, 0, 0), (70, 0, 0, 1, 1, 0, 0, 0), (71, 6, 0, 0, 6, 0, 0, 0), (72, 26, 0, 0, 0, 0, 0, 0), (73, 2, 0, 0, 0, 1, 0, 0), (74, 22, 0, 0, 0, 3, 21, 123), (77, 1, 0, 0, 2, 1, 0, 0), (78, 1, 0, 0, 3, 1, 0, 0), (79, 0, 0, 1, 1, 0, 0, 0), (80, 6, 0, 0, 8, 0, 0, 0), (81, 26, 0, 0, 0, 0, 0, 0), (82, 5, 0, 1, 2, 0, 0, 0)]
def vl_47_1 : List (Nat × vt_I) := [(85, 17, 0, 0, 0, 2, 0, 0), (88, 51, 0, 0, 0, 0, 0, 0)]
def vl_48_0 : List (Nat × vt_I) := [(0, 1, 0, 0, 1, 1, 0, 0), (1, 15, 0, 0, 2, 40, 0, 0), (4, 1, 0, 0, 2, 1, 0, 0), (5, 15, 0, 0, 2, 40, 0, 0), (8, 2, 0, 0, 0, 1, 0, 0), (9, 2, 0, 0, 0, 1, 0, 0), (10, 21, 0, 0, 0, 11, 46, 132), (13, 15, 0, 0, 1, 29, 0, 0), (16, 2, 0, 0, 0, 1, 0, 0), (17, 22, 0, 0, 0, 2, 18, 122), (20, 1, 0, 0, 1, 1, 0, 0), (21, 25, 0, 0, 0, 0, 0, 0), (22, 1, 0, 0, 2, 1, 0, 0), (23, 40, 1, 0, 11, 2, 119, 11), (26, 15, 0, 0, 1, 33, 0, 0), (29, 0, 0, 1, 1, 0, 0, 0), (30, 17, 0, 0, 0, 34, 0, 0), (33, 0, 0, 0, 1, 0, 0, 0), (34, 23, 0, 1, 0, 11, 46, 132), (37, 17, 0, 0, 0, 150, 0, 0), (40, 1, 0, 0, 1, 1, 0, 0), (41, 15, 0, 0, 2, 61, 0, 0), (44, 2, 0, 0, 0, 1, 0, 0), (45, 1, 0, 0, 2, 1, 0, 0), (46, 40, 1, 0, 29, 1, 65, 10), (49, 2, 0, 0, 0, 1, 0, 0), (50, 22, 0, 0, 0, 2, 18, 122), (53, 1, 0, 0, 1, 1, 0, 0), (54, 25, 0, 0, 0, 0, 0, 0), (55, 40, 0, 100, 49, 3, 123, 455), (58, 17, 0, 0, 0, 150, 0, 0), (61, 1, 0, 0, 2, 1, 0, 0), (62, 15, 0, 0, 2, 82, 0, 0), (65, 2, 0, 0, 0, 1, 0, 0), (66, 1, 0, 0, 1, 1, 0, 0), (67, 40, 1, 0, 29, 1, 65, 10), (70, 2, 0, 0, 0, 1, 0, 0), (71, 22, 0, 0, 0, 3, 21, 123), (74, 1, 0, 0, 2, 1, 0, 0), (75, 25, 0, 0, 0, 0, 0, 0), (76, 40, 0, 100, 49, 3, 123, 455), (79, 17, 0, 0, 0, 150, 0, 0), (82, 1, 0, 0, 1, 1, 0, 0), (83, 1, 0, 0, 2, 1, 0, 0), (84, 16, 0, 0, 1, 102, 0, 0), (87, 2, 0, 0, 0, 1, 0, 0), (88, 1, 0, 0, 1, 1, 0, 0), (89, 40, 1, 0, 29, 1, 65, 10), (92, 2, 0, 0, 0, 1, 0, 0), (93, 40, 0, 100, 50, 1, 126, 459), (96, 40, 0, 100, 49, 3, 123, 455), (99, 17, 0, 0, 0, 150, 0, 0), (102, 2, 0, 0, 0, 1, 0, 0), (103, 1, 0, 0, 1, 1, 0, 0), (104, 40, 1, 0, 29, 1, 65, 10), (107, 2, 0, 0, 0, 1, 0, 0), (108, 1, 0, 0, 1, 1, 0, 0), (109, 40, 1, 0, 29, 1, 65, 10), (112, 1, 0, 0, 2, 1, 0, 0), (113, 40, 1, 0, 29, 1, 65, 10)]
def vl_48_1 : List (Nat × vt_I) := [(116, 2, 0, 0, 0, 1, 0, 0), (117, 22, 0, 0, 0, 2, 18, 122), (120, 40, 0, 100, 51, 4, 129, 463), (123, 40, 0, 100, 49, 3, 123, 455), (126, 2, 0, 0, 0, 1, 0, 0), (127, 1, 0, 0, 2, 1, 0, 0), (128, 40, 1, 0, 29, 1, 65, 10), (131, 2, 0, 0, 0, 1, 0, 0), (132, 1, 0, 0, 2, 1, 0, 0), (133, 40, 1, 0, 29, 1, 65, 10), (136, 1, 0, 0, 1, 1, 0, 0), (137, 40, 1, 0, 29, 1, 65, 10), (140, 2, 0, 0, 0, 1, 0, 0), (141, 22, 0, 0, 0, 3, 21, 123), (144, 40, 0, 100, 51, 4, 129, 463), (147, 40, 0, 100, 49, 3, 123, 455), (150, 51, 0, 0, 0, 0, 0, 0)]
def vl_49_0 : List (Nat × vt_I) := [(0, 2, 0, 0, 0, 1, 0, 0), (1, 22, 0, 0, 0, 4, 24, 124), (4, 0, 0, 0, 1, 0, 0, 0), (5, 14, 0, 0, 0, 0, 0, 0), (6, 25, 0, 0, 0, 0, 0, 0), (7, 0, 0, 1, 1, 0, 0, 0), (8, 1, 0, 0, 1, 1, 0, 0), (9, 6, 0, 0, 6, 0, 0, 0), (10, 6, 0, 0, 4, 0, 0, 0), (11, 26, 0, 0, 0, 0, 0, 0), (12, 2, 0, 0, 0, 1, 0, 0), (13, 22, 0, 0, 0, 6, 30, 126), (16, 1, 0, 0, 1, 1, 0, 0), (17, 14, 0, 0, 0, 0, 0, 0), (18, 25, 0, 0, 0, 0, 0, 0), (19, 1, 0, 0, 2, 1, 0, 0), (20, 6, 0, 0, 3, 0, 0, 0), (21, 26, 0, 0, 0, 0, 0, 0), (22, 2, 0, 0, 0, 1, 0, 0), (23, 2, 0, 0, 0, 1, 0, 0), (24, 21, 0, 0, 0, 11, 46, 132), (27, 15, 0, 0, 1, 39, 0, 0), (30, 2, 0, 0, 0, 1, 0, 0), (31, 22, 0, 0, 0, 6, 30, 126), (34, 1, 0, 0, 1, 1, 0, 0), (35, 25, 0, 0, 0, 0, 0, 0), (36, 15, 0, 0, 1, 43, 0, 0), (39, 0, 0, 1, 1, 0, 0, 0), (40, 17, 0, 0, 0, 44, 0, 0), (43, 0, 0, 0, 1, 0, 0, 0), (44, 23, 0, 1, 0, 11, 46, 132), (47, 51, 0, 0, 0, 0, 0, 0)]
def vl_50_0 : List (Nat × vt_I) := [(0, 0, 0, 0, 1, 0, 0, 0), (1, 3, 0, 0, 1, 1, 0, 0), (2, 0, 0, 0, 1, 0, 0, 0), (3, 3, 0, 0, 2, 1, 0, 0), (4, 1, 0, 0, 2, 1, 0, 0), (5, 0, 1, 32, 2, 0, 0, 0), (7, 16, 0, 0, 3, 29, 0, 0), (10, 1, 0, 0, 1, 1, 0, 0), (11, 2, 0, 0, 0, 1, 0, 0), (12, 22, 0, 0, 0, 2, 18, 122), (15, 1, 0, 0, 2, 1, 0, 0), (16, 25, 0, 0, 0, 0, 0, 0), (17, 0, 0, 1, 1, 0, 0, 0), (18, 1, 0, 0, 2, 1, 0, 0), (19, 6, 0, 0, 6, 0, 0, 0), (20, 6, 0, 0, 3, 0, 0, 0), (21, 6, 0, 0, 4, 0, 0, 0), (22, 3, 0, 0, 1, 1, 0, 0), (23, 5, 0, 1, 2, 0, 0, 0), (26, 17, 0, 0, 0, 4, 0, 0), (29, 1, 0, 0, 1, 1, 0, 0), (30, 50, 0, 0, 0, 0, 0, 0)]
def vl_51_0 : List (Nat × vt_I) := [(0, 0, 1, 6, 2, 0, 0, 0), (2, 1, 0, 0, 1, 1, 0, 0), (3, 6, 0, 0, 2, 0, 0, 0), (4, 1, 0, 0, 2, 1, 0, 0), (5, 6, 0, 0, 0, 0, 0, 0), (6, 0, 1, 32, 2, 0, 0, 0), (8, 6, 0, 0, 2, 0, 0, 0), (9, 3, 1, 0, 4, 2, 0, 0), (11, 2, 0, 0, 0, 1, 0, 0), (12, 22, 0, 0, 0, 1, 15, 121), (15, 1, 0, 0, 1, 1, 0, 0), (16, 25, 0, 0, 0, 0, 0, 0), (17, 1, 0, 0, 2, 1, 0, 0), (18, 40, 1, 0, 11, 2, 119, 11), (21, 3, 1, 0, 5, 2, 0, 0), (23, 0, 0, 0, 1, 0, 0, 0), (24, 3, 1, 0, 6, 2, 0, 0), (26, 0, 0, 0, 1, 0, 0, 0), (27, 3, 1, 0, 7, 2, 0, 0), (29, 1, 1, 0, 7, 2, 0, 0), (31, 0, 1, 32, 2, 0, 0, 0), (33, 16, 0, 0, 3, 105, 0, 0), (36, 2, 0, 0, 0, 1, 0, 0), (37, 22, 0, 0, 0, 0, 9, 120), (40, 1, 1, 0, 4, 2, 0, 0), (42, 1, 1, 0, 7, 2, 0, 0), (44, 6, 0, 0, 0, 0, 0, 0), (45, 1, 1, 0, 5, 2, 0, 0), (47, 15, 0, 0, 0, 68, 0, 0), (50, 2, 0, 0, 0, 1, 0, 0), (51, 22, 0, 0, 0, 0, 9, 120), (54, 1, 1, 0, 4, 2, 0, 0), (56, 1, 1, 0, 7, 2, 0, 0), (58, 6, 0, 0, 0, 0, 0, 0), (59, 25, 0, 0, 0, 0, 0, 0), (60, 2, 0, 0, 3, 1, 0, 0), (61, 1, 1, 0, 7, 2, 0, 0), (63, 25, 0, 0, 0, 0, 0, 0), (64, 6, 0, 0, 3, 0, 0, 0), (65, 17, 0, 0, 0, 72, 0, 0), (68, 2, 0, 0, 3, 1, 0, 0), (69, 1, 1, 0, 7, 2, 0, 0), (71, 25, 0, 0, 0, 0, 0, 0), (72, 26, 0, 0, 0, 0, 0, 0), (73, 1, 1, 0, 6, 2, 0, 0), (75, 2, 0, 0, 0, 1, 0, 0), (76, 22, 0, 0, 0, 0, 9, 120), (79, 1, 1, 0, 4, 2, 0, 0), (81, 1, 1, 0, 7, 2, 0, 0), (83, 6, 0, 0, 0, 0, 0, 0), (84, 25, 0, 0, 0, 0, 0, 0), (85, 15, 0, 0, 0, 95, 0, 0), (88, 0, 0, 1, 1, 0, 0, 0), (89, 1, 1, 0, 7, 2, 0, 0), (91, 6, 0, 0, 6, 0, 0, 0), (92, 17, 0, 0, 0, 96, 0, 0), (95, 0, 0, 0, 1, 0, 0, 0), (96, 6, 0, 0, 4, 0, 0, 0), (97, 3, 1, 0, 6, 2, 0, 0), (99, 5, 0, 1, 7, 0, 0, 0)]
def vl_51_1 : List (Nat × vt_I) := [(102, 17, 0, 0, 0, 29, 0, 0), (105, 2, 0, 0, 0, 1, 0, 0), (106, 22, 0, 0, 0, 1, 15, 121), (109, 1, 0, 0, 1, 1, 0, 0), (110, 14, 0, 0, 0, 0, 0, 0), (111, 25, 0, 0, 0, 0, 0, 0), (112, 0, 0, 1, 1, 0, 0, 0), (113, 1, 0, 0, 2, 1, 0, 0), (114, 6, 0, 0, 6, 0, 0, 0), (115, 6, 0, 0, 4, 0, 0, 0), (116, 26, 0, 0, 0, 0, 0, 0), (117, 1, 1, 0, 6, 2, 0, 0), (119, 50, 0, 0, 0, 0, 0, 0)]
def vl_52_0 : List (Nat × vt_I) := [(0, 2, 0, 0, 0, 1, 0, 0), (1, 21, 0, 0, 0, 11, 46, 132), (4, 15, 0, 0, 0, 9, 0, 0), (7, 0, 0, 0, 1, 0, 0, 0), (8, 50, 0, 0, 0, 0, 0, 0), (9, 2, 0, 0, 0, 1, 0, 0), (10, 21, 0, 0, 0, 12, 55, 133), (13, 15, 0, 0, 3, 31, 0, 0), (16, 2, 0, 0, 0, 1, 0, 0), (17, 22, 0, 0, 0, 6, 30, 126), (20, 2, 0, 0, 0, 1, 0, 0), (21, 21, 0, 0, 0, 12, 55, 133), (24, 40, 1, 0, 29, 1, 65, 10), (27, 25, 0, 0, 0, 0, 0, 0), (28, 17, 0, 0, 0, 37, 0, 0), (31, 0, 0, 1, 1, 0, 0, 0), (32, 2, 0, 0, 0, 1, 0, 0), (33, 21, 0, 0, 0, 12, 55, 133), (36, 6, 0, 0, 6, 0, 0, 0), (37, 50, 0, 0, 0, 0, 0, 0)]
def vl_53_0 : List (Nat × vt_I) := [(0, 2, 0, 0, 0, 1, 0, 0), (1, 1, 0, 0, 1, 1, 0, 0), (2, 1, 0, 0, 2, 1, 0, 0), (3, 40, 0, 100, 54, 3, 133, 475), (6, 15, 0, 0, 0, 17, 0, 0), (9, 2, 0, 0, 0, 1, 0, 0), (10, 0, 0, 1, 1, 0, 0, 0), (11, 40, 0, 100, 57, 2, 136, 488), (14, 15, 0, 0, 1, 19, 0, 0), (17, 0, 0, 0, 1, 0, 0, 0), (18, 50, 0, 0, 0, 0, 0, 0), (19, 2, 0, 0, 0, 1, 0, 0), (20, 40, 0, 100, 64, 1, 140, 518), (23, 3, 0, 0, 3, 1, 0, 0), (24, 1, 0, 0, 3, 1, 0, 0), (25, 15, 0, 0, 3, 34, 0, 0), (28, 2, 0, 0, 0, 1, 0, 0), (29, 0, 0, 1, 1, 0, 0, 0), (30, 40, 0, 100, 65, 2, 143, 522), (33, 50, 0, 0, 0, 0, 0, 0), (34, 2, 0, 0, 0, 1, 0, 0), (35, 21, 0, 0, 0, 14, 69, 135), (38, 15, 0, 0, 2, 56, 0, 0), (41, 2, 0, 0, 0, 1, 0, 0), (42, 22, 0, 0, 0, 6, 30, 126), (45, 0, 1, 6, 2, 0, 0, 0), (47, 2, 0, 0, 0, 1, 0, 0), (48, 21, 0, 0, 0, 14, 69, 135), (51, 6, 0, 0, 0, 0, 0, 0), (52, 25, 0, 0, 0, 0, 0, 0), (53, 17, 0, 0, 0, 62, 0, 0), (56, 0, 0, 1, 1, 0, 0, 0), (57, 2, 0, 0, 0, 1, 0, 0), (58, 21, 0, 0, 0, 15, 146, 136), (61, 6, 0, 0, 6, 0, 0, 0), (62, 3, 1, 0, 4, 2, 0, 0), (64, 2, 0, 0, 0, 1, 0, 0), (65, 22, 0, 0, 0, 6, 30, 126), (68, 0, 1, 6, 2, 0, 0, 0), (70, 1, 0, 0, 3, 1, 0, 0), (71, 6, 0, 0, 0, 0, 0, 0), (72, 25, 0, 0, 0, 0, 0, 0), (73, 3, 1, 0, 5, 2, 0, 0), (75, 0, 0, 0, 1, 0, 0, 0), (76, 3, 1, 0, 6, 2, 0, 0), (78, 0, 0, 0, 1, 0, 0, 0), (79, 3, 1, 0, 7, 2, 0, 0), (81, 1, 1, 0, 7, 2, 0, 0), (83, 0, 1, 32, 2, 0, 0, 0), (85, 16, 0, 0, 3, 152, 0, 0), (88, 2, 0, 0, 0, 1, 0, 0), (89, 21, 0, 0, 0, 10, 42, 131), (92, 15, 0, 0, 1, 102, 0, 0), (95, 1, 1, 0, 6, 2, 0, 0), (97, 1, 1, 0, 4, 2, 0, 0), (99, 16, 0, 0, 0, 152, 0, 0), (102, 1, 1, 0, 5, 2, 0, 0), (104, 1, 1, 0, 7, 2, 0, 0), (106, 40, 1, 0, 11, 2, 119, 11), (109, 15, 0, 0, 0, 146, 0, 0)]
def vl_53_1 : List (Nat × vt_I) := [(112, 2, 0, 0, 0, 1, 0, 0), (113, 0, 0, 1, 1, 0, 0, 0), (114, 40, 0, 100, 55, 2, 149, 480), (117, 2, 0, 0, 0, 1, 0, 0), (118, 0, 0, 2, 1, 0, 0, 0), (119, 1, 0, 0, 3, 1, 0, 0), (120, 1, 1, 0, 7, 2, 0, 0), (122, 40, 0, 100, 56, 4, 152, 484), (125, 15, 0, 0, 0, 146, 0, 0), (128, 2, 0, 0, 0, 1, 0, 0), (129, 0, 0, 2, 1, 0, 0, 0), (130, 40, 0, 100, 57, 2, 136, 488), (133, 15, 0, 0, 0, 146, 0, 0), (136, 1, 1, 0, 6, 2, 0, 0), (138, 2, 0, 0, 0, 1, 0, 0), (139, 0, 0, 2, 1, 0, 0, 0), (140, 40, 0, 100, 65, 2, 143, 522), (143, 6, 0, 0, 4, 0, 0, 0), (144, 3, 1, 0, 6, 2, 0, 0), (146, 5, 0, 1, 7, 0, 0, 0), (149, 17, 0, 0, 0, 81, 0, 0), (152, 1, 1, 0, 6, 2, 0, 0), (154, 50, 0, 0, 0, 0, 0, 0)]
def vl_54_0 : List (Nat × vt_I) := [(0, 2, 0, 0, 0, 1, 0, 0), (1, 40, 0, 100, 52, 1, 156, 479), (4, 1, 0, 0, 1, 1, 0, 0), (5, 40, 1, 0, 11, 2, 119, 11), (8, 15, 0, 0, 1, 13, 0, 0), (11, 0, 0, 0, 1, 0, 0, 0), (12, 50, 0, 0, 0, 0, 0, 0), (13, 2, 0, 0, 0, 1, 0, 0), (14, 22, 0, 0, 0, 9, 39, 129), (17, 0, 0, 0, 1, 0, 0, 0), (18, 40, 0, 0, 35, 2, 72, 440), (21, 2, 0, 0, 0, 1, 0, 0), (22, 0, 0, 0, 1, 0, 0, 0), (23, 40, 0, 100, 55, 2, 149, 480), (26, 2, 0, 0, 0, 1, 0, 0), (27, 21, 0, 0, 0, 12, 55, 133), (30, 15, 0, 0, 3, 51, 0, 0), (33, 2, 0, 0, 0, 1, 0, 0), (34, 0, 0, 1, 1, 0, 0, 0), (35, 2, 0, 0, 0, 1, 0, 0), (36, 21, 0, 0, 0, 12, 55, 133), (39, 40, 1, 0, 29, 1, 65, 10), (42, 1, 0, 0, 1, 1, 0, 0), (43, 40, 0, 100, 56, 4, 152, 484), (46, 15, 0, 0, 1, 51, 0, 0), (49, 0, 0, 0, 1, 0, 0, 0), (50, 50, 0, 0, 0, 0, 0, 0), (51, 2, 0, 0, 0, 1, 0, 0), (52, 21, 0, 0, 0, 14, 69, 135), (55, 15, 0, 0, 2, 95, 0, 0), (58, 2, 0, 0, 0, 1, 0, 0), (59, 22, 0, 0, 0, 6, 30, 126), (62, 0, 1, 6, 2, 0, 0, 0), (64, 2, 0, 0, 0, 1, 0, 0), (65, 21, 0, 0, 0, 14, 69, 135), (68, 6, 0, 0, 0, 0, 0, 0), (69, 14, 0, 0, 0, 0, 0, 0), (70, 25, 0, 0, 0, 0, 0, 0), (71, 1, 0, 0, 2, 1, 0, 0), (72, 6, 0, 0, 3, 0, 0, 0), (73, 26, 0, 0, 0, 0, 0, 0), (74, 2, 0, 0, 0, 1, 0, 0), (75, 22, 0, 0, 0, 6, 30, 126), (78, 0, 1, 6, 2, 0, 0, 0), (80, 2, 0, 0, 0, 1, 0, 0), (81, 21, 0, 0, 0, 14, 69, 135), (84, 6, 0, 0, 0, 0, 0, 0), (85, 25, 0, 0, 0, 0, 0, 0), (86, 15, 0, 0, 0, 93, 0, 0), (89, 0, 0, 1, 1, 0, 0, 0), (90, 17, 0, 0, 0, 94, 0, 0), (93, 0, 0, 0, 1, 0, 0, 0), (94, 50, 0, 0, 0, 0, 0, 0), (95, 2, 0, 0, 0, 1, 0, 0), (96, 2, 0, 0, 0, 1, 0, 0), (97, 21, 0, 0, 0, 13, 62, 134), (100, 15, 0, 0, 2, 110, 0, 0), (103, 2, 0, 0, 0, 1, 0, 0), (104, 21, 0, 0, 0, 13, 62, 134), (107, 17, 0, 0, 0, 111, 0, 0)]
def vl_54_1 : List (Nat × vt_I) := [(110, 1, 0, 0, 1, 1, 0, 0), (111, 23, 0, 0, 0, 15, 146, 136), (114, 1, 0, 0, 2, 1, 0, 0), (115, 2, 0, 0, 0, 1, 0, 0), (116, 21, 0, 0, 0, 15, 146, 136), (119, 40, 1, 0, 11, 2, 119, 11), (122, 50, 0, 0, 0, 0, 0, 0)]
def vl_55_0 : List (Nat × vt_I) := [(0, 1, 0, 0, 1, 1, 0, 0), (1, 0, 0, 1, 1, 0, 0, 0), (2, 6, 0, 0, 0, 0, 0, 0), (3, 3, 0, 0, 2, 1, 0, 0), (4, 2, 0, 0, 0, 1, 0, 0), (5, 22, 0, 0, 0, 4, 24, 124), (8, 1, 0, 0, 2, 1, 0, 0), (9, 2, 0, 0, 0, 1, 0, 0), (10, 22, 0, 0, 0, 4, 24, 124), (13, 1, 0, 0, 1, 1, 0, 0), (14, 25, 0, 0, 0, 0, 0, 0), (15, 26, 0, 0, 0, 0, 0, 0), (16, 2, 0, 0, 0, 1, 0, 0), (17, 22, 0, 0, 0, 5, 27, 125), (20, 1, 0, 0, 2, 1, 0, 0), (21, 2, 0, 0, 0, 1, 0, 0), (22, 22, 0, 0, 0, 5, 27, 125), (25, 1, 0, 0, 1, 1, 0, 0), (26, 25, 0, 0, 0, 0, 0, 0), (27, 26, 0, 0, 0, 0, 0, 0), (28, 2, 0, 0, 0, 1, 0, 0), (29, 22, 0, 0, 0, 6, 30, 126), (32, 1, 0, 0, 1, 1, 0, 0), (33, 0, 1, 6, 2, 0, 0, 0), (35, 6, 0, 0, 2, 0, 0, 0), (36, 2, 0, 0, 0, 1, 0, 0), (37, 22, 0, 0, 0, 6, 30, 126), (40, 1, 0, 0, 2, 1, 0, 0), (41, 0, 1, 6, 2, 0, 0, 0), (43, 6, 0, 0, 2, 0, 0, 0), (44, 0, 1, 6, 2, 0, 0, 0), (46, 34, 0, 0, 0, 0, 110, 445), (49, 2, 0, 0, 0, 1, 0, 0), (50, 21, 0, 0, 0, 10, 42, 131), (53, 15, 0, 0, 0, 78, 0, 0), (56, 0, 2, 192, 3, 0, 0, 0), (59, 3, 0, 0, 3, 1, 0, 0), (60, 2, 0, 0, 0, 1, 0, 0), (61, 22, 0, 0, 0, 7, 33, 127), (64, 1, 0, 0, 1, 1, 0, 0), (65, 1, 0, 0, 3, 1, 0, 0), (66, 6, 0, 0, 2, 0, 0, 0), (67, 2, 0, 0, 0, 1, 0, 0), (68, 22, 0, 0, 0, 7, 33, 127), (71, 1, 0, 0, 2, 1, 0, 0), (72, 1, 0, 0, 3, 1, 0, 0), (73, 6, 0, 0, 2, 0, 0, 0), (74, 1, 0, 0, 3, 1, 0, 0), (75, 34, 0, 0, 0, 0, 110, 445), (78, 51, 0, 0, 0, 0, 0, 0)]
def vl_56_0 : List (Nat × vt_I) := [(0, 2, 0, 0, 0, 1, 0, 0), (1, 22, 0, 0, 0, 4, 24, 124), (4, 1, 0, 0, 1, 1, 0, 0), (5, 14, 0, 0, 0, 0, 0, 0), (6, 25, 0, 0, 0, 0, 0, 0), (7, 0, 0, 1, 1, 0, 0, 0), (8, 1, 0, 0, 2, 1, 0, 0), (9, 6, 0, 0, 6, 0, 0, 0), (10, 0, 0, -1, 1, 0, 0, 0), (11, 6, 0, 0, 5, 0, 0, 0), (12, 6, 0, 0, 3, 0, 0, 0), (13, 26, 0, 0, 0, 0, 0, 0), (14, 2, 0, 0, 0, 1, 0, 0), (15, 22, 0, 0, 0, 5, 27, 125), (18, 1, 0, 0, 1, 1, 0, 0), (19, 14, 0, 0, 0, 0, 0, 0), (20, 25, 0, 0, 0, 0, 0, 0), (21, 2, 0, 0, 0, 1, 0, 0), (22, 21, 0, 0, 0, 10, 42, 131), (25, 15, 0, 0, 0, 47, 0, 0), (28, 2, 0, 0, 0, 1, 0, 0), (29, 22, 0, 0, 0, 7, 33, 127), (32, 1, 0, 0, 1, 1, 0, 0), (33, 0, 1, 6, 2, 0, 0, 0), (35, 6, 0, 0, 2, 0, 0, 0), (36, 1, 0, 0, 2, 1, 0, 0), (37, 6, 0, 0, 0, 0, 0, 0), (38, 0, 1, 32, 2, 0, 0, 0), (40, 6, 0, 0, 2, 0, 0, 0), (41, 1, 0, 0, 3, 1, 0, 0), (42, 6, 0, 0, 0, 0, 0, 0), (43, 25, 0, 0, 0, 0, 0, 0), (44, 17, 0, 0, 0, 48, 0, 0), (47, 0, 0, 1, 1, 0, 0, 0), (48, 6, 0, 0, 2, 0, 0, 0), (49, 26, 0, 0, 0, 0, 0, 0), (50, 0, 0, 0, 1, 0, 0, 0), (51, 3, 1, 0, 4, 2, 0, 0), (53, 1, 1, 0, 4, 2, 0, 0), (55, 0, 1, 6, 2, 0, 0, 0), (57, 16, 0, 0, 3, 135, 0, 0), (60, 2, 0, 0, 0, 1, 0, 0), (61, 22, 0, 0, 0, 1, 15, 121), (64, 1, 0, 0, 2, 1, 0, 0), (65, 25, 0, 0, 0, 0, 0, 0), (66, 2, 0, 0, 0, 1, 0, 0), (67, 22, 0, 0, 0, 4, 24, 124), (70, 1, 0, 0, 1, 1, 0, 0), (71, 25, 0, 0, 0, 0, 0, 0), (72, 6, 0, 0, 3, 0, 0, 0), (73, 1, 1, 0, 4, 2, 0, 0), (75, 40, 1, 0, 11, 2, 119, 11), (78, 15, 0, 0, 0, 129, 0, 0), (81, 1, 0, 0, 1, 1, 0, 0), (82, 0, 1, 6, 2, 0, 0, 0), (84, 6, 0, 0, 2, 0, 0, 0), (85, 1, 1, 0, 4, 2, 0, 0), (87, 6, 0, 0, 0, 0, 0, 0), (88, 3, 1, 0, 5, 2, 0, 0), (90, 2, 0, 0, 0, 1, 0, 0)]
def vl_56_1 : List (Nat × vt_I) := [(91, 22, 0, 0, 0, 6, 30, 126), (94, 1, 1, 0, 5, 2, 0, 0), (96, 14, 0, 0, 0, 0, 0, 0), (97, 25, 0, 0, 0, 0, 0, 0), (98, 2, 0, 0, 0, 1, 0, 0), (99, 22, 0, 0, 0, 0, 9, 120), (102, 0, 1, 6, 2, 0, 0, 0), (104, 1, 0, 0, 2, 1, 0, 0), (105, 6, 0, 0, 2, 0, 0, 0), (106, 1, 1, 0, 4, 2, 0, 0), (108, 6, 0, 0, 0, 0, 0, 0), (109, 0, 1, 32, 2, 0, 0, 0), (111, 6, 0, 0, 2, 0, 0, 0), (112, 1, 0, 0, 3, 1, 0, 0), (113, 6, 0, 0, 0, 0, 0, 0), (114, 25, 0, 0, 0, 0, 0, 0), (115, 6, 0, 0, 3, 0, 0, 0), (116, 26, 0, 0, 0, 0, 0, 0), (117, 2, 0, 0, 0, 1, 0, 0), (118, 22, 0, 0, 0, 6, 30, 126), (121, 1, 1, 0, 5, 2, 0, 0), (123, 25, 0, 0, 0, 0, 0, 0), (124, 15, 0, 0, 1, 129, 0, 0), (127, 0, 0, 0, 1, 0, 0, 0), (128, 50, 0, 0, 0, 0, 0, 0), (129, 5, 0, 1, 4, 0, 0, 0), (132, 17, 0, 0, 0, 53, 0, 0), (135, 0, 0, 1, 1, 0, 0, 0), (136, 50, 0, 0, 0, 0, 0, 0)]
def vl_57_0 : List (Nat × vt_I) := [(0, 0, 0, 1, 1, 0, 0, 0), (1, 3, 0, 0, 2, 1, 0, 0), (2, 0, 0, 0, 1, 0, 0, 0), (3, 3, 0, 0, 3, 1, 0, 0), (4, 1, 0, 0, 2, 1, 0, 0), (5, 15, 0, 0, 0, 86, 0, 0), (8, 1, 0, 0, 3, 1, 0, 0), (9, 0, 1, 6, 2, 0, 0, 0), (11, 16, 0, 0, 3, 86, 0, 0), (14, 0, 0, 0, 1, 0, 0, 0), (15, 3, 0, 0, 2, 1, 0, 0), (16, 0, 0, 0, 1, 0, 0, 0), (17, 3, 1, 0, 4, 2, 0, 0), (19, 1, 1, 0, 4, 2, 0, 0), (21, 0, 1, 6, 2, 0, 0, 0), (23, 16, 0, 0, 3, 80, 0, 0), (26, 1, 1, 0, 4, 2, 0, 0), (28, 2, 0, 0, 0, 1, 0, 0), (29, 21, 0, 0, 0, 14, 69, 135), (32, 16, 0, 0, 0, 74, 0, 0), (35, 2, 0, 0, 0, 1, 0, 0), (36, 22, 0, 0, 0, 4, 24, 124), (39, 1, 0, 0, 1, 1, 0, 0), (40, 25, 0, 0, 0, 0, 0, 0), (41, 1, 1, 0, 4, 2, 0, 0), (43, 40, 1, 0, 11, 2, 119, 11), (46, 15, 0, 0, 0, 74, 0, 0), (49, 2, 0, 0, 0, 1, 0, 0), (50, 1, 0, 0, 1, 1, 0, 0), (51, 1, 1, 0, 4, 2, 0, 0), (53, 40, 0, 100, 58, 3, 159, 492), (56, 0, 0, 1, 1, 0, 0, 0), (57, 16, 0, 0, 4, 74, 0, 0), (60, 0, 0, 1, 1, 0, 0, 0), (61, 3, 0, 0, 2, 1, 0, 0), (62, 2, 0, 0, 0, 1, 0, 0), (63, 1, 0, 0, 1, 1, 0, 0), (64, 1, 1, 0, 4, 2, 0, 0), (66, 40, 0, 100, 60, 3, 163, 502), (69, 15, 0, 0, 1, 74, 0, 0), (72, 0, 0, 0, 1, 0, 0, 0), (73, 50, 0, 0, 0, 0, 0, 0), (74, 5, 0, 1, 4, 0, 0, 0), (77, 17, 0, 0, 0, 19, 0, 0), (80, 5, 0, 1, 3, 0, 0, 0), (83, 17, 0, 0, 0, 4, 0, 0), (86, 0, 0, 1, 1, 0, 0, 0), (87, 50, 0, 0, 0, 0, 0, 0)]
def vl_58_0 : List (Nat × vt_I) := [(0, 2, 0, 0, 0, 1, 0, 0), (1, 22, 0, 0, 0, 1, 15, 121), (4, 1, 0, 0, 2, 1, 0, 0), (5, 25, 0, 0, 0, 0, 0, 0), (6, 2, 0, 0, 0, 1, 0, 0), (7, 22, 0, 0, 0, 4, 24, 124), (10, 1, 0, 0, 1, 1, 0, 0), (11, 25, 0, 0, 0, 0, 0, 0), (12, 6, 0, 0, 3, 0, 0, 0), (13, 40, 0, 0, 59, 1, 166, 496), (16, 50, 0, 0, 0, 0, 0, 0)]
def vl_59_0 : List (Nat × vt_I) := [(0, 1, 0, 0, 0, 1, 0, 0), (1, 1, 0, 0, 0, 1, 0, 0), (2, 0, 0, 1, 1, 0, 0, 0), (3, 6, 0, 0, 8, 0, 0, 0), (4, 0, 4, 1431655765, 3, 265, 0, 499), (7, 6, 0, 0, 3, 0, 0, 0), (8, 6, 0, 0, 1, 0, 0, 0), (9, 3, 0, 0, 0, 1, 0, 0), (10, 1, 0, 0, 0, 1, 0, 0), (11, 0, 4, 858993459, 3, 266, 0, 500), (14, 6, 0, 0, 3, 0, 0, 0), (15, 1, 0, 0, 0, 1, 0, 0), (16, 0, 0, 2, 1, 0, 0, 0), (17, 6, 0, 0, 8, 0, 0, 0), (18, 0, 4, 858993459, 3, 266, 0, 500), (21, 6, 0, 0, 3, 0, 0, 0), (22, 6, 0, 0, 0, 0, 0, 0), (23, 3, 0, 0, 0, 1, 0, 0), (24, 1, 0, 0, 0, 1, 0, 0), (25, 1, 0, 0, 0, 1, 0, 0), (26, 0, 0, 4, 1, 0, 0, 0), (27, 6, 0, 0, 8, 0, 0, 0), (28, 6, 0, 0, 0, 0, 0, 0), (29, 0, 4, 252645135, 3, 267, 0, 501), (32, 6, 0, 0, 3, 0, 0, 0), (33, 3, 0, 0, 0, 1, 0, 0), (34, 1, 0, 0, 0, 1, 0, 0), (35, 1, 0, 0, 0, 1, 0, 0), (36, 0, 1, 8, 2, 0, 0, 0), (38, 6, 0, 0, 8, 0, 0, 0), (39, 6, 0, 0, 0, 0, 0, 0), (40, 3, 0, 0, 0, 1, 0, 0), (41, 1, 0, 0, 0, 1, 0, 0), (42, 1, 0, 0, 0, 1, 0, 0), (43, 0, 1, 16, 2, 0, 0, 0), (45, 6, 0, 0, 8, 0, 0, 0), (46, 6, 0, 0, 0, 0, 0, 0), (47, 3, 0, 0, 0, 1, 0, 0), (48, 1, 0, 0, 0, 1, 0, 0), (49, 0, 1, 63, 2, 0, 0, 0), (51, 6, 0, 0, 3, 0, 0, 0), (52, 50, 0, 0, 0, 0, 0, 0)]
def vl_60_0 : List (Nat × vt_I) := [(0, 2, 0, 0, 0, 1, 0, 0), (1, 22, 0, 0, 0, 4, 24, 124), (4, 1, 0, 0, 1, 1, 0, 0), (5, 14, 0, 0, 0, 0, 0, 0), (6, 25, 0, 0, 0, 0, 0, 0), (7, 0, 0, 1, 1, 0, 0, 0), (8, 1, 0, 0, 2, 1, 0, 0), (9, 6, 0, 0, 6, 0, 0, 0), (10, 0, 0, -1, 1, 0, 0, 0), (11, 6, 0, 0, 5, 0, 0, 0), (12, 6, 0, 0, 3, 0, 0, 0), (13, 26, 0, 0, 0, 0, 0, 0), (14, 1, 0, 0, 1, 1, 0, 0), (15, 0, 1, 6, 2, 0, 0, 0), (17, 6, 0, 0, 2, 0, 0, 0), (18, 1, 0, 0, 2, 1, 0, 0), (19, 6, 0, 0, 0, 0, 0, 0), (20, 3, 0, 0, 3, 1, 0, 0), (21, 2, 0, 0, 0, 1, 0, 0), (22, 22, 0, 0, 0, 1, 15, 121), (25, 1, 0, 0, 2, 1, 0, 0), (26, 25, 0, 0, 0, 0, 0, 0), (27, 2, 0, 0, 0, 1, 0, 0), (28, 22, 0, 0, 0, 4, 24, 124), (31, 1, 0, 0, 1, 1, 0, 0), (32, 25, 0, 0, 0, 0, 0, 0), (33, 6, 0, 0, 3, 0, 0, 0), (34, 3, 1, 0, 4, 2, 0, 0), (36, 1, 1, 0, 4, 2, 0, 0), (38, 15, 0, 0, 1, 81, 0, 0), (41, 2, 0, 0, 0, 1, 0, 0), (42, 22, 0, 0, 0, 5, 27, 125), (45, 1, 0, 0, 1, 1, 0, 0), (46, 14, 0, 0, 0, 0, 0, 0), (47, 25, 0, 0, 0, 0, 0, 0), (48, 2, 0, 0, 0, 1, 0, 0), (49, 21, 0, 0, 0, 10, 42, 131), (52, 15, 0, 0, 0, 63, 0, 0), (55, 2, 0, 0, 0, 1, 0, 0), (56, 1, 0, 0, 3, 1, 0, 0), (57, 40, 0, 100, 61, 2, 171, 506), (60, 17, 0, 0, 0, 64, 0, 0), (63, 0, 0, 1, 1, 0, 0, 0), (64, 6, 0, 0, 2, 0, 0, 0), (65, 26, 0, 0, 0, 0, 0, 0), (66, 2, 0, 0, 0, 1, 0, 0), (67, 22, 0, 0, 0, 6, 30, 126), (70, 1, 0, 0, 3, 1, 0, 0), (71, 25, 0, 0, 0, 0, 0, 0), (72, 15, 0, 0, 0, 79, 0, 0), (75, 0, 0, 1, 1, 0, 0, 0), (76, 17, 0, 0, 0, 80, 0, 0), (79, 0, 0, 0, 1, 0, 0, 0), (80, 50, 0, 0, 0, 0, 0, 0), (81, 1, 1, 0, 4, 2, 0, 0), (83, 40, 1, 0, 62, 1, 174, 12), (86, 3, 1, 0, 5, 2, 0, 0), (88, 1, 0, 0, 1, 1, 0, 0), (89, 0, 1, 6, 2, 0, 0, 0), (91, 6, 0, 0, 2, 0, 0, 0)]
def vl_60_1 : List (Nat × vt_I) := [(92, 1, 1, 0, 5, 2, 0, 0), (94, 6, 0, 0, 0, 0, 0, 0), (95, 3, 1, 0, 6, 2, 0, 0), (97, 0, 1, 6, 2, 0, 0, 0), (99, 1, 0, 0, 2, 1, 0, 0), (100, 6, 0, 0, 2, 0, 0, 0), (101, 1, 1, 0, 5, 2, 0, 0), (103, 6, 0, 0, 0, 0, 0, 0), (104, 0, 1, 32, 2, 0, 0, 0), (106, 6, 0, 0, 2, 0, 0, 0), (107, 3, 1, 0, 7, 2, 0, 0), (109, 2, 0, 0, 0, 1, 0, 0), (110, 21, 0, 0, 0, 10, 42, 131), (113, 15, 0, 0, 0, 125, 0, 0), (116, 2, 0, 0, 0, 1, 0, 0), (117, 1, 0, 0, 3, 1, 0, 0), (118, 1, 1, 0, 6, 2, 0, 0), (120, 1, 1, 0, 7, 2, 0, 0), (122, 40, 0, 100, 63, 4, 177, 514), (125, 2, 0, 0, 0, 1, 0, 0), (126, 22, 0, 0, 0, 6, 30, 126), (129, 1, 0, 0, 3, 1, 0, 0), (130, 25, 0, 0, 0, 0, 0, 0), (131, 3, 1, 0, 8, 2, 0, 0), (133, 0, 0, 0, 1, 0, 0, 0), (134, 3, 1, 0, 9, 2, 0, 0), (136, 0, 0, 0, 1, 0, 0, 0), (137, 3, 1, 0, 10, 2, 0, 0), (139, 1, 1, 0, 10, 2, 0, 0), (141, 0, 1, 32, 2, 0, 0, 0), (143, 16, 0, 0, 3, 189, 0, 0), (146, 1, 1, 0, 8, 2, 0, 0), (148, 1, 1, 0, 10, 2, 0, 0), (150, 6, 0, 0, 8, 0, 0, 0), (151, 15, 0, 0, 0, 189, 0, 0), (154, 1, 1, 0, 9, 2, 0, 0), (156, 1, 1, 0, 8, 2, 0, 0), (158, 1, 1, 0, 10, 2, 0, 0), (160, 40, 1, 0, 11, 2, 119, 11), (163, 15, 0, 0, 0, 179, 0, 0), (166, 2, 0, 0, 0, 1, 0, 0), (167, 22, 0, 0, 0, 0, 9, 120), (170, 1, 1, 0, 7, 2, 0, 0), (172, 1, 1, 0, 10, 2, 0, 0), (174, 6, 0, 0, 0, 0, 0, 0), (175, 25, 0, 0, 0, 0, 0, 0), (176, 17, 0, 0, 0, 180, 0, 0), (179, 0, 0, 0, 1, 0, 0, 0), (180, 6, 0, 0, 4, 0, 0, 0), (181, 3, 1, 0, 9, 2, 0, 0), (183, 5, 0, 1, 10, 0, 0, 0), (186, 17, 0, 0, 0, 139, 0, 0), (189, 2, 0, 0, 0, 1, 0, 0), (190, 22, 0, 0, 0, 6, 30, 126), (193, 1, 1, 0, 6, 2, 0, 0), (195, 14, 0, 0, 0, 0, 0, 0), (196, 25, 0, 0, 0, 0, 0, 0), (197, 1, 1, 0, 9, 2, 0, 0), (199, 6, 0, 0, 3, 0, 0, 0), (200, 26, 0, 0, 0, 0, 0, 0)]
def vl_60_2 : List (Nat × vt_I) := [(201, 2, 0, 0, 0, 1, 0, 0), (202, 22, 0, 0, 0, 6, 30, 126), (205, 1, 1, 0, 6, 2, 0, 0), (207, 25, 0, 0, 0, 0, 0, 0), (208, 15, 0, 0, 0, 215, 0, 0), (211, 0, 0, 1, 1, 0, 0, 0), (212, 17, 0, 0, 0, 216, 0, 0), (215, 0, 0, 0, 1, 0, 0, 0), (216, 50, 0, 0, 0, 0, 0, 0)]
def vl_61_0 : List (Nat × vt_I) := [(0, 0, 0, 0, 1, 0, 0, 0), (1, 3, 0, 0, 2, 1, 0, 0), (2, 0, 0, 0, 1, 0, 0, 0), (3, 3, 0, 0, 3, 1, 0, 0), (4, 1, 0, 0, 3, 1, 0, 0), (5, 0, 1, 32, 2, 0, 0, 0), (7, 16, 0, 0, 3, 47, 0, 0), (10, 1, 0, 0, 2, 1, 0, 0), (11, 2, 0, 0, 0, 1, 0, 0), (12, 22, 0, 0, 0, 6, 30, 126), (15, 1, 0, 0, 1, 1, 0, 0), (16, 25, 0, 0, 0, 0, 0, 0), (17, 1, 0, 0, 3, 1, 0, 0), (18, 40, 1, 0, 11, 2, 119, 11), (21, 15, 0, 0, 0, 38, 0, 0), (24, 2, 0, 0, 0, 1, 0, 0), (25, 22, 0, 0, 0, 7, 33, 127), (28, 1, 0, 0, 1, 1, 0, 0), (29, 0, 1, 32, 2, 0, 0, 0), (31, 6, 0, 0, 2, 0, 0, 0), (32, 1, 0, 0, 3, 1, 0, 0), (33, 6, 0, 0, 0, 0, 0, 0), (34, 25, 0, 0, 0, 0, 0, 0), (35, 17, 0, 0, 0, 39, 0, 0), (38, 0, 0, 0, 1, 0, 0, 0), (39, 6, 0, 0, 0, 0, 0, 0), (40, 3, 0, 0, 2, 1, 0, 0), (41, 5, 0, 1, 3, 0, 0, 0), (44, 17, 0, 0, 0, 4, 0, 0), (47, 1, 0, 0, 2, 1, 0, 0), (48, 50, 0, 0, 0, 0, 0, 0)]
def vl_62_0 : List (Nat × vt_I) := [(0, 1, 0, 0, 0, 1, 0, 0), (1, 1, 0, 0, 0, 1, 0, 0), (2, 9, 0, 0, 0, 0, 0, 0), (3, 6, 0, 0, 3, 0, 0, 0), (4, 0, 0, 1, 1, 0, 0, 0), (5, 6, 0, 0, 1, 0, 0, 0), (6, 40, 0, 0, 59, 1, 127, 513), (9, 50, 0, 0, 0, 0, 0, 0)]
def vl_63_0 : List (Nat × vt_I) := [(0, 2, 0, 0, 0, 1, 0, 0), (1, 22, 0, 0, 0, 8, 36, 128), (4, 0, 0, 0, 1, 0, 0, 0), (5, 40, 0, 0, 35, 2, 72, 440), (8, 0, 0, 0, 1, 0, 0, 0), (9, 3, 1, 0, 4, 2, 0, 0), (11, 1, 1, 0, 4, 2, 0, 0), (13, 0, 1, 32, 2, 0, 0, 0), (15, 16, 0, 0, 3, 114, 0, 0), (18, 2, 0, 0, 0, 1, 0, 0), (19, 22, 0, 0, 0, 6, 30, 126), (22, 1, 0, 0, 1, 1, 0, 0), (23, 25, 0, 0, 0, 0, 0, 0), (24, 1, 1, 0, 4, 2, 0, 0), (26, 6, 0, 0, 8, 0, 0, 0), (27, 0, 0, 1, 1, 0, 0, 0), (28, 6, 0, 0, 3, 0, 0, 0), (29, 15, 0, 0, 0, 51, 0, 0), (32, 2, 0, 0, 0, 1, 0, 0), (33, 22, 0, 0, 0, 0, 9, 120), (36, 1, 0, 0, 3, 1, 0, 0), (37, 1, 1, 0, 4, 2, 0, 0), (39, 6, 0, 0, 0, 0, 0, 0), (40, 25, 0, 0, 0, 0, 0, 0), (41, 2, 0, 0, 0, 1, 0, 0), (42, 22, 0, 0, 0, 6, 30, 126), (45, 1, 0, 0, 2, 1, 0, 0), (46, 25, 0, 0, 0, 0, 0, 0), (47, 6, 0, 0, 3, 0, 0, 0), (48, 17, 0, 0, 0, 52, 0, 0), (51, 0, 0, 0, 1, 0, 0, 0), (52, 3, 1, 0, 5, 2, 0, 0), (54, 0, 0, 0, 1, 0, 0, 0), (55, 3, 1, 0, 6, 2, 0, 0), (57, 1, 1, 0, 6, 2, 0, 0), (59, 0, 1, 32, 2, 0, 0, 0), (61, 16, 0, 0, 3, 108, 0, 0), (64, 1, 1, 0, 5, 2, 0, 0), (66, 1, 1, 0, 6, 2, 0, 0), (68, 6, 0, 0, 8, 0, 0, 0), (69, 15, 0, 0, 0, 108, 0, 0), (72, 2, 0, 0, 0, 1, 0, 0), (73, 22, 0, 0, 0, 8, 36, 128), (76, 1, 1, 0, 6, 2, 0, 0), (78, 14, 0, 0, 0, 0, 0, 0), (79, 25, 0, 0, 0, 0, 0, 0), (80, 1, 1, 0, 5, 2, 0, 0), (82, 1, 1, 0, 6, 2, 0, 0), (84, 6, 0, 0, 8, 0, 0, 0), (85, 0, 0, 1, 1, 0, 0, 0), (86, 6, 0, 0, 3, 0, 0, 0), (87, 2, 0, 0, 0, 1, 0, 0), (88, 22, 0, 0, 0, 7, 33, 127), (91, 1, 0, 0, 1, 1, 0, 0), (92, 0, 1, 32, 2, 0, 0, 0), (94, 6, 0, 0, 2, 0, 0, 0), (95, 1, 1, 0, 4, 2, 0, 0), (97, 6, 0, 0, 0, 0, 0, 0), (98, 25, 0, 0, 0, 0, 0, 0), (99, 6, 0, 0, 2, 0, 0, 0)]
def vl_63_1 : List (Nat × vt_I) := [(100, 6, 0, 0, 0, 0, 0, 0), (101, 26, 0, 0, 0, 0, 0, 0), (102, 5, 0, 1, 6, 0, 0, 0), (105, 17, 0, 0, 0, 57, 0, 0), (108, 5, 0, 1, 4, 0, 0, 0), (111, 17, 0, 0, 0, 11, 0, 0), (114, 0, 0, 0, 1, 0, 0, 0), (115, 3, 1, 0, 4, 2, 0, 0), (117, 1, 1, 0, 4, 2, 0, 0), (119, 0, 1, 32, 2, 0, 0, 0), (121, 16, 0, 0, 3, 152, 0, 0), (124, 2, 0, 0, 0, 1, 0, 0), (125, 22, 0, 0, 0, 7, 33, 127), (128, 1, 0, 0, 2, 1, 0, 0), (129, 0, 1, 32, 2, 0, 0, 0), (131, 6, 0, 0, 2, 0, 0, 0), (132, 1, 1, 0, 4, 2, 0, 0), (134, 6, 0, 0, 0, 0, 0, 0), (135, 14, 0, 0, 0, 0, 0, 0), (136, 25, 0, 0, 0, 0, 0, 0), (137, 2, 0, 0, 0, 1, 0, 0), (138, 22, 0, 0, 0, 8, 36, 128), (141, 1, 1, 0, 4, 2, 0, 0), (143, 25, 0, 0, 0, 0, 0, 0), (144, 6, 0, 0, 2, 0, 0, 0), (145, 26, 0, 0, 0, 0, 0, 0), (146, 5, 0, 1, 4, 0, 0, 0), (149, 17, 0, 0, 0, 117, 0, 0), (152, 51, 0, 0, 0, 0, 0, 0)]
def vl_64_0 : List (Nat × vt_I) := [(0, 0, 0, -1, 1, 0, 0, 0), (1, 3, 0, 0, 1, 1, 0, 0), (2, 0, 0, 0, 1, 0, 0, 0), (3, 3, 0, 0, 2, 1, 0, 0), (4, 1, 0, 0, 2, 1, 0, 0), (5, 0, 1, 6, 2, 0, 0, 0), (7, 16, 0, 0, 3, 58, 0, 0), (10, 1, 0, 0, 2, 1, 0, 0), (11, 2, 0, 0, 0, 1, 0, 0), (12, 21, 0, 0, 0, 14, 69, 135), (15, 16, 0, 0, 0, 52, 0, 0), (18, 2, 0, 0, 0, 1, 0, 0), (19, 22, 0, 0, 0, 4, 24, 124), (22, 0, 0, 1, 1, 0, 0, 0), (23, 25, 0, 0, 0, 0, 0, 0), (24, 1, 0, 0, 2, 1, 0, 0), (25, 40, 1, 0, 11, 2, 119, 11), (28, 15, 0, 0, 0, 52, 0, 0), (31, 1, 0, 0, 1, 1, 0, 0), (32, 15, 0, 0, 2, 50, 0, 0), (35, 2, 0, 0, 0, 1, 0, 0), (36, 0, 0, 1, 1, 0, 0, 0), (37, 1, 0, 0, 2, 1, 0, 0), (38, 40, 0, 100, 58, 3, 159, 492), (41, 2, 0, 0, 0, 1, 0, 0), (42, 0, 0, 1, 1, 0, 0, 0), (43, 1, 0, 0, 1, 1, 0, 0), (44, 40, 0, 100, 58, 3, 159, 492), (47, 16, 0, 0, 5, 52, 0, 0), (50, 1, 0, 0, 2, 1, 0, 0), (51, 3, 0, 0, 1, 1, 0, 0), (52, 5, 0, 1, 2, 0, 0, 0), (55, 17, 0, 0, 0, 4, 0, 0), (58, 1, 0, 0, 1, 1, 0, 0), (59, 50, 0, 0, 0, 0, 0, 0)]
def vl_65_0 : List (Nat × vt_I) := [(0, 2, 0, 0, 0, 1, 0, 0), (1, 21, 0, 0, 0, 14, 69, 135), (4, 15, 0, 0, 3, 32, 0, 0), (7, 2, 0, 0, 0, 1, 0, 0), (8, 22, 0, 0, 0, 9, 39, 129), (11, 2, 0, 0, 0, 1, 0, 0), (12, 21, 0, 0, 0, 15, 146, 136), (15, 14, 0, 0, 0, 0, 0, 0), (16, 25, 0, 0, 0, 0, 0, 0), (17, 2, 0, 0, 0, 1, 0, 0), (18, 22, 0, 0, 0, 5, 27, 125), (21, 1, 0, 0, 1, 1, 0, 0), (22, 25, 0, 0, 0, 0, 0, 0), (23, 6, 0, 0, 0, 0, 0, 0), (24, 26, 0, 0, 0, 0, 0, 0), (25, 0, 0, 1, 1, 0, 0, 0), (26, 2, 0, 0, 0, 1, 0, 0), (27, 21, 0, 0, 0, 15, 146, 136), (30, 6, 0, 0, 6, 0, 0, 0), (31, 50, 0, 0, 0, 0, 0, 0), (32, 1, 0, 0, 1, 1, 0, 0), (33, 0, 1, 6, 2, 0, 0, 0), (35, 6, 0, 0, 2, 0, 0, 0), (36, 2, 0, 0, 0, 1, 0, 0), (37, 21, 0, 0, 0, 14, 69, 135), (40, 6, 0, 0, 0, 0, 0, 0), (41, 3, 0, 0, 2, 1, 0, 0), (42, 0, 0, 0, 1, 0, 0, 0), (43, 3, 0, 0, 3, 1, 0, 0), (44, 2, 0, 0, 0, 1, 0, 0), (45, 21, 0, 0, 0, 10, 42, 131), (48, 15, 0, 0, 0, 107, 0, 0), (51, 1, 0, 0, 3, 1, 0, 0), (52, 0, 1, 32, 2, 0, 0, 0), (54, 16, 0, 0, 3, 107, 0, 0), (57, 2, 0, 0, 0, 1, 0, 0), (58, 22, 0, 0, 0, 9, 39, 129), (61, 1, 0, 0, 3, 1, 0, 0), (62, 14, 0, 0, 0, 0, 0, 0), (63, 25, 0, 0, 0, 0, 0, 0), (64, 2, 0, 0, 0, 1, 0, 0), (65, 22, 0, 0, 0, 6, 30, 126), (68, 1, 0, 0, 2, 1, 0, 0), (69, 25, 0, 0, 0, 0, 0, 0), (70, 1, 0, 0, 3, 1, 0, 0), (71, 40, 1, 0, 11, 2, 119, 11), (74, 15, 0, 0, 0, 98, 0, 0), (77, 2, 0, 0, 0, 1, 0, 0), (78, 22, 0, 0, 0, 5, 27, 125), (81, 1, 0, 0, 1, 1, 0, 0), (82, 25, 0, 0, 0, 0, 0, 0), (83, 2, 0, 0, 0, 1, 0, 0), (84, 22, 0, 0, 0, 7, 33, 127), (87, 1, 0, 0, 2, 1, 0, 0), (88, 0, 1, 32, 2, 0, 0, 0), (90, 6, 0, 0, 2, 0, 0, 0), (91, 1, 0, 0, 3, 1, 0, 0), (92, 6, 0, 0, 0, 0, 0, 0), (93, 25, 0, 0, 0, 0, 0, 0), (94, 6, 0, 0, 2, 0, 0, 0)]
def vl_65_1 : List (Nat × vt_I) := [(95, 17, 0, 0, 0, 99, 0, 0), (98, 0, 0, 0, 1, 0, 0, 0), (99, 6, 0, 0, 0, 0, 0, 0), (100, 26, 0, 0, 0, 0, 0, 0), (101, 5, 0, 1, 3, 0, 0, 0), (104, 17, 0, 0, 0, 44, 0, 0), (107, 2, 0, 0, 0, 1, 0, 0), (108, 22, 0, 0, 0, 6, 30, 126), (111, 1, 0, 0, 2, 1, 0, 0), (112, 25, 0, 0, 0, 0, 0, 0), (113, 50, 0, 0, 0, 0, 0, 0)]
def vl_66_0 : List (Nat × vt_I) := [(0, 1, 0, 0, 1, 1, 0, 0), (1, 0, 0, 2, 1, 0, 0, 0), (2, 16, 0, 0, 1, 10, 0, 0), (5, 1, 0, 0, 2, 1, 0, 0), (6, 40, 1, 0, 62, 1, 174, 12), (9, 50, 0, 0, 0, 0, 0, 0), (10, 0, 0, 0, 1, 0, 0, 0), (11, 3, 0, 0, 3, 1, 0, 0), (12, 0, 0, 0, 1, 0, 0, 0), (13, 3, 1, 0, 4, 2, 0, 0), (15, 1, 1, 0, 4, 2, 0, 0), (17, 0, 1, 32, 2, 0, 0, 0), (19, 16, 0, 0, 3, 80, 0, 0), (22, 1, 0, 0, 1, 1, 0, 0), (23, 0, 0, 3, 1, 0, 0, 0), (24, 16, 0, 0, 1, 46, 0, 0), (27, 1, 0, 0, 2, 1, 0, 0), (28, 1, 1, 0, 4, 2, 0, 0), (30, 40, 1, 0, 11, 2, 119, 11), (33, 15, 0, 0, 0, 41, 0, 0), (36, 1, 1, 0, 4, 2, 0, 0), (38, 17, 0, 0, 0, 42, 0, 0), (41, 1, 0, 0, 3, 1, 0, 0), (42, 3, 0, 0, 3, 1, 0, 0), (43, 17, 0, 0, 0, 74, 0, 0), (46, 1, 0, 0, 3, 1, 0, 0), (47, 1, 0, 0, 1, 1, 0, 0), (48, 0, 0, 1, 1, 0, 0, 0), (49, 16, 0, 0, 1, 65, 0, 0), (52, 1, 1, 0, 4, 2, 0, 0), (54, 2, 0, 0, 0, 1, 0, 0), (55, 22, 0, 0, 0, 9, 39, 129), (58, 1, 1, 0, 4, 2, 0, 0), (60, 25, 0, 0, 0, 0, 0, 0), (61, 6, 0, 0, 2, 0, 0, 0), (62, 17, 0, 0, 0, 72, 0, 0), (65, 2, 0, 0, 0, 1, 0, 0), (66, 22, 0, 0, 0, 9, 39, 129), (69, 1, 1, 0, 4, 2, 0, 0), (71, 25, 0, 0, 0, 0, 0, 0), (72, 6, 0, 0, 0, 0, 0, 0), (73, 3, 0, 0, 3, 1, 0, 0), (74, 5, 0, 1, 4, 0, 0, 0), (77, 17, 0, 0, 0, 15, 0, 0), (80, 1, 0, 0, 3, 1, 0, 0), (81, 0, 1, 31, 2, 0, 0, 0), (83, 6, 0, 0, 3, 0, 0, 0), (84, 50, 0, 0, 0, 0, 0, 0)]
def vl_67_0 : List (Nat × vt_I) := [(0, 0, 0, 0, 1, 0, 0, 0), (1, 3, 1, 0, 4, 2, 0, 0), (3, 1, 1, 0, 4, 2, 0, 0), (5, 0, 1, 32, 2, 0, 0, 0), (7, 16, 0, 0, 3, 40, 0, 0), (10, 1, 0, 0, 3, 1, 0, 0), (11, 1, 1, 0, 4, 2, 0, 0), (13, 6, 0, 0, 8, 0, 0, 0), (14, 15, 0, 0, 0, 40, 0, 0), (17, 1, 0, 0, 3, 1, 0, 0), (18, 1, 1, 0, 4, 2, 0, 0), (20, 40, 1, 0, 11, 2, 18, 6), (23, 15, 0, 0, 0, 34, 0, 0), (26, 2, 0, 0, 0, 1, 0, 0), (27, 1, 0, 0, 1, 1, 0, 0), (28, 1, 0, 0, 2, 1, 0, 0), (29, 1, 1, 0, 4, 2, 0, 0), (31, 40, 0, 101, 12, 4, 22, 534), (34, 5, 0, 1, 4, 0, 0, 0), (37, 17, 0, 0, 0, 3, 0, 0), (40, 51, 0, 0, 0, 0, 0, 0)]
def vl_68_0 : List (Nat × vt_I) := [(0, 0, 0, 0, 1, 0, 0, 0), (1, 3, 0, 0, 2, 1, 0, 0), (2, 1, 0, 0, 2, 1, 0, 0), (3, 0, 1, 16, 2, 0, 0, 0), (5, 16, 0, 0, 3, 50, 0, 0), (8, 2, 0, 0, 0, 1, 0, 0), (9, 21, 0, 0, 2, 9, 55, 185), (12, 1, 0, 0, 2, 1, 0, 0), (13, 40, 1, 0, 11, 2, 118, 9), (16, 15, 0, 0, 0, 27, 0, 0), (19, 2, 0, 0, 0, 1, 0, 0), (20, 22, 0, 0, 2, 7, 49, 183), (23, 1, 0, 0, 2, 1, 0, 0), (24, 40, 0, 101, 69, 2, 149, 539), (27, 2, 0, 0, 0, 1, 0, 0), (28, 21, 0, 0, 2, 10, 58, 186), (31, 1, 0, 0, 2, 1, 0, 0), (32, 40, 1, 0, 11, 2, 118, 9), (35, 15, 0, 0, 0, 44, 0, 0), (38, 2, 0, 0, 0, 1, 0, 0), (39, 1, 0, 0, 2, 1, 0, 0), (40, 1, 0, 0, 1, 1, 0, 0), (41, 40, 0, 102, 70, 3, 153, 543), (44, 5, 0, 1, 2, 0, 0, 0), (47, 17, 0, 0, 0, 2, 0, 0), (50, 2, 0, 0, 0, 1, 0, 0), (51, 22, 0, 0, 2, 7, 49, 183), (54, 4, 0, 0, 2, 1, 0, 0), (55, 2, 0, 0, 0, 1, 0, 0), (56, 2, 0, 0, 0, 1, 0, 0), (57, 22, 0, 0, 2, 8, 52, 184), (60, 24, 0, 0, 2, 7, 49, 183), (63, 2, 0, 0, 0, 1, 0, 0), (64, 2, 0, 0, 2, 1, 0, 0), (65, 24, 0, 0, 2, 8, 52, 184), (68, 2, 0, 0, 0, 1, 0, 0), (69, 2, 0, 0, 0, 1, 0, 0), (70, 21, 0, 0, 2, 10, 58, 186), (73, 23, 0, 0, 2, 9, 55, 185), (76, 2, 0, 0, 0, 1, 0, 0), (77, 0, 0, 0, 1, 0, 0, 0), (78, 23, 0, 0, 2, 10, 58, 186), (81, 2, 0, 0, 0, 1, 0, 0), (82, 21, 0, 0, 2, 9, 55, 185), (85, 15, 0, 0, 0, 92, 0, 0), (88, 0, 0, 1, 1, 0, 0, 0), (89, 17, 0, 0, 0, 93, 0, 0), (92, 0, 0, 0, 1, 0, 0, 0), (93, 50, 0, 0, 0, 0, 0, 0)]
def vl_69_0 : List (Nat × vt_I) := [(0, 0, 1, 32, 2, 0, 0, 0), (2, 1, 0, 0, 1, 1, 0, 0), (3, 6, 0, 0, 2, 0, 0, 0), (4, 3, 0, 0, 2, 1, 0, 0), (5, 1, 0, 0, 2, 1, 0, 0), (6, 0, 1, 32, 2, 0, 0, 0), (8, 1, 0, 0, 1, 1, 0, 0), (9, 6, 0, 0, 2, 0, 0, 0), (10, 0, 1, 32, 2, 0, 0, 0), (12, 6, 0, 0, 0, 0, 0, 0), (13, 16, 0, 0, 3, 36, 0, 0), (16, 2, 0, 0, 0, 1, 0, 0), (17, 22, 0, 0, 1, 0, 9, 69), (20, 1, 0, 0, 2, 1, 0, 0), (21, 0, 0, 0, 1, 0, 0, 0), (22, 26, 0, 0, 0, 0, 0, 0), (23, 2, 0, 0, 0, 1, 0, 0), (24, 22, 0, 0, 1, 1, 15, 72), (27, 1, 0, 0, 2, 1, 0, 0), (28, 0, 0, 0, 1, 0, 0, 0), (29, 26, 0, 0, 0, 0, 0, 0), (30, 5, 0, 1, 2, 0, 0, 0), (33, 17, 0, 0, 0, 5, 0, 0), (36, 51, 0, 0, 0, 0, 0, 0)]
def vl_70_0 : List (Nat × vt_I) := [(0, 2, 0, 0, 0, 1, 0, 0), (1, 22, 0, 0, 2, 5, 42, 181), (4, 1, 0, 0, 1, 1, 0, 0), (5, 27, 0, 0, 3, 0, 0, 0), (6, 29, 0, 0, 0, 0, 0, 0), (7, 0, 2, 1024, 3, 0, 0, 0), (10, 16, 0, 0, 3, 24, 0, 0), (13, 2, 0, 0, 0, 1, 0, 0), (14, 22, 0, 0, 2, 5, 42, 181), (17, 1, 0, 0, 1, 1, 0, 0), (18, 0, 2, 1024, 3, 0, 0, 0), (21, 30, 0, 0, 0, 0, 0, 0), (23, 28, 0, 0, 3, 1, 0, 0), (24, 0, 0, 0, 1, 0, 0, 0), (25, 3, 0, 0, 3, 1, 0, 0), (26, 1, 0, 0, 3, 1, 0, 0), (27, 0, 1, 32, 2, 0, 0, 0), (29, 16, 0, 0, 3, 114, 0, 0), (32, 2, 0, 0, 0, 1, 0, 0), (33, 22, 0, 0, 2, 8, 52, 184), (36, 22, 0, 0, 1, 0, 133, 71), (39, 0, 1, 32, 2, 0, 0, 0), (41, 1, 0, 0, 1, 1, 0, 0), (42, 6, 0, 0, 2, 0, 0, 0), (43, 1, 0, 0, 3, 1, 0, 0), (44, 6, 0, 0, 0, 0, 0, 0), (45, 25, 0, 0, 0, 0, 0, 0), (46, 3, 1, 0, 4, 2, 0, 0), (48, 2, 0, 0, 0, 1, 0, 0), (49, 22, 0, 0, 2, 3, 29, 178), (52, 1, 0, 0, 1, 1, 0, 0), (53, 1, 0, 0, 3, 1, 0, 0), (54, 1, 1, 0, 4, 2, 0, 0), (56, 40, 0, 101, 67, 4, 142, 530), (59, 0, 0, 0, 1, 0, 0, 0), (60, 3, 1, 0, 5, 2, 0, 0), (62, 1, 1, 0, 5, 2, 0, 0), (64, 0, 1, 32, 2, 0, 0, 0), (66, 16, 0, 0, 3, 108, 0, 0), (69, 1, 1, 0, 4, 2, 0, 0), (71, 1, 1, 0, 5, 2, 0, 0), (73, 6, 0, 0, 8, 0, 0, 0), (74, 15, 0, 0, 0, 108, 0, 0), (77, 1, 1, 0, 4, 2, 0, 0), (79, 1, 1, 0, 5, 2, 0, 0), (81, 40, 1, 0, 11, 2, 118, 9), (84, 15, 0, 0, 0, 102, 0, 0), (87, 2, 0, 0, 0, 1, 0, 0), (88, 22, 0, 0, 2, 5, 42, 181), (91, 1, 0, 0, 1, 1, 0, 0), (92, 27, 0, 0, 3, 0, 0, 0), (93, 0, 1, 32, 2, 0, 0, 0), (95, 1, 0, 0, 3, 1, 0, 0), (96, 6, 0, 0, 2, 0, 0, 0), (97, 1, 1, 0, 5, 2, 0, 0), (99, 6, 0, 0, 0, 0, 0, 0), (100, 1, 0, 0, 2, 1, 0, 0), (101, 26, 0, 0, 0, 0, 0, 0), (102, 5, 0, 1, 5, 0, 0, 0), (105, 17, 0, 0, 0, 62, 0, 0)]
def vl_70_1 : List (Nat × vt_I) := [(108, 5, 0, 1, 3, 0, 0, 0), (111, 17, 0, 0, 0, 26, 0, 0), (114, 51, 0, 0, 0, 0, 0, 0)]
def vl_71_0 : List (Nat × vt_I) := [(0, 1, 0, 0, 1, 1, 0, 0), (1, 40, 0, 0, 9, 1, 52, 288), (4, 15, 0, 0, 0, 9, 0, 0), (7, 0, 0, -1, 1, 0, 0, 0), (8, 50, 0, 0, 0, 0, 0, 0), (9, 2, 0, 0, 0, 1, 0, 0), (10, 22, 0, 0, 5, 2, 19, 270), (13, 2, 0, 0, 0, 1, 0, 0), (14, 22, 0, 0, 5, 0, 12, 268), (17, 2, 0, 0, 0, 1, 0, 0), (18, 22, 0, 0, 5, 1, 25, 269), (21, 2, 0, 0, 0, 1, 0, 0), (22, 21, 0, 0, 5, 3, 30, 271), (25, 40, 0, 102, 31, 4, 79, 371), (28, 2, 0, 0, 0, 1, 0, 0), (29, 22, 0, 0, 5, 2, 19, 270), (32, 22, 0, 0, 2, 2, 83, 177), (35, 21, 0, 0, 4, 4, 87, 100), (38, 15, 0, 0, 2, 46, 0, 0), (41, 0, 1, -2, 2, 0, 0, 0), (43, 17, 0, 0, 0, 58, 0, 0), (46, 2, 0, 0, 0, 1, 0, 0), (47, 22, 0, 0, 5, 2, 19, 270), (50, 22, 0, 0, 2, 2, 83, 177), (53, 22, 0, 0, 4, 3, 95, 97), (56, 1, 0, 0, 1, 1, 0, 0), (57, 25, 0, 0, 0, 0, 0, 0), (58, 50, 0, 0, 0, 0, 0, 0)]
def vl_72_0 : List (Nat × vt_I) := [(0, 1, 0, 0, 1, 1, 0, 0), (1, 1, 0, 0, 2, 1, 0, 0), (2, 1, 0, 0, 3, 1, 0, 0), (3, 40, 0, 0, 8, 3, 34, 285), (6, 15, 0, 0, 0, 11, 0, 0), (9, 0, 0, -1, 1, 0, 0, 0), (10, 50, 0, 0, 0, 0, 0, 0), (11, 2, 0, 0, 0, 1, 0, 0), (12, 22, 0, 0, 5, 0, 12, 268), (15, 1, 0, 0, 1, 1, 0, 0), (16, 1, 0, 0, 2, 1, 0, 0), (17, 1, 0, 0, 3, 1, 0, 0), (18, 40, 0, 101, 10, 4, 38, 291), (21, 15, 0, 0, 0, 26, 0, 0), (24, 0, 0, 1, 1, 0, 0, 0), (25, 50, 0, 0, 0, 0, 0, 0), (26, 2, 0, 0, 0, 1, 0, 0), (27, 22, 0, 0, 5, 2, 19, 270), (30, 2, 0, 0, 0, 1, 0, 0), (31, 22, 0, 0, 5, 0, 12, 268), (34, 2, 0, 0, 0, 1, 0, 0), (35, 22, 0, 0, 5, 1, 25, 269), (38, 2, 0, 0, 0, 1, 0, 0), (39, 21, 0, 0, 5, 3, 30, 271), (42, 40, 0, 102, 31, 4, 79, 371), (45, 2, 0, 0, 0, 1, 0, 0), (46, 22, 0, 0, 5, 2, 19, 270), (49, 22, 0, 0, 2, 3, 99, 179), (52, 1, 0, 0, 1, 1, 0, 0), (53, 1, 0, 0, 2, 1, 0, 0), (54, 1, 0, 0, 3, 1, 0, 0), (55, 40, 0, 101, 10, 4, 38, 291), (58, 15, 0, 0, 0, 65, 0, 0), (61, 0, 0, 2, 1, 0, 0, 0), (62, 17, 0, 0, 0, 66, 0, 0), (65, 0, 0, 0, 1, 0, 0, 0), (66, 50, 0, 0, 0, 0, 0, 0)]
def vl_73_0 : List (Nat × vt_I) := [(0, 1, 0, 0, 1, 1, 0, 0), (1, 1, 0, 0, 2, 1, 0, 0), (2, 1, 0, 0, 3, 1, 0, 0), (3, 40, 0, 0, 8, 3, 34, 285), (6, 15, 0, 0, 0, 11, 0, 0), (9, 0, 0, -1, 1, 0, 0, 0), (10, 50, 0, 0, 0, 0, 0, 0), (11, 2, 0, 0, 0, 1, 0, 0), (12, 22, 0, 0, 5, 0, 12, 268), (15, 1, 0, 0, 1, 1, 0, 0), (16, 1, 0, 0, 2, 1, 0, 0), (17, 1, 0, 0, 3, 1, 0, 0), (18, 40, 0, 101, 10, 4, 38, 291), (21, 15, 0, 0, 0, 26, 0, 0), (24, 0, 0, 0, 1, 0, 0, 0), (25, 50, 0, 0, 0, 0, 0, 0), (26, 2, 0, 0, 0, 1, 0, 0), (27, 22, 0, 0, 5, 2, 19, 270), (30, 2, 0, 0, 0, 1, 0, 0), (31, 22, 0, 0, 5, 0, 12, 268), (34, 2, 0, 0, 0, 1, 0, 0), (35, 22, 0, 0, 5, 1, 25, 269), (38, 2, 0, 0, 0, 1, 0, 0), (39, 21, 0, 0, 5, 3, 30, 271), (42, 40, 0, 102, 31, 4, 79, 371), (45, 2, 0, 0, 0, 1, 0, 0), (46, 22, 0, 0, 5, 2, 19, 270), (49, 22, 0, 0, 2, 3, 99, 179), (52, 1, 0, 0, 1, 1, 0, 0), (53, 1, 0, 0, 2, 1, 0, 0), (54, 1, 0, 0, 3, 1, 0, 0), (55, 40, 0, 101, 10, 4, 38, 291), (58, 15, 0, 0, 0, 74, 0, 0), (61, 2, 0, 0, 0, 1, 0, 0), (62, 22, 0, 0, 5, 2, 19, 270), (65, 1, 0, 0, 1, 1, 0, 0), (66, 1, 0, 0, 2, 1, 0, 0), (67, 1, 0, 0, 3, 1, 0, 0), (68, 40, 0, 102, 74, 4, 102, 559), (71, 17, 0, 0, 0, 76, 0, 0), (74, 0, 1, -2, 2, 0, 0, 0), (76, 50, 0, 0, 0, 0, 0, 0)]
def vl_74_0 : List (Nat × vt_I) := [(0, 0, 1, 32, 2, 0, 0, 0), (2, 1, 0, 0, 2, 1, 0, 0), (3, 6, 0, 0, 2, 0, 0, 0), (4, 1, 0, 0, 3, 1, 0, 0), (5, 6, 0, 0, 0, 0, 0, 0), (6, 3, 1, 0, 4, 2, 0, 0), (8, 1, 1, 0, 4, 2, 0, 0), (10, 2, 0, 0, 0, 1, 0, 0), (11, 22, 0, 0, 2, 5, 42, 181), (14, 1, 0, 0, 1, 1, 0, 0), (15, 27, 0, 0, 3, 0, 0, 0), (16, 29, 0, 0, 0, 0, 0, 0), (17, 16, 0, 0, 3, 32, 0, 0), (20, 2, 0, 0, 0, 1, 0, 0), (21, 22, 0, 0, 2, 5, 42, 181), (24, 1, 0, 0, 1, 1, 0, 0), (25, 27, 0, 0, 3, 0, 0, 0), (26, 1, 1, 0, 4, 2, 0, 0), (28, 25, 0, 0, 0, 0, 0, 0), (29, 17, 0, 0, 0, 33, 0, 0), (32, 0, 0, 0, 1, 0, 0, 0), (33, 50, 0, 0, 0, 0, 0, 0)]
def vl_75_0 : List (Nat × vt_I) := [(0, 1, 0, 0, 1, 1, 0, 0), (1, 1, 0, 0, 2, 1, 0, 0), (2, 1, 0, 0, 3, 1, 0, 0), (3, 40, 0, 0, 8, 3, 34, 285), (6, 15, 0, 0, 0, 11, 0, 0), (9, 0, 0, -1, 1, 0, 0, 0), (10, 50, 0, 0, 0, 0, 0, 0), (11, 2, 0, 0, 0, 1, 0, 0), (12, 22, 0, 0, 5, 2, 19, 270), (15, 2, 0, 0, 0, 1, 0, 0), (16, 22, 0, 0, 5, 0, 12, 268), (19, 2, 0, 0, 0, 1, 0, 0), (20, 22, 0, 0, 5, 1, 25, 269), (23, 2, 0, 0, 0, 1, 0, 0), (24, 21, 0, 0, 5, 3, 30, 271), (27, 40, 0, 102, 31, 4, 79, 371), (30, 2, 0, 0, 0, 1, 0, 0), (31, 22, 0, 0, 5, 2, 19, 270), (34, 22, 0, 0, 2, 2, 83, 177), (37, 21, 0, 0, 4, 4, 87, 100), (40, 15, 0, 0, 2, 45, 0, 0), (43, 0, 0, 0, 1, 0, 0, 0), (44, 50, 0, 0, 0, 0, 0, 0), (45, 0, 0, 0, 1, 0, 0, 0), (46, 3, 1, 0, 4, 2, 0, 0), (48, 0, 0, 0, 1, 0, 0, 0), (49, 3, 1, 0, 5, 2, 0, 0), (51, 1, 1, 0, 5, 2, 0, 0), (53, 2, 0, 0, 0, 1, 0, 0), (54, 21, 0, 0, 5, 3, 30, 271), (57, 16, 0, 0, 3, 108, 0, 0), (60, 2, 0, 0, 0, 1, 0, 0), (61, 22, 0, 0, 5, 1, 25, 269), (64, 1, 1, 0, 5, 2, 0, 0), (66, 27, 0, 0, 2, 0, 0, 0), (67, 4, 1, 0, 6, 2, 0, 0), (69, 2, 1, 0, 6, 2, 0, 0), (71, 21, 0, 0, 3, 0, 106, 220), (74, 1, 0, 0, 1, 1, 0, 0), (75, 16, 0, 0, 1, 102, 0, 0), (78, 2, 1, 0, 6, 2, 0, 0), (80, 40, 0, 103, 26, 1, 75, 353), (83, 15, 0, 0, 0, 102, 0, 0), (86, 1, 1, 0, 4, 2, 0, 0), (88, 2, 0, 0, 0, 1, 0, 0), (89, 22, 0, 0, 5, 2, 19, 270), (92, 2, 1, 0, 6, 2, 0, 0), (94, 1, 0, 0, 2, 1, 0, 0), (95, 1, 0, 0, 3, 1, 0, 0), (96, 40, 0, 102, 76, 4, 109, 567), (99, 6, 0, 0, 0, 0, 0, 0), (100, 3, 1, 0, 4, 2, 0, 0), (102, 5, 0, 1, 5, 0, 0, 0), (105, 17, 0, 0, 0, 51, 0, 0), (108, 1, 1, 0, 4, 2, 0, 0), (110, 50, 0, 0, 0, 0, 0, 0)]
def vl_76_0 : List (Nat × vt_I) := [(0, 2, 0, 0, 0, 1, 0, 0), (1, 22, 0, 0, 2, 4, 36, 180), (4, 2, 0, 0, 1, 1, 0, 0), (5, 2, 0, 0, 0, 1, 0, 0), (6, 22, 0, 0, 2, 3, 29, 178), (9, 2, 0, 0, 0, 1, 0, 0), (10, 22, 0, 0, 2, 7, 49, 183), (13, 0, 0, -1, 1, 0, 0, 0), (14, 2, 0, 0, 1, 1, 0, 0), (15, 21, 0, 0, 3, 3, 109, 226), (18, 0, 0, -1, 1, 0, 0, 0), (19, 16, 0, 0, 0, 29, 0, 0), (22, 2, 0, 0, 1, 1, 0, 0), (23, 40, 0, 103, 44, 1, 122, 430), (26, 15, 0, 0, 0, 33, 0, 0), (29, 0, 0, 1, 1, 0, 0, 0), (30, 17, 0, 0, 0, 34, 0, 0), (33, 0, 0, 0, 1, 0, 0, 0), (34, 40, 0, 100, 45, 6, 125, 434), (37, 2, 0, 0, 0, 1, 0, 0), (38, 22, 0, 0, 2, 4, 36, 180), (41, 1, 0, 0, 2, 1, 0, 0), (42, 2, 0, 0, 1, 1, 0, 0), (43, 21, 0, 0, 3, 3, 109, 226), (46, 0, 0, -1, 1, 0, 0, 0), (47, 16, 0, 0, 1, 56, 0, 0), (50, 0, 0, 1, 1, 0, 0, 0), (51, 1, 0, 0, 3, 1, 0, 0), (52, 6, 0, 0, 6, 0, 0, 0), (53, 17, 0, 0, 0, 57, 0, 0), (56, 0, 0, -1, 1, 0, 0, 0), (57, 40, 0, 100, 53, 3, 136, 471), (60, 3, 1, 0, 4, 2, 0, 0), (62, 1, 1, 0, 4, 2, 0, 0), (64, 15, 0, 0, 1, 69, 0, 0), (67, 0, 0, 0, 1, 0, 0, 0), (68, 50, 0, 0, 0, 0, 0, 0), (69, 2, 0, 0, 1, 1, 0, 0), (70, 21, 0, 0, 3, 3, 109, 226), (73, 0, 0, -1, 1, 0, 0, 0), (74, 16, 0, 0, 1, 87, 0, 0), (77, 2, 0, 0, 0, 1, 0, 0), (78, 22, 0, 0, 2, 4, 36, 180), (81, 22, 0, 0, 0, 9, 146, 130), (84, 1, 0, 0, 3, 1, 0, 0), (85, 25, 0, 0, 0, 0, 0, 0), (86, 50, 0, 0, 0, 0, 0, 0), (87, 2, 0, 0, 0, 1, 0, 0), (88, 22, 0, 0, 2, 4, 36, 180), (91, 2, 0, 0, 1, 1, 0, 0), (92, 21, 0, 0, 3, 3, 109, 226), (95, 1, 1, 0, 4, 2, 0, 0), (97, 40, 0, 100, 66, 3, 139, 526), (100, 1, 0, 0, 3, 1, 0, 0), (101, 16, 0, 0, 1, 108, 0, 0), (104, 0, 0, 1, 1, 0, 0, 0), (105, 17, 0, 0, 0, 109, 0, 0), (108, 0, 0, 0, 1, 0, 0, 0), (109, 50, 0, 0, 0, 0, 0, 0)]
def vl_77_0 : List (Nat × vt_I) := [(0, 1, 0, 0, 1, 1, 0, 0), (1, 0, 2, 16383, 3, 0, 0, 0), (4, 16, 0, 0, 2, 10, 0, 0), (7, 0, 1, -2, 2, 0, 0, 0), (9, 50, 0, 0, 0, 0, 0, 0), (10, 2, 0, 0, 0, 1, 0, 0), (11, 22, 0, 0, 5, 2, 19, 270), (14, 2, 0, 0, 0, 1, 0, 0), (15, 22, 0, 0, 5, 0, 12, 268), (18, 2, 0, 0, 0, 1, 0, 0), (19, 22, 0, 0, 5, 1, 25, 269), (22, 2, 0, 0, 0, 1, 0, 0), (23, 21, 0, 0, 5, 3, 30, 271), (26, 40, 0, 102, 31, 4, 79, 371), (29, 2, 0, 0, 0, 1, 0, 0), (30, 22, 0, 0, 5, 2, 19, 270), (33, 22, 0, 0, 2, 3, 99, 179), (36, 1, 0, 0, 1, 1, 0, 0), (37, 15, 0, 0, 3, 44, 0, 0), (40, 0, 0, 0, 1, 0, 0, 0), (41, 17, 0, 0, 0, 47, 0, 0), (44, 1, 0, 0, 1, 1, 0, 0), (45, 0, 0, 1, 1, 0, 0, 0), (46, 6, 0, 0, 0, 0, 0, 0), (47, 40, 0, 101, 78, 2, 113, 575), (50, 50, 0, 0, 0, 0, 0, 0)]
def vl_78_0 : List (Nat × vt_I) := [(0, 1, 0, 0, 1, 1, 0, 0), (1, 0, 1, 32, 2, 0, 0, 0), (3, 7, 0, 0, 0, 0, 0, 0), (4, 3, 0, 0, 2, 1, 0, 0), (5, 1, 0, 0, 2, 1, 0, 0), (6, 3, 0, 0, 3, 1, 0, 0), (7, 1, 0, 0, 3, 1, 0, 0), (8, 0, 2, 512, 3, 0, 0, 0), (11, 16, 0, 0, 3, 65, 0, 0), (14, 1, 0, 0, 3, 1, 0, 0), (15, 1, 0, 0, 2, 1, 0, 0), (16, 16, 0, 0, 1, 35, 0, 0), (19, 2, 0, 0, 0, 1, 0, 0), (20, 22, 0, 0, 1, 0, 9, 69), (23, 1, 0, 0, 3, 1, 0, 0), (24, 25, 0, 0, 0, 0, 0, 0), (25, 0, 0, -1, 1, 0, 0, 0), (26, 1, 0, 0, 1, 1, 0, 0), (27, 0, 1, 32, 2, 0, 0, 0), (29, 8, 0, 0, 0, 0, 0, 0), (30, 6, 0, 0, 6, 0, 0, 0), (31, 6, 0, 0, 3, 0, 0, 0), (32, 17, 0, 0, 0, 41, 0, 0), (35, 2, 0, 0, 0, 1, 0, 0), (36, 22, 0, 0, 1, 0, 9, 69), (39, 1, 0, 0, 3, 1, 0, 0), (40, 25, 0, 0, 0, 0, 0, 0), (41, 3, 1, 0, 4, 2, 0, 0), (43, 1, 1, 0, 4, 2, 0, 0), (45, 15, 0, 0, 0, 59, 0, 0), (48, 0, 1, 32, 2, 0, 0, 0), (50, 1, 0, 0, 3, 1, 0, 0), (51, 6, 0, 0, 2, 0, 0, 0), (52, 1, 1, 0, 4, 2, 0, 0), (54, 40, 1, 0, 62, 1, 32, 13), (57, 6, 0, 0, 0, 0, 0, 0), (58, 50, 0, 0, 0, 0, 0, 0), (59, 5, 0, 1, 3, 0, 0, 0), (62, 17, 0, 0, 0, 7, 0, 0), (65, 0, 1, -2, 2, 0, 0, 0), (67, 50, 0, 0, 0, 0, 0, 0)]
def vl_79_0 : List (Nat × vt_I) := [(0, 2, 0, 0, 0, 1, 0, 0), (1, 22, 0, 0, 5, 2, 19, 270), (4, 2, 0, 0, 0, 1, 0, 0), (5, 22, 0, 0, 5, 0, 12, 268), (8, 2, 0, 0, 0, 1, 0, 0), (9, 22, 0, 0, 5, 1, 25, 269), (12, 2, 0, 0, 0, 1, 0, 0), (13, 21, 0, 0, 5, 3, 30, 271), (16, 40, 0, 102, 31, 4, 79, 371), (19, 2, 0, 0, 0, 1, 0, 0), (20, 22, 0, 0, 5, 2, 19, 270), (23, 22, 0, 0, 2, 3, 99, 179), (26, 40, 0, 101, 80, 1, 117, 584), (29, 50, 0, 0, 0, 0, 0, 0)]
def vl_80_0 : List (Nat × vt_I) := [(0, 0, 0, 0, 1, 0, 0, 0), (1, 3, 0, 0, 1, 1, 0, 0), (2, 0, 0, 0, 1, 0, 0, 0), (3, 3, 0, 0, 2, 1, 0, 0), (4, 1, 0, 0, 2, 1, 0, 0), (5, 0, 2, 512, 3, 0, 0, 0), (8, 16, 0, 0, 3, 29, 0, 0), (11, 1, 0, 0, 1, 1, 0, 0), (12, 2, 0, 0, 0, 1, 0, 0), (13, 22, 0, 0, 1, 0, 9, 69), (16, 1, 0, 0, 2, 1, 0, 0), (17, 25, 0, 0, 0, 0, 0, 0), (18, 40, 0, 0, 59, 1, 36, 588), (21, 6, 0, 0, 0, 0, 0, 0), (22, 3, 0, 0, 1, 1, 0, 0), (23, 5, 0, 1, 2, 0, 0, 0), (26, 17, 0, 0, 0, 4, 0, 0), (29, 1, 0, 0, 1, 1, 0, 0), (30, 50, 0, 0, 0, 0, 0, 0)]
def vl_81_0 : List (Nat × vt_I) := [(0, 2, 0, 0, 0, 1, 0, 0), (1, 35, 0, 0, 0, 0, 1, 594), (4, 2, 0, 0, 0, 1, 0, 0), (5, 0, 2, 16384, 3, 0, 0, 0), (8, 39, 0, 0, 0, 0, 0, 0), (10, 24, 2, 0, 6, 0, 7, 595), (13, 2, 0, 0, 0, 1, 0, 0), (14, 0, 1, 48, 2, 0, 0, 0), (16, 30, 0, 0, 0, 0, 0, 0), (18, 24, 2, 0, 6, 1, 13, 596), (21, 2, 0, 0, 0, 1, 0, 0), (22, 0, 1, 16, 2, 0, 0, 0), (24, 30, 0, 0, 0, 0, 0, 0), (26, 24, 2, 0, 6, 2, 17, 597), (29, 2, 0, 0, 0, 1, 0, 0), (30, 0, 1, 16, 2, 0, 0, 0), (32, 30, 0, 0, 0, 0, 0, 0), (34, 24, 2, 0, 6, 3, 20, 598), (37, 2, 0, 0, 0, 1, 0, 0), (38, 0, 1, 16, 2, 0, 0, 0), (40, 30, 0, 0, 0, 0, 0, 0), (42, 24, 2, 0, 6, 4, 23, 599), (45, 2, 0, 0, 0, 1, 0, 0), (46, 0, 2, 320, 3, 0, 0, 0), (49, 30, 0, 0, 0, 0, 0, 0), (51, 24, 2, 0, 6, 5, 26, 600), (54, 2, 0, 0, 0, 1, 0, 0), (55, 0, 2, 16384, 3, 0, 0, 0), (58, 30, 0, 0, 0, 0, 0, 0), (60, 24, 2, 0, 6, 8, 29, 603), (63, 2, 0, 0, 0, 1, 0, 0), (64, 0, 2, 16384, 3, 0, 0, 0), (67, 30, 0, 0, 0, 0, 0, 0), (69, 24, 2, 0, 6, 9, 32, 604), (72, 2, 0, 0, 0, 1, 0, 0), (73, 0, 1, 16, 2, 0, 0, 0), (75, 30, 0, 0, 0, 0, 0, 0), (77, 24, 2, 0, 6, 10, 35, 605), (80, 2, 0, 0, 0, 1, 0, 0), (81, 0, 2, 256, 3, 0, 0, 0), (84, 30, 0, 0, 0, 0, 0, 0), (86, 24, 2, 0, 6, 13, 38, 608), (89, 2, 0, 0, 0, 1, 0, 0), (90, 0, 2, 256, 3, 0, 0, 0), (93, 39, 0, 0, 0, 0, 0, 0), (95, 24, 2, 0, 6, 14, 41, 609), (98, 2, 0, 0, 0, 1, 0, 0), (99, 0, 1, 6, 2, 0, 0, 0), (101, 30, 0, 0, 0, 0, 0, 0), (103, 24, 2, 0, 6, 15, 44, 610), (106, 2, 0, 0, 0, 1, 0, 0), (107, 0, 0, 5, 1, 0, 0, 0), (108, 30, 0, 0, 0, 0, 0, 0), (110, 24, 2, 0, 6, 16, 47, 611), (113, 2, 0, 0, 0, 1, 0, 0), (114, 0, 0, 5, 1, 0, 0, 0), (115, 30, 0, 0, 0, 0, 0, 0), (117, 24, 2, 0, 6, 18, 50, 613), (120, 2, 0, 0, 0, 1, 0, 0), (121, 0, 2, 16384, 3, 0, 0, 0)]
def vl_81_1 : List (Nat × vt_I) := [(124, 30, 0, 0, 0, 0, 0, 0), (126, 24, 2, 0, 6, 20, 53, 615), (129, 2, 0, 0, 0, 1, 0, 0), (130, 0, 1, 32, 2, 0, 0, 0), (132, 30, 0, 0, 0, 0, 0, 0), (134, 24, 2, 0, 6, 21, 56, 616), (137, 2, 0, 0, 0, 1, 0, 0), (138, 0, 1, 32, 2, 0, 0, 0), (140, 30, 0, 0, 0, 0, 0, 0), (142, 24, 2, 0, 6, 22, 59, 617), (145, 2, 0, 0, 0, 1, 0, 0), (146, 0, 1, 32, 2, 0, 0, 0), (148, 30, 0, 0, 0, 0, 0, 0), (150, 24, 2, 0, 6, 23, 62, 618), (153, 2, 0, 0, 0, 1, 0, 0), (154, 0, 1, 32, 2, 0, 0, 0), (156, 30, 0, 0, 0, 0, 0, 0), (158, 24, 2, 0, 6, 24, 65, 619), (161, 51, 0, 0, 0, 0, 0, 0)]
def vl_82_0 : List (Nat × vt_I) := [(0, 1, 0, 0, 1, 1, 0, 0), (1, 1, 0, 0, 2, 1, 0, 0), (2, 1, 0, 0, 3, 1, 0, 0), (3, 40, 0, 0, 83, 3, 75, 679), (6, 15, 0, 0, 1, 11, 0, 0), (9, 0, 0, -1, 1, 0, 0, 0), (10, 50, 0, 0, 0, 0, 0, 0), (11, 2, 0, 0, 0, 1, 0, 0), (12, 22, 0, 0, 6, 0, 7, 595), (15, 1, 0, 0, 1, 1, 0, 0), (16, 1, 0, 0, 2, 1, 0, 0), (17, 1, 0, 0, 3, 1, 0, 0), (18, 40, 0, 0, 86, 3, 79, 688), (21, 36, 0, 0, 0, 0, 0, 0), (22, 15, 0, 0, 0, 27, 0, 0), (25, 0, 0, 0, 1, 0, 0, 0), (26, 50, 0, 0, 0, 0, 0, 0), (27, 2, 0, 0, 0, 1, 0, 0), (28, 22, 0, 0, 6, 0, 7, 595), (31, 1, 0, 0, 1, 1, 0, 0), (32, 1, 0, 0, 2, 1, 0, 0), (33, 1, 0, 0, 3, 1, 0, 0), (34, 40, 0, 0, 86, 3, 79, 688), (37, 0, 0, 1, 1, 0, 0, 0), (38, 37, 0, 0, 0, 0, 0, 0), (39, 2, 0, 0, 0, 1, 0, 0), (40, 0, 0, 0, 1, 0, 0, 0), (41, 23, 0, 1, 6, 7, 83, 602), (44, 0, 0, 1, 1, 0, 0, 0), (45, 50, 0, 0, 0, 0, 0, 0)]
def vl_83_0 : List (Nat × vt_I) := [(0, 1, 0, 0, 0, 1, 0, 0), (1, 40, 0, 0, 84, 1, 68, 682), (4, 15, 0, 0, 0, 25, 0, 0), (7, 1, 0, 0, 1, 1, 0, 0), (8, 40, 0, 0, 85, 1, 72, 685), (11, 15, 0, 0, 0, 25, 0, 0), (14, 1, 0, 0, 2, 1, 0, 0), (15, 40, 0, 0, 85, 1, 72, 685), (18, 15, 0, 0, 0, 25, 0, 0), (21, 0, 0, 1, 1, 0, 0, 0), (22, 17, 0, 0, 0, 26, 0, 0), (25, 0, 0, 0, 1, 0, 0, 0), (26, 50, 0, 0, 0, 0, 0, 0)]
def vl_84_0 : List (Nat × vt_I) := [(0, 1, 0, 0, 0, 1, 0, 0), (1, 15, 0, 0, 2, 14, 0, 0), (4, 1, 0, 0, 0, 1, 0, 0), (5, 0, 1, 16, 2, 0, 0, 0), (7, 16, 0, 0, 3, 14, 0, 0), (10, 0, 0, 1, 1, 0, 0, 0), (11, 17, 0, 0, 0, 15, 0, 0), (14, 0, 0, 0, 1, 0, 0, 0), (15, 50, 0, 0, 0, 0, 0, 0)]
def vl_85_0 : List (Nat × vt_I) := [(0, 1, 0, 0, 0, 1, 0, 0), (1, 15, 0, 0, 2, 14, 0, 0), (4, 1, 0, 0, 0, 1, 0, 0), (5, 0, 1, 32, 2, 0, 0, 0), (7, 16, 0, 0, 3, 14, 0, 0), (10, 0, 0, 1, 1, 0, 0, 0), (11, 17, 0, 0, 0, 15, 0, 0), (14, 0, 0, 0, 1, 0, 0, 0), (15, 50, 0, 0, 0, 0, 0, 0)]
def vl_86_0 : List (Nat × vt_I) := [(0, 0, 2, 1024, 3, 0, 0, 0), (3, 1, 0, 0, 0, 1, 0, 0), (4, 6, 0, 0, 2, 0, 0, 0), (5, 0, 1, 32, 2, 0, 0, 0), (7, 1, 0, 0, 1, 1, 0, 0), (8, 6, 0, 0, 2, 0, 0, 0), (9, 6, 0, 0, 0, 0, 0, 0), (10, 1, 0, 0, 2, 1, 0, 0), (11, 6, 0, 0, 0, 0, 0, 0), (12, 50, 0, 0, 0, 0, 0, 0)]
def vl_87_0 : List (Nat × vt_I) := [(0, 1, 0, 0, 1, 1, 0, 0), (1, 1, 0, 0, 2, 1, 0, 0), (2, 1, 0, 0, 3, 1, 0, 0), (3, 40, 0, 0, 83, 3, 75, 679), (6, 15, 0, 0, 1, 11, 0, 0), (9, 0, 0, -1, 1, 0, 0, 0), (10, 50, 0, 0, 0, 0, 0, 0), (11, 2, 0, 0, 0, 1, 0, 0), (12, 22, 0, 0, 6, 0, 7, 595), (15, 1, 0, 0, 1, 1, 0, 0), (16, 1, 0, 0, 2, 1, 0, 0), (17, 1, 0, 0, 3, 1, 0, 0), (18, 40, 0, 0, 86, 3, 79, 688), (21, 36, 0, 0, 0, 0, 0, 0), (22, 15, 0, 0, 1, 27, 0, 0), (25, 0, 0, 0, 1, 0, 0, 0), (26, 50, 0, 0, 0, 0, 0, 0), (27, 2, 0, 0, 0, 1, 0, 0), (28, 22, 0, 0, 6, 0, 7, 595), (31, 1, 0, 0, 1, 1, 0, 0), (32, 1, 0, 0, 2, 1, 0, 0), (33, 1, 0, 0, 3, 1, 0, 0), (34, 40, 0, 0, 86, 3, 79, 688), (37, 0, 0, 0, 1, 0, 0, 0), (38, 37, 0, 0, 0, 0, 0, 0), (39, 2, 0, 0, 0, 1, 0, 0), (40, 0, 0, 0, 1, 0, 0, 0), (41, 23, 0, 1, 6, 7, 83, 602), (44, 0, 0, 1, 1, 0, 0, 0), (45, 50, 0, 0, 0, 0, 0, 0)]
def vl_88_0 : List (Nat × vt_I) := [(0, 1, 0, 0, 1, 1, 0, 0), (1, 40, 0, 0, 84, 1, 68, 682), (4, 15, 0, 0, 0, 21, 0, 0), (7, 1, 0, 0, 2, 1, 0, 0), (8, 40, 0, 0, 89, 1, 91, 699), (11, 15, 0, 0, 0, 21, 0, 0), (14, 1, 0, 0, 3, 1, 0, 0), (15, 40, 0, 0, 89, 1, 91, 699), (18, 15, 0, 0, 1, 23, 0, 0), (21, 0, 0, -1, 1, 0, 0, 0), (22, 50, 0, 0, 0, 0, 0, 0), (23, 2, 0, 0, 0, 1, 0, 0), (24, 21, 0, 0, 6, 6, 87, 601), (27, 0, 1, 16, 2, 0, 0, 0), (29, 16, 0, 0, 1, 35, 0, 0), (32, 0, 1, -3, 2, 0, 0, 0), (34, 50, 0, 0, 0, 0, 0, 0), (35, 2, 0, 0, 0, 1, 0, 0), (36, 22, 0, 0, 6, 1, 13, 596), (39, 0, 0, 3, 1, 0, 0, 0), (40, 2, 0, 0, 0, 1, 0, 0), (41, 21, 0, 0, 6, 6, 87, 601), (44, 6, 0, 0, 2, 0, 0, 0), (45, 1, 0, 0, 1, 1, 0, 0), (46, 26, 0, 0, 0, 0, 0, 0), (47, 2, 0, 0, 0, 1, 0, 0), (48, 22, 0, 0, 6, 1, 13, 596), (51, 0, 0, 3, 1, 0, 0, 0), (52, 2, 0, 0, 0, 1, 0, 0), (53, 21, 0, 0, 6, 6, 87, 601), (56, 6, 0, 0, 2, 0, 0, 0), (57, 0, 0, 1, 1, 0, 0, 0), (58, 6, 0, 0, 0, 0, 0, 0), (59, 1, 0, 0, 2, 1, 0, 0), (60, 26, 0, 0, 0, 0, 0, 0), (61, 2, 0, 0, 0, 1, 0, 0), (62, 22, 0, 0, 6, 1, 13, 596), (65, 0, 0, 3, 1, 0, 0, 0), (66, 2, 0, 0, 0, 1, 0, 0), (67, 21, 0, 0, 6, 6, 87, 601), (70, 6, 0, 0, 2, 0, 0, 0), (71, 0, 0, 2, 1, 0, 0, 0), (72, 6, 0, 0, 0, 0, 0, 0), (73, 1, 0, 0, 3, 1, 0, 0), (74, 26, 0, 0, 0, 0, 0, 0), (75, 2, 0, 0, 0, 1, 0, 0), (76, 22, 0, 0, 6, 2, 17, 597), (79, 2, 0, 0, 0, 1, 0, 0), (80, 21, 0, 0, 6, 6, 87, 601), (83, 0, 0, -1, 1, 0, 0, 0), (84, 26, 0, 0, 0, 0, 0, 0), (85, 2, 0, 0, 0, 1, 0, 0), (86, 22, 0, 0, 6, 3, 20, 598), (89, 2, 0, 0, 0, 1, 0, 0), (90, 21, 0, 0, 6, 6, 87, 601), (93, 0, 0, 0, 1, 0, 0, 0), (94, 26, 0, 0, 0, 0, 0, 0), (95, 2, 0, 0, 0, 1, 0, 0), (96, 22, 0, 0, 6, 4, 23, 599), (99, 2, 0, 0, 0, 1, 0, 0)]
def vl_88_1 : List (Nat × vt_I) := [(100, 21, 0, 0, 6, 6, 87, 601), (103, 0, 0, 0, 1, 0, 0, 0), (104, 26, 0, 0, 0, 0, 0, 0), (105, 2, 0, 0, 0, 1, 0, 0), (106, 10, 0, 0, 0, 0, 0, 0), (107, 21, 0, 0, 6, 6, 87, 601), (110, 0, 0, 1, 1, 0, 0, 0), (111, 6, 0, 0, 0, 0, 0, 0), (112, 23, 0, 0, 6, 6, 87, 601), (115, 2, 0, 0, 0, 1, 0, 0), (116, 0, 0, 0, 1, 0, 0, 0), (117, 23, 0, 1, 6, 7, 83, 602), (120, 2, 0, 0, 0, 1, 0, 0), (121, 21, 0, 0, 6, 6, 87, 601), (124, 0, 0, 1, 1, 0, 0, 0), (125, 6, 0, 0, 1, 0, 0, 0), (126, 50, 0, 0, 0, 0, 0, 0)]
def vl_89_0 : List (Nat × vt_I) := [(0, 1, 0, 0, 0, 1, 0, 0), (1, 0, 1, -6, 2, 0, 0, 0), (3, 16, 0, 0, 2, 16, 0, 0), (6, 1, 0, 0, 0, 1, 0, 0), (7, 0, 1, 32, 2, 0, 0, 0), (9, 16, 0, 0, 3, 16, 0, 0), (12, 0, 0, 1, 1, 0, 0, 0), (13, 17, 0, 0, 0, 17, 0, 0), (16, 0, 0, 0, 1, 0, 0, 0), (17, 50, 0, 0, 0, 0, 0, 0)]
def vl_90_0 : List (Nat × vt_I) := [(0, 2, 0, 0, 0, 1, 0, 0), (1, 1, 0, 0, 1, 1, 0, 0), (2, 40, 0, 106, 91, 2, 94, 706), (5, 15, 0, 0, 0, 52, 0, 0), (8, 1, 0, 0, 2, 1, 0, 0), (9, 40, 0, 0, 84, 1, 68, 682), (12, 15, 0, 0, 0, 52, 0, 0), (15, 1, 0, 0, 3, 1, 0, 0), (16, 40, 0, 0, 89, 1, 91, 699), (19, 15, 0, 0, 0, 52, 0, 0), (22, 1, 1, 0, 4, 2, 0, 0), (24, 40, 0, 0, 89, 1, 91, 699), (27, 15, 0, 0, 0, 52, 0, 0), (30, 2, 0, 0, 0, 1, 0, 0), (31, 1, 0, 0, 1, 1, 0, 0), (32, 1, 1, 0, 5, 2, 0, 0), (34, 15, 0, 0, 0, 41, 0, 0), (37, 0, 0, 1, 1, 0, 0, 0), (38, 17, 0, 0, 0, 42, 0, 0), (41, 0, 0, 0, 1, 0, 0, 0), (42, 1, 0, 0, 2, 1, 0, 0), (43, 1, 0, 0, 3, 1, 0, 0), (44, 1, 1, 0, 4, 2, 0, 0), (46, 40, 0, 106, 92, 6, 97, 710), (49, 17, 0, 0, 0, 53, 0, 0), (52, 0, 0, -1, 1, 0, 0, 0), (53, 50, 0, 0, 0, 0, 0, 0)]
def vl_91_0 : List (Nat × vt_I) := [(0, 1, 0, 0, 1, 1, 0, 0), (1, 15, 0, 0, 2, 16, 0, 0), (4, 1, 0, 0, 1, 1, 0, 0), (5, 2, 0, 0, 0, 1, 0, 0), (6, 21, 0, 0, 6, 6, 87, 601), (9, 16, 0, 0, 3, 16, 0, 0), (12, 0, 0, 1, 1, 0, 0, 0), (13, 17, 0, 0, 0, 17, 0, 0), (16, 0, 0, 0, 1, 0, 0, 0), (17, 50, 0, 0, 0, 0, 0, 0)]
def vl_92_0 : List (Nat × vt_I) := [(0, 2, 0, 0, 0, 1, 0, 0), (1, 22, 0, 0, 6, 4, 23, 599), (4, 1, 0, 0, 1, 1, 0, 0), (5, 25, 0, 0, 0, 0, 0, 0), (6, 0, 0, 5, 1, 0, 0, 0), (7, 16, 0, 0, 1, 13, 0, 0), (10, 0, 1, -3, 2, 0, 0, 0), (12, 50, 0, 0, 0, 0, 0, 0), (13, 0, 1, 20, 2, 0, 0, 0), (15, 1, 0, 0, 1, 1, 0, 0), (16, 6, 0, 0, 2, 0, 0, 0), (17, 0, 0, 4, 1, 0, 0, 0), (18, 2, 0, 0, 0, 1, 0, 0), (19, 22, 0, 0, 6, 4, 23, 599), (22, 1, 0, 0, 1, 1, 0, 0), (23, 25, 0, 0, 0, 0, 0, 0), (24, 6, 0, 0, 2, 0, 0, 0), (25, 6, 0, 0, 0, 0, 0, 0), (26, 3, 1, 0, 6, 2, 0, 0), (28, 2, 0, 0, 0, 1, 0, 0), (29, 22, 0, 0, 6, 5, 26, 600), (32, 1, 1, 0, 6, 2, 0, 0), (34, 1, 0, 0, 2, 1, 0, 0), (35, 26, 0, 0, 0, 0, 0, 0), (36, 2, 0, 0, 0, 1, 0, 0), (37, 22, 0, 0, 6, 5, 26, 600), (40, 1, 1, 0, 6, 2, 0, 0), (42, 0, 0, 1, 1, 0, 0, 0), (43, 6, 0, 0, 0, 0, 0, 0), (44, 1, 0, 0, 3, 1, 0, 0), (45, 26, 0, 0, 0, 0, 0, 0), (46, 2, 0, 0, 0, 1, 0, 0), (47, 22, 0, 0, 6, 5, 26, 600), (50, 1, 1, 0, 6, 2, 0, 0), (52, 0, 0, 2, 1, 0, 0, 0), (53, 6, 0, 0, 0, 0, 0, 0), (54, 1, 1, 0, 4, 2, 0, 0), (56, 26, 0, 0, 0, 0, 0, 0), (57, 2, 0, 0, 0, 1, 0, 0), (58, 22, 0, 0, 6, 5, 26, 600), (61, 1, 1, 0, 6, 2, 0, 0), (63, 0, 0, 3, 1, 0, 0, 0), (64, 6, 0, 0, 0, 0, 0, 0), (65, 1, 1, 0, 5, 2, 0, 0), (67, 26, 0, 0, 0, 0, 0, 0), (68, 2, 0, 0, 0, 1, 0, 0), (69, 22, 0, 0, 6, 4, 23, 599), (72, 1, 0, 0, 1, 1, 0, 0), (73, 14, 0, 0, 0, 0, 0, 0), (74, 25, 0, 0, 0, 0, 0, 0), (75, 0, 0, 1, 1, 0, 0, 0), (76, 6, 0, 0, 0, 0, 0, 0), (77, 26, 0, 0, 0, 0, 0, 0), (78, 2, 0, 0, 0, 1, 0, 0), (79, 0, 0, 0, 1, 0, 0, 0), (80, 23, 0, 1, 6, 7, 83, 602), (83, 2, 0, 0, 0, 1, 0, 0), (84, 22, 0, 0, 6, 4, 23, 599), (87, 1, 0, 0, 1, 1, 0, 0), (88, 25, 0, 0, 0, 0, 0, 0)]
def vl_92_1 : List (Nat × vt_I) := [(89, 50, 0, 0, 0, 0, 0, 0)]
def vl_93_0 : List (Nat × vt_I) := [(0, 2, 0, 0, 0, 1, 0, 0), (1, 1, 0, 0, 1, 1, 0, 0), (2, 40, 0, 106, 91, 2, 94, 706), (5, 15, 0, 0, 0, 45, 0, 0), (8, 1, 0, 0, 2, 1, 0, 0), (9, 15, 0, 0, 2, 45, 0, 0), (12, 1, 0, 0, 2, 1, 0, 0), (13, 0, 0, 3, 1, 0, 0, 0), (14, 16, 0, 0, 3, 45, 0, 0), (17, 1, 0, 0, 3, 1, 0, 0), (18, 40, 0, 0, 89, 1, 91, 699), (21, 15, 0, 0, 0, 45, 0, 0), (24, 1, 1, 0, 4, 2, 0, 0), (26, 40, 0, 0, 89, 1, 91, 699), (29, 15, 0, 0, 0, 45, 0, 0), (32, 2, 0, 0, 0, 1, 0, 0), (33, 1, 0, 0, 1, 1, 0, 0), (34, 0, 0, 2, 1, 0, 0, 0), (35, 1, 0, 0, 2, 1, 0, 0), (36, 1, 0, 0, 3, 1, 0, 0), (37, 1, 1, 0, 4, 2, 0, 0), (39, 40, 0, 106, 92, 6, 97, 710), (42, 17, 0, 0, 0, 46, 0, 0), (45, 0, 0, -1, 1, 0, 0, 0), (46, 50, 0, 0, 0, 0, 0, 0)]
def vl_94_0 : List (Nat × vt_I) := [(0, 2, 0, 0, 0, 1, 0, 0), (1, 1, 0, 0, 1, 1, 0, 0), (2, 40, 0, 106, 91, 2, 94, 706), (5, 15, 0, 0, 0, 33, 0, 0), (8, 1, 0, 0, 2, 1, 0, 0), (9, 0, 0, -1, 1, 0, 0, 0), (10, 16, 0, 0, 2, 33, 0, 0), (13, 1, 0, 0, 2, 1, 0, 0), (14, 0, 0, 3, 1, 0, 0, 0), (15, 16, 0, 0, 4, 33, 0, 0), (18, 1, 0, 0, 2, 1, 0, 0), (19, 15, 0, 0, 2, 35, 0, 0), (22, 1, 0, 0, 3, 1, 0, 0), (23, 0, 0, -1, 1, 0, 0, 0), (24, 16, 0, 0, 4, 33, 0, 0), (27, 1, 0, 0, 3, 1, 0, 0), (28, 0, 1, -6, 2, 0, 0, 0), (30, 16, 0, 0, 3, 35, 0, 0), (33, 0, 0, -1, 1, 0, 0, 0), (34, 50, 0, 0, 0, 0, 0, 0), (35, 2, 0, 0, 0, 1, 0, 0), (36, 22, 0, 0, 6, 2, 17, 597), (39, 1, 0, 0, 1, 1, 0, 0), (40, 1, 0, 0, 2, 1, 0, 0), (41, 26, 0, 0, 0, 0, 0, 0), (42, 2, 0, 0, 0, 1, 0, 0), (43, 22, 0, 0, 6, 3, 20, 598), (46, 1, 0, 0, 1, 1, 0, 0), (47, 1, 0, 0, 3, 1, 0, 0), (48, 26, 0, 0, 0, 0, 0, 0), (49, 2, 0, 0, 0, 1, 0, 0), (50, 0, 0, 0, 1, 0, 0, 0), (51, 23, 0, 1, 6, 7, 83, 602), (54, 0, 0, 1, 1, 0, 0, 0), (55, 50, 0, 0, 0, 0, 0, 0)]
def vl_95_0 : List (Nat × vt_I) := [(0, 2, 0, 0, 0, 1, 0, 0), (1, 1, 0, 0, 1, 1, 0, 0), (2, 40, 0, 106, 91, 2, 94, 706), (5, 15, 0, 0, 1, 10, 0, 0), (8, 0, 0, -1, 1, 0, 0, 0), (9, 50, 0, 0, 0, 0, 0, 0), (10, 2, 0, 0, 0, 1, 0, 0), (11, 10, 0, 0, 0, 0, 0, 0), (12, 21, 0, 0, 6, 6, 87, 601), (15, 0, 0, 1, 1, 0, 0, 0), (16, 6, 0, 0, 1, 0, 0, 0), (17, 23, 0, 0, 6, 6, 87, 601), (20, 1, 0, 0, 1, 1, 0, 0), (21, 3, 0, 0, 2, 1, 0, 0), (22, 1, 0, 0, 2, 1, 0, 0), (23, 2, 0, 0, 0, 1, 0, 0), (24, 21, 0, 0, 6, 6, 87, 601), (27, 16, 0, 0, 3, 152, 0, 0), (30, 0, 0, 0, 1, 0, 0, 0), (31, 3, 0, 0, 3, 1, 0, 0), (32, 1, 0, 0, 3, 1, 0, 0), (33, 0, 0, 3, 1, 0, 0, 0), (34, 16, 0, 0, 3, 65, 0, 0), (37, 2, 0, 0, 0, 1, 0, 0), (38, 22, 0, 0, 6, 1, 13, 596), (41, 0, 0, 3, 1, 0, 0, 0), (42, 1, 0, 0, 2, 1, 0, 0), (43, 6, 0, 0, 2, 0, 0, 0), (44, 1, 0, 0, 3, 1, 0, 0), (45, 6, 0, 0, 0, 0, 0, 0), (46, 2, 0, 0, 0, 1, 0, 0), (47, 22, 0, 0, 6, 1, 13, 596), (50, 0, 0, 3, 1, 0, 0, 0), (51, 1, 0, 0, 2, 1, 0, 0), (52, 6, 0, 0, 2, 0, 0, 0), (53, 0, 0, 3, 1, 0, 0, 0), (54, 6, 0, 0, 0, 0, 0, 0), (55, 1, 0, 0, 3, 1, 0, 0), (56, 6, 0, 0, 0, 0, 0, 0), (57, 25, 0, 0, 0, 0, 0, 0), (58, 26, 0, 0, 0, 0, 0, 0), (59, 5, 0, 1, 3, 0, 0, 0), (62, 17, 0, 0, 0, 32, 0, 0), (65, 0, 0, 0, 1, 0, 0, 0), (66, 3, 0, 0, 3, 1, 0, 0), (67, 1, 0, 0, 3, 1, 0, 0), (68, 0, 1, 20, 2, 0, 0, 0), (70, 16, 0, 0, 3, 104, 0, 0), (73, 2, 0, 0, 0, 1, 0, 0), (74, 22, 0, 0, 6, 5, 26, 600), (77, 0, 1, 20, 2, 0, 0, 0), (79, 1, 0, 0, 2, 1, 0, 0), (80, 6, 0, 0, 2, 0, 0, 0), (81, 1, 0, 0, 3, 1, 0, 0), (82, 6, 0, 0, 0, 0, 0, 0), (83, 2, 0, 0, 0, 1, 0, 0), (84, 22, 0, 0, 6, 5, 26, 600), (87, 0, 1, 20, 2, 0, 0, 0), (89, 1, 0, 0, 2, 1, 0, 0), (90, 6, 0, 0, 2, 0, 0, 0)]
def vl_95_1 : List (Nat × vt_I) := [(91, 0, 1, 20, 2, 0, 0, 0), (93, 6, 0, 0, 0, 0, 0, 0), (94, 1, 0, 0, 3, 1, 0, 0), (95, 6, 0, 0, 0, 0, 0, 0), (96, 25, 0, 0, 0, 0, 0, 0), (97, 26, 0, 0, 0, 0, 0, 0), (98, 5, 0, 1, 3, 0, 0, 0), (101, 17, 0, 0, 0, 67, 0, 0), (104, 2, 0, 0, 0, 1, 0, 0), (105, 22, 0, 0, 6, 2, 17, 597), (108, 1, 0, 0, 2, 1, 0, 0), (109, 2, 0, 0, 0, 1, 0, 0), (110, 22, 0, 0, 6, 2, 17, 597), (113, 1, 0, 0, 2, 1, 0, 0), (114, 0, 0, 1, 1, 0, 0, 0), (115, 6, 0, 0, 0, 0, 0, 0), (116, 25, 0, 0, 0, 0, 0, 0), (117, 26, 0, 0, 0, 0, 0, 0), (118, 2, 0, 0, 0, 1, 0, 0), (119, 22, 0, 0, 6, 3, 20, 598), (122, 1, 0, 0, 2, 1, 0, 0), (123, 2, 0, 0, 0, 1, 0, 0), (124, 22, 0, 0, 6, 3, 20, 598), (127, 1, 0, 0, 2, 1, 0, 0), (128, 0, 0, 1, 1, 0, 0, 0), (129, 6, 0, 0, 0, 0, 0, 0), (130, 25, 0, 0, 0, 0, 0, 0), (131, 26, 0, 0, 0, 0, 0, 0), (132, 2, 0, 0, 0, 1, 0, 0), (133, 22, 0, 0, 6, 4, 23, 599), (136, 1, 0, 0, 2, 1, 0, 0), (137, 2, 0, 0, 0, 1, 0, 0), (138, 22, 0, 0, 6, 4, 23, 599), (141, 1, 0, 0, 2, 1, 0, 0), (142, 0, 0, 1, 1, 0, 0, 0), (143, 6, 0, 0, 0, 0, 0, 0), (144, 25, 0, 0, 0, 0, 0, 0), (145, 26, 0, 0, 0, 0, 0, 0), (146, 5, 0, 1, 2, 0, 0, 0), (149, 17, 0, 0, 0, 22, 0, 0), (152, 2, 0, 0, 0, 1, 0, 0), (153, 0, 0, 0, 1, 0, 0, 0), (154, 23, 0, 1, 6, 7, 83, 602), (157, 2, 0, 0, 0, 1, 0, 0), (158, 21, 0, 0, 6, 6, 87, 601), (161, 50, 0, 0, 0, 0, 0, 0)]
def vl_96_0 : List (Nat × vt_I) := [(0, 2, 0, 0, 0, 1, 0, 0), (1, 1, 0, 0, 1, 1, 0, 0), (2, 40, 0, 106, 91, 2, 94, 706), (5, 15, 0, 0, 0, 24, 0, 0), (8, 2, 0, 0, 0, 1, 0, 0), (9, 1, 0, 0, 1, 1, 0, 0), (10, 40, 0, 106, 97, 2, 105, 730), (13, 15, 0, 0, 0, 20, 0, 0), (16, 0, 0, 1, 1, 0, 0, 0), (17, 17, 0, 0, 0, 25, 0, 0), (20, 0, 0, 0, 1, 0, 0, 0), (21, 17, 0, 0, 0, 25, 0, 0), (24, 0, 0, -1, 1, 0, 0, 0), (25, 50, 0, 0, 0, 0, 0, 0)]
def vl_97_0 : List (Nat × vt_I) := [(0, 2, 0, 0, 0, 1, 0, 0), (1, 1, 0, 0, 1, 1, 0, 0), (2, 2, 0, 0, 0, 1, 0, 0), (3, 22, 0, 0, 6, 1, 13, 596), (6, 0, 0, 3, 1, 0, 0, 0), (7, 1, 0, 0, 1, 1, 0, 0), (8, 6, 0, 0, 2, 0, 0, 0), (9, 0, 0, 1, 1, 0, 0, 0), (10, 6, 0, 0, 0, 0, 0, 0), (11, 25, 0, 0, 0, 0, 0, 0), (12, 40, 0, 106, 98, 3, 101, 734), (15, 15, 0, 0, 0, 66, 0, 0), (18, 2, 0, 0, 0, 1, 0, 0), (19, 22, 0, 0, 6, 2, 17, 597), (22, 1, 0, 0, 1, 1, 0, 0), (23, 25, 0, 0, 0, 0, 0, 0), (24, 15, 0, 0, 2, 44, 0, 0), (27, 2, 0, 0, 0, 1, 0, 0), (28, 1, 0, 0, 1, 1, 0, 0), (29, 2, 0, 0, 0, 1, 0, 0), (30, 22, 0, 0, 6, 3, 20, 598), (33, 1, 0, 0, 1, 1, 0, 0), (34, 25, 0, 0, 0, 0, 0, 0), (35, 40, 0, 106, 98, 3, 101, 734), (38, 15, 0, 0, 0, 66, 0, 0), (41, 17, 0, 0, 0, 62, 0, 0), (44, 2, 0, 0, 0, 1, 0, 0), (45, 1, 0, 0, 1, 1, 0, 0), (46, 2, 0, 0, 0, 1, 0, 0), (47, 22, 0, 0, 6, 1, 13, 596), (50, 0, 0, 3, 1, 0, 0, 0), (51, 1, 0, 0, 1, 1, 0, 0), (52, 6, 0, 0, 2, 0, 0, 0), (53, 0, 0, 2, 1, 0, 0, 0), (54, 6, 0, 0, 0, 0, 0, 0), (55, 25, 0, 0, 0, 0, 0, 0), (56, 40, 0, 106, 98, 3, 101, 734), (59, 15, 0, 0, 0, 66, 0, 0), (62, 0, 0, 1, 1, 0, 0, 0), (63, 17, 0, 0, 0, 67, 0, 0), (66, 0, 0, 0, 1, 0, 0, 0), (67, 3, 0, 0, 2, 1, 0, 0), (68, 0, 0, 0, 1, 0, 0, 0), (69, 3, 0, 0, 3, 1, 0, 0), (70, 1, 0, 0, 3, 1, 0, 0), (71, 2, 0, 0, 0, 1, 0, 0), (72, 22, 0, 0, 6, 4, 23, 599), (75, 1, 0, 0, 1, 1, 0, 0), (76, 25, 0, 0, 0, 0, 0, 0), (77, 16, 0, 0, 3, 150, 0, 0), (80, 1, 0, 0, 2, 1, 0, 0), (81, 15, 0, 0, 0, 150, 0, 0), (84, 0, 1, 20, 2, 0, 0, 0), (86, 1, 0, 0, 1, 1, 0, 0), (87, 6, 0, 0, 2, 0, 0, 0), (88, 0, 0, 4, 1, 0, 0, 0), (89, 1, 0, 0, 3, 1, 0, 0), (90, 6, 0, 0, 2, 0, 0, 0), (91, 6, 0, 0, 0, 0, 0, 0), (92, 3, 1, 0, 4, 2, 0, 0)]
def vl_97_1 : List (Nat × vt_I) := [(94, 2, 0, 0, 0, 1, 0, 0), (95, 22, 0, 0, 6, 5, 26, 600), (98, 1, 1, 0, 4, 2, 0, 0), (100, 25, 0, 0, 0, 0, 0, 0), (101, 15, 0, 0, 0, 138, 0, 0), (104, 2, 0, 0, 0, 1, 0, 0), (105, 1, 0, 0, 1, 1, 0, 0), (106, 2, 0, 0, 0, 1, 0, 0), (107, 22, 0, 0, 6, 5, 26, 600), (110, 1, 1, 0, 4, 2, 0, 0), (112, 0, 0, 2, 1, 0, 0, 0), (113, 6, 0, 0, 0, 0, 0, 0), (114, 25, 0, 0, 0, 0, 0, 0), (115, 40, 0, 106, 98, 3, 101, 734), (118, 15, 0, 0, 0, 142, 0, 0), (121, 2, 0, 0, 0, 1, 0, 0), (122, 1, 0, 0, 1, 1, 0, 0), (123, 2, 0, 0, 0, 1, 0, 0), (124, 22, 0, 0, 6, 5, 26, 600), (127, 1, 1, 0, 4, 2, 0, 0), (129, 0, 0, 3, 1, 0, 0, 0), (130, 6, 0, 0, 0, 0, 0, 0), (131, 25, 0, 0, 0, 0, 0, 0), (132, 40, 0, 106, 98, 3, 101, 734), (135, 15, 0, 0, 0, 142, 0, 0), (138, 0, 0, 1, 1, 0, 0, 0), (139, 17, 0, 0, 0, 143, 0, 0), (142, 0, 0, 0, 1, 0, 0, 0), (143, 3, 0, 0, 2, 1, 0, 0), (144, 5, 0, 1, 3, 0, 0, 0), (147, 17, 0, 0, 0, 70, 0, 0), (150, 1, 0, 0, 2, 1, 0, 0), (151, 50, 0, 0, 0, 0, 0, 0)]
def vl_98_0 : List (Nat × vt_I) := [(0, 1, 0, 0, 2, 1, 0, 0), (1, 15, 0, 0, 2, 8, 0, 0), (4, 0, 0, 1, 1, 0, 0, 0), (5, 17, 0, 0, 0, 9, 0, 0), (8, 0, 0, 0, 1, 0, 0, 0), (9, 3, 0, 0, 3, 1, 0, 0), (10, 0, 0, 0, 1, 0, 0, 0), (11, 3, 1, 0, 4, 2, 0, 0), (13, 1, 1, 0, 4, 2, 0, 0), (15, 2, 0, 0, 0, 1, 0, 0), (16, 22, 0, 0, 6, 4, 23, 599), (19, 1, 0, 0, 1, 1, 0, 0), (20, 25, 0, 0, 0, 0, 0, 0), (21, 16, 0, 0, 3, 87, 0, 0), (24, 0, 1, 20, 2, 0, 0, 0), (26, 1, 0, 0, 1, 1, 0, 0), (27, 6, 0, 0, 2, 0, 0, 0), (28, 0, 0, 4, 1, 0, 0, 0), (29, 1, 1, 0, 4, 2, 0, 0), (31, 6, 0, 0, 2, 0, 0, 0), (32, 6, 0, 0, 0, 0, 0, 0), (33, 3, 1, 0, 5, 2, 0, 0), (35, 1, 0, 0, 3, 1, 0, 0), (36, 15, 0, 0, 1, 75, 0, 0), (39, 2, 0, 0, 0, 1, 0, 0), (40, 22, 0, 0, 6, 5, 26, 600), (43, 1, 1, 0, 5, 2, 0, 0), (45, 25, 0, 0, 0, 0, 0, 0), (46, 15, 0, 0, 1, 79, 0, 0), (49, 2, 0, 0, 0, 1, 0, 0), (50, 22, 0, 0, 6, 5, 26, 600), (53, 1, 1, 0, 5, 2, 0, 0), (55, 0, 0, 2, 1, 0, 0, 0), (56, 6, 0, 0, 0, 0, 0, 0), (57, 25, 0, 0, 0, 0, 0, 0), (58, 1, 0, 0, 2, 1, 0, 0), (59, 16, 0, 0, 0, 75, 0, 0), (62, 2, 0, 0, 0, 1, 0, 0), (63, 22, 0, 0, 6, 5, 26, 600), (66, 1, 1, 0, 5, 2, 0, 0), (68, 0, 0, 3, 1, 0, 0, 0), (69, 6, 0, 0, 0, 0, 0, 0), (70, 25, 0, 0, 0, 0, 0, 0), (71, 1, 0, 0, 2, 1, 0, 0), (72, 16, 0, 0, 1, 79, 0, 0), (75, 0, 0, 1, 1, 0, 0, 0), (76, 17, 0, 0, 0, 80, 0, 0), (79, 0, 0, 0, 1, 0, 0, 0), (80, 3, 0, 0, 3, 1, 0, 0), (81, 5, 0, 1, 4, 0, 0, 0), (84, 17, 0, 0, 0, 13, 0, 0), (87, 1, 0, 0, 3, 1, 0, 0), (88, 50, 0, 0, 0, 0, 0, 0)]
def vl_99_0 : List (Nat × vt_I) := [(0, 2, 0, 0, 0, 1, 0, 0), (1, 40, 0, 106, 100, 1, 157, 742), (4, 2, 0, 0, 0, 1, 0, 0), (5, 21, 0, 0, 6, 11, 108, 606), (8, 15, 0, 0, 2, 21, 0, 0), (11, 0, 1, -10, 2, 0, 0, 0), (13, 2, 0, 0, 0, 1, 0, 0), (14, 21, 0, 0, 6, 11, 108, 606), (17, 6, 0, 0, 1, 0, 0, 0), (18, 17, 0, 0, 0, 25, 0, 0), (21, 2, 0, 0, 0, 1, 0, 0), (22, 21, 0, 0, 6, 12, 151, 607), (25, 50, 0, 0, 0, 0, 0, 0)]
def vl_100_0 : List (Nat × vt_I) := [(0, 2, 0, 0, 0, 1, 0, 0), (1, 21, 0, 0, 6, 7, 83, 602), (4, 15, 0, 0, 0, 8, 0, 0), (7, 51, 0, 0, 0, 0, 0, 0), (8, 2, 0, 0, 0, 1, 0, 0), (9, 40, 0, 106, 101, 1, 145, 746), (12, 2, 0, 0, 0, 1, 0, 0), (13, 40, 0, 106, 102, 1, 148, 750), (16, 2, 0, 0, 0, 1, 0, 0), (17, 0, 0, 0, 1, 0, 0, 0), (18, 23, 0, 0, 6, 12, 151, 607), (21, 0, 0, 0, 1, 0, 0, 0), (22, 3, 0, 0, 1, 1, 0, 0), (23, 1, 0, 0, 1, 1, 0, 0), (24, 0, 2, 16384, 3, 0, 0, 0), (27, 16, 0, 0, 3, 70, 0, 0), (30, 2, 0, 0, 0, 1, 0, 0), (31, 22, 0, 0, 6, 8, 29, 603), (34, 1, 0, 0, 1, 1, 0, 0), (35, 2, 0, 0, 0, 1, 0, 0), (36, 22, 0, 0, 6, 0, 7, 595), (39, 1, 0, 0, 1, 1, 0, 0), (40, 36, 0, 0, 0, 0, 0, 0), (41, 15, 0, 0, 0, 48, 0, 0), (44, 0, 0, 0, 1, 0, 0, 0), (45, 17, 0, 0, 0, 49, 0, 0), (48, 0, 0, -1, 1, 0, 0, 0), (49, 26, 0, 0, 0, 0, 0, 0), (50, 2, 0, 0, 0, 1, 0, 0), (51, 22, 0, 0, 6, 9, 32, 604), (54, 1, 0, 0, 1, 1, 0, 0), (55, 0, 0, 0, 1, 0, 0, 0), (56, 26, 0, 0, 0, 0, 0, 0), (57, 2, 0, 0, 0, 1, 0, 0), (58, 22, 0, 0, 6, 20, 53, 615), (61, 1, 0, 0, 1, 1, 0, 0), (62, 0, 0, 0, 1, 0, 0, 0), (63, 26, 0, 0, 0, 0, 0, 0), (64, 5, 0, 1, 1, 0, 0, 0), (67, 17, 0, 0, 0, 23, 0, 0), (70, 0, 0, 0, 1, 0, 0, 0), (71, 3, 0, 0, 1, 1, 0, 0), (72, 1, 0, 0, 1, 1, 0, 0), (73, 0, 1, 16, 2, 0, 0, 0), (75, 16, 0, 0, 3, 190, 0, 0), (78, 2, 0, 0, 0, 1, 0, 0), (79, 21, 0, 0, 6, 11, 108, 606), (82, 15, 0, 0, 3, 190, 0, 0), (85, 0, 0, 1, 1, 0, 0, 0), (86, 3, 0, 0, 2, 1, 0, 0), (87, 2, 0, 0, 0, 1, 0, 0), (88, 0, 0, 1, 1, 0, 0, 0), (89, 23, 0, 0, 6, 25, 130, 620), (92, 2, 0, 0, 0, 1, 0, 0), (93, 21, 0, 0, 6, 25, 130, 620), (96, 15, 0, 0, 5, 184, 0, 0), (99, 2, 0, 0, 0, 1, 0, 0), (100, 0, 0, 0, 1, 0, 0, 0), (101, 23, 0, 0, 6, 25, 130, 620), (104, 2, 0, 0, 0, 1, 0, 0)]
def vl_100_1 : List (Nat × vt_I) := [(105, 2, 0, 0, 0, 1, 0, 0), (106, 21, 0, 0, 6, 12, 151, 607), (109, 0, 0, 1, 1, 0, 0, 0), (110, 6, 0, 0, 0, 0, 0, 0), (111, 23, 0, 0, 6, 19, 111, 614), (114, 0, 0, 0, 1, 0, 0, 0), (115, 3, 0, 0, 3, 1, 0, 0), (116, 1, 0, 0, 3, 1, 0, 0), (117, 2, 0, 0, 0, 1, 0, 0), (118, 21, 0, 0, 6, 6, 87, 601), (121, 16, 0, 0, 3, 161, 0, 0), (124, 2, 0, 0, 0, 1, 0, 0), (125, 1, 0, 0, 3, 1, 0, 0), (126, 40, 0, 106, 97, 2, 105, 730), (129, 15, 0, 0, 0, 155, 0, 0), (132, 2, 0, 0, 0, 1, 0, 0), (133, 22, 0, 0, 6, 10, 35, 605), (136, 2, 0, 0, 0, 1, 0, 0), (137, 22, 0, 0, 6, 1, 13, 596), (140, 0, 0, 3, 1, 0, 0, 0), (141, 1, 0, 0, 3, 1, 0, 0), (142, 6, 0, 0, 2, 0, 0, 0), (143, 25, 0, 0, 0, 0, 0, 0), (144, 25, 0, 0, 0, 0, 0, 0), (145, 1, 0, 0, 1, 1, 0, 0), (146, 16, 0, 0, 1, 155, 0, 0), (149, 2, 0, 0, 0, 1, 0, 0), (150, 1, 0, 0, 3, 1, 0, 0), (151, 1, 0, 0, 2, 1, 0, 0), (152, 40, 0, 106, 103, 3, 154, 754), (155, 5, 0, 1, 3, 0, 0, 0), (158, 17, 0, 0, 0, 116, 0, 0), (161, 2, 0, 0, 0, 1, 0, 0), (162, 21, 0, 0, 6, 25, 130, 620), (165, 15, 0, 0, 5, 178, 0, 0), (168, 2, 0, 0, 0, 1, 0, 0), (169, 10, 0, 0, 0, 0, 0, 0), (170, 21, 0, 0, 6, 12, 151, 607), (173, 0, 0, 1, 1, 0, 0, 0), (174, 6, 0, 0, 0, 0, 0, 0), (175, 23, 0, 0, 6, 12, 151, 607), (178, 5, 0, 1, 2, 0, 0, 0), (181, 17, 0, 0, 0, 92, 0, 0), (184, 5, 0, 1, 1, 0, 0, 0), (187, 17, 0, 0, 0, 72, 0, 0), (190, 2, 0, 0, 0, 1, 0, 0), (191, 0, 0, -1, 1, 0, 0, 0), (192, 23, 0, 0, 6, 19, 111, 614), (195, 0, 0, 0, 1, 0, 0, 0), (196, 3, 0, 0, 1, 1, 0, 0), (197, 1, 0, 0, 1, 1, 0, 0), (198, 2, 0, 0, 0, 1, 0, 0), (199, 21, 0, 0, 6, 6, 87, 601), (202, 16, 0, 0, 3, 232, 0, 0), (205, 2, 0, 0, 0, 1, 0, 0), (206, 21, 0, 0, 6, 11, 108, 606), (209, 15, 0, 0, 3, 232, 0, 0), (212, 2, 0, 0, 0, 1, 0, 0), (213, 1, 0, 0, 1, 1, 0, 0), (214, 40, 0, 106, 97, 2, 105, 730)]
def vl_100_2 : List (Nat × vt_I) := [(217, 15, 0, 0, 0, 226, 0, 0), (220, 2, 0, 0, 0, 1, 0, 0), (221, 1, 0, 0, 1, 1, 0, 0), (222, 0, 0, -1, 1, 0, 0, 0), (223, 40, 0, 106, 103, 3, 154, 754), (226, 5, 0, 1, 1, 0, 0, 0), (229, 17, 0, 0, 0, 197, 0, 0), (232, 2, 0, 0, 0, 1, 0, 0), (233, 0, 0, 1, 1, 0, 0, 0), (234, 23, 0, 1, 6, 7, 83, 602), (237, 51, 0, 0, 0, 0, 0, 0)]
def vl_101_0 : List (Nat × vt_I) := [(0, 0, 0, 0, 1, 0, 0, 0), (1, 3, 0, 0, 1, 1, 0, 0), (2, 1, 0, 0, 1, 1, 0, 0), (3, 0, 2, 256, 3, 0, 0, 0), (6, 16, 0, 0, 3, 22, 0, 0), (9, 2, 0, 0, 0, 1, 0, 0), (10, 22, 0, 0, 6, 13, 38, 608), (13, 1, 0, 0, 1, 1, 0, 0), (14, 0, 0, 0, 1, 0, 0, 0), (15, 26, 0, 0, 0, 0, 0, 0), (16, 5, 0, 1, 1, 0, 0, 0), (19, 17, 0, 0, 0, 2, 0, 0), (22, 0, 0, 0, 1, 0, 0, 0), (23, 3, 0, 0, 1, 1, 0, 0), (24, 1, 0, 0, 1, 1, 0, 0), (25, 2, 0, 0, 0, 1, 0, 0), (26, 21, 0, 0, 6, 6, 87, 601), (29, 16, 0, 0, 3, 158, 0, 0), (32, 2, 0, 0, 0, 1, 0, 0), (33, 1, 0, 0, 1, 1, 0, 0), (34, 40, 0, 106, 97, 2, 105, 730), (37, 15, 0, 0, 1, 43, 0, 0), (40, 17, 0, 0, 0, 152, 0, 0), (43, 0, 0, 0, 1, 0, 0, 0), (44, 3, 0, 0, 2, 1, 0, 0), (45, 1, 0, 0, 2, 1, 0, 0), (46, 2, 0, 0, 0, 1, 0, 0), (47, 22, 0, 0, 6, 4, 23, 599), (50, 1, 0, 0, 1, 1, 0, 0), (51, 25, 0, 0, 0, 0, 0, 0), (52, 16, 0, 0, 3, 152, 0, 0), (55, 0, 1, 20, 2, 0, 0, 0), (57, 1, 0, 0, 1, 1, 0, 0), (58, 6, 0, 0, 2, 0, 0, 0), (59, 0, 0, 4, 1, 0, 0, 0), (60, 1, 0, 0, 2, 1, 0, 0), (61, 6, 0, 0, 2, 0, 0, 0), (62, 6, 0, 0, 0, 0, 0, 0), (63, 3, 0, 0, 3, 1, 0, 0), (64, 2, 0, 0, 0, 1, 0, 0), (65, 22, 0, 0, 6, 5, 26, 600), (68, 1, 0, 0, 3, 1, 0, 0), (69, 25, 0, 0, 0, 0, 0, 0), (70, 0, 0, 2, 1, 0, 0, 0), (71, 16, 0, 0, 1, 77, 0, 0), (74, 17, 0, 0, 0, 146, 0, 0), (77, 0, 1, 16, 2, 0, 0, 0), (79, 2, 0, 0, 0, 1, 0, 0), (80, 22, 0, 0, 6, 1, 13, 596), (83, 0, 0, 3, 1, 0, 0, 0), (84, 1, 0, 0, 1, 1, 0, 0), (85, 6, 0, 0, 2, 0, 0, 0), (86, 25, 0, 0, 0, 0, 0, 0), (87, 6, 0, 0, 2, 0, 0, 0), (88, 2, 0, 0, 0, 1, 0, 0), (89, 22, 0, 0, 6, 5, 26, 600), (92, 1, 0, 0, 3, 1, 0, 0), (93, 0, 0, 1, 1, 0, 0, 0), (94, 6, 0, 0, 0, 0, 0, 0), (95, 25, 0, 0, 0, 0, 0, 0)]
def vl_101_1 : List (Nat × vt_I) := [(96, 6, 0, 0, 0, 0, 0, 0), (97, 3, 1, 0, 4, 2, 0, 0), (99, 2, 0, 0, 0, 1, 0, 0), (100, 22, 0, 0, 6, 5, 26, 600), (103, 1, 0, 0, 3, 1, 0, 0), (104, 25, 0, 0, 0, 0, 0, 0), (105, 0, 0, 1, 1, 0, 0, 0), (106, 16, 0, 0, 0, 118, 0, 0), (109, 2, 0, 0, 0, 1, 0, 0), (110, 22, 0, 0, 6, 2, 17, 597), (113, 1, 0, 0, 1, 1, 0, 0), (114, 25, 0, 0, 0, 0, 0, 0), (115, 15, 0, 0, 2, 122, 0, 0), (118, 0, 0, 2, 1, 0, 0, 0), (119, 17, 0, 0, 0, 123, 0, 0), (122, 0, 0, 1, 1, 0, 0, 0), (123, 3, 1, 0, 5, 2, 0, 0), (125, 1, 1, 0, 5, 2, 0, 0), (127, 2, 0, 0, 0, 1, 0, 0), (128, 22, 0, 0, 6, 13, 38, 608), (131, 1, 1, 0, 4, 2, 0, 0), (133, 25, 0, 0, 0, 0, 0, 0), (134, 16, 0, 0, 5, 146, 0, 0), (137, 2, 0, 0, 0, 1, 0, 0), (138, 22, 0, 0, 6, 13, 38, 608), (141, 1, 1, 0, 4, 2, 0, 0), (143, 1, 1, 0, 5, 2, 0, 0), (145, 26, 0, 0, 0, 0, 0, 0), (146, 5, 0, 1, 2, 0, 0, 0), (149, 17, 0, 0, 0, 45, 0, 0), (152, 5, 0, 1, 1, 0, 0, 0), (155, 17, 0, 0, 0, 24, 0, 0), (158, 0, 0, 0, 1, 0, 0, 0), (159, 3, 0, 0, 1, 1, 0, 0), (160, 1, 0, 0, 1, 1, 0, 0), (161, 0, 2, 256, 3, 0, 0, 0), (164, 16, 0, 0, 3, 193, 0, 0), (167, 2, 0, 0, 0, 1, 0, 0), (168, 22, 0, 0, 6, 14, 41, 609), (171, 1, 0, 0, 1, 1, 0, 0), (172, 2, 0, 0, 0, 1, 0, 0), (173, 22, 0, 0, 6, 13, 38, 608), (176, 1, 0, 0, 1, 1, 0, 0), (177, 25, 0, 0, 0, 0, 0, 0), (178, 15, 0, 0, 5, 185, 0, 0), (181, 0, 0, 1, 1, 0, 0, 0), (182, 17, 0, 0, 0, 186, 0, 0), (185, 0, 0, 0, 1, 0, 0, 0), (186, 37, 0, 0, 0, 0, 0, 0), (187, 5, 0, 1, 1, 0, 0, 0), (190, 17, 0, 0, 0, 160, 0, 0), (193, 0, 0, 0, 1, 0, 0, 0), (194, 3, 0, 0, 1, 1, 0, 0), (195, 1, 0, 0, 1, 1, 0, 0), (196, 0, 1, 16, 2, 0, 0, 0), (198, 16, 0, 0, 3, 263, 0, 0), (201, 0, 0, 0, 1, 0, 0, 0), (202, 3, 0, 0, 2, 1, 0, 0), (203, 1, 0, 0, 2, 1, 0, 0), (204, 0, 2, 256, 3, 0, 0, 0)]
def vl_101_2 : List (Nat × vt_I) := [(207, 16, 0, 0, 3, 257, 0, 0), (210, 2, 0, 0, 0, 1, 0, 0), (211, 22, 0, 0, 6, 14, 41, 609), (214, 0, 1, 16, 2, 0, 0, 0), (216, 1, 0, 0, 2, 1, 0, 0), (217, 0, 1, 16, 2, 0, 0, 0), (219, 7, 0, 0, 0, 0, 0, 0), (220, 6, 0, 0, 2, 0, 0, 0), (221, 1, 0, 0, 1, 1, 0, 0), (222, 6, 0, 0, 0, 0, 0, 0), (223, 36, 0, 0, 0, 0, 0, 0), (224, 15, 0, 0, 0, 251, 0, 0), (227, 2, 0, 0, 0, 1, 0, 0), (228, 22, 0, 0, 6, 14, 41, 609), (231, 0, 1, 16, 2, 0, 0, 0), (233, 1, 0, 0, 1, 1, 0, 0), (234, 6, 0, 0, 2, 0, 0, 0), (235, 1, 0, 0, 2, 1, 0, 0), (236, 0, 1, 16, 2, 0, 0, 0), (238, 8, 0, 0, 0, 0, 0, 0), (239, 6, 0, 0, 0, 0, 0, 0), (240, 36, 0, 0, 0, 0, 0, 0), (241, 15, 0, 0, 0, 251, 0, 0), (244, 2, 0, 0, 0, 1, 0, 0), (245, 22, 0, 0, 6, 14, 41, 609), (248, 1, 0, 0, 2, 1, 0, 0), (249, 0, 0, 1, 1, 0, 0, 0), (250, 37, 0, 0, 0, 0, 0, 0), (251, 5, 0, 1, 2, 0, 0, 0), (254, 17, 0, 0, 0, 203, 0, 0), (257, 5, 0, 1, 1, 0, 0, 0), (260, 17, 0, 0, 0, 195, 0, 0), (263, 2, 0, 0, 0, 1, 0, 0), (264, 0, 0, -1, 1, 0, 0, 0), (265, 23, 0, 0, 6, 11, 108, 606), (268, 0, 2, 255, 3, 0, 0, 0), (271, 3, 0, 0, 1, 1, 0, 0), (272, 1, 0, 0, 1, 1, 0, 0), (273, 15, 0, 0, 2, 326, 0, 0), (276, 1, 0, 0, 1, 1, 0, 0), (277, 0, 1, 16, 2, 0, 0, 0), (279, 7, 0, 0, 0, 0, 0, 0), (280, 3, 0, 0, 2, 1, 0, 0), (281, 1, 0, 0, 1, 1, 0, 0), (282, 0, 1, 16, 2, 0, 0, 0), (284, 8, 0, 0, 0, 0, 0, 0), (285, 3, 0, 0, 3, 1, 0, 0), (286, 2, 0, 0, 0, 1, 0, 0), (287, 22, 0, 0, 6, 13, 38, 608), (290, 1, 0, 0, 1, 1, 0, 0), (291, 25, 0, 0, 0, 0, 0, 0), (292, 0, 0, 2, 1, 0, 0, 0), (293, 16, 0, 0, 1, 320, 0, 0), (296, 1, 0, 0, 2, 1, 0, 0), (297, 1, 0, 0, 3, 1, 0, 0), (298, 16, 0, 0, 0, 315, 0, 0), (301, 2, 0, 0, 0, 1, 0, 0), (302, 22, 0, 0, 6, 14, 41, 609), (305, 0, 1, 16, 2, 0, 0, 0), (307, 1, 0, 0, 3, 1, 0, 0)]
def vl_101_3 : List (Nat × vt_I) := [(308, 6, 0, 0, 2, 0, 0, 0), (309, 1, 0, 0, 2, 1, 0, 0), (310, 6, 0, 0, 0, 0, 0, 0), (311, 36, 0, 0, 0, 0, 0, 0), (312, 15, 0, 0, 0, 320, 0, 0), (315, 2, 0, 0, 0, 1, 0, 0), (316, 1, 0, 0, 2, 1, 0, 0), (317, 23, 0, 0, 6, 11, 108, 606), (320, 5, 0, -1, 1, 0, 0, 0), (323, 17, 0, 0, 0, 272, 0, 0), (326, 51, 0, 0, 0, 0, 0, 0)]
def vl_102_0 : List (Nat × vt_I) := [(0, 0, 0, 0, 1, 0, 0, 0), (1, 3, 0, 0, 1, 1, 0, 0), (2, 1, 0, 0, 1, 1, 0, 0), (3, 0, 1, 16, 2, 0, 0, 0), (5, 16, 0, 0, 3, 21, 0, 0), (8, 2, 0, 0, 0, 1, 0, 0), (9, 22, 0, 0, 6, 10, 35, 605), (12, 1, 0, 0, 1, 1, 0, 0), (13, 0, 0, 0, 1, 0, 0, 0), (14, 26, 0, 0, 0, 0, 0, 0), (15, 5, 0, 1, 1, 0, 0, 0), (18, 17, 0, 0, 0, 2, 0, 0), (21, 2, 0, 0, 0, 1, 0, 0), (22, 21, 0, 0, 6, 11, 108, 606), (25, 15, 0, 0, 3, 32, 0, 0), (28, 0, 0, 1, 1, 0, 0, 0), (29, 17, 0, 0, 0, 33, 0, 0), (32, 0, 0, 0, 1, 0, 0, 0), (33, 3, 0, 0, 1, 1, 0, 0), (34, 1, 0, 0, 1, 1, 0, 0), (35, 15, 0, 0, 0, 114, 0, 0), (38, 0, 0, 0, 1, 0, 0, 0), (39, 3, 0, 0, 1, 1, 0, 0), (40, 0, 0, 0, 1, 0, 0, 0), (41, 3, 0, 0, 2, 1, 0, 0), (42, 1, 0, 0, 2, 1, 0, 0), (43, 0, 2, 256, 3, 0, 0, 0), (46, 16, 0, 0, 3, 111, 0, 0), (49, 2, 0, 0, 0, 1, 0, 0), (50, 22, 0, 0, 6, 10, 35, 605), (53, 1, 0, 0, 2, 1, 0, 0), (54, 0, 1, 16, 2, 0, 0, 0), (56, 8, 0, 0, 0, 0, 0, 0), (57, 25, 0, 0, 0, 0, 0, 0), (58, 2, 0, 0, 0, 1, 0, 0), (59, 22, 0, 0, 6, 13, 38, 608), (62, 1, 0, 0, 2, 1, 0, 0), (63, 25, 0, 0, 0, 0, 0, 0), (64, 6, 0, 0, 0, 0, 0, 0), (65, 0, 0, 1, 1, 0, 0, 0), (66, 6, 0, 0, 1, 0, 0, 0), (67, 3, 0, 0, 3, 1, 0, 0), (68, 2, 0, 0, 0, 1, 0, 0), (69, 22, 0, 0, 6, 13, 38, 608), (72, 1, 0, 0, 2, 1, 0, 0), (73, 25, 0, 0, 0, 0, 0, 0), (74, 15, 0, 0, 0, 105, 0, 0), (77, 2, 0, 0, 0, 1, 0, 0), (78, 22, 0, 0, 6, 10, 35, 605), (81, 1, 0, 0, 2, 1, 0, 0), (82, 0, 1, 16, 2, 0, 0, 0), (84, 7, 0, 0, 0, 0, 0, 0), (85, 25, 0, 0, 0, 0, 0, 0), (86, 1, 0, 0, 3, 1, 0, 0), (87, 16, 0, 0, 2, 93, 0, 0), (90, 17, 0, 0, 0, 105, 0, 0), (93, 2, 0, 0, 0, 1, 0, 0), (94, 22, 0, 0, 6, 10, 35, 605), (97, 1, 0, 0, 2, 1, 0, 0), (98, 0, 1, 16, 2, 0, 0, 0)]
def vl_102_1 : List (Nat × vt_I) := [(100, 7, 0, 0, 0, 0, 0, 0), (101, 1, 0, 0, 3, 1, 0, 0), (102, 26, 0, 0, 0, 0, 0, 0), (103, 0, 0, 1, 1, 0, 0, 0), (104, 3, 0, 0, 1, 1, 0, 0), (105, 5, 0, 1, 2, 0, 0, 0), (108, 17, 0, 0, 0, 42, 0, 0), (111, 17, 0, 0, 0, 34, 0, 0), (114, 51, 0, 0, 0, 0, 0, 0)]
def vl_103_0 : List (Nat × vt_I) := [(0, 2, 0, 0, 0, 1, 0, 0), (1, 22, 0, 0, 6, 1, 13, 596), (4, 0, 0, 3, 1, 0, 0, 0), (5, 1, 0, 0, 1, 1, 0, 0), (6, 6, 0, 0, 2, 0, 0, 0), (7, 25, 0, 0, 0, 0, 0, 0), (8, 3, 0, 0, 3, 1, 0, 0), (9, 2, 0, 0, 0, 1, 0, 0), (10, 22, 0, 0, 6, 2, 17, 597), (13, 1, 0, 0, 1, 1, 0, 0), (14, 25, 0, 0, 0, 0, 0, 0), (15, 15, 0, 0, 2, 22, 0, 0), (18, 0, 0, 1, 1, 0, 0, 0), (19, 17, 0, 0, 0, 23, 0, 0), (22, 0, 0, 0, 1, 0, 0, 0), (23, 3, 1, 0, 4, 2, 0, 0), (25, 0, 0, 0, 1, 0, 0, 0), (26, 3, 1, 0, 5, 2, 0, 0), (28, 1, 1, 0, 5, 2, 0, 0), (30, 0, 1, 32, 2, 0, 0, 0), (32, 16, 0, 0, 3, 62, 0, 0), (35, 1, 1, 0, 4, 2, 0, 0), (37, 15, 0, 0, 0, 62, 0, 0), (40, 2, 0, 0, 0, 1, 0, 0), (41, 22, 0, 0, 6, 21, 56, 616), (44, 1, 1, 0, 5, 2, 0, 0), (46, 0, 0, 0, 1, 0, 0, 0), (47, 26, 0, 0, 0, 0, 0, 0), (48, 2, 0, 0, 0, 1, 0, 0), (49, 22, 0, 0, 6, 22, 59, 617), (52, 1, 1, 0, 5, 2, 0, 0), (54, 0, 0, 0, 1, 0, 0, 0), (55, 26, 0, 0, 0, 0, 0, 0), (56, 5, 0, 1, 5, 0, 0, 0), (59, 17, 0, 0, 0, 28, 0, 0), (62, 2, 0, 0, 0, 1, 0, 0), (63, 1, 0, 0, 1, 1, 0, 0), (64, 40, 0, 106, 104, 2, 133, 758), (67, 2, 0, 0, 0, 1, 0, 0), (68, 1, 0, 0, 1, 1, 0, 0), (69, 0, 0, 1, 1, 0, 0, 0), (70, 40, 0, 106, 105, 3, 137, 762), (73, 3, 1, 0, 5, 2, 0, 0), (75, 1, 1, 0, 5, 2, 0, 0), (77, 15, 0, 0, 0, 283, 0, 0), (80, 2, 0, 0, 0, 1, 0, 0), (81, 2, 0, 0, 0, 1, 0, 0), (82, 22, 0, 0, 6, 1, 13, 596), (85, 0, 0, 3, 1, 0, 0, 0), (86, 1, 0, 0, 1, 1, 0, 0), (87, 6, 0, 0, 2, 0, 0, 0), (88, 0, 0, 1, 1, 0, 0, 0), (89, 6, 0, 0, 0, 0, 0, 0), (90, 25, 0, 0, 0, 0, 0, 0), (91, 40, 0, 106, 108, 2, 126, 774), (94, 3, 1, 0, 6, 2, 0, 0), (96, 1, 1, 0, 4, 2, 0, 0), (98, 15, 0, 0, 1, 129, 0, 0), (101, 2, 0, 0, 0, 1, 0, 0), (102, 1, 0, 0, 3, 1, 0, 0)]
def vl_103_1 : List (Nat × vt_I) := [(103, 1, 1, 0, 6, 2, 0, 0), (105, 2, 0, 0, 0, 1, 0, 0), (106, 2, 0, 0, 0, 1, 0, 0), (107, 22, 0, 0, 6, 1, 13, 596), (110, 0, 0, 3, 1, 0, 0, 0), (111, 1, 0, 0, 1, 1, 0, 0), (112, 6, 0, 0, 2, 0, 0, 0), (113, 0, 0, 2, 1, 0, 0, 0), (114, 6, 0, 0, 0, 0, 0, 0), (115, 25, 0, 0, 0, 0, 0, 0), (116, 40, 0, 106, 108, 2, 126, 774), (119, 40, 0, 0, 86, 3, 79, 688), (122, 1, 0, 0, 2, 1, 0, 0), (123, 40, 0, 106, 110, 3, 141, 782), (126, 17, 0, 0, 0, 257, 0, 0), (129, 2, 0, 0, 0, 1, 0, 0), (130, 22, 0, 0, 6, 15, 44, 610), (133, 0, 0, -1, 1, 0, 0, 0), (134, 2, 0, 0, 0, 1, 0, 0), (135, 22, 0, 0, 6, 3, 20, 598), (138, 1, 0, 0, 1, 1, 0, 0), (139, 25, 0, 0, 0, 0, 0, 0), (140, 6, 0, 0, 1, 0, 0, 0), (141, 25, 0, 0, 0, 0, 0, 0), (142, 3, 1, 0, 7, 2, 0, 0), (144, 2, 0, 0, 0, 1, 0, 0), (145, 22, 0, 0, 6, 23, 62, 618), (148, 1, 1, 0, 6, 2, 0, 0), (150, 2, 0, 0, 0, 1, 0, 0), (151, 22, 0, 0, 6, 21, 56, 616), (154, 1, 1, 0, 6, 2, 0, 0), (156, 25, 0, 0, 0, 0, 0, 0), (157, 15, 0, 0, 0, 172, 0, 0), (160, 1, 1, 0, 7, 2, 0, 0), (162, 2, 0, 0, 0, 1, 0, 0), (163, 22, 0, 0, 6, 23, 62, 618), (166, 1, 1, 0, 6, 2, 0, 0), (168, 25, 0, 0, 0, 0, 0, 0), (169, 16, 0, 0, 3, 177, 0, 0), (172, 1, 1, 0, 7, 2, 0, 0), (174, 17, 0, 0, 0, 184, 0, 0), (177, 2, 0, 0, 0, 1, 0, 0), (178, 22, 0, 0, 6, 23, 62, 618), (181, 1, 1, 0, 6, 2, 0, 0), (183, 25, 0, 0, 0, 0, 0, 0), (184, 26, 0, 0, 0, 0, 0, 0), (185, 2, 0, 0, 0, 1, 0, 0), (186, 22, 0, 0, 6, 24, 65, 619), (189, 1, 1, 0, 6, 2, 0, 0), (191, 2, 0, 0, 0, 1, 0, 0), (192, 22, 0, 0, 6, 21, 56, 616), (195, 1, 1, 0, 6, 2, 0, 0), (197, 25, 0, 0, 0, 0, 0, 0), (198, 15, 0, 0, 0, 213, 0, 0), (201, 1, 1, 0, 7, 2, 0, 0), (203, 2, 0, 0, 0, 1, 0, 0), (204, 22, 0, 0, 6, 24, 65, 619), (207, 1, 1, 0, 6, 2, 0, 0), (209, 25, 0, 0, 0, 0, 0, 0), (210, 16, 0, 0, 5, 218, 0, 0)]
def vl_103_2 : List (Nat × vt_I) := [(213, 1, 1, 0, 7, 2, 0, 0), (215, 17, 0, 0, 0, 225, 0, 0), (218, 2, 0, 0, 0, 1, 0, 0), (219, 22, 0, 0, 6, 24, 65, 619), (222, 1, 1, 0, 6, 2, 0, 0), (224, 25, 0, 0, 0, 0, 0, 0), (225, 26, 0, 0, 0, 0, 0, 0), (226, 2, 0, 0, 0, 1, 0, 0), (227, 22, 0, 0, 6, 21, 56, 616), (230, 1, 1, 0, 6, 2, 0, 0), (232, 14, 0, 0, 0, 0, 0, 0), (233, 25, 0, 0, 0, 0, 0, 0), (234, 0, 0, 1, 1, 0, 0, 0), (235, 6, 0, 0, 0, 0, 0, 0), (236, 26, 0, 0, 0, 0, 0, 0), (237, 2, 0, 0, 0, 1, 0, 0), (238, 22, 0, 0, 6, 22, 59, 617), (241, 1, 1, 0, 6, 2, 0, 0), (243, 2, 0, 0, 0, 1, 0, 0), (244, 22, 0, 0, 6, 22, 59, 617), (247, 1, 1, 0, 6, 2, 0, 0), (249, 25, 0, 0, 0, 0, 0, 0), (250, 1, 1, 0, 7, 2, 0, 0), (252, 6, 0, 0, 0, 0, 0, 0), (253, 0, 1, 32, 2, 0, 0, 0), (255, 8, 0, 0, 0, 0, 0, 0), (256, 26, 0, 0, 0, 0, 0, 0), (257, 2, 0, 0, 0, 1, 0, 0), (258, 21, 0, 0, 6, 17, 114, 612), (261, 15, 0, 0, 5, 277, 0, 0), (264, 2, 0, 0, 0, 1, 0, 0), (265, 1, 0, 0, 1, 1, 0, 0), (266, 0, 0, 0, 1, 0, 0, 0), (267, 40, 0, 106, 105, 3, 137, 762), (270, 15, 0, 0, 0, 277, 0, 0), (273, 0, 0, 1, 1, 0, 0, 0), (274, 17, 0, 0, 0, 278, 0, 0), (277, 0, 0, 0, 1, 0, 0, 0), (278, 3, 1, 0, 5, 2, 0, 0), (280, 17, 0, 0, 0, 75, 0, 0), (283, 0, 0, 0, 1, 0, 0, 0), (284, 3, 1, 0, 6, 2, 0, 0), (286, 1, 1, 0, 6, 2, 0, 0), (288, 0, 1, 32, 2, 0, 0, 0), (290, 16, 0, 0, 3, 401, 0, 0), (293, 1, 1, 0, 4, 2, 0, 0), (295, 15, 0, 0, 0, 401, 0, 0), (298, 2, 0, 0, 0, 1, 0, 0), (299, 22, 0, 0, 6, 21, 56, 616), (302, 1, 1, 0, 6, 2, 0, 0), (304, 25, 0, 0, 0, 0, 0, 0), (305, 15, 0, 0, 1, 311, 0, 0), (308, 17, 0, 0, 0, 395, 0, 0), (311, 2, 0, 0, 0, 1, 0, 0), (312, 22, 0, 0, 6, 2, 17, 597), (315, 1, 0, 0, 1, 1, 0, 0), (316, 25, 0, 0, 0, 0, 0, 0), (317, 15, 0, 0, 1, 333, 0, 0), (320, 2, 0, 0, 0, 1, 0, 0), (321, 22, 0, 0, 6, 21, 56, 616)]
def vl_103_3 : List (Nat × vt_I) := [(324, 1, 1, 0, 6, 2, 0, 0), (326, 25, 0, 0, 0, 0, 0, 0), (327, 0, 1, 32, 2, 0, 0, 0), (329, 8, 0, 0, 0, 0, 0, 0), (330, 17, 0, 0, 0, 380, 0, 0), (333, 2, 0, 0, 0, 1, 0, 0), (334, 22, 0, 0, 6, 2, 17, 597), (337, 1, 0, 0, 1, 1, 0, 0), (338, 25, 0, 0, 0, 0, 0, 0), (339, 0, 0, 1, 1, 0, 0, 0), (340, 16, 0, 0, 1, 353, 0, 0), (343, 2, 0, 0, 0, 1, 0, 0), (344, 22, 0, 0, 6, 22, 59, 617), (347, 1, 1, 0, 6, 2, 0, 0), (349, 25, 0, 0, 0, 0, 0, 0), (350, 17, 0, 0, 0, 380, 0, 0), (353, 2, 0, 0, 0, 1, 0, 0), (354, 22, 0, 0, 6, 2, 17, 597), (357, 1, 0, 0, 1, 1, 0, 0), (358, 25, 0, 0, 0, 0, 0, 0), (359, 0, 0, 2, 1, 0, 0, 0), (360, 16, 0, 0, 1, 373, 0, 0), (363, 2, 0, 0, 0, 1, 0, 0), (364, 22, 0, 0, 6, 23, 62, 618), (367, 1, 1, 0, 6, 2, 0, 0), (369, 25, 0, 0, 0, 0, 0, 0), (370, 17, 0, 0, 0, 380, 0, 0), (373, 2, 0, 0, 0, 1, 0, 0), (374, 22, 0, 0, 6, 24, 65, 619), (377, 1, 1, 0, 6, 2, 0, 0), (379, 25, 0, 0, 0, 0, 0, 0), (380, 3, 1, 0, 7, 2, 0, 0), (382, 2, 0, 0, 0, 1, 0, 0), (383, 1, 0, 0, 3, 1, 0, 0), (384, 1, 1, 0, 6, 2, 0, 0), (386, 1, 1, 0, 7, 2, 0, 0), (388, 40, 0, 0, 86, 3, 79, 688), (391, 1, 0, 0, 2, 1, 0, 0), (392, 40, 0, 106, 110, 3, 141, 782), (395, 5, 0, 1, 6, 0, 0, 0), (398, 17, 0, 0, 0, 286, 0, 0), (401, 51, 0, 0, 0, 0, 0, 0)]
def vl_104_0 : List (Nat × vt_I) := [(0, 2, 0, 0, 0, 1, 0, 0), (1, 0, 0, 0, 1, 0, 0, 0), (2, 23, 0, 0, 6, 17, 114, 612), (5, 0, 0, 0, 1, 0, 0, 0), (6, 3, 0, 0, 2, 1, 0, 0), (7, 1, 0, 0, 2, 1, 0, 0), (8, 2, 0, 0, 0, 1, 0, 0), (9, 22, 0, 0, 6, 4, 23, 599), (12, 1, 0, 0, 1, 1, 0, 0), (13, 25, 0, 0, 0, 0, 0, 0), (14, 16, 0, 0, 3, 62, 0, 0), (17, 2, 0, 0, 0, 1, 0, 0), (18, 22, 0, 0, 6, 5, 26, 600), (21, 0, 1, 20, 2, 0, 0, 0), (23, 1, 0, 0, 1, 1, 0, 0), (24, 6, 0, 0, 2, 0, 0, 0), (25, 0, 0, 4, 1, 0, 0, 0), (26, 1, 0, 0, 2, 1, 0, 0), (27, 6, 0, 0, 2, 0, 0, 0), (28, 6, 0, 0, 0, 0, 0, 0), (29, 25, 0, 0, 0, 0, 0, 0), (30, 15, 0, 0, 0, 36, 0, 0), (33, 17, 0, 0, 0, 56, 0, 0), (36, 2, 0, 0, 0, 1, 0, 0), (37, 22, 0, 0, 6, 16, 47, 611), (40, 2, 0, 0, 0, 1, 0, 0), (41, 21, 0, 0, 6, 17, 114, 612), (44, 1, 0, 0, 2, 1, 0, 0), (45, 26, 0, 0, 0, 0, 0, 0), (46, 2, 0, 0, 0, 1, 0, 0), (47, 10, 0, 0, 0, 0, 0, 0), (48, 21, 0, 0, 6, 17, 114, 612), (51, 0, 0, 1, 1, 0, 0, 0), (52, 6, 0, 0, 0, 0, 0, 0), (53, 23, 0, 0, 6, 17, 114, 612), (56, 5, 0, 1, 2, 0, 0, 0), (59, 17, 0, 0, 0, 7, 0, 0), (62, 2, 0, 0, 0, 1, 0, 0), (63, 21, 0, 0, 6, 17, 114, 612), (66, 15, 0, 0, 5, 101, 0, 0), (69, 2, 0, 0, 0, 1, 0, 0), (70, 22, 0, 0, 6, 18, 50, 613), (73, 0, 0, 0, 1, 0, 0, 0), (74, 0, 2, 1024, 3, 0, 0, 0), (77, 2, 0, 0, 0, 1, 0, 0), (78, 22, 0, 0, 6, 5, 26, 600), (81, 0, 1, 20, 2, 0, 0, 0), (83, 1, 0, 0, 1, 1, 0, 0), (84, 6, 0, 0, 2, 0, 0, 0), (85, 0, 0, 4, 1, 0, 0, 0), (86, 2, 0, 0, 0, 1, 0, 0), (87, 22, 0, 0, 6, 16, 47, 611), (90, 0, 0, 0, 1, 0, 0, 0), (91, 25, 0, 0, 0, 0, 0, 0), (92, 6, 0, 0, 2, 0, 0, 0), (93, 6, 0, 0, 0, 0, 0, 0), (94, 0, 0, 1, 1, 0, 0, 0), (95, 6, 0, 0, 0, 0, 0, 0), (96, 25, 0, 0, 0, 0, 0, 0), (97, 6, 0, 0, 2, 0, 0, 0)]
def vl_104_1 : List (Nat × vt_I) := [(98, 0, 0, 1, 1, 0, 0, 0), (99, 6, 0, 0, 1, 0, 0, 0), (100, 26, 0, 0, 0, 0, 0, 0), (101, 51, 0, 0, 0, 0, 0, 0)]
def vl_105_0 : List (Nat × vt_I) := [(0, 2, 0, 0, 0, 1, 0, 0), (1, 21, 0, 0, 6, 17, 114, 612), (4, 15, 0, 0, 1, 34, 0, 0), (7, 1, 0, 0, 2, 1, 0, 0), (8, 15, 0, 0, 0, 32, 0, 0), (11, 2, 0, 0, 0, 1, 0, 0), (12, 1, 0, 0, 1, 1, 0, 0), (13, 0, 0, 0, 1, 0, 0, 0), (14, 40, 0, 106, 106, 3, 117, 766), (17, 15, 0, 0, 0, 32, 0, 0), (20, 2, 0, 0, 0, 1, 0, 0), (21, 1, 0, 0, 1, 1, 0, 0), (22, 40, 0, 106, 107, 2, 120, 770), (25, 15, 0, 0, 0, 32, 0, 0), (28, 0, 0, 1, 1, 0, 0, 0), (29, 17, 0, 0, 0, 33, 0, 0), (32, 0, 0, 0, 1, 0, 0, 0), (33, 50, 0, 0, 0, 0, 0, 0), (34, 1, 0, 0, 2, 1, 0, 0), (35, 15, 0, 0, 0, 42, 0, 0), (38, 0, 0, 0, 1, 0, 0, 0), (39, 17, 0, 0, 0, 48, 0, 0), (42, 2, 0, 0, 0, 1, 0, 0), (43, 21, 0, 0, 6, 17, 114, 612), (46, 0, 0, 1, 1, 0, 0, 0), (47, 6, 0, 0, 1, 0, 0, 0), (48, 3, 0, 0, 3, 1, 0, 0), (49, 1, 0, 0, 3, 1, 0, 0), (50, 15, 0, 0, 2, 221, 0, 0), (53, 2, 0, 0, 0, 1, 0, 0), (54, 22, 0, 0, 6, 5, 26, 600), (57, 0, 1, 20, 2, 0, 0, 0), (59, 1, 0, 0, 1, 1, 0, 0), (60, 6, 0, 0, 2, 0, 0, 0), (61, 0, 0, 4, 1, 0, 0, 0), (62, 2, 0, 0, 0, 1, 0, 0), (63, 22, 0, 0, 6, 16, 47, 611), (66, 1, 0, 0, 3, 1, 0, 0), (67, 25, 0, 0, 0, 0, 0, 0), (68, 6, 0, 0, 2, 0, 0, 0), (69, 6, 0, 0, 0, 0, 0, 0), (70, 0, 0, 1, 1, 0, 0, 0), (71, 6, 0, 0, 0, 0, 0, 0), (72, 25, 0, 0, 0, 0, 0, 0), (73, 3, 1, 0, 4, 2, 0, 0), (75, 2, 0, 0, 0, 1, 0, 0), (76, 22, 0, 0, 6, 18, 50, 613), (79, 1, 0, 0, 3, 1, 0, 0), (80, 25, 0, 0, 0, 0, 0, 0), (81, 0, 0, 1, 1, 0, 0, 0), (82, 6, 0, 0, 0, 0, 0, 0), (83, 3, 1, 0, 5, 2, 0, 0), (85, 2, 0, 0, 0, 1, 0, 0), (86, 22, 0, 0, 6, 18, 50, 613), (89, 1, 0, 0, 3, 1, 0, 0), (90, 1, 1, 0, 5, 2, 0, 0), (92, 26, 0, 0, 0, 0, 0, 0), (93, 1, 1, 0, 5, 2, 0, 0), (95, 0, 2, 1024, 3, 0, 0, 0), (98, 1, 1, 0, 4, 2, 0, 0)]
def vl_105_1 : List (Nat × vt_I) := [(100, 6, 0, 0, 2, 0, 0, 0), (101, 0, 2, 1024, 3, 0, 0, 0), (104, 6, 0, 0, 0, 0, 0, 0), (105, 16, 0, 0, 3, 142, 0, 0), (108, 2, 0, 0, 0, 1, 0, 0), (109, 1, 1, 0, 5, 2, 0, 0), (111, 40, 0, 106, 109, 2, 123, 778), (114, 15, 0, 0, 0, 128, 0, 0), (117, 2, 0, 0, 0, 1, 0, 0), (118, 1, 0, 0, 1, 1, 0, 0), (119, 1, 0, 0, 3, 1, 0, 0), (120, 0, 0, 1, 1, 0, 0, 0), (121, 6, 0, 0, 0, 0, 0, 0), (122, 40, 0, 106, 106, 3, 117, 766), (125, 15, 0, 0, 1, 142, 0, 0), (128, 5, 0, 1, 5, 0, 0, 0), (131, 2, 0, 0, 0, 1, 0, 0), (132, 22, 0, 0, 6, 18, 50, 613), (135, 1, 0, 0, 3, 1, 0, 0), (136, 1, 1, 0, 5, 2, 0, 0), (138, 26, 0, 0, 0, 0, 0, 0), (139, 17, 0, 0, 0, 93, 0, 0), (142, 1, 1, 0, 5, 2, 0, 0), (144, 0, 2, 1024, 3, 0, 0, 0), (147, 1, 1, 0, 4, 2, 0, 0), (149, 6, 0, 0, 2, 0, 0, 0), (150, 0, 2, 1024, 3, 0, 0, 0), (153, 6, 0, 0, 0, 0, 0, 0), (154, 16, 0, 0, 1, 163, 0, 0), (157, 5, 0, -1, 3, 0, 0, 0), (160, 17, 0, 0, 0, 218, 0, 0), (163, 1, 0, 0, 3, 1, 0, 0), (164, 2, 0, 0, 0, 1, 0, 0), (165, 21, 0, 0, 6, 17, 114, 612), (168, 0, 0, 1, 1, 0, 0, 0), (169, 6, 0, 0, 1, 0, 0, 0), (170, 16, 0, 0, 1, 183, 0, 0), (173, 2, 0, 0, 0, 1, 0, 0), (174, 1, 0, 0, 1, 1, 0, 0), (175, 40, 0, 106, 107, 2, 120, 770), (178, 15, 0, 0, 0, 218, 0, 0), (181, 0, 0, 1, 1, 0, 0, 0), (182, 50, 0, 0, 0, 0, 0, 0), (183, 5, 0, 1, 3, 0, 0, 0), (186, 2, 0, 0, 0, 1, 0, 0), (187, 22, 0, 0, 6, 18, 50, 613), (190, 1, 0, 0, 3, 1, 0, 0), (191, 0, 2, 1024, 3, 0, 0, 0), (194, 2, 0, 0, 0, 1, 0, 0), (195, 22, 0, 0, 6, 5, 26, 600), (198, 0, 1, 20, 2, 0, 0, 0), (200, 1, 0, 0, 1, 1, 0, 0), (201, 6, 0, 0, 2, 0, 0, 0), (202, 0, 0, 4, 1, 0, 0, 0), (203, 2, 0, 0, 0, 1, 0, 0), (204, 22, 0, 0, 6, 16, 47, 611), (207, 1, 0, 0, 3, 1, 0, 0), (208, 25, 0, 0, 0, 0, 0, 0), (209, 6, 0, 0, 2, 0, 0, 0), (210, 6, 0, 0, 0, 0, 0, 0)]
def vl_105_2 : List (Nat × vt_I) := [(211, 0, 0, 1, 1, 0, 0, 0), (212, 6, 0, 0, 0, 0, 0, 0), (213, 25, 0, 0, 0, 0, 0, 0), (214, 6, 0, 0, 2, 0, 0, 0), (215, 0, 0, 1, 1, 0, 0, 0), (216, 6, 0, 0, 1, 0, 0, 0), (217, 26, 0, 0, 0, 0, 0, 0), (218, 17, 0, 0, 0, 49, 0, 0), (221, 0, 0, 0, 1, 0, 0, 0), (222, 50, 0, 0, 0, 0, 0, 0)]
def vl_106_0 : List (Nat × vt_I) := [(0, 0, 0, 0, 1, 0, 0, 0), (1, 3, 0, 0, 3, 1, 0, 0), (2, 1, 0, 0, 3, 1, 0, 0), (3, 0, 1, 6, 2, 0, 0, 0), (5, 16, 0, 0, 3, 21, 0, 0), (8, 2, 0, 0, 0, 1, 0, 0), (9, 22, 0, 0, 6, 15, 44, 610), (12, 1, 0, 0, 3, 1, 0, 0), (13, 0, 0, -1, 1, 0, 0, 0), (14, 26, 0, 0, 0, 0, 0, 0), (15, 5, 0, 1, 3, 0, 0, 0), (18, 17, 0, 0, 0, 2, 0, 0), (21, 0, 0, 0, 1, 0, 0, 0), (22, 3, 0, 0, 3, 1, 0, 0), (23, 1, 0, 0, 3, 1, 0, 0), (24, 1, 0, 0, 2, 1, 0, 0), (25, 16, 0, 0, 3, 169, 0, 0), (28, 0, 1, 20, 2, 0, 0, 0), (30, 1, 0, 0, 1, 1, 0, 0), (31, 6, 0, 0, 2, 0, 0, 0), (32, 0, 0, 4, 1, 0, 0, 0), (33, 2, 0, 0, 0, 1, 0, 0), (34, 22, 0, 0, 6, 16, 47, 611), (37, 1, 0, 0, 3, 1, 0, 0), (38, 25, 0, 0, 0, 0, 0, 0), (39, 6, 0, 0, 2, 0, 0, 0), (40, 6, 0, 0, 0, 0, 0, 0), (41, 3, 1, 0, 4, 2, 0, 0), (43, 2, 0, 0, 0, 1, 0, 0), (44, 22, 0, 0, 6, 18, 50, 613), (47, 1, 0, 0, 3, 1, 0, 0), (48, 25, 0, 0, 0, 0, 0, 0), (49, 3, 1, 0, 5, 2, 0, 0), (51, 0, 0, 0, 1, 0, 0, 0), (52, 3, 1, 0, 6, 2, 0, 0), (54, 1, 1, 0, 6, 2, 0, 0), (56, 0, 0, 2, 1, 0, 0, 0), (57, 16, 0, 0, 3, 163, 0, 0), (60, 2, 0, 0, 0, 1, 0, 0), (61, 22, 0, 0, 6, 5, 26, 600), (64, 1, 1, 0, 4, 2, 0, 0), (66, 0, 0, 2, 1, 0, 0, 0), (67, 6, 0, 0, 0, 0, 0, 0), (68, 1, 1, 0, 6, 2, 0, 0), (70, 6, 0, 0, 0, 0, 0, 0), (71, 25, 0, 0, 0, 0, 0, 0), (72, 3, 1, 0, 7, 2, 0, 0), (74, 1, 1, 0, 6, 2, 0, 0), (76, 15, 0, 0, 1, 90, 0, 0), (79, 1, 1, 0, 5, 2, 0, 0), (81, 0, 1, 32, 2, 0, 0, 0), (83, 7, 0, 0, 0, 0, 0, 0), (84, 0, 1, 32, 2, 0, 0, 0), (86, 8, 0, 0, 0, 0, 0, 0), (87, 17, 0, 0, 0, 95, 0, 0), (90, 1, 1, 0, 5, 2, 0, 0), (92, 0, 1, 32, 2, 0, 0, 0), (94, 8, 0, 0, 0, 0, 0, 0), (95, 3, 1, 0, 8, 2, 0, 0), (97, 1, 1, 0, 7, 2, 0, 0)]
def vl_106_1 : List (Nat × vt_I) := [(99, 15, 0, 0, 2, 112, 0, 0), (102, 1, 1, 0, 7, 2, 0, 0), (104, 1, 1, 0, 8, 2, 0, 0), (106, 16, 0, 0, 0, 141, 0, 0), (109, 17, 0, 0, 0, 139, 0, 0), (112, 2, 0, 0, 0, 1, 0, 0), (113, 22, 0, 0, 6, 15, 44, 610), (116, 0, 0, -1, 1, 0, 0, 0), (117, 1, 1, 0, 7, 2, 0, 0), (119, 6, 0, 0, 1, 0, 0, 0), (120, 25, 0, 0, 0, 0, 0, 0), (121, 0, 0, -1, 1, 0, 0, 0), (122, 16, 0, 0, 0, 141, 0, 0), (125, 2, 0, 0, 0, 1, 0, 0), (126, 22, 0, 0, 6, 15, 44, 610), (129, 0, 0, -1, 1, 0, 0, 0), (130, 1, 1, 0, 7, 2, 0, 0), (132, 6, 0, 0, 1, 0, 0, 0), (133, 25, 0, 0, 0, 0, 0, 0), (134, 1, 1, 0, 8, 2, 0, 0), (136, 16, 0, 0, 0, 141, 0, 0), (139, 0, 0, 0, 1, 0, 0, 0), (140, 50, 0, 0, 0, 0, 0, 0), (141, 1, 1, 0, 7, 2, 0, 0), (143, 15, 0, 0, 3, 157, 0, 0), (146, 2, 0, 0, 0, 1, 0, 0), (147, 22, 0, 0, 6, 15, 44, 610), (150, 0, 0, -1, 1, 0, 0, 0), (151, 1, 1, 0, 7, 2, 0, 0), (153, 6, 0, 0, 1, 0, 0, 0), (154, 1, 1, 0, 8, 2, 0, 0), (156, 26, 0, 0, 0, 0, 0, 0), (157, 5, 0, 1, 6, 0, 0, 0), (160, 17, 0, 0, 0, 54, 0, 0), (163, 5, 0, 1, 3, 0, 0, 0), (166, 17, 0, 0, 0, 23, 0, 0), (169, 0, 0, 1, 1, 0, 0, 0), (170, 50, 0, 0, 0, 0, 0, 0)]
def vl_107_0 : List (Nat × vt_I) := [(0, 0, 0, 1, 1, 0, 0, 0), (1, 3, 0, 0, 2, 1, 0, 0), (2, 0, 0, 0, 1, 0, 0, 0), (3, 3, 0, 0, 3, 1, 0, 0), (4, 1, 0, 0, 3, 1, 0, 0), (5, 2, 0, 0, 0, 1, 0, 0), (6, 22, 0, 0, 6, 4, 23, 599), (9, 1, 0, 0, 1, 1, 0, 0), (10, 25, 0, 0, 0, 0, 0, 0), (11, 16, 0, 0, 3, 185, 0, 0), (14, 1, 0, 0, 2, 1, 0, 0), (15, 15, 0, 0, 0, 185, 0, 0), (18, 0, 1, 20, 2, 0, 0, 0), (20, 1, 0, 0, 1, 1, 0, 0), (21, 6, 0, 0, 2, 0, 0, 0), (22, 0, 0, 4, 1, 0, 0, 0), (23, 1, 0, 0, 3, 1, 0, 0), (24, 6, 0, 0, 2, 0, 0, 0), (25, 6, 0, 0, 0, 0, 0, 0), (26, 3, 1, 0, 4, 2, 0, 0), (28, 2, 0, 0, 0, 1, 0, 0), (29, 2, 0, 0, 0, 1, 0, 0), (30, 22, 0, 0, 6, 5, 26, 600), (33, 1, 1, 0, 4, 2, 0, 0), (35, 0, 0, 2, 1, 0, 0, 0), (36, 6, 0, 0, 0, 0, 0, 0), (37, 25, 0, 0, 0, 0, 0, 0), (38, 40, 0, 106, 108, 2, 126, 774), (41, 3, 1, 0, 5, 2, 0, 0), (43, 2, 0, 0, 0, 1, 0, 0), (44, 2, 0, 0, 0, 1, 0, 0), (45, 22, 0, 0, 6, 5, 26, 600), (48, 1, 1, 0, 4, 2, 0, 0), (50, 0, 0, 3, 1, 0, 0, 0), (51, 6, 0, 0, 0, 0, 0, 0), (52, 25, 0, 0, 0, 0, 0, 0), (53, 40, 0, 106, 108, 2, 126, 774), (56, 3, 1, 0, 6, 2, 0, 0), (58, 2, 0, 0, 0, 1, 0, 0), (59, 22, 0, 0, 6, 5, 26, 600), (62, 1, 1, 0, 4, 2, 0, 0), (64, 25, 0, 0, 0, 0, 0, 0), (65, 0, 0, 1, 1, 0, 0, 0), (66, 16, 0, 0, 1, 98, 0, 0), (69, 2, 0, 0, 0, 1, 0, 0), (70, 2, 0, 0, 0, 1, 0, 0), (71, 22, 0, 0, 6, 5, 26, 600), (74, 1, 1, 0, 4, 2, 0, 0), (76, 0, 0, 1, 1, 0, 0, 0), (77, 6, 0, 0, 0, 0, 0, 0), (78, 25, 0, 0, 0, 0, 0, 0), (79, 1, 1, 0, 5, 2, 0, 0), (81, 1, 1, 0, 6, 2, 0, 0), (83, 40, 0, 0, 86, 3, 79, 688), (86, 40, 0, 106, 109, 2, 123, 778), (89, 15, 0, 0, 1, 96, 0, 0), (92, 0, 0, 1, 1, 0, 0, 0), (93, 17, 0, 0, 0, 97, 0, 0), (96, 0, 0, 0, 1, 0, 0, 0), (97, 3, 0, 0, 2, 1, 0, 0)]
def vl_107_1 : List (Nat × vt_I) := [(98, 2, 0, 0, 0, 1, 0, 0), (99, 22, 0, 0, 6, 5, 26, 600), (102, 1, 1, 0, 4, 2, 0, 0), (104, 25, 0, 0, 0, 0, 0, 0), (105, 0, 0, 2, 1, 0, 0, 0), (106, 16, 0, 0, 1, 179, 0, 0), (109, 2, 0, 0, 0, 1, 0, 0), (110, 22, 0, 0, 6, 5, 26, 600), (113, 1, 1, 0, 4, 2, 0, 0), (115, 0, 0, 1, 1, 0, 0, 0), (116, 6, 0, 0, 0, 0, 0, 0), (117, 25, 0, 0, 0, 0, 0, 0), (118, 15, 0, 0, 1, 136, 0, 0), (121, 1, 1, 0, 5, 2, 0, 0), (123, 1, 1, 0, 6, 2, 0, 0), (125, 16, 0, 0, 3, 132, 0, 0), (128, 0, 0, 1, 1, 0, 0, 0), (129, 17, 0, 0, 0, 178, 0, 0), (132, 0, 0, 0, 1, 0, 0, 0), (133, 17, 0, 0, 0, 178, 0, 0), (136, 2, 0, 0, 0, 1, 0, 0), (137, 22, 0, 0, 6, 5, 26, 600), (140, 1, 1, 0, 4, 2, 0, 0), (142, 0, 0, 1, 1, 0, 0, 0), (143, 6, 0, 0, 0, 0, 0, 0), (144, 25, 0, 0, 0, 0, 0, 0), (145, 0, 0, 1, 1, 0, 0, 0), (146, 16, 0, 0, 1, 164, 0, 0), (149, 1, 1, 0, 5, 2, 0, 0), (151, 1, 1, 0, 6, 2, 0, 0), (153, 16, 0, 0, 0, 160, 0, 0), (156, 0, 0, 1, 1, 0, 0, 0), (157, 17, 0, 0, 0, 178, 0, 0), (160, 0, 0, 0, 1, 0, 0, 0), (161, 17, 0, 0, 0, 178, 0, 0), (164, 1, 1, 0, 6, 2, 0, 0), (166, 1, 1, 0, 5, 2, 0, 0), (168, 0, 0, 1, 1, 0, 0, 0), (169, 6, 0, 0, 0, 0, 0, 0), (170, 16, 0, 0, 1, 177, 0, 0), (173, 0, 0, 1, 1, 0, 0, 0), (174, 17, 0, 0, 0, 178, 0, 0), (177, 0, 0, 0, 1, 0, 0, 0), (178, 3, 0, 0, 2, 1, 0, 0), (179, 5, 0, 1, 3, 0, 0, 0), (182, 17, 0, 0, 0, 4, 0, 0), (185, 1, 0, 0, 2, 1, 0, 0), (186, 50, 0, 0, 0, 0, 0, 0)]
def vl_108_0 : List (Nat × vt_I) := [(0, 1, 0, 0, 1, 1, 0, 0), (1, 15, 0, 0, 2, 8, 0, 0), (4, 1, 0, 0, 1, 1, 0, 0), (5, 17, 0, 0, 0, 16, 0, 0), (8, 2, 0, 0, 0, 1, 0, 0), (9, 22, 0, 0, 6, 15, 44, 610), (12, 0, 0, -1, 1, 0, 0, 0), (13, 1, 0, 0, 1, 1, 0, 0), (14, 6, 0, 0, 1, 0, 0, 0), (15, 25, 0, 0, 0, 0, 0, 0), (16, 50, 0, 0, 0, 0, 0, 0)]
def vl_109_0 : List (Nat × vt_I) := [(0, 2, 0, 0, 0, 1, 0, 0), (1, 22, 0, 0, 6, 8, 29, 603), (4, 1, 0, 0, 1, 1, 0, 0), (5, 25, 0, 0, 0, 0, 0, 0), (6, 15, 0, 0, 2, 33, 0, 0), (9, 2, 0, 0, 0, 1, 0, 0), (10, 21, 0, 0, 6, 19, 111, 614), (13, 15, 0, 0, 2, 29, 0, 0), (16, 2, 0, 0, 0, 1, 0, 0), (17, 22, 0, 0, 6, 20, 53, 615), (20, 1, 0, 0, 1, 1, 0, 0), (21, 25, 0, 0, 0, 0, 0, 0), (22, 2, 0, 0, 0, 1, 0, 0), (23, 21, 0, 0, 6, 19, 111, 614), (26, 16, 0, 0, 0, 33, 0, 0), (29, 0, 0, 1, 1, 0, 0, 0), (30, 17, 0, 0, 0, 34, 0, 0), (33, 0, 0, 0, 1, 0, 0, 0), (34, 50, 0, 0, 0, 0, 0, 0)]
def vl_110_0 : List (Nat × vt_I) := [(0, 1, 0, 0, 2, 1, 0, 0), (1, 15, 0, 0, 3, 17, 0, 0), (4, 2, 0, 0, 0, 1, 0, 0), (5, 22, 0, 0, 6, 9, 32, 604), (8, 1, 0, 0, 1, 1, 0, 0), (9, 14, 0, 0, 0, 0, 0, 0), (10, 25, 0, 0, 0, 0, 0, 0), (11, 0, 0, 1, 1, 0, 0, 0), (12, 6, 0, 0, 0, 0, 0, 0), (13, 26, 0, 0, 0, 0, 0, 0), (14, 17, 0, 0, 0, 53, 0, 0), (17, 2, 0, 0, 0, 1, 0, 0), (18, 22, 0, 0, 6, 8, 29, 603), (21, 1, 0, 0, 1, 1, 0, 0), (22, 25, 0, 0, 0, 0, 0, 0), (23, 15, 0, 0, 3, 53, 0, 0), (26, 2, 0, 0, 0, 1, 0, 0), (27, 22, 0, 0, 6, 8, 29, 603), (30, 1, 0, 0, 1, 1, 0, 0), (31, 1, 0, 0, 2, 1, 0, 0), (32, 26, 0, 0, 0, 0, 0, 0), (33, 2, 0, 0, 0, 1, 0, 0), (34, 22, 0, 0, 6, 20, 53, 615), (37, 1, 0, 0, 1, 1, 0, 0), (38, 2, 0, 0, 0, 1, 0, 0), (39, 21, 0, 0, 6, 19, 111, 614), (42, 26, 0, 0, 0, 0, 0, 0), (43, 2, 0, 0, 0, 1, 0, 0), (44, 10, 0, 0, 0, 0, 0, 0), (45, 21, 0, 0, 6, 25, 130, 620), (48, 0, 0, 1, 1, 0, 0, 0), (49, 6, 0, 0, 0, 0, 0, 0), (50, 23, 0, 0, 6, 25, 130, 620), (53, 51, 0, 0, 0, 0, 0, 0)]
def vl_111_0 : List (Nat × vt_I) := [(0, 1, 0, 0, 1, 1, 0, 0), (1, 40, 0, 0, 84, 1, 68, 682), (4, 15, 0, 0, 1, 9, 0, 0), (7, 0, 0, -1, 1, 0, 0, 0), (8, 50, 0, 0, 0, 0, 0, 0), (9, 2, 0, 0, 0, 1, 0, 0), (10, 40, 0, 106, 100, 1, 157, 742), (13, 2, 0, 0, 0, 1, 0, 0), (14, 21, 0, 0, 6, 11, 108, 606), (17, 15, 0, 0, 2, 25, 0, 0), (20, 0, 1, -2, 2, 0, 0, 0), (22, 17, 0, 0, 0, 31, 0, 0), (25, 2, 0, 0, 0, 1, 0, 0), (26, 22, 0, 0, 6, 10, 35, 605), (29, 1, 0, 0, 1, 1, 0, 0), (30, 25, 0, 0, 0, 0, 0, 0), (31, 50, 0, 0, 0, 0, 0, 0)]
def vl_112_0 : List (Nat × vt_I) := [(0, 1, 0, 0, 1, 1, 0, 0), (1, 1, 0, 0, 2, 1, 0, 0), (2, 1, 0, 0, 3, 1, 0, 0), (3, 40, 0, 0, 83, 3, 75, 679), (6, 15, 0, 0, 1, 11, 0, 0), (9, 0, 0, -1, 1, 0, 0, 0), (10, 50, 0, 0, 0, 0, 0, 0), (11, 2, 0, 0, 0, 1, 0, 0), (12, 40, 0, 106, 100, 1, 157, 742), (15, 1, 0, 0, 1, 1, 0, 0), (16, 1, 0, 0, 2, 1, 0, 0), (17, 1, 0, 0, 3, 1, 0, 0), (18, 40, 0, 0, 86, 3, 79, 688), (21, 3, 1, 0, 4, 2, 0, 0), (23, 2, 0, 0, 0, 1, 0, 0), (24, 22, 0, 0, 6, 0, 7, 595), (27, 1, 1, 0, 4, 2, 0, 0), (29, 36, 0, 0, 0, 0, 0, 0), (30, 15, 0, 0, 0, 37, 0, 0), (33, 0, 0, 1, 1, 0, 0, 0), (34, 17, 0, 0, 0, 52, 0, 0), (37, 2, 0, 0, 0, 1, 0, 0), (38, 22, 0, 0, 6, 8, 29, 603), (41, 1, 1, 0, 4, 2, 0, 0), (43, 25, 0, 0, 0, 0, 0, 0), (44, 15, 0, 0, 2, 51, 0, 0), (47, 0, 0, 2, 1, 0, 0, 0), (48, 17, 0, 0, 0, 52, 0, 0), (51, 0, 0, 0, 1, 0, 0, 0), (52, 50, 0, 0, 0, 0, 0, 0)]
def vl_113_0 : List (Nat × vt_I) := [(0, 1, 0, 0, 1, 1, 0, 0), (1, 1, 0, 0, 2, 1, 0, 0), (2, 1, 0, 0, 3, 1, 0, 0), (3, 40, 0, 0, 83, 3, 75, 679), (6, 15, 0, 0, 1, 11, 0, 0), (9, 0, 0, -1, 1, 0, 0, 0), (10, 50, 0, 0, 0, 0, 0, 0), (11, 2, 0, 0, 0, 1, 0, 0), (12, 40, 0, 106, 100, 1, 157, 742), (15, 1, 0, 0, 1, 1, 0, 0), (16, 1, 0, 0, 2, 1, 0, 0), (17, 1, 0, 0, 3, 1, 0, 0), (18, 40, 0, 0, 86, 3, 79, 688), (21, 3, 1, 0, 4, 2, 0, 0), (23, 2, 0, 0, 0, 1, 0, 0), (24, 22, 0, 0, 6, 8, 29, 603), (27, 1, 1, 0, 4, 2, 0, 0), (29, 25, 0, 0, 0, 0, 0, 0), (30, 15, 0, 0, 2, 43, 0, 0), (33, 2, 0, 0, 0, 1, 0, 0), (34, 22, 0, 0, 6, 8, 29, 603), (37, 1, 1, 0, 4, 2, 0, 0), (39, 25, 0, 0, 0, 0, 0, 0), (40, 17, 0, 0, 0, 45, 0, 0), (43, 0, 1, -2, 2, 0, 0, 0), (45, 50, 0, 0, 0, 0, 0, 0)]
def vl_114_0 : List (Nat × vt_I) := [(0, 1, 0, 0, 1, 1, 0, 0), (1, 1, 0, 0, 2, 1, 0, 0), (2, 1, 0, 0, 3, 1, 0, 0), (3, 40, 0, 0, 83, 3, 75, 679), (6, 15, 0, 0, 1, 11, 0, 0), (9, 0, 0, -1, 1, 0, 0, 0), (10, 50, 0, 0, 0, 0, 0, 0), (11, 2, 0, 0, 0, 1, 0, 0), (12, 40, 0, 106, 100, 1, 157, 742), (15, 2, 0, 0, 0, 1, 0, 0), (16, 22, 0, 0, 6, 9, 32, 604), (19, 1, 0, 0, 1, 1, 0, 0), (20, 1, 0, 0, 2, 1, 0, 0), (21, 1, 0, 0, 3, 1, 0, 0), (22, 40, 0, 0, 86, 3, 79, 688), (25, 25, 0, 0, 0, 0, 0, 0), (26, 50, 0, 0, 0, 0, 0, 0)]
def vl_115_0 : List (Nat × vt_I) := [(0, 2, 0, 0, 0, 1, 0, 0), (1, 40, 0, 106, 100, 1, 157, 742), (4, 1, 0, 0, 1, 1, 0, 0), (5, 0, 2, 16384, 3, 0, 0, 0), (8, 16, 0, 0, 2, 14, 0, 0), (11, 0, 1, -2, 2, 0, 0, 0), (13, 50, 0, 0, 0, 0, 0, 0), (14, 1, 0, 0, 1, 1, 0, 0), (15, 15, 0, 0, 3, 22, 0, 0), (18, 0, 0, 0, 1, 0, 0, 0), (19, 17, 0, 0, 0, 25, 0, 0), (22, 1, 0, 0, 1, 1, 0, 0), (23, 0, 0, 1, 1, 0, 0, 0), (24, 6, 0, 0, 0, 0, 0, 0), (25, 3, 0, 0, 2, 1, 0, 0), (26, 1, 0, 0, 2, 1, 0, 0), (27, 0, 2, 16384, 3, 0, 0, 0), (30, 16, 0, 0, 3, 48, 0, 0), (33, 2, 0, 0, 0, 1, 0, 0), (34, 22, 0, 0, 6, 8, 29, 603), (37, 1, 0, 0, 2, 1, 0, 0), (38, 25, 0, 0, 0, 0, 0, 0), (39, 15, 0, 0, 3, 48, 0, 0), (42, 5, 0, 1, 2, 0, 0, 0), (45, 17, 0, 0, 0, 26, 0, 0), (48, 1, 0, 0, 2, 1, 0, 0), (49, 0, 2, 16384, 3, 0, 0, 0), (52, 16, 0, 0, 3, 59, 0, 0), (55, 1, 0, 0, 2, 1, 0, 0), (56, 17, 0, 0, 0, 61, 0, 0), (59, 0, 1, -2, 2, 0, 0, 0), (61, 50, 0, 0, 0, 0, 0, 0)]
def vl_116_0 : List (Nat × vt_I) := [(0, 2, 0, 0, 0, 1, 0, 0), (1, 40, 0, 106, 100, 1, 157, 742), (4, 0, 0, 0, 1, 0, 0, 0), (5, 3, 0, 0, 1, 1, 0, 0), (6, 0, 0, 0, 1, 0, 0, 0), (7, 3, 0, 0, 2, 1, 0, 0), (8, 1, 0, 0, 2, 1, 0, 0), (9, 0, 2, 16384, 3, 0, 0, 0), (12, 16, 0, 0, 3, 38, 0, 0), (15, 1, 0, 0, 1, 1, 0, 0), (16, 2, 0, 0, 0, 1, 0, 0), (17, 22, 0, 0, 6, 8, 29, 603), (20, 1, 0, 0, 2, 1, 0, 0), (21, 25, 0, 0, 0, 0, 0, 0), (22, 15, 0, 0, 2, 29, 0, 0), (25, 0, 0, 1, 1, 0, 0, 0), (26, 17, 0, 0, 0, 30, 0, 0), (29, 0, 0, 0, 1, 0, 0, 0), (30, 6, 0, 0, 0, 0, 0, 0), (31, 3, 0, 0, 1, 1, 0, 0), (32, 5, 0, 1, 2, 0, 0, 0), (35, 17, 0, 0, 0, 8, 0, 0), (38, 1, 0, 0, 1, 1, 0, 0), (39, 50, 0, 0, 0, 0, 0, 0)]
def vt_codel : List (List (Nat × vt_I)) := [vl_0_0 ++ (vl_0_1 ++ (vl_0_2 ++ (vl_0_3 ++ (vl_0_4 ++ (vl_0_5 ++ (vl_0_6 ++ (vl_0_7))))))), vl_1_0, vl_2_0, vl_3_0, vl_4_0, vl_5_0, vl_6_0, vl_7_0, vl_8_0, vl_9_0, vl_10_0, vl_11_0, vl_12_0, vl_13_0, vl_14_0, vl_15_0, vl_16_0, vl_17_0, vl_18_0, vl_19_0, vl_20_0, vl_21_0, vl_22_0, vl_23_0, vl_24_0, vl_25_0, vl_26_0, vl_27_0, vl_28_0, vl_29_0, vl_30_0, vl_31_0 ++ (vl_31_1), vl_32_0, vl_33_0, vl_34_0, vl_35_0, vl_36_0 ++ (vl_36_1), vl_37_0, vl_38_0, vl_39_0, vl_40_0, vl_41_0, vl_42_0, vl_43_0 ++ (vl_43_1), vl_44_0, vl_45_0 ++ (vl_45_1 ++ (vl_45_2)), vl_46_0, vl_47_0 ++ (vl_47_1), vl_48_0 ++ (vl_48_1), vl_49_0, vl_50_0, vl_51_0 ++ (vl_51_1), vl_52_0, vl_53_0 ++ (vl_53_1), vl_54_0 ++ (vl_54_1), vl_55_0, vl_56_0 ++ (vl_56_1), vl_57_0, vl_58_0, vl_59_0, vl_60_0 ++ (vl_60_1 ++ (vl_60_2)), vl_61_0, vl_62_0, vl_63_0 ++ (vl_63_1), vl_64_0, vl_65_0 ++ (vl_65_1), vl_66_0, vl_67_0, vl_68_0, vl_69_0, vl_70_0 ++ (vl_70_1), vl_71_0, vl_72_0, vl_73_0, vl_74_0, vl_75_0, vl_76_0, vl_77_0, vl_78_0, vl_79_0, vl_80_0, vl_81_0 ++ (vl_81_1), vl_82_0, vl_83_0, vl_84_0, vl_85_0, vl_86_0, vl_87_0, vl_88_0 ++ (vl_88_1), vl_89_0, vl_90_0, vl_91_0, vl_92_0 ++ (vl_92_1), vl_93_0, vl_94_0, vl_95_0 ++ (vl_95_1), vl_96_0, vl_97_0 ++ (vl_97_1), vl_98_0, vl_99_0, vl_100_0 ++ (vl_100_1 ++ (vl_100_2)), vl_101_0 ++ (vl_101_1 ++ (vl_101_2 ++ (vl_101_3))), vl_102_0 ++ (vl_102_1), vl_103_0 ++ (vl_103_1 ++ (vl_103_2 ++ (vl_103_3))), vl_104_0 ++ (vl_104_1), vl_105_0 ++ (vl_105_1 ++ (vl_105_2)), vl_106_0 ++ (vl_106_1), vl_107_0 ++ (vl_107_1), vl_108_0, vl_109_0, vl_110_0, vl_111_0, vl_112_0, vl_113_0, vl_114_0, vl_115_0, vl_116_0]
def vt_code (a : Nat) : List (Nat × vt_I) := vt_codel.getD a []
end
section
-- ===== THE SMALL MACHINE: a heap of numbered cells, and what one instruction does to it =====
/-- the small heap: how many cells, how many slots; kinds, lengths; ints, references; the script, its length -/
abbrev vt_H : Type := (Nat × Nat) × ((Nat → Nat) × (Nat → Nat)) × ((Nat → Nat → Int32) × (Nat → Nat → Option Nat)) × ((Nat → Int32) × Nat)
def vh_n (h : vt_H) : Nat := h.1.1
def vh_u (h : vt_H) : Nat := h.1.2
def vh_K (h : vt_H) : Nat → Nat := h.2.1.1
def vh_Z (h : vt_H) : Nat → Nat := h.2.1.2
def vh_I (h : vt_H) : Nat → Nat → Int32 := h.2.2.1.1
def vh_R (h : vt_H) : Nat → Nat → Option Nat := h.2.2.1.2
def vh_X (h : vt_H) : Nat → Int32 := h.2.2.2.1
def vh_L (h : vt_H) : Nat := h.2.2.2.2
/-- write an int, a reference; make a cell; copy ints -/
def vh_wI (h : vt_H) (a i : Nat) (x : Int32) : vt_H := (h.1, h.2.1, (fun b j => if b = a ∧ j = i then x else vh_I h b j, h.2.2.1.2), h.2.2.2)
def vh_wR (h : vt_H) (a i : Nat) (r : Option Nat) : vt_H := (h.1, h.2.1, (h.2.2.1.1, fun b j => if b = a ∧ j = i then r else vh_R h b j), h.2.2.2)
def vh_new (h : vt_H) (k z w : Nat) : vt_H := ((vh_n h + 1, vh_u h + w), (fun b => if b = vh_n h then k else vh_K h b, fun b => if b = vh_n h then z else vh_Z h b), (fun b j => if b = vh_n h then 0 else vh_I h b j, fun b j => if b = vh_n h then none else vh_R h b j), h.2.2.2)
def vh_cp (h : vt_H) (a0 sp a dp n : Nat) : vt_H := (h.1, h.2.1, (fun b j => if b = a then va_cpy (vh_I h a0) (vh_I h a) sp dp n j else vh_I h b j, h.2.2.1.2), h.2.2.2)
section VH
variable (h : vt_H) (a i : Nat) (x : Int32) (r : Option Nat) (k z w : Nat) (a0 sp dp n : Nat)
theorem vh_n_wI : vh_n (vh_wI h a i x) = vh_n h := rfl
theorem vh_u_wI : vh_u (vh_wI h a i x) = vh_u h := rfl
theorem vh_K_wI : vh_K (vh_wI h a i x) = vh_K h := rfl
theorem vh_Z_wI : vh_Z (vh_wI h a i x) = vh_Z h := rfl
theorem vh_R_wI : vh_R (vh_wI h a i x) = vh_R h := rfl
theorem vh_X_wI : vh_X (vh_wI h a i x) = vh_X h := rfl
theorem vh_L_wI : vh_L (vh_wI h a i x) = vh_L h := rfl
theorem vh_I_wI (b j : Nat) : vh_I (vh_wI h a i x) b j = if b = a ∧ j = i then x else vh_I h b j := rfl
theorem vh_n_wR : vh_n (vh_wR h a i r) = vh_n h := rfl
theorem vh_u_wR : vh_u (vh_wR h a i r) = vh_u h := rfl
theorem vh_K_wR : vh_K (vh_wR h a i r) = vh_K h := rfl
theorem vh_Z_wR : vh_Z (vh_wR h a i r) = vh_Z h := rfl
theorem vh_I_wR : vh_I (vh_wR h a i r) = vh_I h := rfl
theorem vh_X_wR : vh_X (vh_wR h a i r) = vh_X h := rfl
theorem vh_L_wR : vh_L (vh_wR h a i r) = vh_L h := rfl
theorem vh_R_wR (b j : Nat) : vh_R (vh_wR h a i r) b j = if b = a ∧ j = i then r else vh_R h b j := rfl
theorem vh_n_new : vh_n (vh_new h k z w) = vh_n h + 1 := rfl
theorem vh_u_new : vh_u (vh_new h k z w) = vh_u h + w := rfl
theorem vh_K_new (b : Nat) : vh_K (vh_new h k z w) b = if b = vh_n h then k else vh_K h b := rfl
theorem vh_Z_new (b : Nat) : vh_Z (vh_new h k z w) b = if b = vh_n h then z else vh_Z h b := rfl
theorem vh_I_new (b j : Nat) : vh_I (vh_new h k z w) b j = if b = vh_n h then 0 else vh_I h b j := rfl
theorem vh_R_new (b j : Nat) : vh_R (vh_new h k z w) b j = if b = vh_n h then none else vh_R h b j := rfl
theorem vh_X_new : vh_X (vh_new h k z w) = vh_X h := rfl
theorem vh_L_new : vh_L (vh_new h k z w) = vh_L h := rfl
theorem vh_n_cp : vh_n (vh_cp h a0 sp a dp n) = vh_n h := rfl
theorem vh_u_cp : vh_u (vh_cp h a0 sp a dp n) = vh_u h := rfl
theorem vh_K_cp : vh_K (vh_cp h a0 sp a dp n) = vh_K h := rfl
theorem vh_Z_cp : vh_Z (vh_cp h a0 sp a dp n) = vh_Z h := rfl
theorem vh_R_cp : vh_R (vh_cp h a0 sp a dp n) = vh_R h := rfl
theorem vh_X_cp : vh_X (vh_cp h a0 sp a dp n) = vh_X h := rfl
theorem vh_L_cp : vh_L (vh_cp h a0 sp a dp n) = vh_L h := rfl
theorem vh_I_cp (b j : Nat) : vh_I (vh_cp h a0 sp a dp n) b j = if b = a then va_cpy (vh_I h a0) (vh_I h a) sp dp n j else vh_I h b j := rfl
end VH
/-- the place of a local that holds nothing yet; the script -/
abbrev vt_un : Value := .retAddr 0
abbrev vt_sc : Value := .retAddr 1
/-- is it a reference, null or the script -/
def vt_rv : Value → Bool
  | .ref _ => true
  | .null => true
  | .retAddr n => n == 1
  | _ => false
def vt_bin (a : Nat) (x y : Int32) : Int32 := match a with
  | 0 => x + y
  | 1 => x - y
  | 2 => x * y
  | 3 => x &&& y
  | 4 => x ||| y
  | 5 => x ^^^ y
  | 6 => x <<< (y &&& 31)
  | 7 => x >>> (y &&& 31)
  | _ => (x.toUInt32 >>> (y.toUInt32 &&& Int32.toUInt32 31)).toInt32
def vt_cmp (a : Nat) (x y : Int32) : Bool := match a with
  | 0 => decide (x = y)
  | 1 => decide (¬ x = y)
  | 2 => decide (x < y)
  | 3 => decide (y ≤ x)
  | 4 => decide (y < x)
  | _ => decide (x ≤ y)
/-- where an instruction that is no call and no return goes on -/
abbrev vt_N : Type := Option (Nat × List Value × List Value × vt_H)
def vn_iload (a b pc : Nat) (ls st : List Value) (h : vt_H) : vt_N := match ls[a]? with
  | some (.int x) => some (pc + b, ls, .int x :: st, h)
  | _ => none
def vn_aload (a b pc : Nat) (ls st : List Value) (h : vt_H) : vt_N := match ls[a]? with
  | some v => if vt_rv v = true then some (pc + b, ls, v :: st, h) else none
  | _ => none
def vn_istore (a b pc : Nat) (ls st : List Value) (h : vt_H) : vt_N := match st with
  | .int x :: t => if a < ls.length then some (pc + b, ls.set a (.int x), t, h) else none
  | _ => none
def vn_astore (a b pc : Nat) (ls st : List Value) (h : vt_H) : vt_N := match st with
  | v :: t => if a < ls.length ∧ vt_rv v = true then some (pc + b, ls.set a v, t, h) else none
  | _ => none
def vn_iinc (v : Int) (a pc : Nat) (ls st : List Value) (h : vt_H) : vt_N := match ls[a]? with
  | some (.int x) => some (pc + 3, ls.set a (.int (x + Int32.ofInt v)), st, h)
  | _ => none
def vn_bin (a pc : Nat) (ls st : List Value) (h : vt_H) : vt_N := match st with
  | .int y :: .int x :: t => some (pc + 1, ls, .int (vt_bin a x y) :: t, h)
  | _ => none
def vn_div (pc : Nat) (ls st : List Value) (h : vt_H) : vt_N := match st with
  | .int y :: .int x :: t => if y = 0 then none else some (pc + 1, ls, .int (x / y) :: t, h)
  | _ => none
def vn_rem (pc : Nat) (ls st : List Value) (h : vt_H) : vt_N := match st with
  | .int y :: .int x :: t => if y = 0 then none else some (pc + 1, ls, .int (x - x / y * y) :: t, h)
  | _ => none
def vn_neg (pc : Nat) (ls st : List Value) (h : vt_H) : vt_N := match st with
  | .int x :: t => some (pc + 1, ls, .int (-x) :: t, h)
  | _ => none
def vn_dup (pc : Nat) (ls st : List Value) (h : vt_H) : vt_N := match st with
  | v :: t => if v.category = 1 then some (pc + 1, ls, v :: v :: t, h) else none
  | _ => none
def vn_pop (pc : Nat) (ls st : List Value) (h : vt_H) : vt_N := match st with
  | v :: t => if v.category = 1 then some (pc + 1, ls, t, h) else none
  | _ => none
def vn_dupx1 (pc : Nat) (ls st : List Value) (h : vt_H) : vt_N := match st with
  | v :: w :: t => if v.category = 1 ∧ w.category = 1 then some (pc + 1, ls, v :: w :: v :: t, h) else none
  | _ => none
def vn_dupx2 (pc : Nat) (ls st : List Value) (h : vt_H) : vt_N := match st with
  | v :: w :: y :: t => if v.category = 1 ∧ w.category = 1 ∧ y.category = 1 then some (pc + 1, ls, v :: w :: y :: v :: t, h) else none
  | _ => none
def vn_dup2 (pc : Nat) (ls st : List Value) (h : vt_H) : vt_N := match st with
  | v :: w :: t => if v.category = 1 ∧ w.category = 1 then some (pc + 1, ls, v :: w :: v :: w :: t, h) else none
  | _ => none
def vn_if (a b c : Nat) (ls st : List Value) (h : vt_H) : vt_N := match st with
  | .int x :: t => some (if vt_cmp a x 0 = true then b else c, ls, t, h)
  | _ => none
def vn_icmp (a b c : Nat) (ls st : List Value) (h : vt_H) : vt_N := match st with
  | .int y :: .int x :: t => some (if vt_cmp a x y = true then b else c, ls, t, h)
  | _ => none
def vn_null (pc : Nat) (ls st : List Value) (h : vt_H) : vt_N := some (pc + 1, ls, .null :: st, h)
def vn_ifnull (b c pc : Nat) (ls st : List Value) (h : vt_H) : vt_N := match st with
  | .null :: t => some (b, ls, t, h)
  | .ref _ :: t => some (c, ls, t, h)
  | _ => none
def vn_getI (ci k pc : Nat) (ls st : List Value) (h : vt_H) : vt_N := match st with
  | .ref r :: t => if vh_K h r = 100 + ci then some (pc + 3, ls, .int (vh_I h r k) :: t, h) else none
  | _ => none
def vn_getR (ci k pc : Nat) (ls st : List Value) (h : vt_H) : vt_N := match st with
  | .ref r :: t => if vh_K h r = 100 + ci then some (pc + 3, ls, va_rf (vh_R h r k) :: t, h) else none
  | _ => none
def vn_putI (v : Int) (ci k pc : Nat) (ls st : List Value) (h : vt_H) : vt_N := match st with
  | .int x :: .ref r :: t => if vh_K h r = 100 + ci ∧ (v = 1 → x = 0 ∨ x = 1) then some (pc + 3, ls, t, vh_wI h r k x) else none
  | _ => none
def vn_putR (ci k pc : Nat) (ls st : List Value) (h : vt_H) : vt_N := match st with
  | .ref y :: .ref r :: t => if vh_K h r = 100 + ci then some (pc + 3, ls, t, vh_wR h r k (some y)) else none
  | .null :: .ref r :: t => if vh_K h r = 100 + ci then some (pc + 3, ls, t, vh_wR h r k none) else none
  | _ => none
def vn_iald (pc : Nat) (ls st : List Value) (h : vt_H) : vt_N := match st with
  | .int i :: .ref r :: t => if vh_K h r = 1 ∧ ¬ (i < 0 ∨ vh_Z h r ≤ i.toNatClampNeg) then some (pc + 1, ls, .int (vh_I h r i.toNatClampNeg) :: t, h) else none
  | .int i :: .retAddr 1 :: t => if ¬ (i < 0 ∨ vh_L h ≤ i.toNatClampNeg) then some (pc + 1, ls, .int (vh_X h i.toNatClampNeg) :: t, h) else none
  | _ => none
def vn_iast (pc : Nat) (ls st : List Value) (h : vt_H) : vt_N := match st with
  | .int x :: .int i :: .ref r :: t => if vh_K h r = 1 ∧ ¬ (i < 0 ∨ vh_Z h r ≤ i.toNatClampNeg) then some (pc + 1, ls, t, vh_wI h r i.toNatClampNeg x) else none
  | _ => none
def vn_aald (a pc : Nat) (ls st : List Value) (h : vt_H) : vt_N := match st with
  | .int i :: .ref r :: t => if vh_K h r = a ∧ ¬ (i < 0 ∨ vh_Z h r ≤ i.toNatClampNeg) then some (pc + 1, ls, va_rf (vh_R h r i.toNatClampNeg) :: t, h) else none
  | _ => none
def vn_aast (a b pc : Nat) (ls st : List Value) (h : vt_H) : vt_N := match st with
  | .ref y :: .int i :: .ref r :: t => if (vh_K h r = a ∧ vh_K h y = b) ∧ ¬ (i < 0 ∨ vh_Z h r ≤ i.toNatClampNeg) then some (pc + 1, ls, t, vh_wR h r i.toNatClampNeg (some y)) else none
  | _ => none
def vn_alen (pc : Nat) (ls st : List Value) (h : vt_H) : vt_N := match st with
  | .ref r :: t => if 0 < vh_K h r ∧ vh_K h r < 100 then some (pc + 1, ls, .int (Int32.ofNat (vh_Z h r)) :: t, h) else none
  | .retAddr 1 :: t => some (pc + 1, ls, .int (Int32.ofNat (vh_L h)) :: t, h)
  | _ => none
def vn_newa (k len pc : Nat) (ls st : List Value) (h : vt_H) : vt_N := match st with
  | .int i :: t => if ¬ i < 0 ∧ i.toNatClampNeg ≤ 100000000 then some (pc + len, ls, .ref (vh_n h) :: t, vh_new h k i.toNatClampNeg i.toNatClampNeg) else none
  | _ => none
def vn_new (ci w pc : Nat) (ls st : List Value) (h : vt_H) : vt_N := some (pc + 3, ls, .ref (vh_n h) :: st, vh_new h (100 + ci) 0 w)
def vn_copy (pc : Nat) (ls st : List Value) (h : vt_H) : vt_N := match st with
  | .int n :: .int dp :: .ref a :: .int sp :: .ref a0 :: t => if (vh_K h a = 1 ∧ vh_K h a0 = 1 ∧ t.length ≤ 8) ∧ ¬ sp < 0 ∧ ¬ dp < 0 ∧ ¬ n < 0 ∧ sp.toNatClampNeg + n.toNatClampNeg ≤ vh_Z h a0 ∧ dp.toNatClampNeg + n.toNatClampNeg ≤ vh_Z h a then some (pc + 3, ls, t, vh_cp h a0 sp.toNatClampNeg a dp.toNatClampNeg n.toNatClampNeg) else none
  | _ => none
def vn_oinit (pc : Nat) (ls st : List Value) (h : vt_H) : vt_N := match st with
  | .ref _ :: t => if t.length ≤ 8 then some (pc + 3, ls, t, h) else none
  | _ => none
def vn_zald (pc : Nat) (ls st : List Value) (h : vt_H) : vt_N := match st with
  | .int i :: .ref r :: t => if vh_K h r = 4 ∧ ¬ (i < 0 ∨ vh_Z h r ≤ i.toNatClampNeg) then some (pc + 1, ls, .int (vh_I h r i.toNatClampNeg) :: t, h) else none
  | _ => none
def vn_zast (pc : Nat) (ls st : List Value) (h : vt_H) : vt_N := match st with
  | .int x :: .int i :: .ref r :: t => if (vh_K h r = 4 ∧ (x = 0 ∨ x = 1)) ∧ ¬ (i < 0 ∨ vh_Z h r ≤ i.toNatClampNeg) then some (pc + 1, ls, t, vh_wI h r i.toNatClampNeg x) else none
  | _ => none
/-- the law's switch, from 0 on -/
def vn_sw (a b : Nat) (ls st : List Value) (h : vt_H) : vt_N := match st with
  | .int x :: t => some (if x < 0 ∨ nI a ≤ x then b else vt_sw.getD x.toNatClampNeg 0, ls, t, h)
  | _ => none
/-- new int[n][k]: the outer array, then n inner ones -/
def vh_mul (h : vt_H) (n k : Nat) : vt_H := ((vh_n h + (1 + n), vh_u h + (n + n * k)), (fun b => if b < vh_n h then vh_K h b else if b = vh_n h then 3 else if b ≤ vh_n h + n then 1 else vh_K h b, fun b => if b < vh_n h then vh_Z h b else if b = vh_n h then n else if b ≤ vh_n h + n then k else vh_Z h b), (fun b j => if b < vh_n h ∨ vh_n h + n < b then vh_I h b j else 0, fun b j => if b < vh_n h ∨ vh_n h < b then vh_R h b j else if j < n then some (vh_n h + 1 + j) else none), h.2.2.2)
def vn_multi (pc : Nat) (ls st : List Value) (h : vt_H) : vt_N := match st with
  | .int k :: .int n :: t => if (¬ k < 0 ∧ k.toNatClampNeg ≤ 1000000) ∧ ¬ n < 0 ∧ n.toNatClampNeg ≤ 1000000 then some (pc + 4, ls, .ref (vh_n h) :: t, vh_mul h n.toNatClampNeg k.toNatClampNeg) else none
  | _ => none
def vn_max (pc : Nat) (ls st : List Value) (h : vt_H) : vt_N := match st with
  | .int y :: .int x :: t => if t.length ≤ 8 then some (pc + 3, ls, .int (if x < y then y else x) :: t, h) else none
  | _ => none
/-- one instruction that is no call and no return -/
def vt_nx (i : vt_I) (pc : Nat) (ls st : List Value) (h : vt_H) : vt_N := match i with
  | (op, _, v, a, b, _, _) => match op with
    | 0 => some (pc + a, ls, .int (Int32.ofInt v) :: st, h)
    | 1 => vn_iload a b pc ls st h
    | 2 => vn_aload a b pc ls st h
    | 3 => vn_istore a b pc ls st h
    | 4 => vn_astore a b pc ls st h
    | 5 => vn_iinc v a pc ls st h
    | 6 => vn_bin a pc ls st h
    | 7 => vn_div pc ls st h
    | 8 => vn_rem pc ls st h
    | 9 => vn_neg pc ls st h
    | 10 => vn_dup pc ls st h
    | 11 => vn_pop pc ls st h
    | 12 => vn_dupx1 pc ls st h
    | 13 => vn_dupx2 pc ls st h
    | 14 => vn_dup2 pc ls st h
    | 15 => vn_if a b (pc + 3) ls st h
    | 16 => vn_icmp a b (pc + 3) ls st h
    | 17 => some (b, ls, st, h)
    | 18 => vn_ifnull b (pc + 3) pc ls st h
    | 19 => vn_ifnull (pc + 3) b pc ls st h
    | 20 => vn_null pc ls st h
    | 21 => vn_getI a b pc ls st h
    | 22 => vn_getR a b pc ls st h
    | 23 => vn_putI v a b pc ls st h
    | 24 => vn_putR a b pc ls st h
    | 25 => vn_iald pc ls st h
    | 26 => vn_iast pc ls st h
    | 27 => vn_aald a pc ls st h
    | 28 => vn_aast a b pc ls st h
    | 29 => vn_alen pc ls st h
    | 30 => vn_newa 1 2 pc ls st h
    | 31 => vn_newa a 3 pc ls st h
    | 32 => vn_new a b pc ls st h
    | 33 => vn_multi pc ls st h
    | 34 => vn_copy pc ls st h
    | 35 => vn_oinit pc ls st h
    | 36 => vn_zald pc ls st h
    | 37 => vn_zast pc ls st h
    | 38 => vn_sw a b ls st h
    | 39 => vn_newa 4 2 pc ls st h
    | 41 => vn_max pc ls st h
    | _ => none
def vt_i (m pc : Nat) : vt_I := ((vt_code m).lookup pc).getD (999, 0, 0, 0, 0, 0, 0)
abbrev vt_Q : Type := Option Value → vt_H → Prop
abbrev vt_C : Type := Nat → Nat → List Value → List Value → vt_H → vt_Q → Prop
/-- the receiver of a call (the argument below all others) is an object of the class, where the call has one -/
def vt_rcv (k : Int) (b : Nat) (st : List Value) (h : vt_H) : Prop := if k = 0 then True else ∃ r, st[b - 1]? = some (.ref r) ∧ (vh_K h r : Int) = k
/-- what a method may give back -/
def vt_back (m : Nat) (st : List Value) (h : vt_H) (Q : vt_Q) : Prop := match st with
  | [.int x] => ((vt_m m).2.2.2 = some .boolean → x = 0 ∨ x = 1) ∧ Q (some (.int x)) h
  | _ => False
def vt_backR (st : List Value) (h : vt_H) (Q : vt_Q) : Prop := match st with
  | [v] => vt_rv v = true ∧ Q (some v) h
  | _ => False
def vt_step (P : vt_C) : vt_C := fun m pc ls st h Q => match vt_i m pc with
  | (op, w, v, a, b, c, e) => match op with
    | 40 => (b ≤ st.length ∧ (st.drop b).length ≤ 8 ∧ (∀ x ∈ st.drop b, x.category = 1) ∧ (∀ x ∈ st.take b, x.category = 1)) ∧ vt_rcv v b st h ∧ P a 0 ((st.take b).reverse ++ List.replicate ((vt_m a).2.2.1 - b) vt_un) [] h (fun v h' => P m (pc + 3) ls (v.toList ++ st.drop b) h' Q)
    | 50 => vt_back m st h Q
    | 51 => st = [] ∧ Q none h
    | 52 => vt_backR st h Q
    | _ => ∃ pc' ls' st' h', vt_nx (op, w, v, a, b, c, e) pc ls st h = some (pc', ls', st', h') ∧ P m pc' ls' st' h' Q
def vt_mono (P : vt_C) : Prop := ∀ m pc ls st h (Q1 Q2 : vt_Q), (∀ v h', Q1 v h' → Q2 v h') → P m pc ls st h Q1 → P m pc ls st h Q2
theorem vt_step_mono {P P' : vt_C} (hP : ∀ m pc ls st h Q, P m pc ls st h Q → P' m pc ls st h Q) (hm : vt_mono P') {m pc : Nat} {ls st : List Value} {h : vt_H} {Q1 Q2 : vt_Q} (hQ : ∀ v h', Q1 v h' → Q2 v h') : vt_step P m pc ls st h Q1 → vt_step P' m pc ls st h Q2 := by
  unfold vt_step
  generalize vt_i m pc = i
  obtain ⟨op, w, v, a, b, c, e⟩ := i
  dsimp only
  split
  · rintro ⟨h2, h3, h4⟩
    exact ⟨h2, h3, hm _ _ _ _ _ _ _ (fun v h' q => hm _ _ _ _ _ _ _ hQ (hP _ _ _ _ _ _ q)) (hP _ _ _ _ _ _ h4)⟩
  · unfold vt_back
    split
    · exact fun q => ⟨q.1, hQ _ _ q.2⟩
    · exact id
  · exact fun q => ⟨q.1, hQ _ _ q.2⟩
  · unfold vt_backR
    split
    · exact fun q => ⟨q.1, hQ _ _ q.2⟩
    · exact id
  · rintro ⟨pc', ls', st', h', h1, h2⟩
    exact ⟨pc', ls', st', h', h1, hm _ _ _ _ _ _ _ hQ (hP _ _ _ _ _ _ h2)⟩
/-- from here the small machine comes to an end with Q -/
def Wp (m pc : Nat) (ls st : List Value) (h : vt_H) (Q : vt_Q) : Prop := ∀ P : vt_C, vt_mono P → (∀ m pc ls st h Q, vt_step P m pc ls st h Q → P m pc ls st h Q) → P m pc ls st h Q
theorem Wp_mono : vt_mono Wp := fun m pc ls st h Q1 Q2 hQ w P hm hc => hm _ _ _ _ _ _ _ hQ (w P hm hc)
theorem Wp_of {m pc : Nat} {ls st : List Value} {h : vt_H} {Q : vt_Q} (w : vt_step Wp m pc ls st h Q) : Wp m pc ls st h Q := fun P hm hc => hc _ _ _ _ _ _ (vt_step_mono (fun _ _ _ _ _ _ q => q P hm hc) hm (fun _ _ q => q) w)
theorem Wp_iff {m pc : Nat} {ls st : List Value} {h : vt_H} {Q : vt_Q} : Wp m pc ls st h Q ↔ vt_step Wp m pc ls st h Q :=
  ⟨fun w => w (vt_step Wp) (fun _ _ _ _ _ _ _ hQ q => vt_step_mono (fun _ _ _ _ _ _ q => q) Wp_mono hQ q) (fun _ _ _ _ _ _ q => vt_step_mono (fun _ _ _ _ _ _ q => Wp_of q) Wp_mono (fun _ _ q => q) q), Wp_of⟩
theorem Wp.mono {m pc : Nat} {ls st : List Value} {h : vt_H} {Q1 Q2 : vt_Q} (w : Wp m pc ls st h Q1) (hQ : ∀ v h', Q1 v h' → Q2 v h') : Wp m pc ls st h Q2 := Wp_mono _ _ _ _ _ _ _ hQ w
/-- there is one end -/
theorem Wp_one {m pc : Nat} {ls st : List Value} {h : vt_H} {Q : vt_Q} (w : Wp m pc ls st h Q) : ∃ v h', Q v h' ∧ Wp m pc ls st h (fun v1 h1 => v1 = v ∧ h1 = h') := by
  refine w (fun m pc ls st h Q => ∃ v h', Q v h' ∧ Wp m pc ls st h (fun v1 h1 => v1 = v ∧ h1 = h')) ?_ ?_
  · rintro m pc ls st h Q1 Q2 hQ ⟨v, h', q, w⟩
    exact ⟨v, h', hQ _ _ q, w⟩
  · intro m pc ls st h Q
    unfold vt_step
    intro hh
    suffices g : ∃ v h', Q v h' ∧ vt_step Wp m pc ls st h (fun v1 h1 => v1 = v ∧ h1 = h') by
      obtain ⟨v, h', q, s⟩ := g
      exact ⟨v, h', q, Wp_of s⟩
    unfold vt_step
    revert hh
    generalize vt_i m pc = i
    obtain ⟨op, w, v, a, b, c, e⟩ := i
    dsimp only
    split
    · rintro ⟨h2, h3, v1, h1', ⟨v2, h2', q, w2⟩, w1⟩
      exact ⟨v2, h2', q, h2, h3, w1.mono (fun v h' e => by obtain ⟨rfl, rfl⟩ := e; exact w2)⟩
    · unfold vt_back
      split
      · exact fun q => ⟨_, _, q.2, q.1, rfl, rfl⟩
      · exact fun q => q.elim
    · exact fun q => ⟨_, _, q.2, q.1, rfl, rfl⟩
    · unfold vt_backR
      split
      · exact fun q => ⟨_, _, q.2, q.1, rfl, rfl⟩
      · exact fun q => q.elim
    · rintro ⟨pc', ls', st', h', h1, v2, h2', q, w2⟩
      exact ⟨v2, h2', q, pc', ls', st', h', h1, w2⟩
theorem Wp_and {m pc : Nat} {ls st : List Value} {h : vt_H} {Q1 Q2 : vt_Q} (w1 : Wp m pc ls st h Q1) (w2 : Wp m pc ls st h Q2) : Wp m pc ls st h (fun v h' => Q1 v h' ∧ Q2 v h') := by
  revert Q2
  refine w1 (fun m pc ls st h Q1 => ∀ {Q2 : vt_Q}, Wp m pc ls st h Q2 → Wp m pc ls st h (fun v h' => Q1 v h' ∧ Q2 v h')) ?_ ?_
  · intro m pc ls st h Q1 Q2 hQ w Q3 w3
    exact (w w3).mono (fun v h' q => ⟨hQ _ _ q.1, q.2⟩)
  · intro m pc ls st h Q1 hh Q2 w2
    have w2 := Wp_iff.mp w2
    refine Wp_of ?_
    revert hh w2
    unfold vt_step
    generalize vt_i m pc = i
    obtain ⟨op, w, v, a, b, c, e⟩ := i
    dsimp only
    split
    · rintro ⟨h2, h3, h4⟩ ⟨k2, k3, k4⟩
      exact ⟨h2, h3, (h4 k4).mono (fun v h' q => q.1 q.2)⟩
    · unfold vt_back
      split
      · exact fun q r => ⟨q.1, q.2, r.2⟩
      · exact fun q => q.elim
    · exact fun q r => ⟨q.1, q.2, r.2⟩
    · unfold vt_backR
      split
      · exact fun q r => ⟨q.1, q.2, r.2⟩
      · exact fun q => q.elim
    · rintro ⟨pc', ls', st', h', h1, h2⟩ ⟨pc2, ls2, st2, h2', k1, k2⟩
      rw [h1] at k1
      cases k1
      exact ⟨_, _, _, _, h1, h2 k2⟩
/-- a run whose end is known rewrites -/
theorem Wp_eq {m pc : Nat} {ls st : List Value} {h : vt_H} {v : Option Value} {h' : vt_H} (w : Wp m pc ls st h (fun v1 h1 => v1 = v ∧ h1 = h')) (Q : vt_Q) : Wp m pc ls st h Q ↔ Q v h' := by
  refine ⟨fun w2 => ?_, fun q => w.mono (fun _ _ e => by obtain ⟨rfl, rfl⟩ := e; exact q)⟩
  obtain ⟨v3, h3, q3, -⟩ := Wp_one (Wp_and w w2)
  obtain ⟨⟨rfl, rfl⟩, q⟩ := q3
  exact q
theorem Wp_eq' {m pc : Nat} {ls st : List Value} {h : vt_H} {v : Option Value} {h' : vt_H} (w : ∀ Q : vt_Q, Q v h' → Wp m pc ls st h Q) (Q : vt_Q) : Wp m pc ls st h Q ↔ Q v h' := Wp_eq (w _ ⟨rfl, rfl⟩) Q
-- ===== ROWS THAT REWRITE: a step of the small machine as an equivalence =====
section WR
variable {m pc : Nat} {i : vt_I} {ls st ls' st' : List Value} {h h' : vt_H} {Q : vt_Q} {pc' p1 p2 : Nat}
def vt_pl (i : vt_I) : Bool := !(i.1 == 40) && !(i.1 == 50) && !(i.1 == 51) && !(i.1 == 52)
theorem w_step (hi : vt_i m pc = i) (hp : vt_pl i = true) : Wp m pc ls st h Q ↔ ∃ pc' ls' st' h', vt_nx i pc ls st h = some (pc', ls', st', h') ∧ Wp m pc' ls' st' h' Q := by
  rw [Wp_iff]
  unfold vt_step
  rw [hi]
  obtain ⟨op, w, v, a, b, c, e⟩ := i
  dsimp only
  split
  · simp [vt_pl] at hp
  · simp [vt_pl] at hp
  · simp [vt_pl] at hp
  · simp [vt_pl] at hp
  · exact Iff.rfl
theorem w_nx (hi : vt_i m pc = i) (hp : vt_pl i = true) (hn : vt_nx i pc ls st h = some (pc', ls', st', h')) : Wp m pc ls st h Q ↔ Wp m pc' ls' st' h' Q := by
  rw [w_step hi hp]
  constructor
  · rintro ⟨a1, a2, a3, a4, k1, k2⟩
    rw [hn] at k1
    cases k1
    exact k2
  · exact fun k => ⟨_, _, _, _, hn, k⟩
theorem w_g {c : Prop} [Decidable c] (hi : vt_i m pc = i) (hp : vt_pl i = true) (hn : vt_nx i pc ls st h = if c then some (pc', ls', st', h') else none) : Wp m pc ls st h Q ↔ c ∧ Wp m pc' ls' st' h' Q := by
  rw [w_step hi hp]
  constructor
  · rintro ⟨a1, a2, a3, a4, k1, k2⟩
    rw [hn] at k1
    by_cases hc : c
    · rw [if_pos hc] at k1
      cases k1
      exact ⟨hc, k2⟩
    · rw [if_neg hc] at k1
      cases k1
  · rintro ⟨hc, k⟩
    exact ⟨_, _, _, _, by rw [hn, if_pos hc], k⟩
theorem w_br {c : Prop} [Decidable c] (hi : vt_i m pc = i) (hp : vt_pl i = true) (hn : vt_nx i pc ls st h = some (if decide c = true then p1 else p2, ls', st', h')) : Wp m pc ls st h Q ↔ if c then Wp m p1 ls' st' h' Q else Wp m p2 ls' st' h' Q := by
  rw [w_nx hi hp hn]
  by_cases hc : c
  · rw [if_pos hc, if_pos (decide_eq_true hc)]
  · rw [if_neg hc, if_neg (by simpa using hc)]
theorem w_call {w : Nat} {v : Int} {a b c e : Nat} (hi : vt_i m pc = (40, w, v, a, b, c, e)) (hb : b ≤ st.length) (h8 : (st.drop b).length ≤ 8) (h1 : ∀ x ∈ st.drop b, x.category = 1) (h2 : ∀ x ∈ st.take b, x.category = 1) : Wp m pc ls st h Q ↔ vt_rcv v b st h ∧ Wp a 0 ((st.take b).reverse ++ List.replicate ((vt_m a).2.2.1 - b) vt_un) [] h (fun v h' => Wp m (pc + 3) ls (v.toList ++ st.drop b) h' Q) := by
  rw [Wp_iff]
  unfold vt_step
  rw [hi]
  dsimp only
  constructor
  · rintro ⟨-, k2, k3⟩
    exact ⟨k2, k3⟩
  · rintro ⟨k2, k3⟩
    exact ⟨⟨hb, h8, h1, h2⟩, k2, k3⟩
/-- a call without a receiver, and one with a receiver of kind k -/
theorem w_callS {w : Nat} {a b c e : Nat} {as : List Value} (hi : vt_i m pc = (40, w, 0, a, b, c, e)) (hb : decide (b ≤ st.length ∧ (st.drop b).length ≤ 8) = true) (h1 : ∀ x ∈ st, x.category = 1) (ha : (st.take b).reverse ++ List.replicate ((vt_m a).2.2.1 - b) vt_un = as) (hd : st.drop b = st') (hp : pc + 3 = pc') : Wp m pc ls st h Q ↔ Wp a 0 as [] h (fun v h' => Wp m pc' ls (v.toList ++ st') h' Q) := by
  subst ha; subst hd; subst hp
  have hb := of_decide_eq_true hb
  rw [w_call hi hb.1 hb.2 (fun x hx => h1 x (List.mem_of_mem_drop hx)) (fun x hx => h1 x (List.mem_of_mem_take hx))]
  simp [vt_rcv]
theorem w_callV {w k : Nat} {a b c e r : Nat} {as : List Value} (hi : vt_i m pc = (40, w, (k : Int), a, b, c, e)) (hk : decide (k ≠ 0) = true) (hr : st[b - 1]? = some (.ref r)) (hb : decide (b ≤ st.length ∧ (st.drop b).length ≤ 8) = true) (h1 : ∀ x ∈ st, x.category = 1) (ha : (st.take b).reverse ++ List.replicate ((vt_m a).2.2.1 - b) vt_un = as) (hd : st.drop b = st') (hp : pc + 3 = pc') : Wp m pc ls st h Q ↔ vh_K h r = k ∧ Wp a 0 as [] h (fun v h' => Wp m pc' ls (v.toList ++ st') h' Q) := by
  subst ha; subst hd; subst hp
  have hb := of_decide_eq_true hb
  have hk := of_decide_eq_true hk
  rw [w_call hi hb.1 hb.2 (fun x hx => h1 x (List.mem_of_mem_drop hx)) (fun x hx => h1 x (List.mem_of_mem_take hx))]
  refine and_congr_left (fun _ => ?_)
  unfold vt_rcv
  rw [if_neg (by omega), hr]
  constructor
  · rintro ⟨r', e1, e2⟩
    cases e1
    omega
  · intro q
    exact ⟨r, rfl, by omega⟩
theorem w_iret {w : Nat} {v : Int} {a b c e : Nat} {x : Int32} (hi : vt_i m pc = (50, w, v, a, b, c, e)) (hb : decide ((vt_m m).2.2.2 = some .boolean) = false) : Wp m pc ls [.int x] h Q ↔ Q (some (.int x)) h := by
  rw [Wp_iff]
  unfold vt_step
  rw [hi]
  dsimp only [vt_back]
  have hb := of_decide_eq_false hb
  exact ⟨fun q => q.2, fun q => ⟨fun z => absurd z hb, q⟩⟩
theorem w_zret {w : Nat} {v : Int} {a b c e : Nat} {x : Int32} (hi : vt_i m pc = (50, w, v, a, b, c, e)) (hb : decide ((vt_m m).2.2.2 = some .boolean) = true) : Wp m pc ls [.int x] h Q ↔ (x = 0 ∨ x = 1) ∧ Q (some (.int x)) h := by
  rw [Wp_iff]
  unfold vt_step
  rw [hi]
  dsimp only [vt_back]
  have hb := of_decide_eq_true hb
  exact ⟨fun q => ⟨q.1 hb, q.2⟩, fun q => ⟨fun _ => q.1, q.2⟩⟩
theorem w_vret {w : Nat} {v : Int} {a b c e : Nat} (hi : vt_i m pc = (51, w, v, a, b, c, e)) : Wp m pc ls [] h Q ↔ Q none h := by
  rw [Wp_iff]
  unfold vt_step
  rw [hi]
  dsimp only
  exact ⟨fun q => q.2, fun q => ⟨rfl, q⟩⟩
theorem w_aret {w : Nat} {v : Int} {a b c e r : Nat} (hi : vt_i m pc = (52, w, v, a, b, c, e)) : Wp m pc ls [.ref r] h Q ↔ Q (some (.ref r)) h := by
  rw [Wp_iff]
  unfold vt_step
  rw [hi]
  dsimp only [vt_backR]
  exact ⟨fun q => q.2, fun q => ⟨rfl, q⟩⟩
end WR
end
section
-- ===== THE SMALL MACHINE AND THE MACHINE: each step of the small one is a step of the other =====
def vt_cd (a : Nat) : ClassFile.Cond := match a with
  | 0 => .eq
  | 1 => .ne
  | 2 => .lt
  | 3 => .ge
  | 4 => .gt
  | _ => .le
def vt_dc (m pc : Nat) (x : Instr) (n : Nat) : Bool := decide (decode (vt_m m).2.1 pc = .ok (x, n))
def vt_wd (e : Nat) (w : Jvm.Cond) : Bool := decide (lw_tbl[e]? = some w) && goodWord w
theorem vt_wd_of {e : Nat} {w : Jvm.Cond} (hd : vt_wd e w = true) : w ∈ vt_T := by
  unfold vt_wd at hd
  rw [Bool.and_eq_true, decide_eq_true_eq] at hd
  exact List.mem_filter.mpr ⟨List.mem_of_getElem? hd.1, hd.2⟩
def vt_own (m : Nat) : String := (vt_m m).1.cls
def vt_binI (a : Nat) : Instr := match a with
  | 0 => .iadd
  | 1 => .isub
  | 2 => .imul
  | 3 => .iand
  | 4 => .ior
  | 5 => .ixor
  | 6 => .ishl
  | 7 => .ishr
  | _ => .iushr
/-- the words of a method that is called -/
def vt_okM (a : Nat) : Bool := match vt_mx a with
  | (k, n, _, p2, p3, p4) => (vt_wd p2 (.initialized (vt_m a).1.cls) && (decide (((vt_m a).1.cls ≠ "java/lang/invoke/MethodHandle" ∧ (vt_m a).1.cls ≠ "java/lang/invoke/VarHandle" ∧ (parseMethodDescriptor (vt_m a).1.desc).map (fun d => d.parameters.length) = some n) ∧ plainName (vt_m a).1.cls = true ∧ (vt_m a).2.2.1 ≤ 20) && (match k with
    | 0 => vt_wd p3 (.static (vt_m a).1)
    | 1 => vt_wd p3 (.instanceMethod (vt_m a).1) && vt_wd p4 (.selects (vt_m a).1.cls (vt_m a).1 (vt_m a).1)
    | 2 => vt_wd p3 (.instanceMethod (vt_m a).1) && decide ((vt_m a).1.name = "<init>" ∧ (vt_m a).2.2.2 = none)
    | _ => false)))
def vt_okV (v : Int) (a : Nat) : Bool := decide (100 ≤ v) && (match vt_cl[(v - 100).toNat]? with
  | some (C, _, _) => decide (C = (vt_m a).1.cls)
  | none => false)
/-- a field is read -/
def vt_okG (m pc a b c e : Nat) : Bool := match vt_cl[a]? with
  | some (_, T, N) => decide (b < N) && (vt_dc m pc (.getfield c) 3 && vt_wd e (.fieldLink (vt_own m) c (T b).1 (T b).2.1 (T b).2.2.1))
  | none => false
/-- a field is written -/
def vt_okP (m pc w a b c e : Nat) : Bool := match vt_cl[a]? with
  | some (_, T, N) => decide (b < N) && (vt_dc m pc (.putfield c) 3 && (match w with
    | 0 => vt_wd e (.fieldLink (vt_own m) c (T b).1 (T b).2.1 (T b).2.2.1) && decide ((T b).2.2.2 = false)
    | _ => vt_wd e (.fieldLink (vt_own m) c (T b).1 (T b).2.1 (T b).2.2.1) && decide ((T b).2.2.2 = true ∧ (vt_m m).1.name = "<init>" ∧ (T b).1 = vt_own m)))
  | none => false
/-- an array of objects takes an object; one of rows a row -/
def vt_okS (a b : Nat) : Bool := decide (a = 3 ∧ b = 1) || (decide (a = 2 ∧ b = 103))
def vt_okA (m a c e : Nat) : Bool := decide (a = 2) && vt_wd e (.classLink (vt_own m) c "RuleEngine$Rule")
def vt_okN (m a b c e : Nat) : Bool := match vt_cl[a]? with
  | some (C, _, N) => decide (b = N) && vt_wd e (.classLink (vt_own m) c C)
  | none => false
/-- a call: w 0 or, of a nest mate, 1 -/
def vt_okC (m pc w : Nat) (v : Int) (a b c e : Nat) : Bool :=
  decide (vt_dp a < vt_dp m ∧ 0 < a ∧ a < 117 ∧ a ≠ 41 ∧ b ≤ (vt_m a).2.2.1) && ((match w with
    | 0 => vt_wd e (.methodLink (vt_own m) c (vt_m a).1)
    | _ => decide (vt_NL[e]? = some (vt_own m, c, (vt_m a).1))) && (match (vt_mx a).1 with
    | 0 => vt_dc m pc (.invokestatic c) 3 && decide (v = 0 ∧ b = (vt_mx a).2.1)
    | 1 => vt_dc m pc (.invokevirtual c) 3 && (vt_okV v a && decide (b = (vt_mx a).2.1 + 1))
    | _ => vt_dc m pc (.invokespecial c) 3 && decide (100 ≤ v ∧ b = (vt_mx a).2.1 + 1)))
/-- the law's switch -/
def vt_okW (m pc a b c : Nat) : Bool := decide (a = 15) && vt_dc m pc (.tableswitch ((b : Int) - (pc : Int)) 0 14 (vt_sw.map (fun t : Nat => (t : Int) - (pc : Int))).toArray) c
/-- what a row of the code table must be true of -/
def vt_okb (m pc : Nat) (i : vt_I) : Bool := match i with
  | (op, w, v, a, b, c, e) => match op with
    | 0 => match w with
      | 0 => decide (a = 1) && vt_dc m pc (.iconst v) 1
      | 1 => decide (a = 2) && (vt_dc m pc (.bipush v) 2 && decide ((Int8.ofInt v).toInt32 = Int32.ofInt v))
      | 2 => decide (a = 3) && (vt_dc m pc (.sipush v) 3 && decide ((Int16.ofInt v).toInt32 = Int32.ofInt v))
      | 3 => decide (a = 2) && (vt_dc m pc (.ldc b) 2 && vt_wd e (.constant (vt_own m) b (Int32.ofInt v)))
      | _ => decide (a = 3) && (vt_dc m pc (.ldc_w b) 3 && vt_wd e (.constant (vt_own m) b (Int32.ofInt v)))
    | 1 => match w with
      | 0 => decide (a < 4 ∧ b = 1) && vt_dc m pc (.iload_n (Fin.ofNat 4 a)) 1
      | _ => decide (b = 2) && vt_dc m pc (.iload a) 2
    | 2 => match w with
      | 0 => decide (a < 4 ∧ b = 1) && vt_dc m pc (.aload_n (Fin.ofNat 4 a)) 1
      | _ => decide (b = 2) && vt_dc m pc (.aload a) 2
    | 3 => match w with
      | 0 => decide (a < 4 ∧ b = 1) && vt_dc m pc (.istore_n (Fin.ofNat 4 a)) 1
      | _ => decide (b = 2) && vt_dc m pc (.istore a) 2
    | 4 => match w with
      | 0 => decide (a < 4 ∧ b = 1) && vt_dc m pc (.astore_n (Fin.ofNat 4 a)) 1
      | _ => decide (b = 2) && vt_dc m pc (.astore a) 2
    | 5 => vt_dc m pc (.iinc a v) 3
    | 6 => vt_dc m pc (vt_binI a) 1
    | 7 => vt_dc m pc .idiv 1
    | 8 => vt_dc m pc .irem 1
    | 9 => vt_dc m pc .ineg 1
    | 10 => vt_dc m pc .dup 1
    | 11 => vt_dc m pc .pop 1
    | 12 => vt_dc m pc .dup_x1 1
    | 13 => vt_dc m pc .dup_x2 1
    | 14 => vt_dc m pc .dup2 1
    | 15 => vt_dc m pc (.ifCond (vt_cd a) ((b : Int) - (pc : Int))) 3
    | 16 => vt_dc m pc (.if_icmp (vt_cd a) ((b : Int) - (pc : Int))) 3
    | 17 => vt_dc m pc (.goto ((b : Int) - (pc : Int))) 3
    | 18 => vt_dc m pc (.ifnull ((b : Int) - (pc : Int))) 3
    | 19 => vt_dc m pc (.ifnonnull ((b : Int) - (pc : Int))) 3
    | 20 => vt_dc m pc .aconst_null 1
    | 21 => vt_okG m pc a b c e && decide (vt_ref a b = false)
    | 22 => vt_okG m pc a b c e && decide (vt_ref a b = true)
    | 23 => vt_okP m pc w a b c e && (decide (vt_ref a b = false) && (decide (v = 0 ∧ vt_ty a b = .int) || decide (v = 1 ∧ vt_ty a b = .boolean)))
    | 24 => vt_okP m pc w a b c e && (decide (vt_ref a b = true) && vt_isobj (vt_ty a b))
    | 25 => vt_dc m pc .iaload 1
    | 26 => vt_dc m pc .iastore 1
    | 27 => vt_dc m pc .aaload 1 && decide (1 < a ∧ a < 100 ∧ a ≠ 4)
    | 28 => vt_dc m pc .aastore 1 && vt_okS a b
    | 29 => vt_dc m pc .arraylength 1
    | 30 => vt_dc m pc (.newarray .int) 2
    | 31 => vt_dc m pc (.anewarray c) 3 && vt_okA m a c e
    | 32 => vt_dc m pc (.new c) 3 && vt_okN m a b c e
    | 33 => vt_dc m pc (.multianewarray c 2) 4 && vt_wd e (.classLink (vt_own m) c "[[I")
    | 34 => vt_dc m pc (.invokestatic c) 3 && vt_wd e (.methodLink (vt_own m) c arraycopyName)
    | 35 => vt_dc m pc (.invokespecial c) 3 && vt_wd e (.methodLink (vt_own m) c Lib.objectInit)
    | 36 => vt_dc m pc .baload 1
    | 37 => vt_dc m pc .bastore 1
    | 38 => vt_okW m pc a b c
    | 39 => vt_dc m pc (.newarray .boolean) 2
    | 40 => vt_okC m pc w v a b c e
    | 41 => vt_dc m pc (.invokestatic c) 3 && vt_wd e (.methodLink (vt_own m) c Lib.Math.max.name)
    | 50 => vt_dc m pc .ireturn 1 && (decide ((vt_m m).2.2.2 = some .int) || decide ((vt_m m).2.2.2 = some .boolean))
    | 51 => vt_dc m pc .return_ 1 && decide ((vt_m m).2.2.2 = none)
    | 52 => vt_dc m pc .areturn 1 && (match (vt_m m).2.2.2 with | some ty => vt_isobj ty | none => false)
    | _ => false
theorem vt_lkm {β : Type} {l : List (Nat × β)} {k : Nat} {b : β} (h : l.lookup k = some b) : (k, b) ∈ l := by
  obtain ⟨l1, l2, e, -⟩ := List.lookup_eq_some_iff.mp h
  rw [e]
  simp
theorem vt_T_good : ∀ w ∈ vt_T, (w.onTables && w.keeps) = true ∨ ∃ ty, w = Jvm.Cond.arrayClass ty := fun w hw => good_of_word (List.mem_filter.mp hw).2
theorem vt_clw0 : ∀ w ∈ u_ws "RuleEngine$Cases" vt_T0 16, w ∈ vt_T := by
  have h : u_ws "RuleEngine$Cases" vt_T0 16 = ([137, 139, 141, 143, 145, 147, 149, 151, 153, 155, 157, 159, 161, 163, 165, 167] : List Nat).filterMap (fun i => lw_tbl[i]?) ∧ (u_ws "RuleEngine$Cases" vt_T0 16).all goodWord = true := by decide +kernel
  intro w hw
  refine List.mem_filter.mpr ⟨?_, List.all_eq_true.mp h.2 w hw⟩
  rw [h.1] at hw
  obtain ⟨i, -, hi⟩ := List.mem_filterMap.mp hw
  exact List.mem_of_getElem? hi
theorem vt_clt0 : (∀ k, k < 16 → parseFieldDescriptor (vt_T0 k).2.2.1 = some (vt_ty0 k)) ∧ (∀ a, a < 16 → ∀ b, b < 16 → a ≠ b → (vt_T0 a).2.1 ≠ (vt_T0 b).2.1) ∧ (∀ k, k < 16 → defaultValue (vt_ty0 k) = if vt_isobj (vt_ty0 k) = true then .null else .int 0) := ⟨by decide +kernel, by decide +kernel, by decide +kernel⟩
theorem vt_cli0 : Jvm.Cond.instantiable "RuleEngine$Cases" 16 ∈ vt_T ∧ Jvm.Cond.initialized "RuleEngine$Cases" ∈ vt_T := ⟨vt_wd_of (e := 115) (by decide +kernel), vt_wd_of (e := 48) (by decide +kernel)⟩
theorem vt_clw1 : ∀ w ∈ u_ws "RuleEngine$Facts" vt_T1 2, w ∈ vt_T := by
  have h : u_ws "RuleEngine$Facts" vt_T1 2 = ([74, 76] : List Nat).filterMap (fun i => lw_tbl[i]?) ∧ (u_ws "RuleEngine$Facts" vt_T1 2).all goodWord = true := by decide +kernel
  intro w hw
  refine List.mem_filter.mpr ⟨?_, List.all_eq_true.mp h.2 w hw⟩
  rw [h.1] at hw
  obtain ⟨i, -, hi⟩ := List.mem_filterMap.mp hw
  exact List.mem_of_getElem? hi
theorem vt_clt1 : (∀ k, k < 2 → parseFieldDescriptor (vt_T1 k).2.2.1 = some (vt_ty1 k)) ∧ (∀ a, a < 2 → ∀ b, b < 2 → a ≠ b → (vt_T1 a).2.1 ≠ (vt_T1 b).2.1) ∧ (∀ k, k < 2 → defaultValue (vt_ty1 k) = if vt_isobj (vt_ty1 k) = true then .null else .int 0) := ⟨by decide +kernel, by decide +kernel, by decide +kernel⟩
theorem vt_cli1 : Jvm.Cond.instantiable "RuleEngine$Facts" 2 ∈ vt_T ∧ Jvm.Cond.initialized "RuleEngine$Facts" ∈ vt_T := ⟨vt_wd_of (e := 64) (by decide +kernel), vt_wd_of (e := 45) (by decide +kernel)⟩
theorem vt_clw2 : ∀ w ∈ u_ws "RuleEngine$Model" vt_T2 11, w ∈ vt_T := by
  have h : u_ws "RuleEngine$Model" vt_T2 11 = ([187, 189, 191, 193, 195, 197, 199, 201, 203, 205, 207] : List Nat).filterMap (fun i => lw_tbl[i]?) ∧ (u_ws "RuleEngine$Model" vt_T2 11).all goodWord = true := by decide +kernel
  intro w hw
  refine List.mem_filter.mpr ⟨?_, List.all_eq_true.mp h.2 w hw⟩
  rw [h.1] at hw
  obtain ⟨i, -, hi⟩ := List.mem_filterMap.mp hw
  exact List.mem_of_getElem? hi
theorem vt_clt2 : (∀ k, k < 11 → parseFieldDescriptor (vt_T2 k).2.2.1 = some (vt_ty2 k)) ∧ (∀ a, a < 11 → ∀ b, b < 11 → a ≠ b → (vt_T2 a).2.1 ≠ (vt_T2 b).2.1) ∧ (∀ k, k < 11 → defaultValue (vt_ty2 k) = if vt_isobj (vt_ty2 k) = true then .null else .int 0) := ⟨by decide +kernel, by decide +kernel, by decide +kernel⟩
theorem vt_cli2 : Jvm.Cond.instantiable "RuleEngine$Model" 11 ∈ vt_T ∧ Jvm.Cond.initialized "RuleEngine$Model" ∈ vt_T := ⟨vt_wd_of (e := 81) (by decide +kernel), vt_wd_of (e := 46) (by decide +kernel)⟩
theorem vt_clw3 : ∀ w ∈ u_ws "RuleEngine$Rule" vt_T3 10, w ∈ vt_T := by
  have h : u_ws "RuleEngine$Rule" vt_T3 10 = ([247, 249, 251, 253, 255, 257, 259, 261, 263, 265] : List Nat).filterMap (fun i => lw_tbl[i]?) ∧ (u_ws "RuleEngine$Rule" vt_T3 10).all goodWord = true := by decide +kernel
  intro w hw
  refine List.mem_filter.mpr ⟨?_, List.all_eq_true.mp h.2 w hw⟩
  rw [h.1] at hw
  obtain ⟨i, -, hi⟩ := List.mem_filterMap.mp hw
  exact List.mem_of_getElem? hi
theorem vt_clt3 : (∀ k, k < 10 → parseFieldDescriptor (vt_T3 k).2.2.1 = some (vt_ty3 k)) ∧ (∀ a, a < 10 → ∀ b, b < 10 → a ≠ b → (vt_T3 a).2.1 ≠ (vt_T3 b).2.1) ∧ (∀ k, k < 10 → defaultValue (vt_ty3 k) = if vt_isobj (vt_ty3 k) = true then .null else .int 0) := ⟨by decide +kernel, by decide +kernel, by decide +kernel⟩
theorem vt_cli3 : Jvm.Cond.instantiable "RuleEngine$Rule" 10 ∈ vt_T ∧ Jvm.Cond.initialized "RuleEngine$Rule" ∈ vt_T := ⟨vt_wd_of (e := 212) (by decide +kernel), vt_wd_of (e := 49) (by decide +kernel)⟩
theorem vt_clw4 : ∀ w ∈ u_ws "RuleEngine$Strata" vt_T4 5, w ∈ vt_T := by
  have h : u_ws "RuleEngine$Strata" vt_T4 5 = ([101, 103, 105, 107, 109] : List Nat).filterMap (fun i => lw_tbl[i]?) ∧ (u_ws "RuleEngine$Strata" vt_T4 5).all goodWord = true := by decide +kernel
  intro w hw
  refine List.mem_filter.mpr ⟨?_, List.all_eq_true.mp h.2 w hw⟩
  rw [h.1] at hw
  obtain ⟨i, -, hi⟩ := List.mem_filterMap.mp hw
  exact List.mem_of_getElem? hi
theorem vt_clt4 : (∀ k, k < 5 → parseFieldDescriptor (vt_T4 k).2.2.1 = some (vt_ty4 k)) ∧ (∀ a, a < 5 → ∀ b, b < 5 → a ≠ b → (vt_T4 a).2.1 ≠ (vt_T4 b).2.1) ∧ (∀ k, k < 5 → defaultValue (vt_ty4 k) = if vt_isobj (vt_ty4 k) = true then .null else .int 0) := ⟨by decide +kernel, by decide +kernel, by decide +kernel⟩
theorem vt_cli4 : Jvm.Cond.instantiable "RuleEngine$Strata" 5 ∈ vt_T ∧ Jvm.Cond.initialized "RuleEngine$Strata" ∈ vt_T := ⟨vt_wd_of (e := 87) (by decide +kernel), vt_wd_of (e := 47) (by decide +kernel)⟩
theorem vt_clw5 : ∀ w ∈ u_ws "RuleEngine" vt_T5 4, w ∈ vt_T := by
  have h : u_ws "RuleEngine" vt_T5 4 = ([272, 274, 276, 278] : List Nat).filterMap (fun i => lw_tbl[i]?) ∧ (u_ws "RuleEngine" vt_T5 4).all goodWord = true := by decide +kernel
  intro w hw
  refine List.mem_filter.mpr ⟨?_, List.all_eq_true.mp h.2 w hw⟩
  rw [h.1] at hw
  obtain ⟨i, -, hi⟩ := List.mem_filterMap.mp hw
  exact List.mem_of_getElem? hi
theorem vt_clt5 : (∀ k, k < 4 → parseFieldDescriptor (vt_T5 k).2.2.1 = some (vt_ty5 k)) ∧ (∀ a, a < 4 → ∀ b, b < 4 → a ≠ b → (vt_T5 a).2.1 ≠ (vt_T5 b).2.1) ∧ (∀ k, k < 4 → defaultValue (vt_ty5 k) = if vt_isobj (vt_ty5 k) = true then .null else .int 0) := ⟨by decide +kernel, by decide +kernel, by decide +kernel⟩
theorem vt_cli5 : Jvm.Cond.instantiable "RuleEngine" 4 ∈ vt_T ∧ Jvm.Cond.initialized "RuleEngine" ∈ vt_T := ⟨vt_wd_of (e := 56) (by decide +kernel), vt_wd_of (e := 44) (by decide +kernel)⟩
theorem vt_clw6 : ∀ w ∈ u_ws "RuleEngineModel" vt_T6 26, w ∈ vt_T := by
  have h : u_ws "RuleEngineModel" vt_T6 26 = ([621, 623, 625, 627, 629, 631, 633, 635, 637, 639, 641, 643, 645, 647, 649, 651, 653, 655, 657, 659, 661, 663, 665, 667, 669, 671] : List Nat).filterMap (fun i => lw_tbl[i]?) ∧ (u_ws "RuleEngineModel" vt_T6 26).all goodWord = true := by decide +kernel
  intro w hw
  refine List.mem_filter.mpr ⟨?_, List.all_eq_true.mp h.2 w hw⟩
  rw [h.1] at hw
  obtain ⟨i, -, hi⟩ := List.mem_filterMap.mp hw
  exact List.mem_of_getElem? hi
theorem vt_clt6 : (∀ k, k < 26 → parseFieldDescriptor (vt_T6 k).2.2.1 = some (vt_ty6 k)) ∧ (∀ a, a < 26 → ∀ b, b < 26 → a ≠ b → (vt_T6 a).2.1 ≠ (vt_T6 b).2.1) ∧ (∀ k, k < 26 → defaultValue (vt_ty6 k) = if vt_isobj (vt_ty6 k) = true then .null else .int 0) := ⟨by decide +kernel, by decide +kernel, by decide +kernel⟩
theorem vt_cli6 : Jvm.Cond.instantiable "RuleEngineModel" 26 ∈ vt_T ∧ Jvm.Cond.initialized "RuleEngineModel" ∈ vt_T := ⟨vt_wd_of (e := 590) (by decide +kernel), vt_wd_of (e := 50) (by decide +kernel)⟩
theorem vt_clw {ci N : Nat} {C : String} {T : u_T} (hc : vt_cl[ci]? = some (C, T, N)) : ∀ w ∈ u_ws C T N, w ∈ vt_T := by
  match ci, hc with
  | 0, hc => cases hc; exact vt_clw0
  | 1, hc => cases hc; exact vt_clw1
  | 2, hc => cases hc; exact vt_clw2
  | 3, hc => cases hc; exact vt_clw3
  | 4, hc => cases hc; exact vt_clw4
  | 5, hc => cases hc; exact vt_clw5
  | 6, hc => cases hc; exact vt_clw6
  | k + 7, hc => simp [vt_cl] at hc
theorem vt_clt {ci N : Nat} {C : String} {T : u_T} (hc : vt_cl[ci]? = some (C, T, N)) : (∀ k, k < N → parseFieldDescriptor (T k).2.2.1 = some (vt_ty ci k)) ∧ (∀ a, a < N → ∀ b, b < N → a ≠ b → (T a).2.1 ≠ (T b).2.1) ∧ (∀ k, k < N → defaultValue (vt_ty ci k) = if vt_ref ci k = true then .null else .int 0) := by
  match ci, hc with
  | 0, hc => cases hc; exact vt_clt0
  | 1, hc => cases hc; exact vt_clt1
  | 2, hc => cases hc; exact vt_clt2
  | 3, hc => cases hc; exact vt_clt3
  | 4, hc => cases hc; exact vt_clt4
  | 5, hc => cases hc; exact vt_clt5
  | 6, hc => cases hc; exact vt_clt6
  | k + 7, hc => simp [vt_cl] at hc
theorem vt_cli {ci N : Nat} {C : String} {T : u_T} (hc : vt_cl[ci]? = some (C, T, N)) : Jvm.Cond.instantiable C N ∈ vt_T ∧ Jvm.Cond.initialized C ∈ vt_T := by
  match ci, hc with
  | 0, hc => cases hc; exact vt_cli0
  | 1, hc => cases hc; exact vt_cli1
  | 2, hc => cases hc; exact vt_cli2
  | 3, hc => cases hc; exact vt_cli3
  | 4, hc => cases hc; exact vt_cli4
  | 5, hc => cases hc; exact vt_cli5
  | 6, hc => cases hc; exact vt_cli6
  | k + 7, hc => simp [vt_cl] at hc
theorem lw_ovR : Jvm.Cond.arrayOver (.object "RuleEngine$Rule") ∈ lw_tbl := List.mem_of_getElem? (i := 211) (by decide +kernel)
theorem lw_ovI : Jvm.Cond.arrayOver (.array .int) ∈ lw_tbl := List.mem_of_getElem? (i := 171) (by decide +kernel)
theorem lw_nl : ∀ q ∈ vt_NL, Jvm.Cond.methodLinkNest q.1 q.2.1 q.2.2 vt_host ∈ lw_tbl := by
  have h : vt_NL.map (fun q => some (Jvm.Cond.methodLinkNest q.1 q.2.1 q.2.2 vt_host)) = ([65, 82, 88, 113, 116, 213, 295, 364, 403, 425, 439, 454, 510, 579] : List Nat).map (fun i => lw_tbl[i]?) := by decide +kernel
  intro q hq
  have hm : some (Jvm.Cond.methodLinkNest q.1 q.2.1 q.2.2 vt_host) ∈ vt_NL.map (fun q => some (Jvm.Cond.methodLinkNest q.1 q.2.1 q.2.2 vt_host)) := List.mem_map.mpr ⟨q, hq, rfl⟩
  rw [h] at hm
  obtain ⟨i, -, hi⟩ := List.mem_map.mp hm
  exact List.mem_of_getElem? hi
theorem vt_wArr : Jvm.Cond.arrayClass .int ∈ vt_T := vt_wd_of (e := 79) (by decide +kernel)
theorem vt_wArz : Jvm.Cond.arrayClass .boolean ∈ vt_T := vt_wd_of (e := 674) (by decide +kernel)
theorem vt_wMax : Jvm.Cond.static Lib.Math.max.name ∈ vt_T ∧ Jvm.Cond.initialized "java/lang/Math" ∈ vt_T ∧ Jvm.Cond.code Lib.Math.max.name Lib.Math.max.code 2 (some .int) ∈ vt_T := ⟨vt_wd_of (e := 417) (by decide +kernel), vt_wd_of (e := 53) (by decide +kernel), vt_wd_of (e := 418) (by decide +kernel)⟩
theorem vt_wCopy : Jvm.Cond.native arraycopyName ∈ vt_T ∧ Jvm.Cond.static arraycopyName ∈ vt_T ∧ Jvm.Cond.initialized "java/lang/System" ∈ vt_T := ⟨vt_wd_of (e := 385) (by decide +kernel), vt_wd_of (e := 384) (by decide +kernel), vt_wd_of (e := 51) (by decide +kernel)⟩
theorem vt_wObj : Jvm.Cond.instanceMethod Lib.objectInit ∈ vt_T ∧ Jvm.Cond.code Lib.objectInit ⟨#[0xb1]⟩ 1 none ∈ vt_T := ⟨vt_wd_of (e := 61) (by decide +kernel), vt_wd_of (e := 62) (by decide +kernel)⟩
theorem vt_ak_ref {a : Nat} {ty : FieldType} (h : vt_ak a = some ty) (h1 : 1 < a) (h4 : a ≠ 4) : ty.isReference = true := by
  have hm : (a, ty) ∈ vt_aks := vt_lkm h
  simp only [vt_aks, List.mem_cons, Prod.mk.injEq, List.not_mem_nil, or_false] at hm
  rcases hm with ⟨rfl, rfl⟩ | ⟨rfl, rfl⟩ | ⟨rfl, rfl⟩ | ⟨rfl, rfl⟩
  · omega
  · rfl
  · rfl
  · omega
theorem vt_mok1 : vt_okM 1 = true := by decide +kernel
set_option maxRecDepth 100000 in
theorem vt_mcw1 : lw_tbl[59]? = some (Jvm.Cond.code ⟨"RuleEngine", "<init>", "()V"⟩ prog_1_method_1_code 2 none) := rfl
theorem vt_mok2 : vt_okM 2 = true := by decide +kernel
set_option maxRecDepth 100000 in
theorem vt_mcw2 : lw_tbl[67]? = some (Jvm.Cond.code ⟨"RuleEngine$Facts", "<init>", "()V"⟩ prog_3_method_1_code 1 none) := rfl
theorem vt_mok3 : vt_okM 3 = true := by decide +kernel
set_option maxRecDepth 100000 in
theorem vt_mcw3 : lw_tbl[84]? = some (Jvm.Cond.code ⟨"RuleEngine$Model", "<init>", "()V"⟩ prog_4_method_1_code 1 none) := rfl
theorem vt_mok4 : vt_okM 4 = true := by decide +kernel
set_option maxRecDepth 100000 in
theorem vt_mcw4 : lw_tbl[90]? = some (Jvm.Cond.code ⟨"RuleEngine$Strata", "<init>", "()V"⟩ prog_6_method_1_code 1 none) := rfl
theorem vt_mok5 : vt_okM 5 = true := by decide +kernel
set_option maxRecDepth 100000 in
theorem vt_mcw5 : lw_tbl[118]? = some (Jvm.Cond.code ⟨"RuleEngine$Cases", "<init>", "()V"⟩ prog_2_method_1_code 1 none) := rfl
theorem vt_mok6 : vt_okM 6 = true := by decide +kernel
set_option maxRecDepth 100000 in
theorem vt_mcw6 : lw_tbl[215]? = some (Jvm.Cond.code ⟨"RuleEngine$Rule", "<init>", "()V"⟩ prog_5_method_1_code 1 none) := rfl
theorem vt_mok7 : vt_okM 7 = true := by decide +kernel
set_option maxRecDepth 100000 in
theorem vt_mcw7 : lw_tbl[284]? = some (Jvm.Cond.code ⟨"RuleEngine", "fact", "(III)I"⟩ prog_1_method_2_code 4 (some .int)) := rfl
theorem vt_mok8 : vt_okM 8 = true := by decide +kernel
set_option maxRecDepth 100000 in
theorem vt_mcw8 : lw_tbl[287]? = some (Jvm.Cond.code ⟨"RuleEngine", "isBadFact", "(III)Z"⟩ prog_1_method_21_code 3 (some .boolean)) := rfl
theorem vt_mok9 : vt_okM 9 = true := by decide +kernel
set_option maxRecDepth 100000 in
theorem vt_mcw9 : lw_tbl[290]? = some (Jvm.Cond.code ⟨"RuleEngine", "isBadName", "(I)Z"⟩ prog_1_method_19_code 1 (some .boolean)) := rfl
theorem vt_mok10 : vt_okM 10 = true := by decide +kernel
set_option maxRecDepth 100000 in
theorem vt_mcw10 : lw_tbl[294]? = some (Jvm.Cond.code ⟨"RuleEngine$Facts", "has", "(III)Z"⟩ prog_3_method_2_code 4 (some .boolean)) := rfl
theorem vt_mok11 : vt_okM 11 = true := by decide +kernel
set_option maxRecDepth 100000 in
theorem vt_mcw11 : lw_tbl[297]? = some (Jvm.Cond.code ⟨"RuleEngine", "isIn", "(II)Z"⟩ prog_1_method_23_code 2 (some .boolean)) := rfl
theorem vt_mok12 : vt_okM 12 = true := by decide +kernel
set_option maxRecDepth 100000 in
theorem vt_mcw12 : lw_tbl[301]? = some (Jvm.Cond.code ⟨"RuleEngine$Facts", "add", "(III)V"⟩ prog_3_method_3_code 4 none) := rfl
theorem vt_mok13 : vt_okM 13 = true := by decide +kernel
set_option maxRecDepth 100000 in
theorem vt_mcw13 : lw_tbl[305]? = some (Jvm.Cond.code ⟨"RuleEngine", "remove", "(III)I"⟩ prog_1_method_3_code 4 (some .int)) := rfl
theorem vt_mok14 : vt_okM 14 = true := by decide +kernel
set_option maxRecDepth 100000 in
theorem vt_mcw14 : lw_tbl[309]? = some (Jvm.Cond.code ⟨"RuleEngine$Facts", "cut", "(III)V"⟩ prog_3_method_4_code 4 none) := rfl
theorem vt_mok15 : vt_okM 15 = true := by decide +kernel
set_option maxRecDepth 100000 in
theorem vt_mcw15 : lw_tbl[313]? = some (Jvm.Cond.code ⟨"RuleEngine", "rule", "(III)I"⟩ prog_1_method_4_code 4 (some .int)) := rfl
theorem vt_mok16 : vt_okM 16 = true := by decide +kernel
set_option maxRecDepth 100000 in
theorem vt_mcw16 : lw_tbl[316]? = some (Jvm.Cond.code ⟨"RuleEngine", "isBadItem", "(I)Z"⟩ prog_1_method_20_code 1 (some .boolean)) := rfl
theorem vt_mok17 : vt_okM 17 = true := by decide +kernel
set_option maxRecDepth 100000 in
theorem vt_mcw17 : lw_tbl[320]? = some (Jvm.Cond.code ⟨"RuleEngine$Rule", "start", "(III)V"⟩ prog_5_method_2_code 4 none) := rfl
theorem vt_mok18 : vt_okM 18 = true := by decide +kernel
set_option maxRecDepth 100000 in
theorem vt_mcw18 : lw_tbl[324]? = some (Jvm.Cond.code ⟨"RuleEngine", "body", "(IIIIZ)I"⟩ prog_1_method_5_code 6 (some .int)) := rfl
theorem vt_mok19 : vt_okM 19 = true := by decide +kernel
set_option maxRecDepth 100000 in
theorem vt_mcw19 : lw_tbl[328]? = some (Jvm.Cond.code ⟨"RuleEngine", "addPart", "(IIIII)I"⟩ prog_1_method_17_code 6 (some .int)) := rfl
theorem vt_mok20 : vt_okM 20 = true := by decide +kernel
set_option maxRecDepth 100000 in
theorem vt_mcw20 : lw_tbl[332]? = some (Jvm.Cond.code ⟨"RuleEngine", "isBadRule", "(I)Z"⟩ prog_1_method_18_code 2 (some .boolean)) := rfl
theorem vt_mok21 : vt_okM 21 = true := by decide +kernel
set_option maxRecDepth 100000 in
theorem vt_mcw21 : lw_tbl[336]? = some (Jvm.Cond.code ⟨"RuleEngine$Rule", "addPart", "(IIII)V"⟩ prog_5_method_3_code 5 none) := rfl
theorem vt_mok22 : vt_okM 22 = true := by decide +kernel
set_option maxRecDepth 100000 in
theorem vt_mcw22 : lw_tbl[340]? = some (Jvm.Cond.code ⟨"RuleEngine", "filter", "(IIII)I"⟩ prog_1_method_6_code 5 (some .int)) := rfl
theorem vt_mok23 : vt_okM 23 = true := by decide +kernel
set_option maxRecDepth 100000 in
theorem vt_mcw23 : lw_tbl[344]? = some (Jvm.Cond.code ⟨"RuleEngine", "aggregate", "(III)I"⟩ prog_1_method_7_code 4 (some .int)) := rfl
theorem vt_mok24 : vt_okM 24 = true := by decide +kernel
set_option maxRecDepth 100000 in
theorem vt_mcw24 : lw_tbl[348]? = some (Jvm.Cond.code ⟨"RuleEngine", "drop", "(I)I"⟩ prog_1_method_8_code 4 (some .int)) := rfl
theorem vt_mok25 : vt_okM 25 = true := by decide +kernel
set_option maxRecDepth 100000 in
theorem vt_mcw25 : lw_tbl[352]? = some (Jvm.Cond.code ⟨"RuleEngine", "safe", "(I)I"⟩ prog_1_method_9_code 2 (some .int)) := rfl
theorem vt_mok26 : vt_okM 26 = true := by decide +kernel
set_option maxRecDepth 100000 in
theorem vt_mcw26 : lw_tbl[356]? = some (Jvm.Cond.code ⟨"RuleEngine$Rule", "isSafe", "()Z"⟩ prog_5_method_6_code 4 (some .boolean)) := rfl
theorem vt_mok27 : vt_okM 27 = true := by decide +kernel
set_option maxRecDepth 100000 in
theorem vt_mcw27 : lw_tbl[360]? = some (Jvm.Cond.code ⟨"RuleEngine$Rule", "secondItem", "()I"⟩ prog_5_method_4_code 1 (some .int)) := rfl
theorem vt_mok28 : vt_okM 28 = true := by decide +kernel
set_option maxRecDepth 100000 in
theorem vt_mcw28 : lw_tbl[363]? = some (Jvm.Cond.code ⟨"RuleEngine$Rule", "variables", "(II)I"⟩ prog_5_method_7_code 3 (some .int)) := rfl
theorem vt_mok29 : vt_okM 29 = true := by decide +kernel
set_option maxRecDepth 100000 in
theorem vt_mcw29 : lw_tbl[366]? = some (Jvm.Cond.code ⟨"RuleEngine", "variableOf", "(I)I"⟩ prog_1_method_22_code 1 (some .int)) := rfl
theorem vt_mok30 : vt_okM 30 = true := by decide +kernel
set_option maxRecDepth 100000 in
theorem vt_mcw30 : lw_tbl[370]? = some (Jvm.Cond.code ⟨"RuleEngine", "run", "()I"⟩ prog_1_method_10_code 2 (some .int)) := rfl
theorem vt_mok31 : vt_okM 31 = true := by decide +kernel
set_option maxRecDepth 100000 in
theorem vt_mcw31 : lw_tbl[374]? = some (Jvm.Cond.code ⟨"RuleEngine$Model", "settle", "(LRuleEngine$Facts;[LRuleEngine$Rule;I)V"⟩ prog_4_method_2_code 10 none) := rfl
theorem vt_mok32 : vt_okM 32 = true := by decide +kernel
set_option maxRecDepth 100000 in
theorem vt_mcw32 : lw_tbl[378]? = some (Jvm.Cond.code ⟨"RuleEngine$Model", "startLevels", "(LRuleEngine$Facts;[LRuleEngine$Rule;I)I"⟩ prog_4_method_3_code 6 (some .int)) := rfl
theorem vt_mok33 : vt_okM 33 = true := by decide +kernel
set_option maxRecDepth 100000 in
theorem vt_mcw33 : lw_tbl[382]? = some (Jvm.Cond.code ⟨"RuleEngine$Facts", "takeAll", "(LRuleEngine$Facts;)V"⟩ prog_3_method_6_code 2 none) := rfl
theorem vt_mok34 : vt_okM 34 = true := by decide +kernel
set_option maxRecDepth 100000 in
theorem vt_mcw34 : lw_tbl[389]? = some (Jvm.Cond.code ⟨"RuleEngine$Strata", "read", "([LRuleEngine$Rule;I)V"⟩ prog_6_method_2_code 4 none) := rfl
theorem vt_mok35 : vt_okM 35 = true := by decide +kernel
set_option maxRecDepth 100000 in
theorem vt_mcw35 : lw_tbl[392]? = some (Jvm.Cond.code ⟨"java/util/Arrays", "fill", "([II)V"⟩ prog_12_method_103_code 4 none) := rfl
theorem vt_mok36 : vt_okM 36 = true := by decide +kernel
set_option maxRecDepth 100000 in
theorem vt_mcw36 : lw_tbl[397]? = some (Jvm.Cond.code ⟨"RuleEngine$Strata", "readRule", "(LRuleEngine$Rule;)V"⟩ prog_6_method_3_code 4 none) := rfl
theorem vt_mok37 : vt_okM 37 = true := by decide +kernel
set_option maxRecDepth 100000 in
theorem vt_mcw37 : lw_tbl[401]? = some (Jvm.Cond.code ⟨"RuleEngine$Strata", "reachAll", "()V"⟩ prog_6_method_4_code 3 none) := rfl
theorem vt_mok38 : vt_okM 38 = true := by decide +kernel
set_option maxRecDepth 100000 in
theorem vt_mcw38 : lw_tbl[407]? = some (Jvm.Cond.code ⟨"RuleEngine$Strata", "leastCircle", "()I"⟩ prog_6_method_5_code 3 (some .int)) := rfl
theorem vt_mok39 : vt_okM 39 = true := by decide +kernel
set_option maxRecDepth 100000 in
theorem vt_mcw39 : lw_tbl[411]? = some (Jvm.Cond.code ⟨"RuleEngine$Strata", "number", "()V"⟩ prog_6_method_6_code 5 none) := rfl
theorem vt_mok40 : vt_okM 40 = true := by decide +kernel
set_option maxRecDepth 100000 in
theorem vt_mcw40 : lw_tbl[415]? = some (Jvm.Cond.code ⟨"RuleEngine$Strata", "leastLevel", "(I)I"⟩ prog_6_method_7_code 4 (some .int)) := rfl
theorem vt_mok42 : vt_okM 42 = true := by decide +kernel
set_option maxRecDepth 100000 in
theorem vt_mcw42 : lw_tbl[424]? = some (Jvm.Cond.code ⟨"RuleEngine$Model", "isDue", "(LRuleEngine$Rule;II)Z"⟩ prog_4_method_4_code 4 (some .boolean)) := rfl
theorem vt_mok43 : vt_okM 43 = true := by decide +kernel
set_option maxRecDepth 100000 in
theorem vt_mcw43 : lw_tbl[429]? = some (Jvm.Cond.code ⟨"RuleEngine$Model", "give", "(LRuleEngine$Rule;I)V"⟩ prog_4_method_5_code 8 none) := rfl
theorem vt_mok44 : vt_okM 44 = true := by decide +kernel
set_option maxRecDepth 100000 in
theorem vt_mcw44 : lw_tbl[433]? = some (Jvm.Cond.code ⟨"RuleEngine$Rule", "isTallied", "()Z"⟩ prog_5_method_5_code 1 (some .boolean)) := rfl
theorem vt_mok45 : vt_okM 45 = true := by decide +kernel
set_option maxRecDepth 100000 in
theorem vt_mcw45 : lw_tbl[437]? = some (Jvm.Cond.code ⟨"RuleEngine$Cases", "load", "(LRuleEngine$Rule;LRuleEngine$Facts;LRuleEngine$Facts;IZ)V"⟩ prog_2_method_2_code 7 none) := rfl
theorem vt_mok46 : vt_okM 46 = true := by decide +kernel
set_option maxRecDepth 100000 in
theorem vt_mcw46 : lw_tbl[444]? = some (Jvm.Cond.code ⟨"RuleEngine$Cases", "readFacts", "(LRuleEngine$Facts;IZ)V"⟩ prog_2_method_3_code 5 none) := rfl
theorem vt_mok47 : vt_okM 47 = true := by decide +kernel
set_option maxRecDepth 100000 in
theorem vt_mcw47 : lw_tbl[449]? = some (Jvm.Cond.code ⟨"RuleEngine$Cases", "readFilter", "(I)V"⟩ prog_2_method_4_code 4 none) := rfl
theorem vt_mok48 : vt_okM 48 = true := by decide +kernel
set_option maxRecDepth 100000 in
theorem vt_mcw48 : lw_tbl[453]? = some (Jvm.Cond.code ⟨"RuleEngine$Cases", "join", "(II)V"⟩ prog_2_method_5_code 3 none) := rfl
theorem vt_mok49 : vt_okM 49 = true := by decide +kernel
set_option maxRecDepth 100000 in
theorem vt_mcw49 : lw_tbl[458]? = some (Jvm.Cond.code ⟨"RuleEngine$Cases", "narrow", "(II)V"⟩ prog_2_method_6_code 3 none) := rfl
theorem vt_mok50 : vt_okM 50 = true := by decide +kernel
set_option maxRecDepth 100000 in
theorem vt_mcw50 : lw_tbl[462]? = some (Jvm.Cond.code ⟨"RuleEngine$Cases", "numbersWithThemselves", "()I"⟩ prog_2_method_7_code 3 (some .int)) := rfl
theorem vt_mok51 : vt_okM 51 = true := by decide +kernel
set_option maxRecDepth 100000 in
theorem vt_mcw51 : lw_tbl[466]? = some (Jvm.Cond.code ⟨"RuleEngine$Cases", "link", "(II[I)I"⟩ prog_2_method_8_code 8 (some .int)) := rfl
theorem vt_mok52 : vt_okM 52 = true := by decide +kernel
set_option maxRecDepth 100000 in
theorem vt_mcw52 : lw_tbl[470]? = some (Jvm.Cond.code ⟨"RuleEngine$Cases", "firstNumbers", "()I"⟩ prog_2_method_9_code 1 (some .int)) := rfl
theorem vt_mok53 : vt_okM 53 = true := by decide +kernel
set_option maxRecDepth 100000 in
theorem vt_mcw53 : lw_tbl[474]? = some (Jvm.Cond.code ⟨"RuleEngine$Cases", "find", "(II)I"⟩ prog_2_method_10_code 8 (some .int)) := rfl
theorem vt_mok54 : vt_okM 54 = true := by decide +kernel
set_option maxRecDepth 100000 in
theorem vt_mcw54 : lw_tbl[478]? = some (Jvm.Cond.code ⟨"RuleEngine$Cases", "begin", "(II)Z"⟩ prog_2_method_11_code 3 (some .boolean)) := rfl
theorem vt_mok55 : vt_okM 55 = true := by decide +kernel
set_option maxRecDepth 100000 in
theorem vt_mcw55 : lw_tbl[483]? = some (Jvm.Cond.code ⟨"RuleEngine$Cases", "copyLevel", "(I)V"⟩ prog_2_method_12_code 4 none) := rfl
theorem vt_mok56 : vt_okM 56 = true := by decide +kernel
set_option maxRecDepth 100000 in
theorem vt_mcw56 : lw_tbl[487]? = some (Jvm.Cond.code ⟨"RuleEngine$Cases", "fix", "(III)Z"⟩ prog_2_method_13_code 6 (some .boolean)) := rfl
theorem vt_mok57 : vt_okM 57 = true := by decide +kernel
set_option maxRecDepth 100000 in
theorem vt_mcw57 : lw_tbl[491]? = some (Jvm.Cond.code ⟨"RuleEngine$Cases", "foldAll", "(I)Z"⟩ prog_2_method_14_code 5 (some .boolean)) := rfl
theorem vt_mok58 : vt_okM 58 = true := by decide +kernel
set_option maxRecDepth 100000 in
theorem vt_mcw58 : lw_tbl[495]? = some (Jvm.Cond.code ⟨"RuleEngine$Cases", "linkCount", "(II)I"⟩ prog_2_method_15_code 3 (some .int)) := rfl
theorem vt_mok59 : vt_okM 59 = true := by decide +kernel
set_option maxRecDepth 100000 in
theorem vt_mcw59 : lw_tbl[498]? = some (Jvm.Cond.code ⟨"java/lang/Integer", "bitCount", "(I)I"⟩ prog_9_method_49_code 1 (some .int)) := rfl
theorem vt_mok60 : vt_okM 60 = true := by decide +kernel
set_option maxRecDepth 100000 in
theorem vt_mcw60 : lw_tbl[505]? = some (Jvm.Cond.code ⟨"RuleEngine$Cases", "fold", "(II)Z"⟩ prog_2_method_17_code 11 (some .boolean)) := rfl
theorem vt_mok61 : vt_okM 61 = true := by decide +kernel
set_option maxRecDepth 100000 in
theorem vt_mcw61 : lw_tbl[509]? = some (Jvm.Cond.code ⟨"RuleEngine$Cases", "weightOf", "(I)I"⟩ prog_2_method_18_code 4 (some .int)) := rfl
theorem vt_mok62 : vt_okM 62 = true := by decide +kernel
set_option maxRecDepth 100000 in
theorem vt_mcw62 : lw_tbl[512]? = some (Jvm.Cond.code ⟨"RuleEngine", "leastOf", "(I)I"⟩ prog_1_method_24_code 1 (some .int)) := rfl
theorem vt_mok63 : vt_okM 63 = true := by decide +kernel
set_option maxRecDepth 100000 in
theorem vt_mcw63 : lw_tbl[517]? = some (Jvm.Cond.code ⟨"RuleEngine$Cases", "weigh", "(III)V"⟩ prog_2_method_19_code 7 none) := rfl
theorem vt_mok64 : vt_okM 64 = true := by decide +kernel
set_option maxRecDepth 100000 in
theorem vt_mcw64 : lw_tbl[521]? = some (Jvm.Cond.code ⟨"RuleEngine$Cases", "mostLinked", "()I"⟩ prog_2_method_16_code 3 (some .int)) := rfl
theorem vt_mok65 : vt_okM 65 = true := by decide +kernel
set_option maxRecDepth 100000 in
theorem vt_mcw65 : lw_tbl[525]? = some (Jvm.Cond.code ⟨"RuleEngine$Cases", "gather", "(I)I"⟩ prog_2_method_20_code 4 (some .int)) := rfl
theorem vt_mok66 : vt_okM 66 = true := by decide +kernel
set_option maxRecDepth 100000 in
theorem vt_mcw66 : lw_tbl[529]? = some (Jvm.Cond.code ⟨"RuleEngine$Cases", "total", "(II)I"⟩ prog_2_method_21_code 5 (some .int)) := rfl
theorem vt_mok67 : vt_okM 67 = true := by decide +kernel
set_option maxRecDepth 100000 in
theorem vt_mcw67 : lw_tbl[533]? = some (Jvm.Cond.code ⟨"RuleEngine$Facts", "addAll", "(III)V"⟩ prog_3_method_5_code 5 none) := rfl
theorem vt_mok68 : vt_okM 68 = true := by decide +kernel
set_option maxRecDepth 100000 in
theorem vt_mcw68 : lw_tbl[538]? = some (Jvm.Cond.code ⟨"RuleEngine$Model", "keepFresh", "(I)Z"⟩ prog_4_method_8_code 3 (some .boolean)) := rfl
theorem vt_mok69 : vt_okM 69 = true := by decide +kernel
set_option maxRecDepth 100000 in
theorem vt_mcw69 : lw_tbl[542]? = some (Jvm.Cond.code ⟨"RuleEngine$Facts", "clear", "(I)V"⟩ prog_3_method_7_code 3 none) := rfl
theorem vt_mok70 : vt_okM 70 = true := by decide +kernel
set_option maxRecDepth 100000 in
theorem vt_mcw70 : lw_tbl[546]? = some (Jvm.Cond.code ⟨"RuleEngine$Model", "keepName", "(II)V"⟩ prog_4_method_9_code 6 none) := rfl
theorem vt_mok71 : vt_okM 71 = true := by decide +kernel
set_option maxRecDepth 100000 in
theorem vt_mcw71 : lw_tbl[550]? = some (Jvm.Cond.code ⟨"RuleEngine", "stratum", "(I)I"⟩ prog_1_method_11_code 2 (some .int)) := rfl
theorem vt_mok72 : vt_okM 72 = true := by decide +kernel
set_option maxRecDepth 100000 in
theorem vt_mcw72 : lw_tbl[554]? = some (Jvm.Cond.code ⟨"RuleEngine", "holds", "(III)I"⟩ prog_1_method_12_code 4 (some .int)) := rfl
theorem vt_mok73 : vt_okM 73 = true := by decide +kernel
set_option maxRecDepth 100000 in
theorem vt_mcw73 : lw_tbl[558]? = some (Jvm.Cond.code ⟨"RuleEngine", "round", "(III)I"⟩ prog_1_method_13_code 4 (some .int)) := rfl
theorem vt_mok74 : vt_okM 74 = true := by decide +kernel
set_option maxRecDepth 100000 in
theorem vt_mcw74 : lw_tbl[562]? = some (Jvm.Cond.code ⟨"RuleEngine$Model", "roundOf", "(III)I"⟩ prog_4_method_7_code 5 (some .int)) := rfl
theorem vt_mok75 : vt_okM 75 = true := by decide +kernel
set_option maxRecDepth 100000 in
theorem vt_mcw75 : lw_tbl[566]? = some (Jvm.Cond.code ⟨"RuleEngine", "counts", "(III)I"⟩ prog_1_method_14_code 7 (some .int)) := rfl
theorem vt_mok76 : vt_okM 76 = true := by decide +kernel
set_option maxRecDepth 100000 in
theorem vt_mcw76 : lw_tbl[570]? = some (Jvm.Cond.code ⟨"RuleEngine$Model", "timesGiven", "(LRuleEngine$Rule;II)I"⟩ prog_4_method_6_code 5 (some .int)) := rfl
theorem vt_mok77 : vt_okM 77 = true := by decide +kernel
set_option maxRecDepth 100000 in
theorem vt_mcw77 : lw_tbl[574]? = some (Jvm.Cond.code ⟨"RuleEngine", "row", "(I)I"⟩ prog_1_method_15_code 2 (some .int)) := rfl
theorem vt_mok78 : vt_okM 78 = true := by decide +kernel
set_option maxRecDepth 100000 in
theorem vt_mcw78 : lw_tbl[578]? = some (Jvm.Cond.code ⟨"RuleEngine$Facts", "codeFrom", "(I)I"⟩ prog_3_method_8_code 5 (some .int)) := rfl
theorem vt_mok79 : vt_okM 79 = true := by decide +kernel
set_option maxRecDepth 100000 in
theorem vt_mcw79 : lw_tbl[583]? = some (Jvm.Cond.code ⟨"RuleEngine", "size", "()I"⟩ prog_1_method_16_code 1 (some .int)) := rfl
theorem vt_mok80 : vt_okM 80 = true := by decide +kernel
set_option maxRecDepth 100000 in
theorem vt_mcw80 : lw_tbl[587]? = some (Jvm.Cond.code ⟨"RuleEngine$Facts", "total", "()I"⟩ prog_3_method_9_code 3 (some .int)) := rfl
theorem vt_mok81 : vt_okM 81 = true := by decide +kernel
set_option maxRecDepth 100000 in
theorem vt_mcw81 : lw_tbl[593]? = some (Jvm.Cond.code ⟨"RuleEngineModel", "<init>", "()V"⟩ prog_8_method_1_code 1 none) := rfl
theorem vt_mok82 : vt_okM 82 = true := by decide +kernel
set_option maxRecDepth 100000 in
theorem vt_mcw82 : lw_tbl[678]? = some (Jvm.Cond.code ⟨"RuleEngineModel", "fact", "(III)I"⟩ prog_8_method_7_code 4 (some .int)) := rfl
theorem vt_mok83 : vt_okM 83 = true := by decide +kernel
set_option maxRecDepth 100000 in
theorem vt_mcw83 : lw_tbl[681]? = some (Jvm.Cond.code ⟨"RuleEngineModel", "isFact", "(III)Z"⟩ prog_8_method_5_code 3 (some .boolean)) := rfl
theorem vt_mok84 : vt_okM 84 = true := by decide +kernel
set_option maxRecDepth 100000 in
theorem vt_mcw84 : lw_tbl[684]? = some (Jvm.Cond.code ⟨"RuleEngineModel", "isName", "(I)Z"⟩ prog_8_method_2_code 1 (some .boolean)) := rfl
theorem vt_mok85 : vt_okM 85 = true := by decide +kernel
set_option maxRecDepth 100000 in
theorem vt_mcw85 : lw_tbl[687]? = some (Jvm.Cond.code ⟨"RuleEngineModel", "isNumber", "(I)Z"⟩ prog_8_method_3_code 1 (some .boolean)) := rfl
theorem vt_mok86 : vt_okM 86 = true := by decide +kernel
set_option maxRecDepth 100000 in
theorem vt_mcw86 : lw_tbl[690]? = some (Jvm.Cond.code ⟨"RuleEngineModel", "code", "(III)I"⟩ prog_8_method_6_code 3 (some .int)) := rfl
theorem vt_mok87 : vt_okM 87 = true := by decide +kernel
set_option maxRecDepth 100000 in
theorem vt_mcw87 : lw_tbl[694]? = some (Jvm.Cond.code ⟨"RuleEngineModel", "remove", "(III)I"⟩ prog_8_method_8_code 4 (some .int)) := rfl
theorem vt_mok88 : vt_okM 88 = true := by decide +kernel
set_option maxRecDepth 100000 in
theorem vt_mcw88 : lw_tbl[698]? = some (Jvm.Cond.code ⟨"RuleEngineModel", "rule", "(III)I"⟩ prog_8_method_10_code 4 (some .int)) := rfl
theorem vt_mok89 : vt_okM 89 = true := by decide +kernel
set_option maxRecDepth 100000 in
theorem vt_mcw89 : lw_tbl[701]? = some (Jvm.Cond.code ⟨"RuleEngineModel", "isItem", "(I)Z"⟩ prog_8_method_4_code 1 (some .boolean)) := rfl
theorem vt_mok90 : vt_okM 90 = true := by decide +kernel
set_option maxRecDepth 100000 in
theorem vt_mcw90 : lw_tbl[705]? = some (Jvm.Cond.code ⟨"RuleEngineModel", "body", "(IIIIZ)I"⟩ prog_8_method_12_code 6 (some .int)) := rfl
theorem vt_mok91 : vt_okM 91 = true := by decide +kernel
set_option maxRecDepth 100000 in
theorem vt_mcw91 : lw_tbl[709]? = some (Jvm.Cond.code ⟨"RuleEngineModel", "isRule", "(I)Z"⟩ prog_8_method_9_code 2 (some .boolean)) := rfl
theorem vt_mok92 : vt_okM 92 = true := by decide +kernel
set_option maxRecDepth 100000 in
theorem vt_mcw92 : lw_tbl[713]? = some (Jvm.Cond.code ⟨"RuleEngineModel", "part", "(IIIII)I"⟩ prog_8_method_11_code 7 (some .int)) := rfl
theorem vt_mok93 : vt_okM 93 = true := by decide +kernel
set_option maxRecDepth 100000 in
theorem vt_mcw93 : lw_tbl[717]? = some (Jvm.Cond.code ⟨"RuleEngineModel", "filter", "(IIII)I"⟩ prog_8_method_13_code 5 (some .int)) := rfl
theorem vt_mok94 : vt_okM 94 = true := by decide +kernel
set_option maxRecDepth 100000 in
theorem vt_mcw94 : lw_tbl[721]? = some (Jvm.Cond.code ⟨"RuleEngineModel", "aggregate", "(III)I"⟩ prog_8_method_14_code 4 (some .int)) := rfl
theorem vt_mok95 : vt_okM 95 = true := by decide +kernel
set_option maxRecDepth 100000 in
theorem vt_mcw95 : lw_tbl[725]? = some (Jvm.Cond.code ⟨"RuleEngineModel", "drop", "(I)I"⟩ prog_8_method_15_code 4 (some .int)) := rfl
theorem vt_mok96 : vt_okM 96 = true := by decide +kernel
set_option maxRecDepth 100000 in
theorem vt_mcw96 : lw_tbl[729]? = some (Jvm.Cond.code ⟨"RuleEngineModel", "safe", "(I)I"⟩ prog_8_method_18_code 2 (some .int)) := rfl
theorem vt_mok97 : vt_okM 97 = true := by decide +kernel
set_option maxRecDepth 100000 in
theorem vt_mcw97 : lw_tbl[733]? = some (Jvm.Cond.code ⟨"RuleEngineModel", "isSafe", "(I)Z"⟩ prog_8_method_17_code 5 (some .boolean)) := rfl
theorem vt_mok98 : vt_okM 98 = true := by decide +kernel
set_option maxRecDepth 100000 in
theorem vt_mcw98 : lw_tbl[737]? = some (Jvm.Cond.code ⟨"RuleEngineModel", "isBound", "(II)Z"⟩ prog_8_method_16_code 6 (some .boolean)) := rfl
theorem vt_mok99 : vt_okM 99 = true := by decide +kernel
set_option maxRecDepth 100000 in
theorem vt_mcw99 : lw_tbl[741]? = some (Jvm.Cond.code ⟨"RuleEngineModel", "run", "()I"⟩ prog_8_method_30_code 1 (some .int)) := rfl
theorem vt_mok100 : vt_okM 100 = true := by decide +kernel
set_option maxRecDepth 100000 in
theorem vt_mcw100 : lw_tbl[745]? = some (Jvm.Cond.code ⟨"RuleEngineModel", "work", "()V"⟩ prog_8_method_29_code 4 none) := rfl
theorem vt_mok101 : vt_okM 101 = true := by decide +kernel
set_option maxRecDepth 100000 in
theorem vt_mcw101 : lw_tbl[749]? = some (Jvm.Cond.code ⟨"RuleEngineModel", "need", "()V"⟩ prog_8_method_19_code 6 none) := rfl
theorem vt_mok102 : vt_okM 102 = true := by decide +kernel
set_option maxRecDepth 100000 in
theorem vt_mcw102 : lw_tbl[753]? = some (Jvm.Cond.code ⟨"RuleEngineModel", "layer", "()V"⟩ prog_8_method_20_code 4 none) := rfl
theorem vt_mok103 : vt_okM 103 = true := by decide +kernel
set_option maxRecDepth 100000 in
theorem vt_mcw103 : lw_tbl[757]? = some (Jvm.Cond.code ⟨"RuleEngineModel", "spread", "(II)V"⟩ prog_8_method_28_code 8 none) := rfl
theorem vt_mok104 : vt_okM 104 = true := by decide +kernel
set_option maxRecDepth 100000 in
theorem vt_mcw104 : lw_tbl[761]? = some (Jvm.Cond.code ⟨"RuleEngineModel", "begin", "(I)V"⟩ prog_8_method_24_code 3 none) := rfl
theorem vt_mok105 : vt_okM 105 = true := by decide +kernel
set_option maxRecDepth 100000 in
theorem vt_mcw105 : lw_tbl[765]? = some (Jvm.Cond.code ⟨"RuleEngineModel", "next", "(IZ)Z"⟩ prog_8_method_25_code 6 (some .boolean)) := rfl
theorem vt_mok106 : vt_okM 106 = true := by decide +kernel
set_option maxRecDepth 100000 in
theorem vt_mcw106 : lw_tbl[769]? = some (Jvm.Cond.code ⟨"RuleEngineModel", "tell", "(II)Z"⟩ prog_8_method_23_code 9 (some .boolean)) := rfl
theorem vt_mok107 : vt_okM 107 = true := by decide +kernel
set_option maxRecDepth 100000 in
theorem vt_mcw107 : lw_tbl[773]? = some (Jvm.Cond.code ⟨"RuleEngineModel", "passes", "(I)Z"⟩ prog_8_method_26_code 7 (some .boolean)) := rfl
theorem vt_mok108 : vt_okM 108 = true := by decide +kernel
set_option maxRecDepth 100000 in
theorem vt_mcw108 : lw_tbl[777]? = some (Jvm.Cond.code ⟨"RuleEngineModel", "valueOf", "(I)I"⟩ prog_8_method_21_code 2 (some .int)) := rfl
theorem vt_mok109 : vt_okM 109 = true := by decide +kernel
set_option maxRecDepth 100000 in
theorem vt_mcw109 : lw_tbl[781]? = some (Jvm.Cond.code ⟨"RuleEngineModel", "isOld", "(I)Z"⟩ prog_8_method_22_code 2 (some .boolean)) := rfl
theorem vt_mok110 : vt_okM 110 = true := by decide +kernel
set_option maxRecDepth 100000 in
theorem vt_mcw110 : lw_tbl[785]? = some (Jvm.Cond.code ⟨"RuleEngineModel", "give", "(II)V"⟩ prog_8_method_27_code 3 none) := rfl
theorem vt_mok111 : vt_okM 111 = true := by decide +kernel
set_option maxRecDepth 100000 in
theorem vt_mcw111 : lw_tbl[789]? = some (Jvm.Cond.code ⟨"RuleEngineModel", "stratum", "(I)I"⟩ prog_8_method_31_code 2 (some .int)) := rfl
theorem vt_mok112 : vt_okM 112 = true := by decide +kernel
set_option maxRecDepth 100000 in
theorem vt_mcw112 : lw_tbl[793]? = some (Jvm.Cond.code ⟨"RuleEngineModel", "holds", "(III)I"⟩ prog_8_method_32_code 5 (some .int)) := rfl
theorem vt_mok113 : vt_okM 113 = true := by decide +kernel
set_option maxRecDepth 100000 in
theorem vt_mcw113 : lw_tbl[797]? = some (Jvm.Cond.code ⟨"RuleEngineModel", "round", "(III)I"⟩ prog_8_method_33_code 5 (some .int)) := rfl
theorem vt_mok114 : vt_okM 114 = true := by decide +kernel
set_option maxRecDepth 100000 in
theorem vt_mcw114 : lw_tbl[801]? = some (Jvm.Cond.code ⟨"RuleEngineModel", "counts", "(III)I"⟩ prog_8_method_34_code 4 (some .int)) := rfl
theorem vt_mok115 : vt_okM 115 = true := by decide +kernel
set_option maxRecDepth 100000 in
theorem vt_mcw115 : lw_tbl[805]? = some (Jvm.Cond.code ⟨"RuleEngineModel", "row", "(I)I"⟩ prog_8_method_35_code 3 (some .int)) := rfl
theorem vt_mok116 : vt_okM 116 = true := by decide +kernel
set_option maxRecDepth 100000 in
theorem vt_mcw116 : lw_tbl[809]? = some (Jvm.Cond.code ⟨"RuleEngineModel", "size", "()I"⟩ prog_8_method_36_code 3 (some .int)) := rfl
theorem vt_mok (a : Nat) (h0 : 0 < a) (h1 : a < 117) (h2 : a ≠ 41) : vt_okM a = true ∧ Jvm.Cond.code (vt_m a).1 (vt_m a).2.1 (vt_m a).2.2.1 (vt_m a).2.2.2 ∈ vt_T := by
  match a, h0, h1, h2 with
  | 1, _, _, _ => exact ⟨vt_mok1, List.mem_filter.mpr ⟨List.mem_of_getElem? vt_mcw1, rfl⟩⟩
  | 2, _, _, _ => exact ⟨vt_mok2, List.mem_filter.mpr ⟨List.mem_of_getElem? vt_mcw2, rfl⟩⟩
  | 3, _, _, _ => exact ⟨vt_mok3, List.mem_filter.mpr ⟨List.mem_of_getElem? vt_mcw3, rfl⟩⟩
  | 4, _, _, _ => exact ⟨vt_mok4, List.mem_filter.mpr ⟨List.mem_of_getElem? vt_mcw4, rfl⟩⟩
  | 5, _, _, _ => exact ⟨vt_mok5, List.mem_filter.mpr ⟨List.mem_of_getElem? vt_mcw5, rfl⟩⟩
  | 6, _, _, _ => exact ⟨vt_mok6, List.mem_filter.mpr ⟨List.mem_of_getElem? vt_mcw6, rfl⟩⟩
  | 7, _, _, _ => exact ⟨vt_mok7, List.mem_filter.mpr ⟨List.mem_of_getElem? vt_mcw7, rfl⟩⟩
  | 8, _, _, _ => exact ⟨vt_mok8, List.mem_filter.mpr ⟨List.mem_of_getElem? vt_mcw8, rfl⟩⟩
  | 9, _, _, _ => exact ⟨vt_mok9, List.mem_filter.mpr ⟨List.mem_of_getElem? vt_mcw9, rfl⟩⟩
  | 10, _, _, _ => exact ⟨vt_mok10, List.mem_filter.mpr ⟨List.mem_of_getElem? vt_mcw10, rfl⟩⟩
  | 11, _, _, _ => exact ⟨vt_mok11, List.mem_filter.mpr ⟨List.mem_of_getElem? vt_mcw11, rfl⟩⟩
  | 12, _, _, _ => exact ⟨vt_mok12, List.mem_filter.mpr ⟨List.mem_of_getElem? vt_mcw12, rfl⟩⟩
  | 13, _, _, _ => exact ⟨vt_mok13, List.mem_filter.mpr ⟨List.mem_of_getElem? vt_mcw13, rfl⟩⟩
  | 14, _, _, _ => exact ⟨vt_mok14, List.mem_filter.mpr ⟨List.mem_of_getElem? vt_mcw14, rfl⟩⟩
  | 15, _, _, _ => exact ⟨vt_mok15, List.mem_filter.mpr ⟨List.mem_of_getElem? vt_mcw15, rfl⟩⟩
  | 16, _, _, _ => exact ⟨vt_mok16, List.mem_filter.mpr ⟨List.mem_of_getElem? vt_mcw16, rfl⟩⟩
  | 17, _, _, _ => exact ⟨vt_mok17, List.mem_filter.mpr ⟨List.mem_of_getElem? vt_mcw17, rfl⟩⟩
  | 18, _, _, _ => exact ⟨vt_mok18, List.mem_filter.mpr ⟨List.mem_of_getElem? vt_mcw18, rfl⟩⟩
  | 19, _, _, _ => exact ⟨vt_mok19, List.mem_filter.mpr ⟨List.mem_of_getElem? vt_mcw19, rfl⟩⟩
  | 20, _, _, _ => exact ⟨vt_mok20, List.mem_filter.mpr ⟨List.mem_of_getElem? vt_mcw20, rfl⟩⟩
  | 21, _, _, _ => exact ⟨vt_mok21, List.mem_filter.mpr ⟨List.mem_of_getElem? vt_mcw21, rfl⟩⟩
  | 22, _, _, _ => exact ⟨vt_mok22, List.mem_filter.mpr ⟨List.mem_of_getElem? vt_mcw22, rfl⟩⟩
  | 23, _, _, _ => exact ⟨vt_mok23, List.mem_filter.mpr ⟨List.mem_of_getElem? vt_mcw23, rfl⟩⟩
  | 24, _, _, _ => exact ⟨vt_mok24, List.mem_filter.mpr ⟨List.mem_of_getElem? vt_mcw24, rfl⟩⟩
  | 25, _, _, _ => exact ⟨vt_mok25, List.mem_filter.mpr ⟨List.mem_of_getElem? vt_mcw25, rfl⟩⟩
  | 26, _, _, _ => exact ⟨vt_mok26, List.mem_filter.mpr ⟨List.mem_of_getElem? vt_mcw26, rfl⟩⟩
  | 27, _, _, _ => exact ⟨vt_mok27, List.mem_filter.mpr ⟨List.mem_of_getElem? vt_mcw27, rfl⟩⟩
  | 28, _, _, _ => exact ⟨vt_mok28, List.mem_filter.mpr ⟨List.mem_of_getElem? vt_mcw28, rfl⟩⟩
  | 29, _, _, _ => exact ⟨vt_mok29, List.mem_filter.mpr ⟨List.mem_of_getElem? vt_mcw29, rfl⟩⟩
  | 30, _, _, _ => exact ⟨vt_mok30, List.mem_filter.mpr ⟨List.mem_of_getElem? vt_mcw30, rfl⟩⟩
  | 31, _, _, _ => exact ⟨vt_mok31, List.mem_filter.mpr ⟨List.mem_of_getElem? vt_mcw31, rfl⟩⟩
  | 32, _, _, _ => exact ⟨vt_mok32, List.mem_filter.mpr ⟨List.mem_of_getElem? vt_mcw32, rfl⟩⟩
  | 33, _, _, _ => exact ⟨vt_mok33, List.mem_filter.mpr ⟨List.mem_of_getElem? vt_mcw33, rfl⟩⟩
  | 34, _, _, _ => exact ⟨vt_mok34, List.mem_filter.mpr ⟨List.mem_of_getElem? vt_mcw34, rfl⟩⟩
  | 35, _, _, _ => exact ⟨vt_mok35, List.mem_filter.mpr ⟨List.mem_of_getElem? vt_mcw35, rfl⟩⟩
  | 36, _, _, _ => exact ⟨vt_mok36, List.mem_filter.mpr ⟨List.mem_of_getElem? vt_mcw36, rfl⟩⟩
  | 37, _, _, _ => exact ⟨vt_mok37, List.mem_filter.mpr ⟨List.mem_of_getElem? vt_mcw37, rfl⟩⟩
  | 38, _, _, _ => exact ⟨vt_mok38, List.mem_filter.mpr ⟨List.mem_of_getElem? vt_mcw38, rfl⟩⟩
  | 39, _, _, _ => exact ⟨vt_mok39, List.mem_filter.mpr ⟨List.mem_of_getElem? vt_mcw39, rfl⟩⟩
  | 40, _, _, _ => exact ⟨vt_mok40, List.mem_filter.mpr ⟨List.mem_of_getElem? vt_mcw40, rfl⟩⟩
  | 42, _, _, _ => exact ⟨vt_mok42, List.mem_filter.mpr ⟨List.mem_of_getElem? vt_mcw42, rfl⟩⟩
  | 43, _, _, _ => exact ⟨vt_mok43, List.mem_filter.mpr ⟨List.mem_of_getElem? vt_mcw43, rfl⟩⟩
  | 44, _, _, _ => exact ⟨vt_mok44, List.mem_filter.mpr ⟨List.mem_of_getElem? vt_mcw44, rfl⟩⟩
  | 45, _, _, _ => exact ⟨vt_mok45, List.mem_filter.mpr ⟨List.mem_of_getElem? vt_mcw45, rfl⟩⟩
  | 46, _, _, _ => exact ⟨vt_mok46, List.mem_filter.mpr ⟨List.mem_of_getElem? vt_mcw46, rfl⟩⟩
  | 47, _, _, _ => exact ⟨vt_mok47, List.mem_filter.mpr ⟨List.mem_of_getElem? vt_mcw47, rfl⟩⟩
  | 48, _, _, _ => exact ⟨vt_mok48, List.mem_filter.mpr ⟨List.mem_of_getElem? vt_mcw48, rfl⟩⟩
  | 49, _, _, _ => exact ⟨vt_mok49, List.mem_filter.mpr ⟨List.mem_of_getElem? vt_mcw49, rfl⟩⟩
  | 50, _, _, _ => exact ⟨vt_mok50, List.mem_filter.mpr ⟨List.mem_of_getElem? vt_mcw50, rfl⟩⟩
  | 51, _, _, _ => exact ⟨vt_mok51, List.mem_filter.mpr ⟨List.mem_of_getElem? vt_mcw51, rfl⟩⟩
  | 52, _, _, _ => exact ⟨vt_mok52, List.mem_filter.mpr ⟨List.mem_of_getElem? vt_mcw52, rfl⟩⟩
  | 53, _, _, _ => exact ⟨vt_mok53, List.mem_filter.mpr ⟨List.mem_of_getElem? vt_mcw53, rfl⟩⟩
  | 54, _, _, _ => exact ⟨vt_mok54, List.mem_filter.mpr ⟨List.mem_of_getElem? vt_mcw54, rfl⟩⟩
  | 55, _, _, _ => exact ⟨vt_mok55, List.mem_filter.mpr ⟨List.mem_of_getElem? vt_mcw55, rfl⟩⟩
  | 56, _, _, _ => exact ⟨vt_mok56, List.mem_filter.mpr ⟨List.mem_of_getElem? vt_mcw56, rfl⟩⟩
  | 57, _, _, _ => exact ⟨vt_mok57, List.mem_filter.mpr ⟨List.mem_of_getElem? vt_mcw57, rfl⟩⟩
  | 58, _, _, _ => exact ⟨vt_mok58, List.mem_filter.mpr ⟨List.mem_of_getElem? vt_mcw58, rfl⟩⟩
  | 59, _, _, _ => exact ⟨vt_mok59, List.mem_filter.mpr ⟨List.mem_of_getElem? vt_mcw59, rfl⟩⟩
  | 60, _, _, _ => exact ⟨vt_mok60, List.mem_filter.mpr ⟨List.mem_of_getElem? vt_mcw60, rfl⟩⟩
  | 61, _, _, _ => exact ⟨vt_mok61, List.mem_filter.mpr ⟨List.mem_of_getElem? vt_mcw61, rfl⟩⟩
  | 62, _, _, _ => exact ⟨vt_mok62, List.mem_filter.mpr ⟨List.mem_of_getElem? vt_mcw62, rfl⟩⟩
  | 63, _, _, _ => exact ⟨vt_mok63, List.mem_filter.mpr ⟨List.mem_of_getElem? vt_mcw63, rfl⟩⟩
  | 64, _, _, _ => exact ⟨vt_mok64, List.mem_filter.mpr ⟨List.mem_of_getElem? vt_mcw64, rfl⟩⟩
  | 65, _, _, _ => exact ⟨vt_mok65, List.mem_filter.mpr ⟨List.mem_of_getElem? vt_mcw65, rfl⟩⟩
  | 66, _, _, _ => exact ⟨vt_mok66, List.mem_filter.mpr ⟨List.mem_of_getElem? vt_mcw66, rfl⟩⟩
  | 67, _, _, _ => exact ⟨vt_mok67, List.mem_filter.mpr ⟨List.mem_of_getElem? vt_mcw67, rfl⟩⟩
  | 68, _, _, _ => exact ⟨vt_mok68, List.mem_filter.mpr ⟨List.mem_of_getElem? vt_mcw68, rfl⟩⟩
  | 69, _, _, _ => exact ⟨vt_mok69, List.mem_filter.mpr ⟨List.mem_of_getElem? vt_mcw69, rfl⟩⟩
  | 70, _, _, _ => exact ⟨vt_mok70, List.mem_filter.mpr ⟨List.mem_of_getElem? vt_mcw70, rfl⟩⟩
  | 71, _, _, _ => exact ⟨vt_mok71, List.mem_filter.mpr ⟨List.mem_of_getElem? vt_mcw71, rfl⟩⟩
  | 72, _, _, _ => exact ⟨vt_mok72, List.mem_filter.mpr ⟨List.mem_of_getElem? vt_mcw72, rfl⟩⟩
  | 73, _, _, _ => exact ⟨vt_mok73, List.mem_filter.mpr ⟨List.mem_of_getElem? vt_mcw73, rfl⟩⟩
  | 74, _, _, _ => exact ⟨vt_mok74, List.mem_filter.mpr ⟨List.mem_of_getElem? vt_mcw74, rfl⟩⟩
  | 75, _, _, _ => exact ⟨vt_mok75, List.mem_filter.mpr ⟨List.mem_of_getElem? vt_mcw75, rfl⟩⟩
  | 76, _, _, _ => exact ⟨vt_mok76, List.mem_filter.mpr ⟨List.mem_of_getElem? vt_mcw76, rfl⟩⟩
  | 77, _, _, _ => exact ⟨vt_mok77, List.mem_filter.mpr ⟨List.mem_of_getElem? vt_mcw77, rfl⟩⟩
  | 78, _, _, _ => exact ⟨vt_mok78, List.mem_filter.mpr ⟨List.mem_of_getElem? vt_mcw78, rfl⟩⟩
  | 79, _, _, _ => exact ⟨vt_mok79, List.mem_filter.mpr ⟨List.mem_of_getElem? vt_mcw79, rfl⟩⟩
  | 80, _, _, _ => exact ⟨vt_mok80, List.mem_filter.mpr ⟨List.mem_of_getElem? vt_mcw80, rfl⟩⟩
  | 81, _, _, _ => exact ⟨vt_mok81, List.mem_filter.mpr ⟨List.mem_of_getElem? vt_mcw81, rfl⟩⟩
  | 82, _, _, _ => exact ⟨vt_mok82, List.mem_filter.mpr ⟨List.mem_of_getElem? vt_mcw82, rfl⟩⟩
  | 83, _, _, _ => exact ⟨vt_mok83, List.mem_filter.mpr ⟨List.mem_of_getElem? vt_mcw83, rfl⟩⟩
  | 84, _, _, _ => exact ⟨vt_mok84, List.mem_filter.mpr ⟨List.mem_of_getElem? vt_mcw84, rfl⟩⟩
  | 85, _, _, _ => exact ⟨vt_mok85, List.mem_filter.mpr ⟨List.mem_of_getElem? vt_mcw85, rfl⟩⟩
  | 86, _, _, _ => exact ⟨vt_mok86, List.mem_filter.mpr ⟨List.mem_of_getElem? vt_mcw86, rfl⟩⟩
  | 87, _, _, _ => exact ⟨vt_mok87, List.mem_filter.mpr ⟨List.mem_of_getElem? vt_mcw87, rfl⟩⟩
  | 88, _, _, _ => exact ⟨vt_mok88, List.mem_filter.mpr ⟨List.mem_of_getElem? vt_mcw88, rfl⟩⟩
  | 89, _, _, _ => exact ⟨vt_mok89, List.mem_filter.mpr ⟨List.mem_of_getElem? vt_mcw89, rfl⟩⟩
  | 90, _, _, _ => exact ⟨vt_mok90, List.mem_filter.mpr ⟨List.mem_of_getElem? vt_mcw90, rfl⟩⟩
  | 91, _, _, _ => exact ⟨vt_mok91, List.mem_filter.mpr ⟨List.mem_of_getElem? vt_mcw91, rfl⟩⟩
  | 92, _, _, _ => exact ⟨vt_mok92, List.mem_filter.mpr ⟨List.mem_of_getElem? vt_mcw92, rfl⟩⟩
  | 93, _, _, _ => exact ⟨vt_mok93, List.mem_filter.mpr ⟨List.mem_of_getElem? vt_mcw93, rfl⟩⟩
  | 94, _, _, _ => exact ⟨vt_mok94, List.mem_filter.mpr ⟨List.mem_of_getElem? vt_mcw94, rfl⟩⟩
  | 95, _, _, _ => exact ⟨vt_mok95, List.mem_filter.mpr ⟨List.mem_of_getElem? vt_mcw95, rfl⟩⟩
  | 96, _, _, _ => exact ⟨vt_mok96, List.mem_filter.mpr ⟨List.mem_of_getElem? vt_mcw96, rfl⟩⟩
  | 97, _, _, _ => exact ⟨vt_mok97, List.mem_filter.mpr ⟨List.mem_of_getElem? vt_mcw97, rfl⟩⟩
  | 98, _, _, _ => exact ⟨vt_mok98, List.mem_filter.mpr ⟨List.mem_of_getElem? vt_mcw98, rfl⟩⟩
  | 99, _, _, _ => exact ⟨vt_mok99, List.mem_filter.mpr ⟨List.mem_of_getElem? vt_mcw99, rfl⟩⟩
  | 100, _, _, _ => exact ⟨vt_mok100, List.mem_filter.mpr ⟨List.mem_of_getElem? vt_mcw100, rfl⟩⟩
  | 101, _, _, _ => exact ⟨vt_mok101, List.mem_filter.mpr ⟨List.mem_of_getElem? vt_mcw101, rfl⟩⟩
  | 102, _, _, _ => exact ⟨vt_mok102, List.mem_filter.mpr ⟨List.mem_of_getElem? vt_mcw102, rfl⟩⟩
  | 103, _, _, _ => exact ⟨vt_mok103, List.mem_filter.mpr ⟨List.mem_of_getElem? vt_mcw103, rfl⟩⟩
  | 104, _, _, _ => exact ⟨vt_mok104, List.mem_filter.mpr ⟨List.mem_of_getElem? vt_mcw104, rfl⟩⟩
  | 105, _, _, _ => exact ⟨vt_mok105, List.mem_filter.mpr ⟨List.mem_of_getElem? vt_mcw105, rfl⟩⟩
  | 106, _, _, _ => exact ⟨vt_mok106, List.mem_filter.mpr ⟨List.mem_of_getElem? vt_mcw106, rfl⟩⟩
  | 107, _, _, _ => exact ⟨vt_mok107, List.mem_filter.mpr ⟨List.mem_of_getElem? vt_mcw107, rfl⟩⟩
  | 108, _, _, _ => exact ⟨vt_mok108, List.mem_filter.mpr ⟨List.mem_of_getElem? vt_mcw108, rfl⟩⟩
  | 109, _, _, _ => exact ⟨vt_mok109, List.mem_filter.mpr ⟨List.mem_of_getElem? vt_mcw109, rfl⟩⟩
  | 110, _, _, _ => exact ⟨vt_mok110, List.mem_filter.mpr ⟨List.mem_of_getElem? vt_mcw110, rfl⟩⟩
  | 111, _, _, _ => exact ⟨vt_mok111, List.mem_filter.mpr ⟨List.mem_of_getElem? vt_mcw111, rfl⟩⟩
  | 112, _, _, _ => exact ⟨vt_mok112, List.mem_filter.mpr ⟨List.mem_of_getElem? vt_mcw112, rfl⟩⟩
  | 113, _, _, _ => exact ⟨vt_mok113, List.mem_filter.mpr ⟨List.mem_of_getElem? vt_mcw113, rfl⟩⟩
  | 114, _, _, _ => exact ⟨vt_mok114, List.mem_filter.mpr ⟨List.mem_of_getElem? vt_mcw114, rfl⟩⟩
  | 115, _, _, _ => exact ⟨vt_mok115, List.mem_filter.mpr ⟨List.mem_of_getElem? vt_mcw115, rfl⟩⟩
  | 116, _, _, _ => exact ⟨vt_mok116, List.mem_filter.mpr ⟨List.mem_of_getElem? vt_mcw116, rfl⟩⟩
  | 41, _, _, h => exact absurd rfl h
  | k + 117, _, h, _ => exact absurd h (by omega)
end
section
def vt_tr (base b : Nat) : Value → Value
  | .ref a => .ref (base + a)
  | .retAddr _ => .ref b
  | v => v
theorem vt_tr_rf (base b : Nat) (r : Option Nat) : vt_tr base b (va_rf r) = va_rf (r.map (base + ·)) := by cases r <;> rfl
theorem vt_tr_cat (base b : Nat) (v : Value) : (vt_tr base b v).category = v.category := by cases v <;> rfl
def vt_fv (base : Nat) (h : vt_H) (k j : Nat) (rf : Bool) : Value := if rf = true then va_rf ((vh_R h k j).map (base + ·)) else .int (vh_I h k j)
def vt_nf (ci : Nat) : Nat := match vt_cl[ci]? with
  | some (_, _, N) => N
  | none => 0
def vt_fs (base : Nat) (h : vt_H) (k ci : Nat) : List Value := (List.range (vt_nf ci)).map (fun j => vt_fv base h k j (vt_ref ci j))
/-- the cell of the machine that stands for a cell of the small heap -/
def vt_E (base : Nat) (ca : Nat → ClassId) (h : vt_H) (k : Nat) : va_E :=
  if 100 ≤ vh_K h k then .inr (vh_K h k - 100, vt_fs base h k (vh_K h k - 100))
  else if vh_K h k = 1 ∨ vh_K h k = 4 then .inl (ca (vh_K h k), vh_Z h k, .inl (vh_I h k))
  else .inl (ca (vh_K h k), vh_Z h k, .inr (.inr (.inr (.inr (fun i => (vh_R h k i).map (base + ·))))))
def vt_ws (base : Nat) (ca : Nat → ClassId) (h : vt_H) : va_W := (List.range (vh_n h)).map (fun k => (base + k, vt_E base ca h k))
theorem vt_ws_at {base : Nat} {ca : Nat → ClassId} {h : vt_H} {k : Nat} (hk : k < vh_n h) : (vt_ws base ca h)[k]? = some (base + k, vt_E base ca h k) := by
  simp [vt_ws, hk]
theorem vt_ws_of {base : Nat} {ca : Nat → ClassId} {h : vt_H} {k : Nat} {q : Nat × va_E} (hq : (vt_ws base ca h)[k]? = some q) : k < vh_n h ∧ q = (base + k, vt_E base ca h k) := by
  have hk : k < vh_n h := by
    have := (List.getElem?_eq_some_iff.mp hq).1
    simpa [vt_ws] using this
  rw [vt_ws_at hk] at hq
  exact ⟨hk, (Option.some.inj hq).symm⟩
theorem vt_ws_set {base : Nat} {ca : Nat → ClassId} {h h' : vt_H} {k : Nat} (hn : vh_n h' = vh_n h) (ho : ∀ j, j ≠ k → vt_E base ca h' j = vt_E base ca h j) : (vt_ws base ca h).set k (base + k, vt_E base ca h' k) = vt_ws base ca h' := by
  apply List.ext_getElem?
  intro j
  by_cases hj : j < vh_n h
  · rw [vt_ws_at (h := h') (by omega), List.getElem?_set]
    by_cases e : k = j
    · subst e
      simp [vt_ws, hj]
    · rw [if_neg e, vt_ws_at hj, ho j (fun q => e q.symm)]
  · rw [List.getElem?_eq_none (by simp [vt_ws]; omega), List.getElem?_eq_none (by simp [vt_ws]; omega)]
theorem vt_ws_push {base : Nat} {ca : Nat → ClassId} {h h' : vt_H} (hn : vh_n h' = vh_n h + 1) (ho : ∀ j, j < vh_n h → vt_E base ca h' j = vt_E base ca h j) : vt_ws base ca h ++ [(base + vh_n h, vt_E base ca h' (vh_n h))] = vt_ws base ca h' := by
  unfold vt_ws
  rw [hn, List.range_succ, List.map_append]
  congr 1
  exact List.map_congr_left (fun j hj => by rw [ho j (List.mem_range.mp hj)])
theorem vt_ws_D {base : Nat} {ca : Nat → ClassId} {h : vt_H} : va_D (fun q => base ≤ q) (vt_ws base ca h) := by
  refine ⟨fun i j p q hp hq e => ?_, fun k q hq => ?_⟩
  · obtain ⟨-, rfl⟩ := vt_ws_of hp
    obtain ⟨-, rfl⟩ := vt_ws_of hq
    have e : base + i = base + j := e
    omega
  · obtain ⟨-, rfl⟩ := vt_ws_of hq
    exact Nat.le_add_right _ _
def vt_tys (ca : Nat → ClassId) : List (ClassId × FieldType) := vt_aks.map (fun q => (ca q.1, q.2))
/-- the heap of the machine holds the small heap, from base on -/
def vt_Rel (base : Nat) (D : va_G) (ca : Nat → ClassId) (h : vt_H) (H : Heap) : Prop := (∀ k, vh_n h ≤ k → vh_K h k = 0) ∧ (∀ k, vh_K h k < 100 → 0 < vh_K h k → (vt_ak (vh_K h k)).isSome = true) ∧ va_P D vt_cl (vt_ws base ca h) H
def vt_L (base b m : Nat) (lsA : Array Slot) (ls : List Value) : Prop := lsA.size = (vt_m m).2.2.1 ∧ lv_wf lsA ∧ ls.length ≤ (vt_m m).2.2.1 ∧ (∀ v ∈ ls, v.category = 1) ∧ ∀ (i : Nat) (v : Value), ls[i]? = some v → v ≠ vt_un → lsA[i]? = some (.val (vt_tr base b v))
/-- the locals as the kit lists them -/
def vt_lv (base b : Nat) (ls : List Value) : List (Nat × Value) := (List.range ls.length).filterMap (fun i => match ls[i]? with
  | some v => if v = vt_un then none else some (i, vt_tr base b v)
  | none => none)
theorem vt_lv_mem {base b : Nat} {ls : List Value} {q : Nat × Value} : q ∈ vt_lv base b ls ↔ ∃ v, ls[q.1]? = some v ∧ v ≠ vt_un ∧ q.2 = vt_tr base b v := by
  unfold vt_lv
  rw [List.mem_filterMap]
  constructor
  · rintro ⟨i, hi, hq⟩
    cases hv : ls[i]? with
    | none => rw [hv] at hq; cases hq
    | some v =>
      rw [hv] at hq
      dsimp only at hq
      by_cases hu : v = vt_un
      · rw [if_pos hu] at hq; cases hq
      · rw [if_neg hu] at hq
        cases hq
        exact ⟨v, hv, hu, rfl⟩
  · rintro ⟨v, hv, hu, hq⟩
    refine ⟨q.1, List.mem_range.mpr (List.getElem?_eq_some_iff.mp hv).1, ?_⟩
    rw [hv]
    dsimp only
    rw [if_neg hu, ← hq]
theorem vt_lv_has {base b m : Nat} {lsA : Array Slot} {ls : List Value} (hL : vt_L base b m lsA ls) : lv_has lsA (vt_m m).2.2.1 (vt_lv base b ls) := by
  refine ⟨hL.1, hL.2.1, fun q hq => ?_⟩
  obtain ⟨v, hv, hu, e⟩ := vt_lv_mem.mp hq
  rw [e]
  exact hL.2.2.2.2 _ _ hv hu
theorem vt_L_set {base b m : Nat} {lsA lsA' : Array Slot} {ls : List Value} {a : Nat} {v : Value} (hL : vt_L base b m lsA ls) (ha : a < ls.length) (hv : v.category = 1) (hl : lv_has lsA' (vt_m m).2.2.1 ((a, vt_tr base b v) :: (vt_lv base b ls).filter (fun q => !(q.1 == a) && !(q.1 + 1 == a && q.2.category == 2)))) : vt_L base b m lsA' (ls.set a v) := by
  obtain ⟨h1, h2, h3, h4, h5⟩ := hL
  refine ⟨hl.1, hl.2.1, by rw [List.length_set]; exact h3, fun x hx => ?_, fun i x hx hu => ?_⟩
  · rcases List.mem_or_eq_of_mem_set hx with q | q
    · exact h4 x q
    · rw [q]; exact hv
  · rw [List.getElem?_set] at hx
    by_cases e : a = i
    · subst e
      rw [if_pos rfl, if_pos ha] at hx
      cases hx
      exact hl.2.2 _ List.mem_cons_self
    · rw [if_neg e] at hx
      refine hl.2.2 (i, vt_tr base b x) (List.mem_cons_of_mem _ (List.mem_filter.mpr ⟨vt_lv_mem.mpr ⟨x, hx, hu, rfl⟩, ?_⟩))
      have hc : (vt_tr base b x).category = 1 := by rw [vt_tr_cat]; exact h4 x (List.mem_of_getElem? hx)
      simp only [hc]
      have : (i == a) = false := beq_eq_false_iff_ne.mpr (fun q => e q.symm)
      simp [this]
/-- what stays while a method runs -/
def vt_Ctx (m : Nat) (p : Program) (Rm : Room) (s : State) (mm : MethodId) (args : Array Value) (meth : Method) (c : Code) : Prop :=
  p.tables.exec = Jvm.exec ∧ c.code = (vt_m m).2.1 ∧ c.maxLocals = (vt_m m).2.2.1 ∧ meth.sig.returnType = (vt_m m).2.2.2 ∧ s.vm.findClass (vt_own m) = some mm.cls ∧ (∀ w ∈ vt_T, w.before args s = true) ∧ meth.locks = false ∧ ((vt_m m).1.name = "<init>" → meth.name = "<init>") ∧ vt_dp m + 1 ≤ Rm.frames ∧ 40 * (vt_dp m + 1) ≤ Rm.locals
/-- what the tables say that no list of words carries along -/
def vt_Tx (s : State) : Prop := (∀ q ∈ vt_NL, va_Nw (.methodLinkNest q.1 q.2.1 q.2.2 vt_host) s) ∧ va_AO "RuleEngine$Rule" s ∧ va_Nw (.arrayOver (.array .int)) s
theorem vt_AOA {u U : State} (hvm : u.vm.Alike U.vm) (h : va_Nw (.arrayOver (.array .int)) u) : va_Nw (.arrayOver (.array .int)) U := by
  have hi : ∀ comp : ClassId, (U.vm.classes.findIdx? fun (x : Class) => match x.kind with | .array component _ => component == comp | _ => false) = (u.vm.classes.findIdx? fun (x : Class) => match x.kind with | .array component _ => component == comp | _ => false) := fun comp => (va_idx_bare U.vm comp).symm.trans (Eq.trans (by rw [hvm.bare_eq]) (va_idx_bare u.vm comp))
  have hf : ∀ n, U.vm.findClass n = u.vm.findClass n := fun n => by rw [hvm.findClass]
  unfold va_Nw Cond.before Cond.holds at h ⊢
  simp only [Cond.value, beq_iff_eq] at h ⊢
  rw [hf]
  cases hc : u.vm.findClass (FieldType.array FieldType.int).toString with
  | none => rw [hc] at h; simp at h
  | some comp =>
    rw [hc, Option.bind_some] at h
    rw [Option.bind_some]
    obtain ⟨c, h1, h2⟩ := Option.bind_eq_some_iff.mp h
    obtain ⟨k, hk, hb⟩ := Option.map_eq_some_iff.mp h2
    obtain ⟨k', hk', he⟩ := hvm.2.2 _ _ hk
    refine Option.bind_eq_some_iff.mpr ⟨c, (hi comp).trans h1, Option.map_eq_some_iff.mpr ⟨k', hk', ?_⟩⟩
    have hkk : k'.kind = k.kind := by rw [he]
    rw [hkk, hf]
    exact hb
theorem vt_Tx.moved {s U : State} (hW : s.WarmedH U.vm) (h : vt_Tx s) : vt_Tx U := ⟨fun q hq => va_Nw.warmM hW (h.1 q hq), va_AO.moved hW.alike h.2.1, vt_AOA hW.alike h.2.2⟩
theorem vt_Tx.same {s U : State} (hv : s.vm = U.vm) (h : vt_Tx s) : vt_Tx U := ⟨fun q hq => va_Nw.same rfl hv (h.1 q hq), va_AO.moved (by rw [hv]; exact Vm.Alike.refl _) h.2.1, vt_AOA (by rw [hv]; exact Vm.Alike.refl _) h.2.2⟩
def vt_Wd (base b : Nat) (D : va_G) (ca : Nat → ClassId) (X : Nat → Int32) (L : Nat) (s : State) : Prop := va_K D vt_cl (vt_tys ca) s ∧ b < base ∧ base ≤ s.heap.size ∧ va_X b L X s s.heap ∧ vt_Tx s
/-- the machine goes on from here to Qf, wherever its cells lie -/
def vt_Go (p : Program) (l : Launch) (e : Env) (Rm : Room) (s : State) (mm : MethodId) (args : Array Value) (below : List Frame) (meth : Method) (c : Code) (Qf : State → Prop) (base b : Nat) (D : va_G) (ca : Nat → ClassId) (m pc : Nat) (ls st : List Value) (h : vt_H) (cells slots : Nat) : Prop :=
  ∀ (H : Heap) (locs : List Loc) (lsA : Array Slot), s.heap.size + cells = base + vh_n h → vt_Rel base D ca h H → va_S (fun q => base ≤ q) s.heap H locs → vt_L base b m lsA ls → W p l e Rm s mm args below meth c H locs cells slots Qf (F0 mm pc lsA (st.map (vt_tr base b)))
section SM
variable {p : Program} {l : Launch} {e : Env} {Rm : Room} {s : State} {mm : MethodId} {args : Array Value} {below : List Frame} {meth : Method} {c : Code} {Qf : State → Prop} {base b : Nat} {D : va_G} {ca : Nat → ClassId} {m pc : Nat} {ls st : List Value} {h : vt_H} {cells slots : Nat}
/-- what the count of new cells says of the heap's size -/
theorem vt_cap {H : Heap} {locs : List Loc} {g : JFrame} (k : H.size ≤ s.heap.size + cells → W p l e Rm s mm args below meth c H locs cells slots Qf g) : W p l e Rm s mm args below meth c H locs cells slots Qf g := fun T hT X => k (by have := X.same.2.2.1; rw [← hT]; exact this) T hT X
theorem vt_size {H : Heap} (hz : H.size ≤ base + vh_n h) (hb : base ≤ H.size) (hR : vt_Rel base D ca h H) : H.size = base + vh_n h := by
  rcases Nat.eq_zero_or_pos (vh_n h) with q | q
  · omega
  · have := (hR.2.2 (vh_n h - 1) _ (vt_ws_at (by omega))).lt
    have : base + (vh_n h - 1) < H.size := this
    omega
theorem vt_dc_of {x : Instr} {n : Nat} (hd : vt_dc m pc x n = true) : decode (vt_m m).2.1 pc = .ok (x, n) := of_decide_eq_true hd
theorem vt_L_at {lsA : Array Slot} {i : Nat} {v : Value} (hL : vt_L base b m lsA ls) (hv : ls[i]? = some v) (hu : v ≠ vt_un) : lsA[i]? = some (.val (vt_tr base b v)) := hL.2.2.2.2 i v hv hu
theorem sm_const (C : vt_Ctx m p Rm s mm args meth c) (Wd : vt_Wd base b D ca (vh_X h) (vh_L h) s) {w a b1 c1 e1 : Nat} {v : Int} {pc' : Nat} {ls' st' : List Value} {h' : vt_H} {cells' slots' : Nat} (hc : cells' = cells + (vh_n h' - vh_n h)) (hs : slots' = slots + (vh_u h' - vh_u h)) (hbc : cells' ≤ Rm.cells) (hbs : slots' ≤ Rm.slots) (hn : (some (pc + a, ls, .int (Int32.ofInt v) :: st, h) : vt_N) = some (pc', ls', st', h')) (hok : vt_okb m pc (0, w, v, a, b1, c1, e1) = true) (kk : vt_Go p l e Rm s mm args below meth c Qf base b D ca m pc' ls' st' h' cells' slots') : vt_Go p l e Rm s mm args below meth c Qf base b D ca m pc ls st h cells slots := by
  obtain ⟨hx, hb, hml, hr, hown, hts, hlk, hnm, hfr, hlo⟩ := C
  cases hn
  simp only [Nat.sub_self, Nat.add_zero] at hc hs
  replace hc := hc.symm; replace hs := hs.symm; subst hc; subst hs
  intro H locs lsA hZ hR hS hL
  have k := kk H locs lsA hZ hR hS hL
  simp only [vt_okb] at hok
  split at hok <;> simp only [Bool.and_eq_true, decide_eq_true_eq] at hok
  · obtain ⟨rfl, h1⟩ := hok
    exact lv_iconst hx hb (vt_dc_of h1) rfl k
  · obtain ⟨rfl, h1, h2⟩ := hok
    exact lv_bipush hx hb (vt_dc_of h1) h2 k
  · obtain ⟨rfl, h1, h2⟩ := hok
    exact lv_sipush hx hb (vt_dc_of h1) h2 k
  · obtain ⟨rfl, h1, h2⟩ := hok
    exact lv_ldc hx hb hown (hts _ (vt_wd_of h2)) (vt_dc_of h1) k
  · obtain ⟨rfl, h1, h2⟩ := hok
    exact lv_ldcw hx hb hown (hts _ (vt_wd_of h2)) (vt_dc_of h1) k
theorem sm_iload (C : vt_Ctx m p Rm s mm args meth c) (Wd : vt_Wd base b D ca (vh_X h) (vh_L h) s) {w a b1 c1 e1 : Nat} {v : Int} {pc' : Nat} {ls' st' : List Value} {h' : vt_H} {cells' slots' : Nat} (hc : cells' = cells + (vh_n h' - vh_n h)) (hs : slots' = slots + (vh_u h' - vh_u h)) (hbc : cells' ≤ Rm.cells) (hbs : slots' ≤ Rm.slots) (hn : vn_iload a b1 pc ls st h = some (pc', ls', st', h')) (hok : vt_okb m pc (1, w, v, a, b1, c1, e1) = true) (kk : vt_Go p l e Rm s mm args below meth c Qf base b D ca m pc' ls' st' h' cells' slots') : vt_Go p l e Rm s mm args below meth c Qf base b D ca m pc ls st h cells slots := by
  obtain ⟨hx, hb, hml, hr, hown, hts, hlk, hnm, hfr, hlo⟩ := C
  unfold vn_iload at hn
  split at hn
  · rename_i x hl
    cases hn
    simp only [Nat.sub_self, Nat.add_zero] at hc hs
    replace hc := hc.symm; replace hs := hs.symm; subst hc; subst hs
    intro H locs lsA hZ hR hS hL
    have k := kk H locs lsA hZ hR hS hL
    have hl : lsA[a]? = some (.val (.int x)) := vt_L_at hL hl (by simp)
    simp only [vt_okb] at hok
    split at hok <;> simp only [Bool.and_eq_true, decide_eq_true_eq] at hok
    · obtain ⟨⟨h0, rfl⟩, h1⟩ := hok
      exact lv_iload_n hx hb (vt_dc_of h1) (by simp [Nat.mod_eq_of_lt h0]) hl k
    · obtain ⟨rfl, h1⟩ := hok
      exact lv_iload hx hb (vt_dc_of h1) hl k
  · cases hn
theorem sm_aload (C : vt_Ctx m p Rm s mm args meth c) (Wd : vt_Wd base b D ca (vh_X h) (vh_L h) s) {w a b1 c1 e1 : Nat} {v : Int} {pc' : Nat} {ls' st' : List Value} {h' : vt_H} {cells' slots' : Nat} (hc : cells' = cells + (vh_n h' - vh_n h)) (hs : slots' = slots + (vh_u h' - vh_u h)) (hbc : cells' ≤ Rm.cells) (hbs : slots' ≤ Rm.slots) (hn : vn_aload a b1 pc ls st h = some (pc', ls', st', h')) (hok : vt_okb m pc (2, w, v, a, b1, c1, e1) = true) (kk : vt_Go p l e Rm s mm args below meth c Qf base b D ca m pc' ls' st' h' cells' slots') : vt_Go p l e Rm s mm args below meth c Qf base b D ca m pc ls st h cells slots := by
  obtain ⟨hx, hb, hml, hr, hown, hts, hlk, hnm, hfr, hlo⟩ := C
  unfold vn_aload at hn
  split at hn
  · rename_i v0 hl
    by_cases hv : vt_rv v0 = true
    · rw [if_pos hv] at hn
      cases hn
      simp only [Nat.sub_self, Nat.add_zero] at hc hs
      replace hc := hc.symm; replace hs := hs.symm; subst hc; subst hs
      intro H locs lsA hZ hR hS hL
      have k := kk H locs lsA hZ hR hS hL
      have hl : lsA[a]? = some (.val (vt_tr base b v0)) := vt_L_at hL hl (by rintro rfl; simp [vt_rv] at hv)
      have hf : vt_tr base b v0 = .null ∨ ∃ x, vt_tr base b v0 = .ref x := by
        cases v0 <;> simp [vt_rv, vt_tr] at hv ⊢
      have k : W p l e Rm s mm args below meth c H locs cells slots Qf (F0 mm (pc + b1) lsA (vt_tr base b v0 :: st.map (vt_tr base b))) := k
      simp only [vt_okb] at hok
      rcases hf with q | ⟨x, q⟩ <;> rw [q] at hl k <;> split at hok <;> simp only [Bool.and_eq_true, decide_eq_true_eq] at hok
      · obtain ⟨⟨h0, rfl⟩, h1⟩ := hok
        exact lv_aload_nN hx hb (vt_dc_of h1) (by simp [Nat.mod_eq_of_lt h0]) hl k
      · obtain ⟨rfl, h1⟩ := hok
        exact lv_aloadN hx hb (vt_dc_of h1) hl k
      · obtain ⟨⟨h0, rfl⟩, h1⟩ := hok
        exact lv_aload_n hx hb (vt_dc_of h1) (by simp [Nat.mod_eq_of_lt h0]) hl k
      · obtain ⟨rfl, h1⟩ := hok
        exact lv_aload hx hb (vt_dc_of h1) hl k
    · rw [if_neg hv] at hn
      cases hn
  · cases hn
theorem sm_istore (C : vt_Ctx m p Rm s mm args meth c) (Wd : vt_Wd base b D ca (vh_X h) (vh_L h) s) {w a b1 c1 e1 : Nat} {v : Int} {pc' : Nat} {ls' st' : List Value} {h' : vt_H} {cells' slots' : Nat} (hc : cells' = cells + (vh_n h' - vh_n h)) (hs : slots' = slots + (vh_u h' - vh_u h)) (hbc : cells' ≤ Rm.cells) (hbs : slots' ≤ Rm.slots) (hn : vn_istore a b1 pc ls st h = some (pc', ls', st', h')) (hok : vt_okb m pc (3, w, v, a, b1, c1, e1) = true) (kk : vt_Go p l e Rm s mm args below meth c Qf base b D ca m pc' ls' st' h' cells' slots') : vt_Go p l e Rm s mm args below meth c Qf base b D ca m pc ls st h cells slots := by
  obtain ⟨hx, hb, hml, hr, hown, hts, hlk, hnm, hfr, hlo⟩ := C
  unfold vn_istore at hn
  split at hn
  · rename_i x t
    by_cases ha : a < ls.length
    · rw [if_pos ha] at hn
      cases hn
      simp only [Nat.sub_self, Nat.add_zero] at hc hs
      replace hc := hc.symm; replace hs := hs.symm; subst hc; subst hs
      intro H locs lsA hZ hR hS hL
      have han : a < (vt_m m).2.2.1 := Nat.lt_of_lt_of_le ha hL.2.2.1
      simp only [vt_okb] at hok
      split at hok <;> simp only [Bool.and_eq_true, decide_eq_true_eq] at hok
      · obtain ⟨⟨h0, rfl⟩, h1⟩ := hok
        exact lv_istore_n hx hb (vt_dc_of h1) (by simp [Nat.mod_eq_of_lt h0]) (vt_lv_has hL) han rfl (fun ls2 hl2 => kk H locs ls2 hZ hR hS (vt_L_set hL ha rfl hl2))
      · obtain ⟨rfl, h1⟩ := hok
        exact lv_istore hx hb (vt_dc_of h1) (vt_lv_has hL) han rfl (fun ls2 hl2 => kk H locs ls2 hZ hR hS (vt_L_set hL ha rfl hl2))
    · rw [if_neg ha] at hn
      cases hn
  · cases hn
theorem sm_astore (C : vt_Ctx m p Rm s mm args meth c) (Wd : vt_Wd base b D ca (vh_X h) (vh_L h) s) {w a b1 c1 e1 : Nat} {v : Int} {pc' : Nat} {ls' st' : List Value} {h' : vt_H} {cells' slots' : Nat} (hc : cells' = cells + (vh_n h' - vh_n h)) (hs : slots' = slots + (vh_u h' - vh_u h)) (hbc : cells' ≤ Rm.cells) (hbs : slots' ≤ Rm.slots) (hn : vn_astore a b1 pc ls st h = some (pc', ls', st', h')) (hok : vt_okb m pc (4, w, v, a, b1, c1, e1) = true) (kk : vt_Go p l e Rm s mm args below meth c Qf base b D ca m pc' ls' st' h' cells' slots') : vt_Go p l e Rm s mm args below meth c Qf base b D ca m pc ls st h cells slots := by
  obtain ⟨hx, hb, hml, hr, hown, hts, hlk, hnm, hfr, hlo⟩ := C
  unfold vn_astore at hn
  split at hn
  · rename_i v0 t
    by_cases ha : a < ls.length ∧ vt_rv v0 = true
    · rw [if_pos ha] at hn
      cases hn
      simp only [Nat.sub_self, Nat.add_zero] at hc hs
      replace hc := hc.symm; replace hs := hs.symm; subst hc; subst hs
      intro H locs lsA hZ hR hS hL
      have han : a < (vt_m m).2.2.1 := Nat.lt_of_lt_of_le ha.1 hL.2.2.1
      have hcat : v0.category = 1 := by
        have := ha.2
        cases v0 <;> simp [vt_rv, Value.category] at this ⊢
      have hf : vt_tr base b v0 = .null ∨ ∃ x, vt_tr base b v0 = .ref x := by
        have := ha.2
        cases v0 <;> simp [vt_rv, vt_tr] at this ⊢
      have key : ∀ ls2, lv_has ls2 (vt_m m).2.2.1 ((a, vt_tr base b v0) :: (vt_lv base b ls).filter (fun q => !(q.1 == a) && !(q.1 + 1 == a && q.2.category == 2))) → W p l e Rm s mm args below meth c H locs cells slots Qf (F0 mm (pc + b1) ls2 (st'.map (vt_tr base b))) := fun ls2 hl2 => kk H locs ls2 hZ hR hS (vt_L_set hL ha.1 hcat hl2)
      show W p l e Rm s mm args below meth c H locs cells slots Qf (F0 mm pc lsA (vt_tr base b v0 :: st'.map (vt_tr base b)))
      simp only [vt_okb] at hok
      rcases hf with q | ⟨x, q⟩ <;> rw [q] at key ⊢ <;> split at hok <;> simp only [Bool.and_eq_true, decide_eq_true_eq] at hok
      · obtain ⟨⟨h0, rfl⟩, h1⟩ := hok
        exact lv_astore_nN hx hb (vt_dc_of h1) (by simp [Nat.mod_eq_of_lt h0]) (vt_lv_has hL) han rfl key
      · obtain ⟨rfl, h1⟩ := hok
        exact lv_astoreN hx hb (vt_dc_of h1) (vt_lv_has hL) han rfl key
      · obtain ⟨⟨h0, rfl⟩, h1⟩ := hok
        exact lv_astore_n hx hb (vt_dc_of h1) (by simp [Nat.mod_eq_of_lt h0]) (vt_lv_has hL) han rfl key
      · obtain ⟨rfl, h1⟩ := hok
        exact lv_astore hx hb (vt_dc_of h1) (vt_lv_has hL) han rfl key
    · rw [if_neg ha] at hn
      cases hn
  · cases hn
theorem sm_iinc (C : vt_Ctx m p Rm s mm args meth c) (Wd : vt_Wd base b D ca (vh_X h) (vh_L h) s) {w a b1 c1 e1 : Nat} {v : Int} {pc' : Nat} {ls' st' : List Value} {h' : vt_H} {cells' slots' : Nat} (hc : cells' = cells + (vh_n h' - vh_n h)) (hs : slots' = slots + (vh_u h' - vh_u h)) (hbc : cells' ≤ Rm.cells) (hbs : slots' ≤ Rm.slots) (hn : vn_iinc v a pc ls st h = some (pc', ls', st', h')) (hok : vt_okb m pc (5, w, v, a, b1, c1, e1) = true) (kk : vt_Go p l e Rm s mm args below meth c Qf base b D ca m pc' ls' st' h' cells' slots') : vt_Go p l e Rm s mm args below meth c Qf base b D ca m pc ls st h cells slots := by
  obtain ⟨hx, hb, hml, hr, hown, hts, hlk, hnm, hfr, hlo⟩ := C
  unfold vn_iinc at hn
  split at hn
  · rename_i x hl
    cases hn
    simp only [Nat.sub_self, Nat.add_zero] at hc hs
    replace hc := hc.symm; replace hs := hs.symm; subst hc; subst hs
    intro H locs lsA hZ hR hS hL
    have ha : a < ls.length := (List.getElem?_eq_some_iff.mp hl).1
    have han : a < (vt_m m).2.2.1 := Nat.lt_of_lt_of_le ha hL.2.2.1
    obtain ⟨k0, hk0⟩ := List.getElem?_of_mem (vt_lv_mem (q := (a, .int x)) (base := base) (b := b) |>.mpr ⟨.int x, hl, by simp, rfl⟩)
    exact lv_iinc hx hb (vt_dc_of hok) (vt_lv_has hL) hk0 rfl han rfl (fun ls2 hl2 => kk H locs ls2 hZ hR hS (vt_L_set hL ha rfl hl2))
  · cases hn
theorem sm_bin (C : vt_Ctx m p Rm s mm args meth c) (Wd : vt_Wd base b D ca (vh_X h) (vh_L h) s) {w a b1 c1 e1 : Nat} {v : Int} {pc' : Nat} {ls' st' : List Value} {h' : vt_H} {cells' slots' : Nat} (hc : cells' = cells + (vh_n h' - vh_n h)) (hs : slots' = slots + (vh_u h' - vh_u h)) (hbc : cells' ≤ Rm.cells) (hbs : slots' ≤ Rm.slots) (hn : vn_bin a pc ls st h = some (pc', ls', st', h')) (hok : vt_okb m pc (6, w, v, a, b1, c1, e1) = true) (kk : vt_Go p l e Rm s mm args below meth c Qf base b D ca m pc' ls' st' h' cells' slots') : vt_Go p l e Rm s mm args below meth c Qf base b D ca m pc ls st h cells slots := by
  obtain ⟨hx, hb, hml, hr, hown, hts, hlk, hnm, hfr, hlo⟩ := C
  unfold vn_bin at hn
  split at hn
  · rename_i y x t
    cases hn
    simp only [Nat.sub_self, Nat.add_zero] at hc hs
    replace hc := hc.symm; replace hs := hs.symm; subst hc; subst hs
    intro H locs lsA hZ hR hS hL
    have k : W p l e Rm s mm args below meth c H locs cells slots Qf (F0 mm (pc + 1) lsA (.int (vt_bin a x y) :: t.map (vt_tr base b))) := kk H locs lsA hZ hR hS hL
    show W p l e Rm s mm args below meth c H locs cells slots Qf (F0 mm pc lsA (.int y :: .int x :: t.map (vt_tr base b)))
    have hd := vt_dc_of (m := m) (pc := pc) (x := vt_binI a) (n := 1) hok
    unfold vt_bin at k
    unfold vt_binI at hd
    split at k <;> (try dsimp only at hd)
    · exact lv_iadd hx hb hd k
    · exact lv_isub hx hb hd k
    · exact lv_imul hx hb hd k
    · exact lv_iand hx hb hd k
    · exact lv_ior hx hb hd k
    · exact lv_ixor hx hb hd k
    · exact lv_ishl hx hb hd k
    · exact lv_ishr hx hb hd k
    · split at hd <;> first | contradiction | exact lv_iushr hx hb hd rfl k
  · cases hn
theorem sm_div (C : vt_Ctx m p Rm s mm args meth c) (Wd : vt_Wd base b D ca (vh_X h) (vh_L h) s) {w a b1 c1 e1 : Nat} {v : Int} {pc' : Nat} {ls' st' : List Value} {h' : vt_H} {cells' slots' : Nat} (hc : cells' = cells + (vh_n h' - vh_n h)) (hs : slots' = slots + (vh_u h' - vh_u h)) (hbc : cells' ≤ Rm.cells) (hbs : slots' ≤ Rm.slots) (hn : vn_div pc ls st h = some (pc', ls', st', h')) (hok : vt_okb m pc (7, w, v, a, b1, c1, e1) = true) (kk : vt_Go p l e Rm s mm args below meth c Qf base b D ca m pc' ls' st' h' cells' slots') : vt_Go p l e Rm s mm args below meth c Qf base b D ca m pc ls st h cells slots := by
  obtain ⟨hx, hb, hml, hr, hown, hts, hlk, hnm, hfr, hlo⟩ := C
  unfold vn_div at hn
  split at hn
  · rename_i y x t
    by_cases hy : y = 0
    · rw [if_pos hy] at hn
      cases hn
    · rw [if_neg hy] at hn
      cases hn
      simp only [Nat.sub_self, Nat.add_zero] at hc hs
      replace hc := hc.symm; replace hs := hs.symm; subst hc; subst hs
      intro H locs lsA hZ hR hS hL
      exact lv_idiv hx hb (vt_dc_of hok) hy (kk H locs lsA hZ hR hS hL)
  · cases hn
theorem sm_rem (C : vt_Ctx m p Rm s mm args meth c) (Wd : vt_Wd base b D ca (vh_X h) (vh_L h) s) {w a b1 c1 e1 : Nat} {v : Int} {pc' : Nat} {ls' st' : List Value} {h' : vt_H} {cells' slots' : Nat} (hc : cells' = cells + (vh_n h' - vh_n h)) (hs : slots' = slots + (vh_u h' - vh_u h)) (hbc : cells' ≤ Rm.cells) (hbs : slots' ≤ Rm.slots) (hn : vn_rem pc ls st h = some (pc', ls', st', h')) (hok : vt_okb m pc (8, w, v, a, b1, c1, e1) = true) (kk : vt_Go p l e Rm s mm args below meth c Qf base b D ca m pc' ls' st' h' cells' slots') : vt_Go p l e Rm s mm args below meth c Qf base b D ca m pc ls st h cells slots := by
  obtain ⟨hx, hb, hml, hr, hown, hts, hlk, hnm, hfr, hlo⟩ := C
  unfold vn_rem at hn
  split at hn
  · rename_i y x t
    by_cases hy : y = 0
    · rw [if_pos hy] at hn
      cases hn
    · rw [if_neg hy] at hn
      cases hn
      simp only [Nat.sub_self, Nat.add_zero] at hc hs
      replace hc := hc.symm; replace hs := hs.symm; subst hc; subst hs
      intro H locs lsA hZ hR hS hL
      exact lv_irem hx hb (vt_dc_of hok) hy (kk H locs lsA hZ hR hS hL)
  · cases hn
theorem sm_neg (C : vt_Ctx m p Rm s mm args meth c) (Wd : vt_Wd base b D ca (vh_X h) (vh_L h) s) {w a b1 c1 e1 : Nat} {v : Int} {pc' : Nat} {ls' st' : List Value} {h' : vt_H} {cells' slots' : Nat} (hc : cells' = cells + (vh_n h' - vh_n h)) (hs : slots' = slots + (vh_u h' - vh_u h)) (hbc : cells' ≤ Rm.cells) (hbs : slots' ≤ Rm.slots) (hn : vn_neg pc ls st h = some (pc', ls', st', h')) (hok : vt_okb m pc (9, w, v, a, b1, c1, e1) = true) (kk : vt_Go p l e Rm s mm args below meth c Qf base b D ca m pc' ls' st' h' cells' slots') : vt_Go p l e Rm s mm args below meth c Qf base b D ca m pc ls st h cells slots := by
  obtain ⟨hx, hb, hml, hr, hown, hts, hlk, hnm, hfr, hlo⟩ := C
  unfold vn_neg at hn
  split at hn
  · cases hn
    simp only [Nat.sub_self, Nat.add_zero] at hc hs
    replace hc := hc.symm; replace hs := hs.symm; subst hc; subst hs
    intro H locs lsA hZ hR hS hL
    exact lv_ineg hx hb (vt_dc_of hok) (kk H locs lsA hZ hR hS hL)
  · cases hn
theorem sm_dup (C : vt_Ctx m p Rm s mm args meth c) (Wd : vt_Wd base b D ca (vh_X h) (vh_L h) s) {w a b1 c1 e1 : Nat} {v : Int} {pc' : Nat} {ls' st' : List Value} {h' : vt_H} {cells' slots' : Nat} (hc : cells' = cells + (vh_n h' - vh_n h)) (hs : slots' = slots + (vh_u h' - vh_u h)) (hbc : cells' ≤ Rm.cells) (hbs : slots' ≤ Rm.slots) (hn : vn_dup pc ls st h = some (pc', ls', st', h')) (hok : vt_okb m pc (10, w, v, a, b1, c1, e1) = true) (kk : vt_Go p l e Rm s mm args below meth c Qf base b D ca m pc' ls' st' h' cells' slots') : vt_Go p l e Rm s mm args below meth c Qf base b D ca m pc ls st h cells slots := by
  obtain ⟨hx, hb, hml, hr, hown, hts, hlk, hnm, hfr, hlo⟩ := C
  unfold vn_dup at hn
  split at hn
  · split at hn
    · rename_i hv
      cases hn
      simp only [Nat.sub_self, Nat.add_zero] at hc hs
      replace hc := hc.symm; replace hs := hs.symm; subst hc; subst hs
      intro H locs lsA hZ hR hS hL
      exact lv_dup hx hb (vt_dc_of hok) (by rw [vt_tr_cat]; exact hv) (kk H locs lsA hZ hR hS hL)
    · cases hn
  · cases hn
theorem sm_pop (C : vt_Ctx m p Rm s mm args meth c) (Wd : vt_Wd base b D ca (vh_X h) (vh_L h) s) {w a b1 c1 e1 : Nat} {v : Int} {pc' : Nat} {ls' st' : List Value} {h' : vt_H} {cells' slots' : Nat} (hc : cells' = cells + (vh_n h' - vh_n h)) (hs : slots' = slots + (vh_u h' - vh_u h)) (hbc : cells' ≤ Rm.cells) (hbs : slots' ≤ Rm.slots) (hn : vn_pop pc ls st h = some (pc', ls', st', h')) (hok : vt_okb m pc (11, w, v, a, b1, c1, e1) = true) (kk : vt_Go p l e Rm s mm args below meth c Qf base b D ca m pc' ls' st' h' cells' slots') : vt_Go p l e Rm s mm args below meth c Qf base b D ca m pc ls st h cells slots := by
  obtain ⟨hx, hb, hml, hr, hown, hts, hlk, hnm, hfr, hlo⟩ := C
  unfold vn_pop at hn
  split at hn
  · split at hn
    · rename_i hv
      cases hn
      simp only [Nat.sub_self, Nat.add_zero] at hc hs
      replace hc := hc.symm; replace hs := hs.symm; subst hc; subst hs
      intro H locs lsA hZ hR hS hL
      exact lv_pop hx hb (vt_dc_of hok) (by rw [vt_tr_cat]; exact hv) (kk H locs lsA hZ hR hS hL)
    · cases hn
  · cases hn
theorem sm_dupx1 (C : vt_Ctx m p Rm s mm args meth c) (Wd : vt_Wd base b D ca (vh_X h) (vh_L h) s) {w a b1 c1 e1 : Nat} {v : Int} {pc' : Nat} {ls' st' : List Value} {h' : vt_H} {cells' slots' : Nat} (hc : cells' = cells + (vh_n h' - vh_n h)) (hs : slots' = slots + (vh_u h' - vh_u h)) (hbc : cells' ≤ Rm.cells) (hbs : slots' ≤ Rm.slots) (hn : vn_dupx1 pc ls st h = some (pc', ls', st', h')) (hok : vt_okb m pc (12, w, v, a, b1, c1, e1) = true) (kk : vt_Go p l e Rm s mm args below meth c Qf base b D ca m pc' ls' st' h' cells' slots') : vt_Go p l e Rm s mm args below meth c Qf base b D ca m pc ls st h cells slots := by
  obtain ⟨hx, hb, hml, hr, hown, hts, hlk, hnm, hfr, hlo⟩ := C
  unfold vn_dupx1 at hn
  split at hn
  · split at hn
    · rename_i hv
      cases hn
      simp only [Nat.sub_self, Nat.add_zero] at hc hs
      replace hc := hc.symm; replace hs := hs.symm; subst hc; subst hs
      intro H locs lsA hZ hR hS hL
      exact lv_dup_x1 hx hb (vt_dc_of hok) (by rw [vt_tr_cat]; exact hv.1) (by rw [vt_tr_cat]; exact hv.2) (kk H locs lsA hZ hR hS hL)
    · cases hn
  · cases hn
theorem sm_dupx2 (C : vt_Ctx m p Rm s mm args meth c) (Wd : vt_Wd base b D ca (vh_X h) (vh_L h) s) {w a b1 c1 e1 : Nat} {v : Int} {pc' : Nat} {ls' st' : List Value} {h' : vt_H} {cells' slots' : Nat} (hc : cells' = cells + (vh_n h' - vh_n h)) (hs : slots' = slots + (vh_u h' - vh_u h)) (hbc : cells' ≤ Rm.cells) (hbs : slots' ≤ Rm.slots) (hn : vn_dupx2 pc ls st h = some (pc', ls', st', h')) (hok : vt_okb m pc (13, w, v, a, b1, c1, e1) = true) (kk : vt_Go p l e Rm s mm args below meth c Qf base b D ca m pc' ls' st' h' cells' slots') : vt_Go p l e Rm s mm args below meth c Qf base b D ca m pc ls st h cells slots := by
  obtain ⟨hx, hb, hml, hr, hown, hts, hlk, hnm, hfr, hlo⟩ := C
  unfold vn_dupx2 at hn
  split at hn
  · split at hn
    · rename_i hv
      cases hn
      simp only [Nat.sub_self, Nat.add_zero] at hc hs
      replace hc := hc.symm; replace hs := hs.symm; subst hc; subst hs
      intro H locs lsA hZ hR hS hL
      exact lv_dup_x2 hx hb (vt_dc_of hok) (by rw [vt_tr_cat]; exact hv.1) (by rw [vt_tr_cat]; exact hv.2.1) (by rw [vt_tr_cat]; exact hv.2.2) (kk H locs lsA hZ hR hS hL)
    · cases hn
  · cases hn
theorem sm_dup2 (C : vt_Ctx m p Rm s mm args meth c) (Wd : vt_Wd base b D ca (vh_X h) (vh_L h) s) {w a b1 c1 e1 : Nat} {v : Int} {pc' : Nat} {ls' st' : List Value} {h' : vt_H} {cells' slots' : Nat} (hc : cells' = cells + (vh_n h' - vh_n h)) (hs : slots' = slots + (vh_u h' - vh_u h)) (hbc : cells' ≤ Rm.cells) (hbs : slots' ≤ Rm.slots) (hn : vn_dup2 pc ls st h = some (pc', ls', st', h')) (hok : vt_okb m pc (14, w, v, a, b1, c1, e1) = true) (kk : vt_Go p l e Rm s mm args below meth c Qf base b D ca m pc' ls' st' h' cells' slots') : vt_Go p l e Rm s mm args below meth c Qf base b D ca m pc ls st h cells slots := by
  obtain ⟨hx, hb, hml, hr, hown, hts, hlk, hnm, hfr, hlo⟩ := C
  unfold vn_dup2 at hn
  split at hn
  · split at hn
    · rename_i hv
      cases hn
      simp only [Nat.sub_self, Nat.add_zero] at hc hs
      replace hc := hc.symm; replace hs := hs.symm; subst hc; subst hs
      intro H locs lsA hZ hR hS hL
      exact lv_dup2_11 hx hb (vt_dc_of hok) (by rw [vt_tr_cat]; exact hv.1) (by rw [vt_tr_cat]; exact hv.2) (kk H locs lsA hZ hR hS hL)
    · cases hn
  · cases hn
theorem sm_if (C : vt_Ctx m p Rm s mm args meth c) (Wd : vt_Wd base b D ca (vh_X h) (vh_L h) s) {w a b1 c1 e1 : Nat} {v : Int} {pc' : Nat} {ls' st' : List Value} {h' : vt_H} {cells' slots' : Nat} (hc : cells' = cells + (vh_n h' - vh_n h)) (hs : slots' = slots + (vh_u h' - vh_u h)) (hbc : cells' ≤ Rm.cells) (hbs : slots' ≤ Rm.slots) (hn : vn_if a b1 (pc + 3) ls st h = some (pc', ls', st', h')) (hok : vt_okb m pc (15, w, v, a, b1, c1, e1) = true) (kk : vt_Go p l e Rm s mm args below meth c Qf base b D ca m pc' ls' st' h' cells' slots') : vt_Go p l e Rm s mm args below meth c Qf base b D ca m pc ls st h cells slots := by
  obtain ⟨hx, hb, hml, hr, hown, hts, hlk, hnm, hfr, hlo⟩ := C
  unfold vn_if at hn
  split at hn
  · cases hn
    simp only [Nat.sub_self, Nat.add_zero] at hc hs
    replace hc := hc.symm; replace hs := hs.symm; subst hc; subst hs
    intro H locs lsA hZ hR hS hL
    have k := kk H locs lsA hZ hR hS hL
    have hd := vt_dc_of hok
    have ht : (pc : Int) + ((b1 : Int) - (pc : Int)) = (b1 : Int) := by omega
    unfold vt_cmp at k
    unfold vt_cd at hd
    split at k <;> (try dsimp only at hd)
    · exact lv_if_eq hx hb hd ht (fun q => by simpa [q] using k) (fun q => by simpa [q] using k)
    · exact lv_if_ne hx hb hd ht (fun q => by simpa [q] using k) (fun q => by simpa [q] using k)
    · exact lv_if_lt hx hb hd ht (fun q => by simpa [q] using k) (fun q => by simpa [q] using k)
    · exact lv_if_ge hx hb hd ht (fun q => by simpa [q] using k) (fun q => by simpa [q] using k)
    · exact lv_if_gt hx hb hd ht (fun q => by simpa [q] using k) (fun q => by simpa [q] using k)
    · split at hd <;> first | contradiction | exact lv_if_le hx hb hd ht (fun q => by simpa [q] using k) (fun q => by simpa [q] using k)
  · cases hn
theorem sm_icmp (C : vt_Ctx m p Rm s mm args meth c) (Wd : vt_Wd base b D ca (vh_X h) (vh_L h) s) {w a b1 c1 e1 : Nat} {v : Int} {pc' : Nat} {ls' st' : List Value} {h' : vt_H} {cells' slots' : Nat} (hc : cells' = cells + (vh_n h' - vh_n h)) (hs : slots' = slots + (vh_u h' - vh_u h)) (hbc : cells' ≤ Rm.cells) (hbs : slots' ≤ Rm.slots) (hn : vn_icmp a b1 (pc + 3) ls st h = some (pc', ls', st', h')) (hok : vt_okb m pc (16, w, v, a, b1, c1, e1) = true) (kk : vt_Go p l e Rm s mm args below meth c Qf base b D ca m pc' ls' st' h' cells' slots') : vt_Go p l e Rm s mm args below meth c Qf base b D ca m pc ls st h cells slots := by
  obtain ⟨hx, hb, hml, hr, hown, hts, hlk, hnm, hfr, hlo⟩ := C
  unfold vn_icmp at hn
  split at hn
  · cases hn
    simp only [Nat.sub_self, Nat.add_zero] at hc hs
    replace hc := hc.symm; replace hs := hs.symm; subst hc; subst hs
    intro H locs lsA hZ hR hS hL
    have k := kk H locs lsA hZ hR hS hL
    have hd := vt_dc_of hok
    have ht : (pc : Int) + ((b1 : Int) - (pc : Int)) = (b1 : Int) := by omega
    unfold vt_cmp at k
    unfold vt_cd at hd
    split at k <;> (try dsimp only at hd)
    · exact lv_icmp_eq hx hb hd ht (fun q => by simpa [q] using k) (fun q => by simpa [q] using k)
    · exact lv_icmp_ne hx hb hd ht (fun q => by simpa [q] using k) (fun q => by simpa [q] using k)
    · exact lv_icmp_lt hx hb hd ht (fun q => by simpa [q] using k) (fun q => by simpa [q] using k)
    · exact lv_icmp_ge hx hb hd ht (fun q => by simpa [q] using k) (fun q => by simpa [q] using k)
    · exact lv_icmp_gt hx hb hd ht (fun q => by simpa [q] using k) (fun q => by simpa [q] using k)
    · split at hd <;> first | contradiction | exact lv_icmp_le hx hb hd ht (fun q => by simpa [q] using k) (fun q => by simpa [q] using k)
  · cases hn
theorem sm_goto (C : vt_Ctx m p Rm s mm args meth c) (Wd : vt_Wd base b D ca (vh_X h) (vh_L h) s) {w a b1 c1 e1 : Nat} {v : Int} {pc' : Nat} {ls' st' : List Value} {h' : vt_H} {cells' slots' : Nat} (hc : cells' = cells + (vh_n h' - vh_n h)) (hs : slots' = slots + (vh_u h' - vh_u h)) (hbc : cells' ≤ Rm.cells) (hbs : slots' ≤ Rm.slots) (hn : (some (b1, ls, st, h) : vt_N) = some (pc', ls', st', h')) (hok : vt_okb m pc (17, w, v, a, b1, c1, e1) = true) (kk : vt_Go p l e Rm s mm args below meth c Qf base b D ca m pc' ls' st' h' cells' slots') : vt_Go p l e Rm s mm args below meth c Qf base b D ca m pc ls st h cells slots := by
  obtain ⟨hx, hb, hml, hr, hown, hts, hlk, hnm, hfr, hlo⟩ := C
  cases hn
  simp only [Nat.sub_self, Nat.add_zero] at hc hs
  replace hc := hc.symm; replace hs := hs.symm; subst hc; subst hs
  intro H locs lsA hZ hR hS hL
  exact lv_goto hx hb (vt_dc_of hok) (by omega) (kk H locs lsA hZ hR hS hL)
theorem sm_ifnull (C : vt_Ctx m p Rm s mm args meth c) (Wd : vt_Wd base b D ca (vh_X h) (vh_L h) s) {w a b1 c1 e1 : Nat} {v : Int} {pc' : Nat} {ls' st' : List Value} {h' : vt_H} {cells' slots' : Nat} (hc : cells' = cells + (vh_n h' - vh_n h)) (hs : slots' = slots + (vh_u h' - vh_u h)) (hbc : cells' ≤ Rm.cells) (hbs : slots' ≤ Rm.slots) (hn : vn_ifnull b1 (pc + 3) pc ls st h = some (pc', ls', st', h')) (hok : vt_okb m pc (18, w, v, a, b1, c1, e1) = true) (kk : vt_Go p l e Rm s mm args below meth c Qf base b D ca m pc' ls' st' h' cells' slots') : vt_Go p l e Rm s mm args below meth c Qf base b D ca m pc ls st h cells slots := by
  obtain ⟨hx, hb, hml, hr, hown, hts, hlk, hnm, hfr, hlo⟩ := C
  unfold vn_ifnull at hn
  split at hn
  · cases hn
    simp only [Nat.sub_self, Nat.add_zero] at hc hs
    replace hc := hc.symm; replace hs := hs.symm; subst hc; subst hs
    intro H locs lsA hZ hR hS hL
    exact lv_ifnullN hx hb (vt_dc_of hok) (by omega) (kk H locs lsA hZ hR hS hL)
  · cases hn
    simp only [Nat.sub_self, Nat.add_zero] at hc hs
    replace hc := hc.symm; replace hs := hs.symm; subst hc; subst hs
    intro H locs lsA hZ hR hS hL
    exact lv_ifnull hx hb (vt_dc_of hok) (kk H locs lsA hZ hR hS hL)
  · cases hn
theorem sm_ifnonnull (C : vt_Ctx m p Rm s mm args meth c) (Wd : vt_Wd base b D ca (vh_X h) (vh_L h) s) {w a b1 c1 e1 : Nat} {v : Int} {pc' : Nat} {ls' st' : List Value} {h' : vt_H} {cells' slots' : Nat} (hc : cells' = cells + (vh_n h' - vh_n h)) (hs : slots' = slots + (vh_u h' - vh_u h)) (hbc : cells' ≤ Rm.cells) (hbs : slots' ≤ Rm.slots) (hn : vn_ifnull (pc + 3) b1 pc ls st h = some (pc', ls', st', h')) (hok : vt_okb m pc (19, w, v, a, b1, c1, e1) = true) (kk : vt_Go p l e Rm s mm args below meth c Qf base b D ca m pc' ls' st' h' cells' slots') : vt_Go p l e Rm s mm args below meth c Qf base b D ca m pc ls st h cells slots := by
  obtain ⟨hx, hb, hml, hr, hown, hts, hlk, hnm, hfr, hlo⟩ := C
  unfold vn_ifnull at hn
  split at hn
  · cases hn
    simp only [Nat.sub_self, Nat.add_zero] at hc hs
    replace hc := hc.symm; replace hs := hs.symm; subst hc; subst hs
    intro H locs lsA hZ hR hS hL
    exact lv_ifnonnullN hx hb (vt_dc_of hok) (kk H locs lsA hZ hR hS hL)
  · cases hn
    simp only [Nat.sub_self, Nat.add_zero] at hc hs
    replace hc := hc.symm; replace hs := hs.symm; subst hc; subst hs
    intro H locs lsA hZ hR hS hL
    exact lv_ifnonnull hx hb (vt_dc_of hok) (by omega) (kk H locs lsA hZ hR hS hL)
  · cases hn
theorem sm_null (C : vt_Ctx m p Rm s mm args meth c) (Wd : vt_Wd base b D ca (vh_X h) (vh_L h) s) {w a b1 c1 e1 : Nat} {v : Int} {pc' : Nat} {ls' st' : List Value} {h' : vt_H} {cells' slots' : Nat} (hc : cells' = cells + (vh_n h' - vh_n h)) (hs : slots' = slots + (vh_u h' - vh_u h)) (hbc : cells' ≤ Rm.cells) (hbs : slots' ≤ Rm.slots) (hn : vn_null pc ls st h = some (pc', ls', st', h')) (hok : vt_okb m pc (20, w, v, a, b1, c1, e1) = true) (kk : vt_Go p l e Rm s mm args below meth c Qf base b D ca m pc' ls' st' h' cells' slots') : vt_Go p l e Rm s mm args below meth c Qf base b D ca m pc ls st h cells slots := by
  obtain ⟨hx, hb, hml, hr, hown, hts, hlk, hnm, hfr, hlo⟩ := C
  cases hn
  simp only [Nat.sub_self, Nat.add_zero] at hc hs
  replace hc := hc.symm; replace hs := hs.symm; subst hc; subst hs
  intro H locs lsA hZ hR hS hL
  exact lv_null hx hb (vt_dc_of hok) (kk H locs lsA hZ hR hS hL)
/-- an object of the small heap among the cells -/
theorem vt_obj {H : Heap} {r a : Nat} (hR : vt_Rel base D ca h H) (hk : vh_K h r = 100 + a) : r < vh_n h ∧ (vt_ws base ca h)[r]? = some (base + r, .inr (a, vt_fs base h r a)) := by
  have hr : r < vh_n h := by
    rcases Nat.lt_or_ge r (vh_n h) with q | q
    · exact q
    · have := hR.1 r q; omega
  refine ⟨hr, ?_⟩
  rw [vt_ws_at hr]
  unfold vt_E
  rw [hk, if_pos (by omega), Nat.add_sub_cancel_left]
theorem vt_arI {H : Heap} {r : Nat} (hR : vt_Rel base D ca h H) (hk : vh_K h r = 1) : r < vh_n h ∧ (vt_ws base ca h)[r]? = some (base + r, .inl (ca 1, vh_Z h r, .inl (vh_I h r))) := by
  have hr : r < vh_n h := by
    rcases Nat.lt_or_ge r (vh_n h) with q | q
    · exact q
    · have := hR.1 r q; omega
  refine ⟨hr, ?_⟩
  rw [vt_ws_at hr]
  unfold vt_E
  rw [if_neg (by omega), if_pos (Or.inl hk), hk]
theorem vt_arZ {H : Heap} {r : Nat} (hR : vt_Rel base D ca h H) (hk : vh_K h r = 4) : r < vh_n h ∧ (vt_ws base ca h)[r]? = some (base + r, .inl (ca 4, vh_Z h r, .inl (vh_I h r))) := by
  have hr : r < vh_n h := by
    rcases Nat.lt_or_ge r (vh_n h) with q | q
    · exact q
    · have := hR.1 r q; omega
  refine ⟨hr, ?_⟩
  rw [vt_ws_at hr]
  unfold vt_E
  rw [if_neg (by omega), if_pos (Or.inr hk), hk]
theorem vt_arR {H : Heap} {r a : Nat} (hR : vt_Rel base D ca h H) (hk : vh_K h r = a) (h1 : 1 < a) (h2 : a < 100) (h4 : a ≠ 4) : r < vh_n h ∧ (vt_ws base ca h)[r]? = some (base + r, .inl (ca a, vh_Z h r, .inr (.inr (.inr (.inr (fun i => (vh_R h r i).map (base + ·))))))) := by
  have hr : r < vh_n h := by
    rcases Nat.lt_or_ge r (vh_n h) with q | q
    · exact q
    · have := hR.1 r q; omega
  refine ⟨hr, ?_⟩
  rw [vt_ws_at hr]
  unfold vt_E
  rw [if_neg (by omega), if_neg (by omega), hk]
theorem vt_fs_at {r a k : Nat} (hk : k < vt_nf a) : (vt_fs base h r a)[k]? = some (vt_fv base h r k (vt_ref a k)) := by
  simp [vt_fs, hk]
theorem vt_fs_len {r a : Nat} : (vt_fs base h r a).length = vt_nf a := by simp [vt_fs]
theorem vt_nf_of {a N : Nat} {C : String} {T : u_T} (hc : vt_cl[a]? = some (C, T, N)) : vt_nf a = N := by simp [vt_nf, hc]
/-- the fields after one of them is written -/
theorem vt_fs_set {h' : vt_H} {r a k : Nat} {x : Value} (hk : k < vt_nf a) (hx : vt_fv base h' r k (vt_ref a k) = x) (ho : ∀ j, j ≠ k → vt_fv base h' r j (vt_ref a j) = vt_fv base h r j (vt_ref a j)) : (vt_fs base h r a).set k x = vt_fs base h' r a := by
  apply List.ext_getElem?
  intro j
  by_cases hj : j < vt_nf a
  · rw [vt_fs_at hj, List.getElem?_set]
    by_cases e : k = j
    · subst e
      rw [if_pos rfl, if_pos (by rw [vt_fs_len]; exact hk), hx]
    · rw [if_neg e, vt_fs_at hj, ho j (fun q => e q.symm)]
  · rw [List.getElem?_eq_none (by rw [List.length_set, vt_fs_len]; omega), List.getElem?_eq_none (by rw [vt_fs_len]; omega)]
theorem vt_E_wI {a i : Nat} {x : Int32} {j : Nat} (hj : j ≠ a) : vt_E base ca (vh_wI h a i x) j = vt_E base ca h j := by
  have e : ∀ q, vh_I (vh_wI h a i x) j q = vh_I h j q := fun q => by rw [vh_I_wI, if_neg (fun z => hj z.1)]
  simp only [vt_E, vt_fs, vt_fv, vh_K_wI, vh_Z_wI, vh_R_wI, e, show vh_I (vh_wI h a i x) j = vh_I h j from funext e]
theorem vt_E_wR {a i : Nat} {x : Option Nat} {j : Nat} (hj : j ≠ a) : vt_E base ca (vh_wR h a i x) j = vt_E base ca h j := by
  have e : ∀ q, vh_R (vh_wR h a i x) j q = vh_R h j q := fun q => by rw [vh_R_wR, if_neg (fun z => hj z.1)]
  simp only [vt_E, vt_fs, vt_fv, vh_K_wR, vh_Z_wR, vh_I_wR, e]
theorem vt_E_cp {a0 sp a dp n : Nat} {j : Nat} (hj : j ≠ a) : vt_E base ca (vh_cp h a0 sp a dp n) j = vt_E base ca h j := by
  have e : ∀ q, vh_I (vh_cp h a0 sp a dp n) j q = vh_I h j q := fun q => by rw [vh_I_cp, if_neg hj]
  simp only [vt_E, vt_fs, vt_fv, vh_K_cp, vh_Z_cp, vh_R_cp, e, show vh_I (vh_cp h a0 sp a dp n) j = vh_I h j from funext e]
theorem vt_E_new {k z w : Nat} {j : Nat} (hj : j < vh_n h) : vt_E base ca (vh_new h k z w) j = vt_E base ca h j := by
  have n1 : ¬ j = vh_n h := by omega
  simp only [vt_E, vt_fs, vt_fv, vh_K_new, vh_Z_new, vh_I_new, vh_R_new, if_neg n1, show vh_I (vh_new h k z w) j = vh_I h j from funext (fun q => by rw [vh_I_new, if_neg n1])]
theorem sm_getI (C : vt_Ctx m p Rm s mm args meth c) (Wd : vt_Wd base b D ca (vh_X h) (vh_L h) s) {w a b1 c1 e1 : Nat} {v : Int} {pc' : Nat} {ls' st' : List Value} {h' : vt_H} {cells' slots' : Nat} (hc : cells' = cells + (vh_n h' - vh_n h)) (hs : slots' = slots + (vh_u h' - vh_u h)) (hbc : cells' ≤ Rm.cells) (hbs : slots' ≤ Rm.slots) (hn : vn_getI a b1 pc ls st h = some (pc', ls', st', h')) (hok : vt_okb m pc (21, w, v, a, b1, c1, e1) = true) (kk : vt_Go p l e Rm s mm args below meth c Qf base b D ca m pc' ls' st' h' cells' slots') : vt_Go p l e Rm s mm args below meth c Qf base b D ca m pc ls st h cells slots := by
  obtain ⟨hx, hb, hml, hr, hown, hts, hlk, hnm, hfr, hlo⟩ := C
  unfold vn_getI at hn
  split at hn
  · rename_i r t
    by_cases hk : vh_K h r = 100 + a
    · rw [if_pos hk] at hn
      cases hn
      simp only [Nat.sub_self, Nat.add_zero] at hc hs
      replace hc := hc.symm; replace hs := hs.symm; subst hc; subst hs
      intro H locs lsA hZ hR hS hL
      have k := kk H locs lsA hZ hR hS hL
      rw [List.map_cons] at k
      obtain ⟨hr0, he⟩ := vt_obj hR hk
      simp only [vt_okb] at hok
      rw [Bool.and_eq_true, decide_eq_true_eq] at hok
      obtain ⟨hg, hrf⟩ := hok
      unfold vt_okG at hg
      split at hg
      · rename_i C T N hcl
        simp only [Bool.and_eq_true, decide_eq_true_eq] at hg
        obtain ⟨hN, hd, hl⟩ := hg
        have hv : (vt_fs base h r a)[b1]? = some (.int (vh_I h r b1)) := by rw [vt_fs_at (by rw [vt_nf_of hcl]; exact hN), hrf]; rfl
        exact va_get (D := D) hx hb hts (vt_clw hcl) hown Wd.1 hR.2.2 r he hcl b1 hN (hts _ (vt_wd_of hl)) (fun _ q => q) hv (vt_dc_of hd) k
      · cases hg
    · rw [if_neg hk] at hn
      cases hn
  · cases hn
theorem sm_getR (C : vt_Ctx m p Rm s mm args meth c) (Wd : vt_Wd base b D ca (vh_X h) (vh_L h) s) {w a b1 c1 e1 : Nat} {v : Int} {pc' : Nat} {ls' st' : List Value} {h' : vt_H} {cells' slots' : Nat} (hc : cells' = cells + (vh_n h' - vh_n h)) (hs : slots' = slots + (vh_u h' - vh_u h)) (hbc : cells' ≤ Rm.cells) (hbs : slots' ≤ Rm.slots) (hn : vn_getR a b1 pc ls st h = some (pc', ls', st', h')) (hok : vt_okb m pc (22, w, v, a, b1, c1, e1) = true) (kk : vt_Go p l e Rm s mm args below meth c Qf base b D ca m pc' ls' st' h' cells' slots') : vt_Go p l e Rm s mm args below meth c Qf base b D ca m pc ls st h cells slots := by
  obtain ⟨hx, hb, hml, hr, hown, hts, hlk, hnm, hfr, hlo⟩ := C
  unfold vn_getR at hn
  split at hn
  · rename_i r t
    by_cases hk : vh_K h r = 100 + a
    · rw [if_pos hk] at hn
      cases hn
      simp only [Nat.sub_self, Nat.add_zero] at hc hs
      replace hc := hc.symm; replace hs := hs.symm; subst hc; subst hs
      intro H locs lsA hZ hR hS hL
      have k := kk H locs lsA hZ hR hS hL
      rw [List.map_cons, vt_tr_rf] at k
      obtain ⟨hr0, he⟩ := vt_obj hR hk
      simp only [vt_okb] at hok
      rw [Bool.and_eq_true, decide_eq_true_eq] at hok
      obtain ⟨hg, hrf⟩ := hok
      unfold vt_okG at hg
      split at hg
      · rename_i C T N hcl
        simp only [Bool.and_eq_true, decide_eq_true_eq] at hg
        obtain ⟨hN, hd, hl⟩ := hg
        have hv : (vt_fs base h r a)[b1]? = some (va_rf ((vh_R h r b1).map (base + ·))) := by rw [vt_fs_at (by rw [vt_nf_of hcl]; exact hN), hrf]; rfl
        exact va_get (D := D) hx hb hts (vt_clw hcl) hown Wd.1 hR.2.2 r he hcl b1 hN (hts _ (vt_wd_of hl)) (fun _ q => q) hv (vt_dc_of hd) k
      · cases hg
    · rw [if_neg hk] at hn
      cases hn
  · cases hn
/-- a field is written: the three forms -/
theorem vt_put {w a b1 c1 e1 r : Nat} {x : Value} {t : List Value} {h' : vt_H} (C : vt_Ctx m p Rm s mm args meth c) (Wd : vt_Wd base b D ca (vh_X h) (vh_L h) s) (hk : vh_K h r = 100 + a) (hok : vt_okP m pc w a b1 c1 e1 = true) (hnar : narrow (vt_ty a b1) (vt_tr base b x) = vt_tr base b x) (hfit : fits (vt_ty a b1) (vt_tr base b x) = true)
    (hK : vh_K h' = vh_K h) (hn' : vh_n h' = vh_n h) (hE : ∀ j, j ≠ r → vt_E base ca h' j = vt_E base ca h j) (hx' : vt_fv base h' r b1 (vt_ref a b1) = vt_tr base b x) (ho : ∀ j, j ≠ b1 → vt_fv base h' r j (vt_ref a j) = vt_fv base h r j (vt_ref a j))
    (kk : vt_Go p l e Rm s mm args below meth c Qf base b D ca m (pc + 3) ls t h' cells slots) : vt_Go p l e Rm s mm args below meth c Qf base b D ca m pc ls (x :: .ref r :: t) h cells slots := by
  obtain ⟨hx, hb, hml, hr, hown, hts, hlk, hnm, hfr, hlo⟩ := C
  intro H locs lsA hZ hR hS hL
  obtain ⟨hr0, he⟩ := vt_obj hR hk
  unfold vt_okP at hok
  split at hok
  · rename_i C T N hcl
    simp only [Bool.and_eq_true, decide_eq_true_eq] at hok
    obtain ⟨hN, hd, hl⟩ := hok
    have hN2 : b1 < vt_nf a := by rw [vt_nf_of hcl]; exact hN
    have hll : b1 < (vt_fs base h r a).length := by rw [vt_fs_len]; exact hN2
    have key : ∀ (H1 : Heap) (locs1 : List Loc), va_P D vt_cl ((vt_ws base ca h).set r (base + r, .inr (a, (vt_fs base h r a).set b1 (vt_tr base b x)))) H1 → va_D (fun q => base ≤ q) ((vt_ws base ca h).set r (base + r, .inr (a, (vt_fs base h r a).set b1 (vt_tr base b x)))) → va_S (fun q => base ≤ q) s.heap H1 locs1 → W p l e Rm s mm args below meth c H1 locs1 cells slots Qf (F0 mm (pc + 3) lsA (t.map (vt_tr base b))) := by
      intro H1 locs1 hP1 hD1 hS1
      refine kk H1 locs1 lsA (by rw [hn']; exact hZ) ⟨fun k q => by rw [hK]; exact hR.1 k (by rw [← hn']; exact q), fun k q1 q2 => by rw [hK] at q1 q2 ⊢; exact hR.2.1 k q1 q2, ?_⟩ hS1 hL
      rw [vt_fs_set hN2 hx' ho] at hP1
      have e : (.inr (a, vt_fs base h' r a) : va_E) = vt_E base ca h' r := by
        unfold vt_E
        rw [hK, hk, if_pos (by omega), Nat.add_sub_cancel_left]
      rw [e, vt_ws_set hn' hE] at hP1
      exact hP1
    obtain ⟨k1, k2, k3⟩ := vt_clt hcl
    split at hl <;> simp only [Bool.and_eq_true, decide_eq_true_eq] at hl
    · exact va_put (D := D) hx hb hts (vt_clw hcl) (vt_ty a) k1 k2 hown Wd.1 hR.2.2 vt_ws_D hS r he hcl b1 hN (hts _ (vt_wd_of hl.1)) (fun _ q => q) hl.2 (k1 b1 hN) hnar hfit hll (vt_dc_of hd) key
    · exact va_putF (D := D) hx hb hts (vt_clw hcl) (vt_ty a) k1 k2 hown Wd.1 hR.2.2 vt_ws_D hS r he hcl b1 hN (hts _ (vt_wd_of hl.1)) (fun _ q => q) hl.2.1 (hnm hl.2.2.1) hl.2.2.2 (k1 b1 hN) hnar hfit hll (vt_dc_of hd) key
  · cases hok
theorem sm_putI (C : vt_Ctx m p Rm s mm args meth c) (Wd : vt_Wd base b D ca (vh_X h) (vh_L h) s) {w a b1 c1 e1 : Nat} {v : Int} {pc' : Nat} {ls' st' : List Value} {h' : vt_H} {cells' slots' : Nat} (hc : cells' = cells + (vh_n h' - vh_n h)) (hs : slots' = slots + (vh_u h' - vh_u h)) (hbc : cells' ≤ Rm.cells) (hbs : slots' ≤ Rm.slots) (hn : vn_putI v a b1 pc ls st h = some (pc', ls', st', h')) (hok : vt_okb m pc (23, w, v, a, b1, c1, e1) = true) (kk : vt_Go p l e Rm s mm args below meth c Qf base b D ca m pc' ls' st' h' cells' slots') : vt_Go p l e Rm s mm args below meth c Qf base b D ca m pc ls st h cells slots := by
  obtain ⟨hx, hb, hml, hr, hown, hts, hlk, hnm, hfr, hlo⟩ := C
  unfold vn_putI at hn
  split at hn
  · rename_i x r t
    by_cases hk : vh_K h r = 100 + a ∧ (v = 1 → x = 0 ∨ x = 1)
    · rw [if_pos hk] at hn
      cases hn
      simp only [vh_n_wI, vh_u_wI, Nat.sub_self, Nat.add_zero] at hc hs
      replace hc := hc.symm; replace hs := hs.symm; subst hc; subst hs
      simp only [vt_okb] at hok
      simp only [Bool.and_eq_true, Bool.or_eq_true, decide_eq_true_eq] at hok
      obtain ⟨hp, hrf, hty⟩ := hok
      refine vt_put (x := .int x) (h' := vh_wI h r b1 x) ⟨hx, hb, hml, hr, hown, hts, hlk, hnm, hfr, hlo⟩ Wd hk.1 hp ?_ ?_ rfl rfl (fun j hj => vt_E_wI hj) ?_ ?_ kk
      · rcases hty with ⟨-, q⟩ | ⟨q1, q⟩ <;> rw [q]
        · rfl
        · rcases hk.2 q1 with rfl | rfl <;> rfl
      · rcases hty with ⟨-, q⟩ | ⟨q1, q⟩ <;> rw [q]
        · rfl
        · rcases hk.2 q1 with rfl | rfl <;> rfl
      · simp [vt_fv, hrf, vh_I_wI, vt_tr]
      · intro j hj
        simp [vt_fv, vh_I_wI, vh_R_wI, hj]
    · rw [if_neg hk] at hn
      cases hn
  · cases hn
theorem sm_putR (C : vt_Ctx m p Rm s mm args meth c) (Wd : vt_Wd base b D ca (vh_X h) (vh_L h) s) {w a b1 c1 e1 : Nat} {v : Int} {pc' : Nat} {ls' st' : List Value} {h' : vt_H} {cells' slots' : Nat} (hc : cells' = cells + (vh_n h' - vh_n h)) (hs : slots' = slots + (vh_u h' - vh_u h)) (hbc : cells' ≤ Rm.cells) (hbs : slots' ≤ Rm.slots) (hn : vn_putR a b1 pc ls st h = some (pc', ls', st', h')) (hok : vt_okb m pc (24, w, v, a, b1, c1, e1) = true) (kk : vt_Go p l e Rm s mm args below meth c Qf base b D ca m pc' ls' st' h' cells' slots') : vt_Go p l e Rm s mm args below meth c Qf base b D ca m pc ls st h cells slots := by
  obtain ⟨hx, hb, hml, hr, hown, hts, hlk, hnm, hfr, hlo⟩ := C
  simp only [vt_okb] at hok
  simp only [Bool.and_eq_true, decide_eq_true_eq] at hok
  obtain ⟨hp, hrf, hty⟩ := hok
  unfold vn_putR at hn
  split at hn
  · rename_i y r t
    by_cases hk : vh_K h r = 100 + a
    · rw [if_pos hk] at hn
      cases hn
      simp only [vh_n_wR, vh_u_wR, Nat.sub_self, Nat.add_zero] at hc hs
      replace hc := hc.symm; replace hs := hs.symm; subst hc; subst hs
      refine vt_put (x := .ref y) (h' := vh_wR h r b1 (some y)) ⟨hx, hb, hml, hr, hown, hts, hlk, hnm, hfr, hlo⟩ Wd hk hp ?_ ?_ rfl rfl (fun j hj => vt_E_wR hj) ?_ ?_ kk
      · generalize vt_ty a b1 = ty at hty
        cases ty <;> simp [vt_isobj] at hty <;> rfl
      · generalize vt_ty a b1 = ty at hty
        cases ty <;> simp [vt_isobj] at hty <;> rfl
      · simp [vt_fv, hrf, vh_R_wR, vt_tr, va_rf]
      · intro j hj
        simp [vt_fv, vh_I_wR, vh_R_wR, hj]
    · rw [if_neg hk] at hn
      cases hn
  · rename_i r t
    by_cases hk : vh_K h r = 100 + a
    · rw [if_pos hk] at hn
      cases hn
      simp only [vh_n_wR, vh_u_wR, Nat.sub_self, Nat.add_zero] at hc hs
      replace hc := hc.symm; replace hs := hs.symm; subst hc; subst hs
      refine vt_put (x := .null) (h' := vh_wR h r b1 none) ⟨hx, hb, hml, hr, hown, hts, hlk, hnm, hfr, hlo⟩ Wd hk hp ?_ ?_ rfl rfl (fun j hj => vt_E_wR hj) ?_ ?_ kk
      · generalize vt_ty a b1 = ty at hty
        cases ty <;> simp [vt_isobj] at hty <;> rfl
      · generalize vt_ty a b1 = ty at hty
        cases ty <;> simp [vt_isobj] at hty <;> rfl
      · simp [vt_fv, hrf, vh_R_wR, vt_tr, va_rf]
      · intro j hj
        simp [vt_fv, vh_I_wR, vh_R_wR, hj]
    · rw [if_neg hk] at hn
      cases hn
  · cases hn
theorem vt_ak_at {a : Nat} {ty : FieldType} (hk : vt_ak a = some ty) : ∃ t0 : Nat, (vt_tys ca)[t0]? = some (ca a, ty) := by
  have hm : (a, ty) ∈ vt_aks := by
    unfold vt_ak at hk
    exact vt_lkm hk
  exact List.getElem?_of_mem (List.mem_map.mpr ⟨(a, ty), hm, rfl⟩)
theorem vt_scr {H : Heap} {locs : List Loc} (Wd : vt_Wd base b D ca (vh_X h) (vh_L h) s) : b < s.heap.size ∧ ¬ (fun q => base ≤ q) b := ⟨Nat.lt_of_lt_of_le Wd.2.1 Wd.2.2.1, Nat.not_le.mpr Wd.2.1⟩
theorem sm_iald (C : vt_Ctx m p Rm s mm args meth c) (Wd : vt_Wd base b D ca (vh_X h) (vh_L h) s) {w a b1 c1 e1 : Nat} {v : Int} {pc' : Nat} {ls' st' : List Value} {h' : vt_H} {cells' slots' : Nat} (hc : cells' = cells + (vh_n h' - vh_n h)) (hs : slots' = slots + (vh_u h' - vh_u h)) (hbc : cells' ≤ Rm.cells) (hbs : slots' ≤ Rm.slots) (hn : vn_iald pc ls st h = some (pc', ls', st', h')) (hok : vt_okb m pc (25, w, v, a, b1, c1, e1) = true) (kk : vt_Go p l e Rm s mm args below meth c Qf base b D ca m pc' ls' st' h' cells' slots') : vt_Go p l e Rm s mm args below meth c Qf base b D ca m pc ls st h cells slots := by
  obtain ⟨hx, hb, hml, hr, hown, hts, hlk, hnm, hfr, hlo⟩ := C
  have hd := vt_dc_of (m := m) (pc := pc) (x := .iaload) (n := 1) hok
  unfold vn_iald at hn
  split at hn
  · rename_i i r t
    by_cases hk : vh_K h r = 1 ∧ ¬ (i < 0 ∨ vh_Z h r ≤ i.toNatClampNeg)
    · rw [if_pos hk] at hn
      cases hn
      simp only [Nat.sub_self, Nat.add_zero] at hc hs
      replace hc := hc.symm; replace hs := hs.symm; subst hc; subst hs
      intro H locs lsA hZ hR hS hL
      obtain ⟨hr0, he⟩ := vt_arI hR hk.1
      obtain ⟨t0, ht⟩ := vt_ak_at (ca := ca) (a := 1) (ty := .int) rfl
      exact va_iald (D := D) hx hb Wd.1 hR.2.2 r t0 he ht hk.2 hd (kk H locs lsA hZ hR hS hL)
    · rw [if_neg hk] at hn
      cases hn
  · rename_i i t
    by_cases hk : ¬ (i < 0 ∨ vh_L h ≤ i.toNatClampNeg)
    · rw [if_pos hk] at hn
      cases hn
      simp only [Nat.sub_self, Nat.add_zero] at hc hs
      replace hc := hc.symm; replace hs := hs.symm; subst hc; subst hs
      intro H locs lsA hZ hR hS hL
      exact va_sld hx hb Wd.2.2.2.1 (Nat.lt_of_lt_of_le Wd.2.1 Wd.2.2.1) (Nat.not_le.mpr Wd.2.1) hS hk hd (kk H locs lsA hZ hR hS hL)
    · rw [if_neg hk] at hn
      cases hn
  · cases hn
theorem sm_iast (C : vt_Ctx m p Rm s mm args meth c) (Wd : vt_Wd base b D ca (vh_X h) (vh_L h) s) {w a b1 c1 e1 : Nat} {v : Int} {pc' : Nat} {ls' st' : List Value} {h' : vt_H} {cells' slots' : Nat} (hc : cells' = cells + (vh_n h' - vh_n h)) (hs : slots' = slots + (vh_u h' - vh_u h)) (hbc : cells' ≤ Rm.cells) (hbs : slots' ≤ Rm.slots) (hn : vn_iast pc ls st h = some (pc', ls', st', h')) (hok : vt_okb m pc (26, w, v, a, b1, c1, e1) = true) (kk : vt_Go p l e Rm s mm args below meth c Qf base b D ca m pc' ls' st' h' cells' slots') : vt_Go p l e Rm s mm args below meth c Qf base b D ca m pc ls st h cells slots := by
  obtain ⟨hx, hb, hml, hr, hown, hts, hlk, hnm, hfr, hlo⟩ := C
  have hd := vt_dc_of (m := m) (pc := pc) (x := .iastore) (n := 1) hok
  unfold vn_iast at hn
  split at hn
  · rename_i x i r t
    by_cases hk : vh_K h r = 1 ∧ ¬ (i < 0 ∨ vh_Z h r ≤ i.toNatClampNeg)
    · rw [if_pos hk] at hn
      cases hn
      simp only [vh_n_wI, vh_u_wI, Nat.sub_self, Nat.add_zero] at hc hs
      replace hc := hc.symm; replace hs := hs.symm; subst hc; subst hs
      intro H locs lsA hZ hR hS hL
      obtain ⟨hr0, he⟩ := vt_arI hR hk.1
      obtain ⟨t0, ht⟩ := vt_ak_at (ca := ca) (a := 1) (ty := .int) rfl
      refine va_iast (D := D) hx hb Wd.1 hR.2.2 vt_ws_D hS r t0 he ht hk.2 hd (fun H1 locs1 hP1 hD1 hS1 => ?_)
      refine kk H1 locs1 lsA hZ ⟨hR.1, hR.2.1, ?_⟩ hS1 hL
      have e : (.inl (ca 1, vh_Z h r, .inl (upd (vh_I h r) i.toNatClampNeg x)) : va_E) = vt_E base ca (vh_wI h r i.toNatClampNeg x) r := by
        unfold vt_E
        rw [vh_K_wI, hk.1, if_neg (by omega), if_pos (Or.inl rfl), vh_Z_wI]
        congr 4
        funext j
        simp [upd, vh_I_wI]
      rw [e, vt_ws_set (h := h) (h' := vh_wI h r i.toNatClampNeg x) rfl (fun j hj => vt_E_wI hj)] at hP1
      exact hP1
    · rw [if_neg hk] at hn
      cases hn
  · cases hn
theorem sm_aald (C : vt_Ctx m p Rm s mm args meth c) (Wd : vt_Wd base b D ca (vh_X h) (vh_L h) s) {w a b1 c1 e1 : Nat} {v : Int} {pc' : Nat} {ls' st' : List Value} {h' : vt_H} {cells' slots' : Nat} (hc : cells' = cells + (vh_n h' - vh_n h)) (hs : slots' = slots + (vh_u h' - vh_u h)) (hbc : cells' ≤ Rm.cells) (hbs : slots' ≤ Rm.slots) (hn : vn_aald a pc ls st h = some (pc', ls', st', h')) (hok : vt_okb m pc (27, w, v, a, b1, c1, e1) = true) (kk : vt_Go p l e Rm s mm args below meth c Qf base b D ca m pc' ls' st' h' cells' slots') : vt_Go p l e Rm s mm args below meth c Qf base b D ca m pc ls st h cells slots := by
  obtain ⟨hx, hb, hml, hr, hown, hts, hlk, hnm, hfr, hlo⟩ := C
  simp only [vt_okb] at hok
  simp only [Bool.and_eq_true, decide_eq_true_eq] at hok
  unfold vn_aald at hn
  split at hn
  · rename_i i r t
    by_cases hk : vh_K h r = a ∧ ¬ (i < 0 ∨ vh_Z h r ≤ i.toNatClampNeg)
    · rw [if_pos hk] at hn
      cases hn
      simp only [Nat.sub_self, Nat.add_zero] at hc hs
      replace hc := hc.symm; replace hs := hs.symm; subst hc; subst hs
      intro H locs lsA hZ hR hS hL
      have k := kk H locs lsA hZ hR hS hL
      rw [List.map_cons, vt_tr_rf] at k
      obtain ⟨hr0, he⟩ := vt_arR hR hk.1 hok.2.1 hok.2.2.1 hok.2.2.2
      have hsm := hR.2.1 r (by rw [hk.1]; exact hok.2.2.1) (by rw [hk.1]; omega)
      rw [hk.1] at hsm
      obtain ⟨ty, hty⟩ := Option.isSome_iff_exists.mp hsm
      obtain ⟨t0, ht⟩ := vt_ak_at (ca := ca) hty
      have hcell : H[base + r]? = some (arrV (ca a) (vh_Z h r) (fun j => va_rf ((vh_R h r j).map (base + ·)))) := hR.2.2 r _ he
      have hlt : i.toNatClampNeg < vh_Z h r := Nat.not_le.mp fun q => hk.2 (Or.inr q)
      exact W.aald hx hb hcell ((Wd.1.2 t0 _ ht).1 _ _) (vt_ak_ref hty hok.2.1 hok.2.2.2) (fun q => by cases q) (by rw [arrV_size]; exact hk.2) (arrV_read _ _ hlt) rfl rfl (vt_dc_of hok.1) k
    · rw [if_neg hk] at hn
      cases hn
  · cases hn
theorem sm_aast (C : vt_Ctx m p Rm s mm args meth c) (Wd : vt_Wd base b D ca (vh_X h) (vh_L h) s) {w a b1 c1 e1 : Nat} {v : Int} {pc' : Nat} {ls' st' : List Value} {h' : vt_H} {cells' slots' : Nat} (hc : cells' = cells + (vh_n h' - vh_n h)) (hs : slots' = slots + (vh_u h' - vh_u h)) (hbc : cells' ≤ Rm.cells) (hbs : slots' ≤ Rm.slots) (hn : vn_aast a b1 pc ls st h = some (pc', ls', st', h')) (hok : vt_okb m pc (28, w, v, a, b1, c1, e1) = true) (kk : vt_Go p l e Rm s mm args below meth c Qf base b D ca m pc' ls' st' h' cells' slots') : vt_Go p l e Rm s mm args below meth c Qf base b D ca m pc ls st h cells slots := by
  obtain ⟨hx, hb, hml, hr, hown, hts, hlk, hnm, hfr, hlo⟩ := C
  simp only [vt_okb] at hok
  rw [Bool.and_eq_true] at hok
  obtain ⟨hd, hok⟩ := hok
  unfold vt_okS at hok
  rw [Bool.or_eq_true, decide_eq_true_eq, decide_eq_true_eq] at hok
  unfold vn_aast at hn
  split at hn
  · rename_i y i r t
    by_cases hk : (vh_K h r = a ∧ vh_K h y = b1) ∧ ¬ (i < 0 ∨ vh_Z h r ≤ i.toNatClampNeg)
    · rw [if_pos hk] at hn
      cases hn
      simp only [vh_n_wR, vh_u_wR, Nat.sub_self, Nat.add_zero] at hc hs
      replace hc := hc.symm; replace hs := hs.symm; subst hc; subst hs
      intro H locs lsA hZ hR hS hL
      have q12 : 1 < a ∧ a < 100 := by omega
      obtain ⟨hr0, he⟩ := vt_arR hR hk.1.1 q12.1 q12.2 (by omega)
      have key : ∀ (H1 : Heap) (locs1 : List Loc), va_P D vt_cl ((vt_ws base ca h).set r (base + r, .inl (ca a, vh_Z h r, .inr (.inr (.inr (.inr (va_up (fun j => (vh_R h r j).map (base + ·)) i.toNatClampNeg (some (base + y))))))))) H1 → va_S (fun q => base ≤ q) s.heap H1 locs1 → W p l e Rm s mm args below meth c H1 locs1 cells slots Qf (F0 mm (pc + 1) lsA (st'.map (vt_tr base b))) := by
        intro H1 locs1 hP1 hS1
        refine kk H1 locs1 lsA hZ ⟨hR.1, hR.2.1, ?_⟩ hS1 hL
        have e : (.inl (ca a, vh_Z h r, .inr (.inr (.inr (.inr (va_up (fun j => (vh_R h r j).map (base + ·)) i.toNatClampNeg (some (base + y))))))) : va_E) = vt_E base ca (vh_wR h r i.toNatClampNeg (some y)) r := by
          unfold vt_E
          rw [vh_K_wR, hk.1.1, if_neg (by omega), if_neg (by omega), vh_Z_wR]
          congr 7
          funext j
          by_cases hj : j = i.toNatClampNeg <;> simp [va_up, vh_R_wR, hj]
        rw [e, vt_ws_set (h := h) (h' := vh_wR h r i.toNatClampNeg (some y)) rfl (fun j hj => vt_E_wR hj)] at hP1
        exact hP1
      rcases hok with ⟨rfl, rfl⟩ | ⟨rfl, rfl⟩
      · obtain ⟨t3, ht3⟩ := vt_ak_at (ca := ca) (a := 3) (ty := .array .int) rfl
        obtain ⟨t1, ht1⟩ := vt_ak_at (ca := ca) (a := 1) (ty := .int) rfl
        obtain ⟨hy0, hey⟩ := vt_arI (r := y) hR hk.1.2
        obtain ⟨comp, cA, kA, h1, h3, h4, h5⟩ := Cond.arrayOver_specA Wd.2.2.2.2.2.2
        have g3 : s.vm.findClass ("[" ++ (FieldType.array .int).toString) = some (ca 3) := (Wd.1.2 t3 _ ht3).2
        have g1 : s.vm.findClass ("[" ++ FieldType.int.toString) = some (ca 1) := (Wd.1.2 t1 _ ht1).2
        have e3 : cA = ca 3 := Option.some.inj (h5.symm.trans g3)
        have e1 : comp = ca 1 := Option.some.inj (Eq.trans (Eq.symm h1) g1)
        subst e3; subst e1
        obtain ⟨-, k1, hk1, cc1, hkd1⟩ := (Wd.1.2 t1 _ ht1).1 (vh_Z h y) (fun j => .int (vh_I h y j))
        have hk1 : s.vm.classes[ca 1]? = some k1 := hk1
        have hcell : H[base + r]? = some (vp_cell (ca 3) (vh_Z h r, .inr (.inr (.inr (.inr (fun i => (vh_R h r i).map (base + ·))))))) := hR.2.2 r _ he
        have hcv : H[base + y]? = some (vp_cell (ca 1) (vh_Z h y, .inl (vh_I h y))) := hR.2.2 y _ hey
        have hlt : i.toNatClampNeg < vh_Z h r := Nat.not_le.mp fun q => hk.2 (Or.inr q)
        have hass : s.vm.assignable (ca 1) (ca 1) = true := Vm.assignable_self _ _
        refine W.aast hx hb hcell (fun q h => by cases h) (fun h => by cases h) h3 h4 rfl hk1 ⟨fun q => hk.2 (Or.inl q), by show _ < (arrV _ _ _).slots.size; rw [arrV_size]; exact hlt⟩ hcv (fun q h => by cases h) hk1 hass rfl rfl (vt_dc_of hd) (fun H1 e2 z oq => ?_)
        refine key H1 _ (hR.2.2.set vt_ws_D he ?_ oq) (hS.put z oq (Nat.le_add_right _ _))
        show H1[base + r]? = some (vp_cell _ _)
        rw [e2, vp_cell_q, vp_cell_q, arrV_store]
        congr 2
        funext q
        by_cases hq : q = i.toNatClampNeg
        · subst hq
          simp [updV, va_up, va_rf]
        · simp [updV, va_up, hq]
      · obtain ⟨t0, ht⟩ := vt_ak_at (ca := ca) (a := 2) (ty := .object "RuleEngine$Rule") rfl
        obtain ⟨hy0, hey⟩ := vt_obj (r := y) (a := 3) hR hk.1.2
        exact va_astq (D := D) (r := ("RuleEngine$Rule", vt_T3, 10)) hx hb Wd.1 hR.2.2 vt_ws_D hS r t0 y 3 he ht hey rfl hk.2 (vt_dc_of hd) (fun H1 locs1 hP1 hD1 hS1 => key H1 locs1 hP1 hS1)
    · rw [if_neg hk] at hn
      cases hn
  · cases hn
theorem sm_alen (C : vt_Ctx m p Rm s mm args meth c) (Wd : vt_Wd base b D ca (vh_X h) (vh_L h) s) {w a b1 c1 e1 : Nat} {v : Int} {pc' : Nat} {ls' st' : List Value} {h' : vt_H} {cells' slots' : Nat} (hc : cells' = cells + (vh_n h' - vh_n h)) (hs : slots' = slots + (vh_u h' - vh_u h)) (hbc : cells' ≤ Rm.cells) (hbs : slots' ≤ Rm.slots) (hn : vn_alen pc ls st h = some (pc', ls', st', h')) (hok : vt_okb m pc (29, w, v, a, b1, c1, e1) = true) (kk : vt_Go p l e Rm s mm args below meth c Qf base b D ca m pc' ls' st' h' cells' slots') : vt_Go p l e Rm s mm args below meth c Qf base b D ca m pc ls st h cells slots := by
  obtain ⟨hx, hb, hml, hr, hown, hts, hlk, hnm, hfr, hlo⟩ := C
  have hd := vt_dc_of (m := m) (pc := pc) (x := .arraylength) (n := 1) hok
  unfold vn_alen at hn
  split at hn
  · rename_i r t
    by_cases hk : 0 < vh_K h r ∧ vh_K h r < 100
    · rw [if_pos hk] at hn
      cases hn
      simp only [Nat.sub_self, Nat.add_zero] at hc hs
      replace hc := hc.symm; replace hs := hs.symm; subst hc; subst hs
      intro H locs lsA hZ hR hS hL
      obtain ⟨ty, hty⟩ := Option.isSome_iff_exists.mp (hR.2.1 r hk.2 hk.1)
      obtain ⟨t0, ht⟩ := vt_ak_at (ca := ca) hty
      by_cases h1 : vh_K h r = 1
      · obtain ⟨hr0, he⟩ := vt_arI hR h1
        rw [h1] at ht
        exact va_alen (D := D) hx hb Wd.1 hR.2.2 r t0 he ht rfl hd (kk H locs lsA hZ hR hS hL)
      · by_cases h4 : vh_K h r = 4
        · obtain ⟨hr0, he⟩ := vt_arZ hR h4
          rw [h4] at ht
          exact va_alen (D := D) hx hb Wd.1 hR.2.2 r t0 he ht rfl hd (kk H locs lsA hZ hR hS hL)
        obtain ⟨hr0, he⟩ := vt_arR hR rfl (by omega) hk.2 h4
        exact va_alen (D := D) hx hb Wd.1 hR.2.2 r t0 he ht rfl hd (kk H locs lsA hZ hR hS hL)
    · rw [if_neg hk] at hn
      cases hn
  · cases hn
    simp only [Nat.sub_self, Nat.add_zero] at hc hs
    replace hc := hc.symm; replace hs := hs.symm; subst hc; subst hs
    intro H locs lsA hZ hR hS hL
    exact va_slen hx hb Wd.2.2.2.1 (Nat.lt_of_lt_of_le Wd.2.1 Wd.2.2.1) (Nat.not_le.mpr Wd.2.1) hS hd (kk H locs lsA hZ hR hS hL)
  · cases hn
/-- a new cell comes: it lies behind all others -/
theorem vt_born {H1 : Heap} {q k z w : Nat} {x : va_E} (hz1 : H1.size ≤ s.heap.size + (cells + 1)) (hZ : s.heap.size + cells = base + vh_n h) (hR : (∀ k, vh_n h ≤ k → vh_K h k = 0) ∧ (∀ k, vh_K h k < 100 → 0 < vh_K h k → (vt_ak (vh_K h k)).isSome = true)) (hP1 : va_P D vt_cl (vt_ws base ca h ++ [(q, x)]) H1) (hD1 : va_D (fun q => base ≤ q) (vt_ws base ca h ++ [(q, x)])) (hk : k < 100 → 0 < k → (vt_ak k).isSome = true) (hx : vt_E base ca (vh_new h k z w) (vh_n h) = x) : q = base + vh_n h ∧ vt_Rel base D ca (vh_new h k z w) H1 := by
  have hl : (vt_ws base ca h).length = vh_n h := by simp [vt_ws]
  have hq : (vt_ws base ca h ++ [(q, x)])[vh_n h]? = some (q, x) := by rw [← hl]; simp
  have h1 : base ≤ q := hD1.2 _ _ hq
  have h2 : q < H1.size := (hP1 _ _ hq).lt
  have h3 : q = base + vh_n h := by
    rcases Nat.lt_or_ge q (base + vh_n h) with g | g
    · exfalso
      have hi : (vt_ws base ca h ++ [(q, x)])[q - base]? = some (base + (q - base), vt_E base ca h (q - base)) := by
        rw [List.getElem?_append_left (by rw [hl]; omega)]
        exact vt_ws_at (by omega)
      have := hD1.1 _ _ _ _ hi hq (by show base + (q - base) = q; omega)
      omega
    · omega
  refine ⟨h3, fun j hj => ?_, fun j => ?_, ?_⟩
  · rw [vh_n_new] at hj
    rw [vh_K_new, if_neg (by omega)]
    exact hR.1 j (by omega)
  · rw [vh_K_new]
    by_cases e : j = vh_n h
    · rw [if_pos e]; exact hk
    · rw [if_neg e]; exact hR.2 j
  · rw [h3, ← hx, vt_ws_push rfl (fun j hj => vt_E_new hj)] at hP1
    exact hP1
theorem sm_newa (C : vt_Ctx m p Rm s mm args meth c) (Wd : vt_Wd base b D ca (vh_X h) (vh_L h) s) {w a b1 c1 e1 : Nat} {v : Int} {pc' : Nat} {ls' st' : List Value} {h' : vt_H} {cells' slots' : Nat} (hc : cells' = cells + (vh_n h' - vh_n h)) (hs : slots' = slots + (vh_u h' - vh_u h)) (hbc : cells' ≤ Rm.cells) (hbs : slots' ≤ Rm.slots) (hn : vn_newa 1 2 pc ls st h = some (pc', ls', st', h')) (hok : vt_okb m pc (30, w, v, a, b1, c1, e1) = true) (kk : vt_Go p l e Rm s mm args below meth c Qf base b D ca m pc' ls' st' h' cells' slots') : vt_Go p l e Rm s mm args below meth c Qf base b D ca m pc ls st h cells slots := by
  obtain ⟨hx, hb, hml, hr, hown, hts, hlk, hnm, hfr, hlo⟩ := C
  have hd := vt_dc_of (m := m) (pc := pc) (x := .newarray .int) (n := 2) hok
  unfold vn_newa at hn
  split at hn
  · rename_i i t
    by_cases hk : ¬ i < 0 ∧ i.toNatClampNeg ≤ 100000000
    · rw [if_pos hk] at hn
      cases hn
      simp only [vh_n_new, vh_u_new, Nat.add_sub_cancel_left] at hc hs
      replace hc := hc.symm; replace hs := hs.symm; subst hc; subst hs
      intro H locs lsA hZ hR hS hL
      refine va_newa (D := D) (ty := .int) (a0 := (i.toNatClampNeg, .inl (fun _ => 0))) hx hb (atype := .int) (hts _ vt_wArr) rfl Wd.1 hR.2.2 vt_ws_D hS (fun q hq => Nat.le_trans Wd.2.2.1 hq) (fun cA => rfl) hk.1 rfl (by show i.toNatClampNeg * 4 ≤ _; omega) hbc hbs hd (fun q cA H1 hK1 hP1 hD1 hS1 => ?_)
      refine vt_cap (fun hz1 => ?_)
      obtain ⟨t0, ht⟩ := vt_ak_at (ca := ca) (a := 1) (ty := .int) rfl
      have hcA : cA = ca 1 := by
        have g1 := (Wd.1.2 t0 _ ht).2
        have g2 := (hK1.2 (vt_tys ca).length (cA, .int) (by simp)).2
        exact Option.some.inj (Eq.trans (Eq.symm g2) g1)
      subst hcA
      obtain ⟨rfl, hR1⟩ := vt_born (k := 1) (z := i.toNatClampNeg) (w := i.toNatClampNeg) hz1 hZ ⟨hR.1, hR.2.1⟩ hP1 hD1 (fun _ _ => rfl) (by
        unfold vt_E
        rw [vh_K_new, if_pos rfl, if_neg (by omega), if_pos (Or.inl rfl), vh_Z_new, if_pos rfl]
        congr 4
        funext j
        rw [vh_I_new, if_pos rfl])
      exact kk H1 locs lsA (by rw [vh_n_new]; omega) hR1 hS1 hL
    · rw [if_neg hk] at hn
      cases hn
  · cases hn
theorem sm_anew (C : vt_Ctx m p Rm s mm args meth c) (Wd : vt_Wd base b D ca (vh_X h) (vh_L h) s) {w a b1 c1 e1 : Nat} {v : Int} {pc' : Nat} {ls' st' : List Value} {h' : vt_H} {cells' slots' : Nat} (hc : cells' = cells + (vh_n h' - vh_n h)) (hs : slots' = slots + (vh_u h' - vh_u h)) (hbc : cells' ≤ Rm.cells) (hbs : slots' ≤ Rm.slots) (hn : vn_newa a 3 pc ls st h = some (pc', ls', st', h')) (hok : vt_okb m pc (31, w, v, a, b1, c1, e1) = true) (kk : vt_Go p l e Rm s mm args below meth c Qf base b D ca m pc' ls' st' h' cells' slots') : vt_Go p l e Rm s mm args below meth c Qf base b D ca m pc ls st h cells slots := by
  obtain ⟨hx, hb, hml, hr, hown, hts, hlk, hnm, hfr, hlo⟩ := C
  simp only [vt_okb] at hok
  rw [Bool.and_eq_true] at hok
  obtain ⟨hd, hok⟩ := hok
  unfold vt_okA at hok
  rw [Bool.and_eq_true, decide_eq_true_eq] at hok
  obtain ⟨rfl, hok⟩ := hok
  unfold vn_newa at hn
  split at hn
  · rename_i i t
    by_cases hk : ¬ i < 0 ∧ i.toNatClampNeg ≤ 100000000
    · rw [if_pos hk] at hn
      cases hn
      simp only [vh_n_new, vh_u_new, Nat.add_sub_cancel_left] at hc hs
      replace hc := hc.symm; replace hs := hs.symm; subst hc; subst hs
      intro H locs lsA hZ hR hS hL
      refine va_newq (D := D) (C := "RuleEngine$Rule") hx hb hown (hts _ (vt_wd_of hok)) Wd.2.2.2.2.2.1 Wd.1 hR.2.2 vt_ws_D hS (fun q hq => Nat.le_trans Wd.2.2.1 hq) hk.1 rfl (by omega) hbc hbs (vt_dc_of hd) (fun q cA H1 hK1 hP1 hD1 hS1 => ?_)
      refine vt_cap (fun hz1 => ?_)
      have hak : vt_ak 2 = some (.object "RuleEngine$Rule") := rfl
      obtain ⟨t0, ht⟩ := vt_ak_at (ca := ca) hak
      have hcA : cA = ca 2 := by
        obtain ⟨_, _, _, _, _, g1⟩ := (Wd.1.2 t0 _ ht).2
        obtain ⟨_, _, _, _, _, g2⟩ := (hK1.2 (vt_tys ca).length (cA, .object "RuleEngine$Rule") (by simp)).2
        exact Option.some.inj (Eq.trans (Eq.symm g2) g1)
      subst hcA
      obtain ⟨rfl, hR1⟩ := vt_born (k := 2) (z := i.toNatClampNeg) (w := i.toNatClampNeg) hz1 hZ ⟨hR.1, hR.2.1⟩ hP1 hD1 (fun _ _ => rfl) (by
        unfold vt_E
        rw [vh_K_new, if_pos rfl, if_neg (by omega), if_neg (by omega), vh_Z_new, if_pos rfl]
        congr 7
        funext j
        rw [vh_R_new, if_pos rfl]; rfl)
      exact kk H1 locs lsA (by rw [vh_n_new]; omega) hR1 hS1 hL
    · rw [if_neg hk] at hn
      cases hn
  · cases hn
theorem sm_new (C : vt_Ctx m p Rm s mm args meth c) (Wd : vt_Wd base b D ca (vh_X h) (vh_L h) s) {w a b1 c1 e1 : Nat} {v : Int} {pc' : Nat} {ls' st' : List Value} {h' : vt_H} {cells' slots' : Nat} (hc : cells' = cells + (vh_n h' - vh_n h)) (hs : slots' = slots + (vh_u h' - vh_u h)) (hbc : cells' ≤ Rm.cells) (hbs : slots' ≤ Rm.slots) (hn : vn_new a b1 pc ls st h = some (pc', ls', st', h')) (hok : vt_okb m pc (32, w, v, a, b1, c1, e1) = true) (kk : vt_Go p l e Rm s mm args below meth c Qf base b D ca m pc' ls' st' h' cells' slots') : vt_Go p l e Rm s mm args below meth c Qf base b D ca m pc ls st h cells slots := by
  obtain ⟨hx, hb, hml, hr, hown, hts, hlk, hnm, hfr, hlo⟩ := C
  simp only [vt_okb] at hok
  rw [Bool.and_eq_true] at hok
  obtain ⟨hd, hok⟩ := hok
  unfold vt_okN at hok
  cases hn
  simp only [vh_n_new, vh_u_new, Nat.add_sub_cancel_left] at hc hs
  replace hc := hc.symm; replace hs := hs.symm; subst hc; subst hs
  intro H locs lsA hZ hR hS hL
  split at hok
  · rename_i C T N hcl
    simp only [Bool.and_eq_true, decide_eq_true_eq] at hok
    obtain ⟨rfl, hlk2⟩ := hok
    obtain ⟨k1, k2, k3⟩ := vt_clt hcl
    obtain ⟨k4, k5⟩ := vt_cli hcl
    refine va_new (D := D) (fs := vt_fs base (vh_new h (100 + a) 0 b1) (vh_n h) a) hx hb hts (vt_clw hcl) (vt_ty a) k1 hown (hts _ (vt_wd_of hlk2)) (hts _ k4) (hts _ k5) Wd.1 hR.2.2 vt_ws_D hS (fun q hq => Nat.le_trans Wd.2.2.1 hq) hcl (fun j hj => ?_) hbc hbs (vt_dc_of hd) (fun q H1 hP1 hD1 hS1 => ?_)
    · have e := k3 j hj
      unfold vp_V
      rw [List.getD_eq_getElem?_getD, vt_fs_at (by rw [vt_nf_of hcl]; exact hj), e]
      unfold vt_fv
      rw [vh_R_new, vh_I_new, if_pos rfl, if_pos rfl]
      cases vt_ref a j <;> rfl
    · refine vt_cap (fun hz1 => ?_)
      obtain ⟨rfl, hR1⟩ := vt_born (k := 100 + a) (z := 0) (w := b1) hz1 hZ ⟨hR.1, hR.2.1⟩ hP1 hD1 (fun g => by omega) (by
        unfold vt_E
        rw [vh_K_new, if_pos rfl, if_pos (by omega), Nat.add_sub_cancel_left])
      exact kk H1 locs lsA (by rw [vh_n_new]; omega) hR1 hS1 hL
  · cases hok
theorem vt_sum {st : List Value} (hc : ∀ x ∈ st, x.category = 1) : ((st.map (vt_tr base b)).map fun v => v.category).sum = st.length := by
  induction st with
  | nil => rfl
  | cons x t ih =>
    simp only [List.map_cons, List.sum_cons, List.length_cons, vt_tr_cat]
    rw [ih (fun y hy => hc y (List.mem_cons_of_mem _ hy)), hc x List.mem_cons_self]
    omega
theorem vt_sum_le {st : List Value} : ((st.map (vt_tr base b)).map fun v => v.category).sum ≤ 2 * st.length := by
  induction st with
  | nil => exact Nat.le_refl _
  | cons x t ih =>
    simp only [List.map_cons, List.sum_cons, List.length_cons, vt_tr_cat]
    have : x.category ≤ 2 := by cases x <;> simp [Value.category]
    omega
theorem sm_copy (C : vt_Ctx m p Rm s mm args meth c) (Wd : vt_Wd base b D ca (vh_X h) (vh_L h) s) {w a b1 c1 e1 : Nat} {v : Int} {pc' : Nat} {ls' st' : List Value} {h' : vt_H} {cells' slots' : Nat} (hc : cells' = cells + (vh_n h' - vh_n h)) (hs : slots' = slots + (vh_u h' - vh_u h)) (hbc : cells' ≤ Rm.cells) (hbs : slots' ≤ Rm.slots) (hn : vn_copy pc ls st h = some (pc', ls', st', h')) (hok : vt_okb m pc (34, w, v, a, b1, c1, e1) = true) (kk : vt_Go p l e Rm s mm args below meth c Qf base b D ca m pc' ls' st' h' cells' slots') : vt_Go p l e Rm s mm args below meth c Qf base b D ca m pc ls st h cells slots := by
  obtain ⟨hx, hb, hml, hr, hown, hts, hlk, hnm, hfr, hlo⟩ := C
  simp only [vt_okb] at hok
  rw [Bool.and_eq_true] at hok
  obtain ⟨hd, hl⟩ := hok
  unfold vn_copy at hn
  split at hn
  · rename_i n dp r sp r0 t
    by_cases hk : (vh_K h r = 1 ∧ vh_K h r0 = 1 ∧ t.length ≤ 8) ∧ ¬ sp < 0 ∧ ¬ dp < 0 ∧ ¬ n < 0 ∧ sp.toNatClampNeg + n.toNatClampNeg ≤ vh_Z h r0 ∧ dp.toNatClampNeg + n.toNatClampNeg ≤ vh_Z h r
    · rw [if_pos hk] at hn
      cases hn
      simp only [vh_n_cp, vh_u_cp, Nat.sub_self, Nat.add_zero] at hc hs
      replace hc := hc.symm; replace hs := hs.symm; subst hc; subst hs
      obtain ⟨⟨g1, g2, g3⟩, g4, g5, g6, g7, g8⟩ := hk
      intro H locs lsA hZ hR hS hL
      obtain ⟨hr0, he⟩ := vt_arI hR g1
      obtain ⟨hr1, he0⟩ := vt_arI hR g2
      obtain ⟨t0, ht⟩ := vt_ak_at (ca := ca) (a := 1) (ty := .int) rfl
      refine va_copyi (D := D) (ty := .int) hx hb (hml.trans hL.1.symm) hown (hts _ (vt_wd_of hl)) (hts _ vt_wCopy.1) (hts _ vt_wCopy.2.1) (hts _ vt_wCopy.2.2) Wd.1 hR.2.2 vt_ws_D hS r0 r t0 t0 he0 he ht ht rfl g4 g5 g6 g7 g8 (fun _ _ => rfl) (by omega) ?_ (vt_dc_of hd) (fun H1 locs1 hP1 hD1 hS1 => ?_)
      · have := vt_sum_le (base := base) (b := b) (st := st')
        have : nativeFrameWords "java/lang/System" "arraycopy" 5 ≤ 7 := by decide +kernel
        omega
      · refine kk H1 locs1 lsA hZ ⟨hR.1, hR.2.1, ?_⟩ hS1 hL
        have e : (.inl (ca 1, vh_Z h r, .inl (va_cpy (vh_I h r0) (vh_I h r) sp.toNatClampNeg dp.toNatClampNeg n.toNatClampNeg)) : va_E) = vt_E base ca (vh_cp h r0 sp.toNatClampNeg r dp.toNatClampNeg n.toNatClampNeg) r := by
          unfold vt_E
          rw [vh_K_cp, g1, if_neg (by omega), if_pos (Or.inl rfl), vh_Z_cp]
          congr 4
          funext j
          rw [vh_I_cp, if_pos rfl]
        rw [e, vt_ws_set (h := h) (h' := vh_cp h r0 sp.toNatClampNeg r dp.toNatClampNeg n.toNatClampNeg) rfl (fun j hj => vt_E_cp hj)] at hP1
        exact hP1
    · rw [if_neg hk] at hn
      cases hn
  · cases hn
theorem sm_oinit (C : vt_Ctx m p Rm s mm args meth c) (Wd : vt_Wd base b D ca (vh_X h) (vh_L h) s) {w a b1 c1 e1 : Nat} {v : Int} {pc' : Nat} {ls' st' : List Value} {h' : vt_H} {cells' slots' : Nat} (hc : cells' = cells + (vh_n h' - vh_n h)) (hs : slots' = slots + (vh_u h' - vh_u h)) (hbc : cells' ≤ Rm.cells) (hbs : slots' ≤ Rm.slots) (hn : vn_oinit pc ls st h = some (pc', ls', st', h')) (hok : vt_okb m pc (35, w, v, a, b1, c1, e1) = true) (kk : vt_Go p l e Rm s mm args below meth c Qf base b D ca m pc' ls' st' h' cells' slots') : vt_Go p l e Rm s mm args below meth c Qf base b D ca m pc ls st h cells slots := by
  obtain ⟨hx, hb, hml, hr, hown, hts, hlk, hnm, hfr, hlo⟩ := C
  simp only [vt_okb] at hok
  rw [Bool.and_eq_true] at hok
  obtain ⟨hd, hl⟩ := hok
  unfold vn_oinit at hn
  split at hn
  · rename_i r t
    by_cases hk : t.length ≤ 8
    · rw [if_pos hk] at hn
      cases hn
      simp only [Nat.sub_self, Nat.add_zero] at hc hs
      replace hc := hc.symm; replace hs := hs.symm; subst hc; subst hs
      intro H locs lsA hZ hR hS hL
      refine W.objInit hx hb hown (hts _ (vt_wd_of hl)) (hts _ vt_wObj.1) (hts _ vt_wObj.2) rfl (hL.1.trans hml.symm) rfl (vt_dc_of hd) (by omega) ?_ (kk H locs lsA hZ hR hS hL)
      have := vt_sum_le (base := base) (b := b) (st := st')
      show 2 * 0 + _ + 12 ≤ _
      omega
    · rw [if_neg hk] at hn
      cases hn
  · cases hn
theorem sm_zald (C : vt_Ctx m p Rm s mm args meth c) (Wd : vt_Wd base b D ca (vh_X h) (vh_L h) s) {w a b1 c1 e1 : Nat} {v : Int} {pc' : Nat} {ls' st' : List Value} {h' : vt_H} {cells' slots' : Nat} (hc : cells' = cells + (vh_n h' - vh_n h)) (hs : slots' = slots + (vh_u h' - vh_u h)) (hbc : cells' ≤ Rm.cells) (hbs : slots' ≤ Rm.slots) (hn : vn_zald pc ls st h = some (pc', ls', st', h')) (hok : vt_okb m pc (36, w, v, a, b1, c1, e1) = true) (kk : vt_Go p l e Rm s mm args below meth c Qf base b D ca m pc' ls' st' h' cells' slots') : vt_Go p l e Rm s mm args below meth c Qf base b D ca m pc ls st h cells slots := by
  obtain ⟨hx, hb, hml, hr, hown, hts, hlk, hnm, hfr, hlo⟩ := C
  have hd := vt_dc_of (m := m) (pc := pc) (x := .baload) (n := 1) hok
  unfold vn_zald at hn
  split at hn
  · rename_i i r t
    by_cases hk : vh_K h r = 4 ∧ ¬ (i < 0 ∨ vh_Z h r ≤ i.toNatClampNeg)
    · rw [if_pos hk] at hn
      cases hn
      simp only [Nat.sub_self, Nat.add_zero] at hc hs
      replace hc := hc.symm; replace hs := hs.symm; subst hc; subst hs
      intro H locs lsA hZ hR hS hL
      obtain ⟨hr0, he⟩ := vt_arZ hR hk.1
      obtain ⟨t0, ht⟩ := vt_ak_at (ca := ca) (a := 4) (ty := .boolean) rfl
      exact va_zald (D := D) hx hb Wd.1 hR.2.2 r t0 he ht hk.2 hd (kk H locs lsA hZ hR hS hL)
    · rw [if_neg hk] at hn
      cases hn
  · cases hn
theorem sm_zast (C : vt_Ctx m p Rm s mm args meth c) (Wd : vt_Wd base b D ca (vh_X h) (vh_L h) s) {w a b1 c1 e1 : Nat} {v : Int} {pc' : Nat} {ls' st' : List Value} {h' : vt_H} {cells' slots' : Nat} (hc : cells' = cells + (vh_n h' - vh_n h)) (hs : slots' = slots + (vh_u h' - vh_u h)) (hbc : cells' ≤ Rm.cells) (hbs : slots' ≤ Rm.slots) (hn : vn_zast pc ls st h = some (pc', ls', st', h')) (hok : vt_okb m pc (37, w, v, a, b1, c1, e1) = true) (kk : vt_Go p l e Rm s mm args below meth c Qf base b D ca m pc' ls' st' h' cells' slots') : vt_Go p l e Rm s mm args below meth c Qf base b D ca m pc ls st h cells slots := by
  obtain ⟨hx, hb, hml, hr, hown, hts, hlk, hnm, hfr, hlo⟩ := C
  have hd := vt_dc_of (m := m) (pc := pc) (x := .bastore) (n := 1) hok
  unfold vn_zast at hn
  split at hn
  · rename_i x i r t
    by_cases hk : (vh_K h r = 4 ∧ (x = 0 ∨ x = 1)) ∧ ¬ (i < 0 ∨ vh_Z h r ≤ i.toNatClampNeg)
    · rw [if_pos hk] at hn
      cases hn
      simp only [vh_n_wI, vh_u_wI, Nat.sub_self, Nat.add_zero] at hc hs
      replace hc := hc.symm; replace hs := hs.symm; subst hc; subst hs
      intro H locs lsA hZ hR hS hL
      obtain ⟨hr0, he⟩ := vt_arZ hR hk.1.1
      obtain ⟨t0, ht⟩ := vt_ak_at (ca := ca) (a := 4) (ty := .boolean) rfl
      refine va_zast (D := D) hx hb Wd.1 hR.2.2 vt_ws_D hS r t0 he ht hk.2 hd (fun H1 locs1 hP1 hD1 hS1 => ?_)
      refine kk H1 locs1 lsA hZ ⟨hR.1, hR.2.1, ?_⟩ hS1 hL
      have hnx : vp_nar .boolean x = x := by rcases hk.1.2 with rfl | rfl <;> rfl
      rw [hnx] at hP1
      have e : (.inl (ca 4, vh_Z h r, .inl (upd (vh_I h r) i.toNatClampNeg x)) : va_E) = vt_E base ca (vh_wI h r i.toNatClampNeg x) r := by
        unfold vt_E
        rw [vh_K_wI, hk.1.1, if_neg (by omega), if_pos (Or.inr rfl), vh_Z_wI]
        congr 4
        funext j
        simp [upd, vh_I_wI]
      rw [e, vt_ws_set (h := h) (h' := vh_wI h r i.toNatClampNeg x) rfl (fun j hj => vt_E_wI hj)] at hP1
      exact hP1
    · rw [if_neg hk] at hn
      cases hn
  · cases hn
theorem sm_sw (C : vt_Ctx m p Rm s mm args meth c) (Wd : vt_Wd base b D ca (vh_X h) (vh_L h) s) {w a b1 c1 e1 : Nat} {v : Int} {pc' : Nat} {ls' st' : List Value} {h' : vt_H} {cells' slots' : Nat} (hc : cells' = cells + (vh_n h' - vh_n h)) (hs : slots' = slots + (vh_u h' - vh_u h)) (hbc : cells' ≤ Rm.cells) (hbs : slots' ≤ Rm.slots) (hn : vn_sw a b1 ls st h = some (pc', ls', st', h')) (hok : vt_okb m pc (38, w, v, a, b1, c1, e1) = true) (kk : vt_Go p l e Rm s mm args below meth c Qf base b D ca m pc' ls' st' h' cells' slots') : vt_Go p l e Rm s mm args below meth c Qf base b D ca m pc ls st h cells slots := by
  obtain ⟨hx, hb, hml, hr, hown, hts, hlk, hnm, hfr, hlo⟩ := C
  simp only [vt_okb] at hok
  unfold vt_okW at hok
  rw [Bool.and_eq_true, decide_eq_true_eq] at hok
  obtain ⟨rfl, hd⟩ := hok
  have hd := vt_dc_of hd
  unfold vn_sw at hn
  split at hn
  · rename_i x t
    cases hn
    simp only [Nat.sub_self, Nat.add_zero] at hc hs
    replace hc := hc.symm; replace hs := hs.symm; subst hc; subst hs
    intro H locs lsA hZ hR hS hL
    have k := kk H locs lsA hZ hR hS hL
    rcases pk_ix x (n := 15) (by omega) with q | q | ⟨j, hj, rfl⟩
    · rw [if_pos (Or.inl q)] at k
      exact lv_tableOut hx hb hd (Or.inl (by have := Int32.lt_iff_toInt_lt.mp q; simpa using this)) (by omega) k
    · rw [if_pos (Or.inr q)] at k
      exact lv_tableOut hx hb hd (Or.inr (by have := Int32.le_iff_toInt_le.mp q; rw [nI_toInt (by omega)] at this; omega)) (by omega) k
    · have hn1 : ¬ (nI j < 0 ∨ nI 15 ≤ nI j) := by
        rintro (z | z)
        · exact nI_pos (by omega) z
        · exact nI_ge hj (by omega) z
      rw [if_neg hn1, nI_clamp (by omega)] at k
      have hto : (nI j).toInt = (j : Int) := nI_toInt (by omega)
      refine lv_tableIn (off := ((vt_sw.getD j 0 : Nat) : Int) - (pc : Int)) hx hb hd (by rw [hto]; omega) (by rw [hto]; omega) ?_ (by omega) k
      rw [hto]
      have : (((j : Nat) : Int) - 0).toNat = j := by omega
      rw [this]
      have hl : j < vt_sw.length := by show j < 15; exact hj
      simp [List.getElem?_eq_getElem hl, List.getD_eq_getElem?_getD]
  · cases hn
theorem sm_newz (C : vt_Ctx m p Rm s mm args meth c) (Wd : vt_Wd base b D ca (vh_X h) (vh_L h) s) {w a b1 c1 e1 : Nat} {v : Int} {pc' : Nat} {ls' st' : List Value} {h' : vt_H} {cells' slots' : Nat} (hc : cells' = cells + (vh_n h' - vh_n h)) (hs : slots' = slots + (vh_u h' - vh_u h)) (hbc : cells' ≤ Rm.cells) (hbs : slots' ≤ Rm.slots) (hn : vn_newa 4 2 pc ls st h = some (pc', ls', st', h')) (hok : vt_okb m pc (39, w, v, a, b1, c1, e1) = true) (kk : vt_Go p l e Rm s mm args below meth c Qf base b D ca m pc' ls' st' h' cells' slots') : vt_Go p l e Rm s mm args below meth c Qf base b D ca m pc ls st h cells slots := by
  obtain ⟨hx, hb, hml, hr, hown, hts, hlk, hnm, hfr, hlo⟩ := C
  have hd := vt_dc_of (m := m) (pc := pc) (x := .newarray .boolean) (n := 2) hok
  unfold vn_newa at hn
  split at hn
  · rename_i i t
    by_cases hk : ¬ i < 0 ∧ i.toNatClampNeg ≤ 100000000
    · rw [if_pos hk] at hn
      cases hn
      simp only [vh_n_new, vh_u_new, Nat.add_sub_cancel_left] at hc hs
      replace hc := hc.symm; replace hs := hs.symm; subst hc; subst hs
      intro H locs lsA hZ hR hS hL
      refine va_newa (D := D) (ty := .boolean) (a0 := (i.toNatClampNeg, .inl (fun _ => 0))) hx hb (atype := .boolean) (hts _ vt_wArz) rfl Wd.1 hR.2.2 vt_ws_D hS (fun q hq => Nat.le_trans Wd.2.2.1 hq) (fun cA => rfl) hk.1 rfl (by show i.toNatClampNeg * 1 ≤ _; omega) hbc hbs hd (fun q cA H1 hK1 hP1 hD1 hS1 => ?_)
      refine vt_cap (fun hz1 => ?_)
      obtain ⟨t0, ht⟩ := vt_ak_at (ca := ca) (a := 4) (ty := .boolean) rfl
      have hcA : cA = ca 4 := by
        have g1 := (Wd.1.2 t0 _ ht).2
        have g2 := (hK1.2 (vt_tys ca).length (cA, .boolean) (by simp)).2
        exact Option.some.inj (Eq.trans (Eq.symm g2) g1)
      subst hcA
      obtain ⟨rfl, hR1⟩ := vt_born (k := 4) (z := i.toNatClampNeg) (w := i.toNatClampNeg) hz1 hZ ⟨hR.1, hR.2.1⟩ hP1 hD1 (fun _ _ => rfl) (by
        unfold vt_E
        rw [vh_K_new, if_pos rfl, if_neg (by omega), if_pos (Or.inr rfl), vh_Z_new, if_pos rfl]
        congr 4
        funext j
        rw [vh_I_new, if_pos rfl])
      exact kk H1 locs lsA (by rw [vh_n_new]; omega) hR1 hS1 hL
    · rw [if_neg hk] at hn
      cases hn
  · cases hn
theorem sm_max (C : vt_Ctx m p Rm s mm args meth c) (Wd : vt_Wd base b D ca (vh_X h) (vh_L h) s) {w a b1 c1 e1 : Nat} {v : Int} {pc' : Nat} {ls' st' : List Value} {h' : vt_H} {cells' slots' : Nat} (hc : cells' = cells + (vh_n h' - vh_n h)) (hs : slots' = slots + (vh_u h' - vh_u h)) (hbc : cells' ≤ Rm.cells) (hbs : slots' ≤ Rm.slots) (hn : vn_max pc ls st h = some (pc', ls', st', h')) (hok : vt_okb m pc (41, w, v, a, b1, c1, e1) = true) (kk : vt_Go p l e Rm s mm args below meth c Qf base b D ca m pc' ls' st' h' cells' slots') : vt_Go p l e Rm s mm args below meth c Qf base b D ca m pc ls st h cells slots := by
  obtain ⟨hx, hb, hml, hr, hown, hts, hlk, hnm, hfr, hlo⟩ := C
  simp only [vt_okb] at hok
  rw [Bool.and_eq_true] at hok
  obtain ⟨hd, hl⟩ := hok
  unfold vn_max at hn
  split at hn
  · rename_i y x t
    by_cases hk : t.length ≤ 8
    · rw [if_pos hk] at hn
      cases hn
      simp only [Nat.sub_self, Nat.add_zero] at hc hs
      replace hc := hc.symm; replace hs := hs.symm; subst hc; subst hs
      intro H locs lsA hZ hR hS hL
      refine va_mmax hx hb (hml.trans hL.1.symm) hown (hts _ (vt_wd_of hl)) (hts _ vt_wMax.1) (hts _ vt_wMax.2.1) (hts _ vt_wMax.2.2) (by omega) ?_ hbc hbs (vt_dc_of hd) (kk H locs lsA hZ hR hS hL)
      have := vt_sum_le (base := base) (b := b) (st := t)
      omega
    · rw [if_neg hk] at hn
      cases hn
  · cases hn
theorem vr_outer (c : ClassId) (N h0 : Nat) : ∀ i : Nat, Jvm.Free.Multi.outerC c N h0 i = arrV c N (fun j => va_rf (if j < i then some (h0 + 1 + j) else none))
  | 0 => by
    show ({ cls := c, slots := Array.replicate N .null, vm := .none } : Cell) = _
    rw [arrV_new]
    refine congrArg (arrV c N) (funext fun j => ?_)
    simp [va_rf]
  | i + 1 => by
    show (Jvm.Free.Multi.outerC c N h0 i).setSlot i (.ref (h0 + 1 + i)) = _
    rw [vr_outer c N h0 i, arrV_store]
    refine congrArg (arrV c N) (funext fun j => ?_)
    by_cases e : j = i
    · subst e
      simp [updV, va_rf]
    · by_cases h : j < i
      · simp [updV, e, h, Nat.lt_succ_of_lt h]
      · simp [updV, e, h, show ¬ j < i + 1 by omega]
theorem vt_E_mul {n k : Nat} {j : Nat} (hj : j < vh_n h) : vt_E base ca (vh_mul h n k) j = vt_E base ca h j := by
  have e1 : vh_K (vh_mul h n k) j = vh_K h j := if_pos hj
  have e2 : vh_Z (vh_mul h n k) j = vh_Z h j := if_pos hj
  have e3 : vh_I (vh_mul h n k) j = vh_I h j := funext fun q => if_pos (Or.inl hj)
  have e4 : vh_R (vh_mul h n k) j = vh_R h j := funext fun q => if_pos (Or.inl hj)
  unfold vt_E vt_fs vt_fv
  rw [e1, e2, e3, e4]
theorem sm_multi (C : vt_Ctx m p Rm s mm args meth c) (Wd : vt_Wd base b D ca (vh_X h) (vh_L h) s) {w a b1 c1 e1 : Nat} {v : Int} {pc' : Nat} {ls' st' : List Value} {h' : vt_H} {cells' slots' : Nat} (hc : cells' = cells + (vh_n h' - vh_n h)) (hs : slots' = slots + (vh_u h' - vh_u h)) (hbc : cells' ≤ Rm.cells) (hbs : slots' ≤ Rm.slots) (hn : vn_multi pc ls st h = some (pc', ls', st', h')) (hok : vt_okb m pc (33, w, v, a, b1, c1, e1) = true) (kk : vt_Go p l e Rm s mm args below meth c Qf base b D ca m pc' ls' st' h' cells' slots') : vt_Go p l e Rm s mm args below meth c Qf base b D ca m pc ls st h cells slots := by
  obtain ⟨hx, hb, hml, hr, hown, hts, hlk, hnm, hfr, hlo⟩ := C
  have hd : decode (vt_m m).2.1 pc = .ok (.multianewarray c1 2, 4) ∧ Jvm.Cond.classLink (vt_own m) c1 "[[I" ∈ vt_T := by
    simp only [vt_okb, Bool.and_eq_true] at hok
    exact ⟨vt_dc_of hok.1, vt_wd_of hok.2⟩
  unfold vn_multi at hn
  split at hn
  · rename_i kk0 nn t
    by_cases hk : (¬ kk0 < 0 ∧ kk0.toNatClampNeg ≤ 1000000) ∧ ¬ nn < 0 ∧ nn.toNatClampNeg ≤ 1000000
    · rw [if_pos hk] at hn
      cases hn
      have en : vh_n (vh_mul h nn.toNatClampNeg kk0.toNatClampNeg) = vh_n h + (1 + nn.toNatClampNeg) := rfl
      have eu : vh_u (vh_mul h nn.toNatClampNeg kk0.toNatClampNeg) = vh_u h + (nn.toNatClampNeg + nn.toNatClampNeg * kk0.toNatClampNeg) := rfl
      rw [en, Nat.add_sub_cancel_left] at hc
      rw [eu, Nat.add_sub_cancel_left] at hs
      replace hc := hc.symm; replace hs := hs.symm; subst hc; subst hs
      intro H locs lsA hZ hR hS hL
      refine vt_cap (fun hz => ?_)
      have hsz : H.size = base + vh_n h := vt_size (by omega) (Nat.le_trans Wd.2.2.1 hS.1) hR
      obtain ⟨t3, ht3⟩ := vt_ak_at (ca := ca) (a := 3) (ty := .array .int) rfl
      obtain ⟨t1, ht1⟩ := vt_ak_at (ca := ca) (a := 1) (ty := .int) rfl
      have g3 : s.vm.findClass ("[" ++ (FieldType.array .int).toString) = some (ca 3) := (Wd.1.2 t3 _ ht3).2
      have g1 : s.vm.findClass ("[" ++ FieldType.int.toString) = some (ca 1) := (Wd.1.2 t1 _ ht1).2
      intro T hT X
      obtain ⟨vm₁, cA, comp, -, fA, fC, -, -, X', step⟩ := X.multianewarray2F hx hown (ty := .int) (hts _ hd.2) Wd.2.2.2.2.2.2 (hts _ vt_wArr) (g := F0 mm pc lsA (.int kk0 :: .int nn :: t.map (vt_tr base b))) rfl (by rw [hb]; exact hd.1) rfl hk.2.1 hk.1.1 (by omega) (by show kk0.toNatClampNeg * 4 ≤ _; omega) (by omega) rfl rfl hbc hbs
      have e3 : cA = ca 3 := Option.some.inj (fA.symm.trans g3)
      have e1 : comp = ca 1 := Option.some.inj (Eq.trans (Eq.symm fC) g1)
      subst e3; subst e1
      generalize hF : Jvm.Free.Multi.fill (T.setVm vm₁) (ca 3) (ca 1) nn.toNatClampNeg kk0.toNatClampNeg (defaultValue .int) nn.toNatClampNeg = F at X' step
      have hTh : (T.setVm vm₁).heap = H := hT
      obtain ⟨f1, f2, -, -⟩ := Jvm.Free.Multi.fill_facts (T.setVm vm₁) (ca 3) (ca 1) nn.toNatClampNeg kk0.toNatClampNeg (defaultValue .int) nn.toNatClampNeg
      rw [hF, hTh] at f1 f2
      have hold : ∀ x : Nat, x < H.size → F.heap[x]? = H[x]? := fun x hx => by
        have := Jvm.Free.Multi.fill_old (T.setVm vm₁) (ca 3) (ca 1) nn.toNatClampNeg kk0.toNatClampNeg (defaultValue .int) (a := x) (by rw [hTh]; exact hx) nn.toNatClampNeg
        rw [hF, hTh] at this
        exact this
      have hrow : ∀ j : Nat, j < nn.toNatClampNeg → F.heap[H.size + 1 + j]? = some (Jvm.Free.Multi.innerC (ca 1) kk0.toNatClampNeg (defaultValue .int)) := fun j hj => by
        have := Jvm.Free.Multi.fill_inner (T.setVm vm₁) (ca 3) (ca 1) nn.toNatClampNeg kk0.toNatClampNeg (defaultValue .int) nn.toNatClampNeg j hj
        rw [hF, hTh] at this
        exact this
      rw [vr_outer] at f2
      have hR1 : vt_Rel base D ca (vh_mul h nn.toNatClampNeg kk0.toNatClampNeg) F.heap := by
        refine ⟨fun j hj => ?_, fun j h1 h2 => ?_, fun j q hq => ?_⟩
        · rw [en] at hj
          show (if j < vh_n h then vh_K h j else if j = vh_n h then 3 else if j ≤ vh_n h + nn.toNatClampNeg then 1 else vh_K h j) = 0
          rw [if_neg (by omega), if_neg (by omega), if_neg (by omega)]
          exact hR.1 j (by omega)
        · have hK : vh_K (vh_mul h nn.toNatClampNeg kk0.toNatClampNeg) j = (if j < vh_n h then vh_K h j else if j = vh_n h then 3 else if j ≤ vh_n h + nn.toNatClampNeg then 1 else vh_K h j) := rfl
          rw [hK] at h1 h2 ⊢
          by_cases q1 : j < vh_n h
          · rw [if_pos q1] at h1 h2 ⊢
            exact hR.2.1 j h1 h2
          · rw [if_neg q1] at h1 h2 ⊢
            by_cases q2 : j = vh_n h
            · rw [if_pos q2]; rfl
            · rw [if_neg q2] at h1 h2 ⊢
              by_cases q3 : j ≤ vh_n h + nn.toNatClampNeg
              · rw [if_pos q3]; rfl
              · rw [if_neg q3] at h1 h2 ⊢
                exact hR.2.1 j h1 h2
        · obtain ⟨hj, rfl⟩ := vt_ws_of hq
          rw [en] at hj
          by_cases q1 : j < vh_n h
          · rw [vt_E_mul q1]
            exact (hR.2.2 j _ (vt_ws_at q1)).kept (hold _ (by show base + j < _; omega))
          · by_cases q2 : j = vh_n h
            · subst q2
              have e : vt_E base ca (vh_mul h nn.toNatClampNeg kk0.toNatClampNeg) (vh_n h) = .inl (ca 3, nn.toNatClampNeg, .inr (.inr (.inr (.inr (fun i => if i < nn.toNatClampNeg then some (base + vh_n h + 1 + i) else none))))) := by
                have hK : vh_K (vh_mul h nn.toNatClampNeg kk0.toNatClampNeg) (vh_n h) = 3 := by
                  show (if vh_n h < vh_n h then _ else if vh_n h = vh_n h then 3 else _) = 3
                  rw [if_neg (by omega), if_pos rfl]
                have hZ1 : vh_Z (vh_mul h nn.toNatClampNeg kk0.toNatClampNeg) (vh_n h) = nn.toNatClampNeg := by
                  show (if vh_n h < vh_n h then _ else if vh_n h = vh_n h then nn.toNatClampNeg else _) = _
                  rw [if_neg (by omega), if_pos rfl]
                have hRr : ∀ q, (vh_R (vh_mul h nn.toNatClampNeg kk0.toNatClampNeg) (vh_n h) q).map (base + ·) = if q < nn.toNatClampNeg then some (base + vh_n h + 1 + q) else none := fun q => by
                  show ((if vh_n h < vh_n h ∨ vh_n h < vh_n h then vh_R h (vh_n h) q else if q < nn.toNatClampNeg then some (vh_n h + 1 + q) else none).map (base + ·)) = _
                  rw [if_neg (by omega)]
                  by_cases z : q < nn.toNatClampNeg
                  · rw [if_pos z, if_pos z]; simp only [Option.map_some]; congr 1; omega
                  · rw [if_neg z, if_neg z]; rfl
                unfold vt_E
                rw [hK, if_neg (by omega), if_neg (by omega), hZ1]
                simp only [hRr]
              rw [e]
              show F.heap[base + vh_n h]? = some (vp_cell (ca 3) _)
              rw [vp_cell_q, ← hsz]
              exact f2
            · have e : vt_E base ca (vh_mul h nn.toNatClampNeg kk0.toNatClampNeg) j = .inl (ca 1, kk0.toNatClampNeg, .inl (fun _ => 0)) := by
                have hK : vh_K (vh_mul h nn.toNatClampNeg kk0.toNatClampNeg) j = 1 := by
                  show (if j < vh_n h then _ else if j = vh_n h then 3 else if j ≤ vh_n h + nn.toNatClampNeg then 1 else _) = 1
                  rw [if_neg q1, if_neg q2, if_pos (by omega)]
                have hZ1 : vh_Z (vh_mul h nn.toNatClampNeg kk0.toNatClampNeg) j = kk0.toNatClampNeg := by
                  show (if j < vh_n h then _ else if j = vh_n h then _ else if j ≤ vh_n h + nn.toNatClampNeg then kk0.toNatClampNeg else _) = _
                  rw [if_neg q1, if_neg q2, if_pos (by omega)]
                have hI1 : vh_I (vh_mul h nn.toNatClampNeg kk0.toNatClampNeg) j = fun _ => 0 := funext fun q => by
                  show (if j < vh_n h ∨ vh_n h + nn.toNatClampNeg < j then vh_I h j q else 0) = 0
                  rw [if_neg (by omega)]
                unfold vt_E
                rw [hK, if_neg (by omega), if_pos (Or.inl rfl), hZ1, hI1]
              rw [e]
              show F.heap[base + j]? = some (vp_cell (ca 1) _)
              have := hrow (j - vh_n h - 1) (by omega)
              rw [show H.size + 1 + (j - vh_n h - 1) = base + j by omega] at this
              rw [this, vp_cell_i]
              show some ({ cls := ca 1, slots := Array.replicate kk0.toNatClampNeg (defaultValue .int), vm := .none } : Cell) = _
              rw [arrV_new]
              rfl
      have hS1 : va_S (fun q => base ≤ q) s.heap F.heap locs := ⟨by rw [f1]; have := hS.1; omega, fun x h1 h2 => (hold x (Nat.lt_of_lt_of_le h1 hS.1)).trans (hS.2.1 x h1 h2), hS.2.2⟩
      have k := kk F.heap locs lsA (by rw [en]; omega) hR1 hS1 hL
      rw [show cells + (1 + nn.toNatClampNeg) = cells + 1 + nn.toNatClampNeg by omega, show slots + (nn.toNatClampNeg + nn.toNatClampNeg * kk0.toNatClampNeg) = slots + nn.toNatClampNeg + nn.toNatClampNeg * kk0.toNatClampNeg by omega] at k
      obtain ⟨tt, a1, b2⟩ := k F rfl X'
      refine ⟨tt, step tt ?_, b2⟩
      have e : T.heap.size = base + vh_n h := by rw [hT]; exact hsz
      rw [e]
      exact a1
    · rw [if_neg hk] at hn
      cases hn
  · cases hn
/-- all ways of one instruction that is no call and no return -/
theorem sm_all (C : vt_Ctx m p Rm s mm args meth c) (Wd : vt_Wd base b D ca (vh_X h) (vh_L h) s) {w a b1 c1 e1 : Nat} {v : Int} {pc' : Nat} {ls' st' : List Value} {h' : vt_H} {cells' slots' : Nat} (hc : cells' = cells + (vh_n h' - vh_n h)) (hs : slots' = slots + (vh_u h' - vh_u h)) (hbc : cells' ≤ Rm.cells) (hbs : slots' ≤ Rm.slots) {op : Nat} (hn : vt_nx (op, w, v, a, b1, c1, e1) pc ls st h = some (pc', ls', st', h')) (hok : vt_okb m pc (op, w, v, a, b1, c1, e1) = true) (kk : vt_Go p l e Rm s mm args below meth c Qf base b D ca m pc' ls' st' h' cells' slots') : vt_Go p l e Rm s mm args below meth c Qf base b D ca m pc ls st h cells slots := by
  unfold vt_nx at hn
  dsimp only at hn
  split at hn
  · exact sm_const C Wd hc hs hbc hbs hn hok kk
  · exact sm_iload C Wd hc hs hbc hbs hn hok kk
  · exact sm_aload C Wd hc hs hbc hbs hn hok kk
  · exact sm_istore C Wd hc hs hbc hbs hn hok kk
  · exact sm_astore C Wd hc hs hbc hbs hn hok kk
  · exact sm_iinc C Wd hc hs hbc hbs hn hok kk
  · exact sm_bin C Wd hc hs hbc hbs hn hok kk
  · exact sm_div C Wd hc hs hbc hbs hn hok kk
  · exact sm_rem C Wd hc hs hbc hbs hn hok kk
  · exact sm_neg C Wd hc hs hbc hbs hn hok kk
  · exact sm_dup C Wd hc hs hbc hbs hn hok kk
  · exact sm_pop C Wd hc hs hbc hbs hn hok kk
  · exact sm_dupx1 C Wd hc hs hbc hbs hn hok kk
  · exact sm_dupx2 C Wd hc hs hbc hbs hn hok kk
  · exact sm_dup2 C Wd hc hs hbc hbs hn hok kk
  · exact sm_if C Wd hc hs hbc hbs hn hok kk
  · exact sm_icmp C Wd hc hs hbc hbs hn hok kk
  · exact sm_goto C Wd hc hs hbc hbs hn hok kk
  · exact sm_ifnull C Wd hc hs hbc hbs hn hok kk
  · exact sm_ifnonnull C Wd hc hs hbc hbs hn hok kk
  · exact sm_null C Wd hc hs hbc hbs hn hok kk
  · exact sm_getI C Wd hc hs hbc hbs hn hok kk
  · exact sm_getR C Wd hc hs hbc hbs hn hok kk
  · exact sm_putI C Wd hc hs hbc hbs hn hok kk
  · exact sm_putR C Wd hc hs hbc hbs hn hok kk
  · exact sm_iald C Wd hc hs hbc hbs hn hok kk
  · exact sm_iast C Wd hc hs hbc hbs hn hok kk
  · exact sm_aald C Wd hc hs hbc hbs hn hok kk
  · exact sm_aast C Wd hc hs hbc hbs hn hok kk
  · exact sm_alen C Wd hc hs hbc hbs hn hok kk
  · exact sm_newa C Wd hc hs hbc hbs hn hok kk
  · exact sm_anew C Wd hc hs hbc hbs hn hok kk
  · exact sm_new C Wd hc hs hbc hbs hn hok kk
  · exact sm_multi C Wd hc hs hbc hbs hn hok kk
  · exact sm_copy C Wd hc hs hbc hbs hn hok kk
  · exact sm_oinit C Wd hc hs hbc hbs hn hok kk
  · exact sm_zald C Wd hc hs hbc hbs hn hok kk
  · exact sm_zast C Wd hc hs hbc hbs hn hok kk
  · exact sm_sw C Wd hc hs hbc hbs hn hok kk
  · exact sm_newz C Wd hc hs hbc hbs hn hok kk
  · exact sm_max C Wd hc hs hbc hbs hn hok kk
  · cases hn
end SM
/-- where a method ends with v -/
def vt_ret (m pc : Nat) (v : Option Value) : Prop := vt_okb m pc (vt_i m pc) = true ∧ match v with
  | none => (vt_i m pc).1 = 51
  | some (.int x) => (vt_i m pc).1 = 50 ∧ ((vt_m m).2.2.2 = some .boolean → x = 0 ∨ x = 1)
  | some v => (vt_i m pc).1 = 52 ∧ vt_rv v = true
/-- the machine, from here, comes to the small machine's end -/
def vt_Ex (m pc : Nat) (ls st : List Value) (h : vt_H) (v : Option Value) (h' : vt_H) : Prop :=
  ∀ (p : Program) (l : Launch) (e : Env) (Rm : Room) (s : State) (mm : MethodId) (args : Array Value) (below : List Frame) (meth : Method) (c : Code) (Qf : State → Prop) (base b : Nat) (D : va_G) (ca : Nat → ClassId) (cells slots : Nat),
  vt_Ctx m p Rm s mm args meth c → vt_Wd base b D ca (vh_X h) (vh_L h) s → cells + (vh_n h' - vh_n h) ≤ Rm.cells → slots + (vh_u h' - vh_u h) ≤ Rm.slots →
  (∀ (pc' : Nat) (ls' : List Value), vt_ret m pc' v → vt_Go p l e Rm s mm args below meth c Qf base b D ca m pc' ls' v.toList h' (cells + (vh_n h' - vh_n h)) (slots + (vh_u h' - vh_u h))) → vt_Go p l e Rm s mm args below meth c Qf base b D ca m pc ls st h cells slots
theorem vt_args {base b : Nat} : ∀ (as : List Value) (j i : Nat) (v : Value), (∀ x ∈ as, x.category = 1) → as[i]? = some v → (j + i, vt_tr base b v) ∈ lv_args j (as.map (vt_tr base b)) := by
  intro as
  induction as with
  | nil => intro j i v _ h; simp at h
  | cons x t ih =>
    intro j i v hc h
    have hx : ¬ (vt_tr base b x).category = 2 := by rw [vt_tr_cat, hc x List.mem_cons_self]; decide
    rw [List.map_cons, lv_args, if_neg hx]
    cases i with
    | zero =>
      simp at h
      subst h
      exact List.mem_cons_self
    | succ i =>
      have h : t[i]? = some v := by simpa using h
      have := ih (j + 1) i v (fun y hy => hc y (List.mem_cons_of_mem _ hy)) h
      rw [show j + (i + 1) = j + 1 + i by omega]
      exact List.mem_cons_of_mem _ this
theorem vt_slen {base b : Nat} {as : List Value} (hc : ∀ x ∈ as, x.category = 1) : (lg_sl (as.map (vt_tr base b))).length = as.length := by
  induction as with
  | nil => rfl
  | cons x t ih =>
    have hx : ¬ (vt_tr base b x).category = 2 := by rw [vt_tr_cat, hc x List.mem_cons_self]; decide
    have := ih (fun y hy => hc y (List.mem_cons_of_mem _ hy))
    simp only [lg_sl, List.map_cons, List.flatMap_cons, if_neg hx, List.length_append, List.length_cons, List.length_nil] at this ⊢
    omega
/-- the locals at a method's entry -/
theorem vt_entry {base b m : Nat} {as : List Value} (hc : ∀ x ∈ as, x.category = 1) (hl : as.length ≤ (vt_m m).2.2.1) : vt_L base b m ((lg_sl (as.map (vt_tr base b)) ++ List.replicate ((vt_m m).2.2.1 - (lg_sl (as.map (vt_tr base b))).length) Slot.unset).toArray) (as ++ List.replicate ((vt_m m).2.2.1 - as.length) vt_un) := by
  obtain ⟨h1, h2, h3⟩ := lv_entry (as.map (vt_tr base b)) (n := (vt_m m).2.2.1) (by rw [vt_slen hc]; exact hl)
  refine ⟨h1, h2, by simp; omega, fun x hx => ?_, fun i v hv hu => ?_⟩
  · rcases List.mem_append.mp hx with q | q
    · exact hc x q
    · rw [List.eq_of_mem_replicate q]; rfl
  · rcases Nat.lt_or_ge i as.length with q | q
    · rw [List.getElem?_append_left q] at hv
      have := h3 (0 + i, vt_tr base b v) (vt_args as 0 i v hc hv)
      rw [Nat.zero_add] at this
      exact this
    · rw [List.getElem?_append_right q] at hv
      exact absurd (List.eq_of_mem_replicate (List.mem_of_getElem? hv)) hu
def vt_ws0 (m : Nat) : List Jvm.Cond := .code (vt_m m).1 (vt_m m).2.1 (vt_m m).2.2.1 (vt_m m).2.2.2 :: vt_T
def vt_rm (m : Nat) (h h' : vt_H) : Room := { frames := vt_dp m + 1, cells := vh_n h' - vh_n h, slots := vh_u h' - vh_u h, locals := 40 * (vt_dp m + 1) }
def vt_Pc (base b : Nat) (D : va_G) (ca : Nat → ClassId) (h : vt_H) (as : List Value) : Array Value → State → Prop := fun w U => w = (as.map (vt_tr base b)).toArray ∧ U.heap.size = base + vh_n h ∧ vt_Rel base D ca h U.heap ∧ va_K D vt_cl (vt_tys ca) U ∧ va_X b (vh_L h) (vh_X h) U U.heap ∧ vt_Tx U
def vt_Qc (base b : Nat) (D : va_G) (ca : Nat → ClassId) (v : Option Value) (h' : vt_H) : Array Value → State → Outcome → State → Prop := fun _ st o t => o = .returned (v.map (vt_tr base b)) ∧ vt_Rel base D ca h' t.heap ∧ va_F (fun q => base ≤ q) st t
/-- a method's contract out of the small machine's run -/
theorem vt_met (l : Launch) {m : Nat} {as : List Value} {h h' : vt_H} {v : Option Value} {base b : Nat} {D : va_G} {ca : Nat → ClassId} (hy : plainName (vt_m m).1.cls = true) (hb0 : b < base) (hc : ∀ x ∈ as, x.category = 1) (hl : as.length ≤ (vt_m m).2.2.1) (hE : vt_Ex m 0 (as ++ List.replicate ((vt_m m).2.2.1 - as.length) vt_un) [] h v h') :
    Met l (vt_m m).1 (vt_ws0 m) (vt_rm m h h') (vt_Pc base b D ca h as) (vt_Qc base b D ca v h') (vh_n h' - vh_n h) (vh_u h' - vh_u h) (fun q => base ≤ q) := by
  refine Met.ofW (cc := (vt_m m).2.1) (maxL := (vt_m m).2.2.1) (ret := (vt_m m).2.2.2) hy rfl ?_
  intro p e s mm args below meth c s₁ B hml hv
  obtain ⟨rfl, hz, hR, hK, hX, hTx⟩ := hv
  have hts := atoms_spec (ws := vt_ws0 m) B.pre
  have hown : s.vm.findClass (vt_m m).1.cls = some mm.cls := findClass_of_methodNamed B.named
  have hnm : (vt_m m).1.name = "<init>" → meth.name = "<init>" := fun q => ((name_of_methodNamed B.named B.method).1).trans q
  have hCx : vt_Ctx m p (vt_rm m h h') s mm (as.map (vt_tr base b)).toArray meth c := ⟨B.exec, B.bytes, hml, B.returns, hown, fun w hw => hts w (List.mem_cons_of_mem _ hw), B.notSynchronized, hnm, Nat.le_refl _, Nat.le_refl _⟩
  rw [lg_entry_eq]
  have g := hE p l e (vt_rm m h h') s mm (as.map (vt_tr base b)).toArray below meth c (MQ below (vt_Qc base b D ca v h') (as.map (vt_tr base b)).toArray s (vh_n h' - vh_n h) (vh_u h' - vh_u h) (fun q => base ≤ q)) base b D ca 0 0 hCx ⟨hK, hb0, by omega, hX, hTx⟩ (by rw [Nat.zero_add]; exact Nat.le_refl _) (by rw [Nat.zero_add]; exact Nat.le_refl _) ?_
  · exact g s.heap [] _ (by omega) hR va_S.rf (vt_entry hc hl)
  · intro pc' ls' hret
    rw [Nat.zero_add, Nat.zero_add]
    intro H locs lsA hZ hR1 hS hL
    obtain ⟨hok, hret⟩ := hret
    generalize hi : vt_i m pc' = i at hok hret
    obtain ⟨op, w, v0, a, b1, c1, e1⟩ := i
    have hq : ∀ t : State, t.heap = H → s.WarmedH t.vm → vt_Qc base b D ca v h' (as.map (vt_tr base b)).toArray s (.returned (v.map (vt_tr base b))) t := fun t ht _ => ⟨rfl, by rw [ht]; exact hR1, hS.F ht⟩
    have hr := B.returns
    have hlocks : meth.locks = false := B.notSynchronized
    cases v with
    | none =>
      dsimp only at hret
      subst hret
      simp only [vt_okb] at hok
      simp only [Bool.and_eq_true, decide_eq_true_eq] at hok
      exact W.vret B.exec B.bytes (hr.trans hok.2) hq hS.2.2 (vt_dc_of hok.1)
    | some v1 =>
      cases v1 with
      | int x =>
        dsimp only at hret
        obtain ⟨rfl, hbo⟩ := hret
        simp only [vt_okb] at hok
        simp only [Bool.and_eq_true, Bool.or_eq_true, decide_eq_true_eq] at hok
        obtain ⟨hd, q | q⟩ := hok
        · exact W.iret B.exec B.bytes (hr.trans q) hq hS.2.2 (vt_dc_of hd)
        · exact W.zret B.exec B.bytes (hr.trans q) (by rcases hbo q with rfl | rfl <;> rfl) hq hS.2.2 (vt_dc_of hd)
      | _ =>
        dsimp only at hret
        obtain ⟨rfl, hrv⟩ := hret
        simp only [vt_okb] at hok
        rw [Bool.and_eq_true] at hok
        obtain ⟨hd, hok⟩ := hok
        split at hok
        · rename_i ty hty
          refine W.aret B.exec B.bytes (hr.trans hty) ?_ ?_ hq hS.2.2 (vt_dc_of hd)
          · cases ty <;> simp [vt_isobj] at hok ⊢
          · first | (simp [vt_rv] at hrv; done) | exact Or.inl rfl | exact Or.inr ⟨_, rfl⟩
        · cases hok
theorem vt_good (m : Nat) (hm : Jvm.Cond.code (vt_m m).1 (vt_m m).2.1 (vt_m m).2.2.1 (vt_m m).2.2.2 ∈ vt_T) : GoodIn vt_T (vt_ws0 m) := by
  intro w hw
  rcases List.mem_cons.mp hw with rfl | hw
  · exact ⟨hm, vt_T_good _ hm⟩
  · exact ⟨hw, vt_T_good _ hw⟩
/-- behind a call -/
theorem vt_callR {p : Program} {l : Launch} {e : Env} {Rm : Room} {s : State} {mm : MethodId} {args : Array Value} {below : List Frame} {meth : Method} {c : Code} {Qf : State → Prop} {base pc : Nat} {H : Heap} {locs : List Loc} {cells slots mc ms : Nat} {lsA : Array Slot} {st0 rest : List Value} {Qa : State → Outcome → State → Prop}
    (hr : va_Run p l e Rm s mm args below meth c H locs cells slots mc ms (F0 mm pc lsA st0) rest Qa (fun q => base ≤ q))
    (kk : ∀ (v : Option Value) (st₀ t : State) (L : List Loc), st₀.heap = H → Qa st₀ (.returned v) t → (∀ q ∈ L, base ≤ q.base) → W p l e Rm s mm args below meth c t.heap (locs ++ L) (cells + mc) (slots + ms) Qf (F0 mm (pc + 3) lsA (v.toList ++ rest))) : W p l e Rm s mm args below meth c H locs cells slots Qf (F0 mm pc lsA st0) := by
  intro T hT X
  obtain ⟨v, st₀, t, T', L, h0, X', hL, e1, e2, hq, st⟩ := hr T hT X
  obtain ⟨t2, a1, b1⟩ := kk v st₀ t L h0 hq hL T' e1 X'
  exact ⟨t2, st t2 a1, b1⟩
/-- an instruction makes no cell less, and leaves the script -/
theorem vt_nx_up {i : vt_I} {pc : Nat} {ls st : List Value} {h : vt_H} {pc' : Nat} {ls' st' : List Value} {h' : vt_H} (hn : vt_nx i pc ls st h = some (pc', ls', st', h')) : vh_n h ≤ vh_n h' ∧ vh_u h ≤ vh_u h' ∧ vh_X h' = vh_X h ∧ vh_L h' = vh_L h := by
  obtain ⟨op, w, v, a, b, c, e⟩ := i
  unfold vt_nx at hn
  dsimp only at hn
  split at hn <;> (try unfold vn_iload at hn) <;> (try unfold vn_aload at hn) <;> (try unfold vn_istore at hn) <;> (try unfold vn_astore at hn) <;> (try unfold vn_iinc at hn) <;> (try unfold vn_bin at hn) <;> (try unfold vn_div at hn) <;> (try unfold vn_rem at hn) <;> (try unfold vn_neg at hn) <;> (try unfold vn_dup at hn) <;> (try unfold vn_pop at hn) <;> (try unfold vn_dupx1 at hn) <;> (try unfold vn_dupx2 at hn) <;> (try unfold vn_dup2 at hn) <;> (try unfold vn_if at hn) <;> (try unfold vn_icmp at hn) <;> (try unfold vn_ifnull at hn) <;> (try unfold vn_null at hn) <;> (try unfold vn_getI at hn) <;> (try unfold vn_getR at hn) <;> (try unfold vn_putI at hn) <;> (try unfold vn_putR at hn) <;> (try unfold vn_iald at hn) <;> (try unfold vn_iast at hn) <;> (try unfold vn_aald at hn) <;> (try unfold vn_aast at hn) <;> (try unfold vn_alen at hn) <;> (try unfold vn_newa at hn) <;> (try unfold vn_new at hn) <;> (try unfold vn_copy at hn) <;> (try unfold vn_oinit at hn) <;> (try unfold vn_zald at hn) <;> (try unfold vn_zast at hn) <;> (try unfold vn_sw at hn) <;> (try unfold vn_max at hn) <;> (try unfold vn_multi at hn) <;> (repeat' split at hn) <;> first | (cases hn; done) | (cases hn; exact ⟨Nat.le_refl _, Nat.le_refl _, rfl, rfl⟩) | (cases hn; exact ⟨Nat.le_add_right _ _, Nat.le_add_right _ _, rfl, rfl⟩)
section SC
variable {p : Program} {l : Launch} {e : Env} {Rm : Room} {s : State} {mm : MethodId} {args : Array Value} {below : List Frame} {meth : Method} {c : Code} {Qf : State → Prop} {base b : Nat} {D : va_G} {ca : Nat → ClassId} {m pc : Nat} {ls st : List Value} {h : vt_H} {cells slots : Nat}
theorem sm_call {w : Nat} {v : Int} {a b1 c1 e1 : Nat} {r1 : Option Value} {h1 : vt_H} (C : vt_Ctx m p Rm s mm args meth c) (Wd : vt_Wd base b D ca (vh_X h) (vh_L h) s) (hok : vt_okb m pc (40, w, v, a, b1, c1, e1) = true) (hb1 : b1 ≤ st.length) (hrest : (st.drop b1).length ≤ 8) (hcr : ∀ x ∈ st.drop b1, x.category = 1) (hca : ∀ x ∈ st.take b1, x.category = 1) (hrc : vt_rcv v b1 st h)
    (hE : vt_Ex a 0 ((st.take b1).reverse ++ List.replicate ((vt_m a).2.2.1 - b1) vt_un) [] h r1 h1) (hn1 : vh_n h ≤ vh_n h1) (hbc : cells + (vh_n h1 - vh_n h) ≤ Rm.cells) (hbs : slots + (vh_u h1 - vh_u h) ≤ Rm.slots)
    (kk : vt_Go p l e Rm s mm args below meth c Qf base b D ca m (pc + 3) ls (r1.toList ++ st.drop b1) h1 (cells + (vh_n h1 - vh_n h)) (slots + (vh_u h1 - vh_u h))) : vt_Go p l e Rm s mm args below meth c Qf base b D ca m pc ls st h cells slots := by
  obtain ⟨hx, hb, hml, hr, hown, hts, hlk, hnm, hfr, hlo⟩ := C
  intro H locs lsA hZ hR hS hL
  refine vt_cap (fun hz => ?_)
  have hsz : H.size = base + vh_n h := vt_size (by omega) (Nat.le_trans Wd.2.2.1 hS.1) hR
  simp only [vt_okb] at hok
  unfold vt_okC at hok
  simp only [Bool.and_eq_true, decide_eq_true_eq] at hok
  obtain ⟨⟨hdp, ha0, ha1, ha41, ho1⟩, hlw, hok⟩ := hok
  obtain ⟨hmk, g1⟩ := vt_mok a ha0 ha1 ha41
  unfold vt_okM at hmk
  revert hmk hok
  generalize hmx : vt_mx a = mx
  obtain ⟨mk, np, p1, p2, p3, p4⟩ := mx
  intro hok hmk
  dsimp only at hmk hok
  simp only [Bool.and_eq_true, decide_eq_true_eq] at hmk
  obtain ⟨hw2, ⟨g3, hpl, ho2⟩, hmk⟩ := hmk
  have g2 := vt_wd_of hw2
  have hlen : (st.take b1).reverse.length = b1 := by rw [List.length_reverse, List.length_take]; omega
  have hE : vt_Ex a 0 ((st.take b1).reverse ++ List.replicate ((vt_m a).2.2.1 - (st.take b1).reverse.length) vt_un) [] h r1 h1 := by rw [hlen]; exact hE
  have hM := vt_met l (base := base) (b := b) (D := D) (ca := ca) hpl Wd.2.1 (fun x hx => hca x (List.mem_reverse.mp hx)) (by rw [hlen]; exact ho1) hE
  have hFB : FrameBlind (vt_Pc base b D ca h (st.take b1).reverse) := fun A U g mk q => by
    obtain ⟨q0, q1, q2, q3, q4, q5⟩ := q
    exact ⟨q0, q1, q2, va_K.moved (u := U) (U := U.calling g mk A) (Vm.Alike.refl U.vm) q3, va_X.moved (u := U) (U := U.calling g mk A) (Vm.Alike.refl U.vm) q4, vt_Tx.same rfl q5⟩
  have hbk : H[b]? = s.heap[b]? := hS.2.1 b (Nat.lt_of_lt_of_le Wd.2.1 Wd.2.2.1) (Nat.not_le.mpr Wd.2.1)
  have hPU : ∀ U : State, U.heap = H → s.WarmedH U.vm → vt_Pc base b D ca h (st.take b1).reverse ((st.take b1).reverse.map (vt_tr base b)).toArray U := fun U hU hW => ⟨rfl, by rw [hU]; exact hsz, by rw [hU]; exact hR, va_K.moved hW.alike Wd.1, va_X.moved hW.alike (va_X.kept Wd.2.2.2.1 (by rw [hU]; exact hbk)), vt_Tx.moved hW Wd.2.2.2.2⟩
  have hrt : (((st.drop b1).map (vt_tr base b)).map fun v => v.category).sum ≤ 8 := by rw [vt_sum hcr]; exact hrest
  have hroom : (vt_rm a h h1).frames + 1 ≤ Rm.frames ∧ 8 + ((vt_m a).2.2.1 + 11) + (vt_rm a h h1).locals ≤ Rm.locals := by
    refine ⟨by show vt_dp a + 1 + 1 ≤ Rm.frames; omega, ?_⟩
    show 8 + ((vt_m a).2.2.1 + 11) + 40 * (vt_dp a + 1) ≤ Rm.locals
    omega
  have fin : ∀ {A : Array Value}, va_Run p l e Rm s mm args below meth c H locs cells slots (vh_n h1 - vh_n h) (vh_u h1 - vh_u h) (F0 mm pc lsA (st.map (vt_tr base b))) ((st.drop b1).map (vt_tr base b)) (vt_Qc base b D ca r1 h1 A) (fun q => base ≤ q) → W p l e Rm s mm args below meth c H locs cells slots Qf (F0 mm pc lsA (st.map (vt_tr base b))) := by
    intro A hrun
    refine vt_callR hrun (fun v st₀ t L h0 hq hL2 => ?_)
    obtain ⟨hv, hR1, hF1⟩ := hq
    have hv : v = r1.map (vt_tr base b) := Outcome.returned.inj hv
    subst hv
    have hS1 : va_S (fun q => base ≤ q) s.heap t.heap (locs ++ L) := by
      refine ⟨Nat.le_trans hS.1 (by rw [← h0]; exact hF1.1), fun q g1 g2 => ?_, fun q hq => ?_⟩
      · rw [hF1.2 q (by rw [h0]; exact Nat.lt_of_lt_of_le g1 hS.1) g2, h0]
        exact hS.2.1 q g1 g2
      · rcases List.mem_append.mp hq with g | g
        · exact hS.2.2 q g
        · exact hL2 q g
    have k := kk t.heap (locs ++ L) lsA (by omega) hR1 hS1 hL
    rw [List.map_append] at k
    cases r1 <;> exact k
  have hspl : st.map (vt_tr base b) = ((st.take b1).reverse.map (vt_tr base b)).reverse ++ (st.drop b1).map (vt_tr base b) := by
    rw [List.map_reverse, List.reverse_reverse, ← List.map_append, List.take_append_drop]
  have hspv : 0 < b1 → 100 ≤ v → ∃ r, vh_K h r = v.toNat ∧ (st.take b1).reverse.map (vt_tr base b) = .ref (base + r) :: (st.take (b1 - 1)).reverse.map (vt_tr base b) ∧ st.map (vt_tr base b) = ((st.take (b1 - 1)).reverse.map (vt_tr base b)).reverse ++ .ref (base + r) :: (st.drop b1).map (vt_tr base b) := by
    intro g1 g2
    unfold vt_rcv at hrc
    rw [if_neg (by omega)] at hrc
    obtain ⟨r, hr1, hr2⟩ := hrc
    have e1 : st.take b1 = st.take (b1 - 1) ++ [.ref r] := by
      have : b1 = b1 - 1 + 1 := by omega
      rw [this, List.take_add_one, Nat.add_sub_cancel, hr1]
      rfl
    refine ⟨r, by omega, ?_, ?_⟩
    · rw [e1, List.reverse_append, List.map_append]
      rfl
    · rw [List.map_reverse, List.reverse_reverse]
      conv => lhs; rw [← List.take_append_drop b1 st, e1]
      simp [vt_tr]
  split at hok <;> simp only [Bool.and_eq_true, decide_eq_true_eq] at hok
  · obtain ⟨hd, hv0, hbn⟩ := hok
    subst hbn
    split at hlw
    · exact fin (va_runS ⟨hx, hb, hml, hown, hts⟩ hM ⟨callB_of b1 hts (vt_good a g1) rfl rfl rfl (hts _ g2) (hts _ (vt_wd_of hlw)) g3 hroom, hts _ (vt_wd_of hmk)⟩ ⟨hFB, hPU⟩ rfl (by rw [List.length_map]; exact hlen) hL.1 hspl (lv_room hrt) (vt_dc_of hd) ⟨hbc, hbs⟩)
    · exact fin (va_runSN ⟨hx, hb, hml, hown, hts⟩ hM ⟨va_cnB b1 hts (vt_good a g1) rfl rfl rfl (Wd.2.2.2.2.1 _ (List.mem_of_getElem? (of_decide_eq_true hlw))) (hts _ g2) g3 hroom, hts _ (vt_wd_of hmk), trivial⟩ ⟨hFB, hPU⟩ rfl (by rw [List.length_map]; exact hlen) hL.1 hspl (lv_room hrt) (vt_dc_of hd) ⟨hbc, hbs⟩)
  · obtain ⟨hd, hv1, hbn⟩ := hok
    unfold vt_okV at hv1
    rw [Bool.and_eq_true, decide_eq_true_eq] at hv1
    obtain ⟨hv1, hv2⟩ := hv1
    simp only [Bool.and_eq_true] at hmk
    obtain ⟨r, hr1, hr2, hr3⟩ := hspv (by omega) hv1
    split at hv2
    · rename_i C T N hcl
      have hCe := of_decide_eq_true hv2
      rw [hr2] at hPU
      have hob := vt_obj (r := r) (a := (v - 100).toNat) hR (by omega)
      have hrv : ∃ cellB : Cell, H[base + r]? = some cellB ∧ cellB.vm.isStatics = false ∧ s.vm.findClass (vt_m a).1.cls = some cellB.cls := by
        rw [← hCe]
        exact va_recv (q := (C, T, N)) Wd.1 hR.2.2 hcl hob.2
      have hnl : ((st.take (b1 - 1)).reverse.map (vt_tr base b)).length = np := by rw [List.length_map, List.length_reverse, List.length_take]; omega
      split at hlw
      · exact fin (va_runV (C := (vt_m a).1.cls) (b := base + r) (As := (st.take (b1 - 1)).reverse.map (vt_tr base b)) ⟨hx, hb, hml, hown, hts⟩ hM ⟨callB_of np hts (vt_good a g1) rfl rfl rfl (hts _ g2) (hts _ (vt_wd_of hlw)) g3 hroom, hts _ (vt_wd_of hmk.1), hts _ (vt_wd_of hmk.2)⟩ ⟨hFB, hrv, hPU⟩ rfl hnl hL.1 hr3 (lv_room hrt) (vt_dc_of hd) ⟨hbc, hbs⟩)
      · exact fin (va_runVN (C := (vt_m a).1.cls) (b := base + r) (As := (st.take (b1 - 1)).reverse.map (vt_tr base b)) ⟨hx, hb, hml, hown, hts⟩ hM ⟨va_cnB np hts (vt_good a g1) rfl rfl rfl (Wd.2.2.2.2.1 _ (List.mem_of_getElem? (of_decide_eq_true hlw))) (hts _ g2) g3 hroom, hts _ (vt_wd_of hmk.1), hts _ (vt_wd_of hmk.2)⟩ ⟨hFB, hrv, hPU⟩ rfl hnl hL.1 hr3 (lv_room hrt) (vt_dc_of hd) ⟨hbc, hbs⟩)
    · cases hv2
  · obtain ⟨hd, hv1, hbn⟩ := hok
    split at hmk
    · exact absurd rfl (by assumption)
    · exact absurd rfl (by assumption)
    · simp only [Bool.and_eq_true, decide_eq_true_eq] at hmk
      obtain ⟨g4, g6, g7⟩ := hmk
      obtain ⟨r, hr1, hr2, hr3⟩ := hspv (by omega) hv1
      rw [hr2] at hPU
      have hw0 : vt_ws0 a = Jvm.Cond.code (vt_m a).1 (vt_m a).2.1 (vt_m a).2.2.1 none :: vt_T := by unfold vt_ws0; rw [g7]
      have hnl : ((st.take (b1 - 1)).reverse.map (vt_tr base b)).length = np := by rw [List.length_map, List.length_reverse, List.length_take]; omega
      split at hlw
      · exact fin (va_runI (b := base + r) (As := (st.take (b1 - 1)).reverse.map (vt_tr base b)) ⟨hx, hb, hml, hown, hts⟩ hM ⟨callB_of np hts (vt_good a g1) hw0 rfl rfl (hts _ g2) (hts _ (vt_wd_of hlw)) g3 hroom, g6, hts _ (vt_wd_of g4)⟩ ⟨hFB, hPU⟩ rfl hnl hL.1 hr3 (lv_room hrt) (vt_dc_of hd) ⟨hbc, hbs⟩)
      · exact fin (va_runIN (b := base + r) (As := (st.take (b1 - 1)).reverse.map (vt_tr base b)) ⟨hx, hb, hml, hown, hts⟩ hM ⟨va_cnB np hts (vt_good a g1) hw0 rfl rfl (Wd.2.2.2.2.1 _ (List.mem_of_getElem? (of_decide_eq_true hlw))) (hts _ g2) g3 hroom, g6, hts _ (vt_wd_of g4)⟩ ⟨hFB, hPU⟩ rfl hnl hL.1 hr3 (lv_room hrt) (vt_dc_of hd) ⟨hbc, hbs⟩)
    · cases hmk
end SC
end
section
theorem vo_0_0 : (vl_0_0).all (fun q => vt_okb 0 q.1 q.2) = true := by decide +kernel
theorem vo_0_1 : (vl_0_1).all (fun q => vt_okb 0 q.1 q.2) = true := by decide +kernel
theorem vo_0_2 : (vl_0_2).all (fun q => vt_okb 0 q.1 q.2) = true := by decide +kernel
theorem vo_0_3 : (vl_0_3).all (fun q => vt_okb 0 q.1 q.2) = true := by decide +kernel
theorem vo_0_4 : (vl_0_4).all (fun q => vt_okb 0 q.1 q.2) = true := by decide +kernel
theorem vo_0_5 : (vl_0_5).all (fun q => vt_okb 0 q.1 q.2) = true := by decide +kernel
theorem vo_0_6 : (vl_0_6).all (fun q => vt_okb 0 q.1 q.2) = true := by decide +kernel
theorem vo_0_7 : (vl_0_7).all (fun q => vt_okb 0 q.1 q.2) = true := by decide +kernel
theorem vo_1_0 : (vl_1_0).all (fun q => vt_okb 1 q.1 q.2) = true := by decide +kernel
theorem vo_2_0 : (vl_2_0).all (fun q => vt_okb 2 q.1 q.2) = true := by decide +kernel
theorem vo_3_0 : (vl_3_0).all (fun q => vt_okb 3 q.1 q.2) = true := by decide +kernel
theorem vo_4_0 : (vl_4_0).all (fun q => vt_okb 4 q.1 q.2) = true := by decide +kernel
theorem vo_5_0 : (vl_5_0).all (fun q => vt_okb 5 q.1 q.2) = true := by decide +kernel
theorem vo_6_0 : (vl_6_0).all (fun q => vt_okb 6 q.1 q.2) = true := by decide +kernel
theorem vo_7_0 : (vl_7_0).all (fun q => vt_okb 7 q.1 q.2) = true := by decide +kernel
theorem vo_8_0 : (vl_8_0).all (fun q => vt_okb 8 q.1 q.2) = true := by decide +kernel
theorem vo_9_0 : (vl_9_0).all (fun q => vt_okb 9 q.1 q.2) = true := by decide +kernel
theorem vo_10_0 : (vl_10_0).all (fun q => vt_okb 10 q.1 q.2) = true := by decide +kernel
theorem vo_11_0 : (vl_11_0).all (fun q => vt_okb 11 q.1 q.2) = true := by decide +kernel
theorem vo_12_0 : (vl_12_0).all (fun q => vt_okb 12 q.1 q.2) = true := by decide +kernel
theorem vo_13_0 : (vl_13_0).all (fun q => vt_okb 13 q.1 q.2) = true := by decide +kernel
theorem vo_14_0 : (vl_14_0).all (fun q => vt_okb 14 q.1 q.2) = true := by decide +kernel
theorem vo_15_0 : (vl_15_0).all (fun q => vt_okb 15 q.1 q.2) = true := by decide +kernel
theorem vo_16_0 : (vl_16_0).all (fun q => vt_okb 16 q.1 q.2) = true := by decide +kernel
theorem vo_17_0 : (vl_17_0).all (fun q => vt_okb 17 q.1 q.2) = true := by decide +kernel
theorem vo_18_0 : (vl_18_0).all (fun q => vt_okb 18 q.1 q.2) = true := by decide +kernel
theorem vo_19_0 : (vl_19_0).all (fun q => vt_okb 19 q.1 q.2) = true := by decide +kernel
theorem vo_20_0 : (vl_20_0).all (fun q => vt_okb 20 q.1 q.2) = true := by decide +kernel
theorem vo_21_0 : (vl_21_0).all (fun q => vt_okb 21 q.1 q.2) = true := by decide +kernel
theorem vo_22_0 : (vl_22_0).all (fun q => vt_okb 22 q.1 q.2) = true := by decide +kernel
theorem vo_23_0 : (vl_23_0).all (fun q => vt_okb 23 q.1 q.2) = true := by decide +kernel
theorem vo_24_0 : (vl_24_0).all (fun q => vt_okb 24 q.1 q.2) = true := by decide +kernel
theorem vo_25_0 : (vl_25_0).all (fun q => vt_okb 25 q.1 q.2) = true := by decide +kernel
theorem vo_26_0 : (vl_26_0).all (fun q => vt_okb 26 q.1 q.2) = true := by decide +kernel
theorem vo_27_0 : (vl_27_0).all (fun q => vt_okb 27 q.1 q.2) = true := by decide +kernel
theorem vo_28_0 : (vl_28_0).all (fun q => vt_okb 28 q.1 q.2) = true := by decide +kernel
theorem vo_29_0 : (vl_29_0).all (fun q => vt_okb 29 q.1 q.2) = true := by decide +kernel
theorem vo_30_0 : (vl_30_0).all (fun q => vt_okb 30 q.1 q.2) = true := by decide +kernel
theorem vo_31_0 : (vl_31_0).all (fun q => vt_okb 31 q.1 q.2) = true := by decide +kernel
theorem vo_31_1 : (vl_31_1).all (fun q => vt_okb 31 q.1 q.2) = true := by decide +kernel
theorem vo_32_0 : (vl_32_0).all (fun q => vt_okb 32 q.1 q.2) = true := by decide +kernel
theorem vo_33_0 : (vl_33_0).all (fun q => vt_okb 33 q.1 q.2) = true := by decide +kernel
theorem vo_34_0 : (vl_34_0).all (fun q => vt_okb 34 q.1 q.2) = true := by decide +kernel
theorem vo_35_0 : (vl_35_0).all (fun q => vt_okb 35 q.1 q.2) = true := by decide +kernel
theorem vo_36_0 : (vl_36_0).all (fun q => vt_okb 36 q.1 q.2) = true := by decide +kernel
theorem vo_36_1 : (vl_36_1).all (fun q => vt_okb 36 q.1 q.2) = true := by decide +kernel
theorem vo_37_0 : (vl_37_0).all (fun q => vt_okb 37 q.1 q.2) = true := by decide +kernel
theorem vo_38_0 : (vl_38_0).all (fun q => vt_okb 38 q.1 q.2) = true := by decide +kernel
theorem vo_39_0 : (vl_39_0).all (fun q => vt_okb 39 q.1 q.2) = true := by decide +kernel
theorem vo_40_0 : (vl_40_0).all (fun q => vt_okb 40 q.1 q.2) = true := by decide +kernel
theorem vo_41_0 : (vl_41_0).all (fun q => vt_okb 41 q.1 q.2) = true := by decide +kernel
theorem vo_42_0 : (vl_42_0).all (fun q => vt_okb 42 q.1 q.2) = true := by decide +kernel
theorem vo_43_0 : (vl_43_0).all (fun q => vt_okb 43 q.1 q.2) = true := by decide +kernel
theorem vo_43_1 : (vl_43_1).all (fun q => vt_okb 43 q.1 q.2) = true := by decide +kernel
theorem vo_44_0 : (vl_44_0).all (fun q => vt_okb 44 q.1 q.2) = true := by decide +kernel
theorem vo_45_0 : (vl_45_0).all (fun q => vt_okb 45 q.1 q.2) = true := by decide +kernel
theorem vo_45_1 : (vl_45_1).all (fun q => vt_okb 45 q.1 q.2) = true := by decide +kernel
theorem vo_45_2 : (vl_45_2).all (fun q => vt_okb 45 q.1 q.2) = true := by decide +kernel
theorem vo_46_0 : (vl_46_0).all (fun q => vt_okb 46 q.1 q.2) = true := by decide +kernel
theorem vo_47_0 : (vl_47_0).all (fun q => vt_okb 47 q.1 q.2) = true := by decide +kernel
theorem vo_47_1 : (vl_47_1).all (fun q => vt_okb 47 q.1 q.2) = true := by decide +kernel
theorem vo_48_0 : (vl_48_0).all (fun q => vt_okb 48 q.1 q.2) = true := by decide +kernel
theorem vo_48_1 : (vl_48_1).all (fun q => vt_okb 48 q.1 q.2) = true := by decide +kernel
theorem vo_49_0 : (vl_49_0).all (fun q => vt_okb 49 q.1 q.2) = true := by decide +kernel
theorem vo_50_0 : (vl_50_0).all (fun q => vt_okb 50 q.1 q.2) = true := by decide +kernel
theorem vo_51_0 : (vl_51_0).all (fun q => vt_okb 51 q.1 q.2) = true := by decide +kernel
theorem vo_51_1 : (vl_51_1).all (fun q => vt_okb 51 q.1 q.2) = true := by decide +kernel
theorem vo_52_0 : (vl_52_0).all (fun q => vt_okb 52 q.1 q.2) = true := by decide +kernel
theorem vo_53_0 : (vl_53_0).all (fun q => vt_okb 53 q.1 q.2) = true := by decide +kernel
theorem vo_53_1 : (vl_53_1).all (fun q => vt_okb 53 q.1 q.2) = true := by decide +kernel
theorem vo_54_0 : (vl_54_0).all (fun q => vt_okb 54 q.1 q.2) = true := by decide +kernel
theorem vo_54_1 : (vl_54_1).all (fun q => vt_okb 54 q.1 q.2) = true := by decide +kernel
theorem vo_55_0 : (vl_55_0).all (fun q => vt_okb 55 q.1 q.2) = true := by decide +kernel
theorem vo_56_0 : (vl_56_0).all (fun q => vt_okb 56 q.1 q.2) = true := by decide +kernel
theorem vo_56_1 : (vl_56_1).all (fun q => vt_okb 56 q.1 q.2) = true := by decide +kernel
theorem vo_57_0 : (vl_57_0).all (fun q => vt_okb 57 q.1 q.2) = true := by decide +kernel
theorem vo_58_0 : (vl_58_0).all (fun q => vt_okb 58 q.1 q.2) = true := by decide +kernel
theorem vo_59_0 : (vl_59_0).all (fun q => vt_okb 59 q.1 q.2) = true := by decide +kernel
theorem vo_60_0 : (vl_60_0).all (fun q => vt_okb 60 q.1 q.2) = true := by decide +kernel
theorem vo_60_1 : (vl_60_1).all (fun q => vt_okb 60 q.1 q.2) = true := by decide +kernel
theorem vo_60_2 : (vl_60_2).all (fun q => vt_okb 60 q.1 q.2) = true := by decide +kernel
theorem vo_61_0 : (vl_61_0).all (fun q => vt_okb 61 q.1 q.2) = true := by decide +kernel
theorem vo_62_0 : (vl_62_0).all (fun q => vt_okb 62 q.1 q.2) = true := by decide +kernel
theorem vo_63_0 : (vl_63_0).all (fun q => vt_okb 63 q.1 q.2) = true := by decide +kernel
theorem vo_63_1 : (vl_63_1).all (fun q => vt_okb 63 q.1 q.2) = true := by decide +kernel
theorem vo_64_0 : (vl_64_0).all (fun q => vt_okb 64 q.1 q.2) = true := by decide +kernel
theorem vo_65_0 : (vl_65_0).all (fun q => vt_okb 65 q.1 q.2) = true := by decide +kernel
theorem vo_65_1 : (vl_65_1).all (fun q => vt_okb 65 q.1 q.2) = true := by decide +kernel
theorem vo_66_0 : (vl_66_0).all (fun q => vt_okb 66 q.1 q.2) = true := by decide +kernel
theorem vo_67_0 : (vl_67_0).all (fun q => vt_okb 67 q.1 q.2) = true := by decide +kernel
theorem vo_68_0 : (vl_68_0).all (fun q => vt_okb 68 q.1 q.2) = true := by decide +kernel
theorem vo_69_0 : (vl_69_0).all (fun q => vt_okb 69 q.1 q.2) = true := by decide +kernel
theorem vo_70_0 : (vl_70_0).all (fun q => vt_okb 70 q.1 q.2) = true := by decide +kernel
theorem vo_70_1 : (vl_70_1).all (fun q => vt_okb 70 q.1 q.2) = true := by decide +kernel
theorem vo_71_0 : (vl_71_0).all (fun q => vt_okb 71 q.1 q.2) = true := by decide +kernel
theorem vo_72_0 : (vl_72_0).all (fun q => vt_okb 72 q.1 q.2) = true := by decide +kernel
theorem vo_73_0 : (vl_73_0).all (fun q => vt_okb 73 q.1 q.2) = true := by decide +kernel
theorem vo_74_0 : (vl_74_0).all (fun q => vt_okb 74 q.1 q.2) = true := by decide +kernel
theorem vo_75_0 : (vl_75_0).all (fun q => vt_okb 75 q.1 q.2) = true := by decide +kernel
theorem vo_76_0 : (vl_76_0).all (fun q => vt_okb 76 q.1 q.2) = true := by decide +kernel
theorem vo_77_0 : (vl_77_0).all (fun q => vt_okb 77 q.1 q.2) = true := by decide +kernel
theorem vo_78_0 : (vl_78_0).all (fun q => vt_okb 78 q.1 q.2) = true := by decide +kernel
theorem vo_79_0 : (vl_79_0).all (fun q => vt_okb 79 q.1 q.2) = true := by decide +kernel
theorem vo_80_0 : (vl_80_0).all (fun q => vt_okb 80 q.1 q.2) = true := by decide +kernel
theorem vo_81_0 : (vl_81_0).all (fun q => vt_okb 81 q.1 q.2) = true := by decide +kernel
theorem vo_81_1 : (vl_81_1).all (fun q => vt_okb 81 q.1 q.2) = true := by decide +kernel
theorem vo_82_0 : (vl_82_0).all (fun q => vt_okb 82 q.1 q.2) = true := by decide +kernel
theorem vo_83_0 : (vl_83_0).all (fun q => vt_okb 83 q.1 q.2) = true := by decide +kernel
theorem vo_84_0 : (vl_84_0).all (fun q => vt_okb 84 q.1 q.2) = true := by decide +kernel
theorem vo_85_0 : (vl_85_0).all (fun q => vt_okb 85 q.1 q.2) = true := by decide +kernel
theorem vo_86_0 : (vl_86_0).all (fun q => vt_okb 86 q.1 q.2) = true := by decide +kernel
theorem vo_87_0 : (vl_87_0).all (fun q => vt_okb 87 q.1 q.2) = true := by decide +kernel
theorem vo_88_0 : (vl_88_0).all (fun q => vt_okb 88 q.1 q.2) = true := by decide +kernel
theorem vo_88_1 : (vl_88_1).all (fun q => vt_okb 88 q.1 q.2) = true := by decide +kernel
theorem vo_89_0 : (vl_89_0).all (fun q => vt_okb 89 q.1 q.2) = true := by decide +kernel
theorem vo_90_0 : (vl_90_0).all (fun q => vt_okb 90 q.1 q.2) = true := by decide +kernel
theorem vo_91_0 : (vl_91_0).all (fun q => vt_okb 91 q.1 q.2) = true := by decide +kernel
theorem vo_92_0 : (vl_92_0).all (fun q => vt_okb 92 q.1 q.2) = true := by decide +kernel
theorem vo_92_1 : (vl_92_1).all (fun q => vt_okb 92 q.1 q.2) = true := by decide +kernel
theorem vo_93_0 : (vl_93_0).all (fun q => vt_okb 93 q.1 q.2) = true := by decide +kernel
theorem vo_94_0 : (vl_94_0).all (fun q => vt_okb 94 q.1 q.2) = true := by decide +kernel
theorem vo_95_0 : (vl_95_0).all (fun q => vt_okb 95 q.1 q.2) = true := by decide +kernel
theorem vo_95_1 : (vl_95_1).all (fun q => vt_okb 95 q.1 q.2) = true := by decide +kernel
theorem vo_96_0 : (vl_96_0).all (fun q => vt_okb 96 q.1 q.2) = true := by decide +kernel
theorem vo_97_0 : (vl_97_0).all (fun q => vt_okb 97 q.1 q.2) = true := by decide +kernel
theorem vo_97_1 : (vl_97_1).all (fun q => vt_okb 97 q.1 q.2) = true := by decide +kernel
theorem vo_98_0 : (vl_98_0).all (fun q => vt_okb 98 q.1 q.2) = true := by decide +kernel
theorem vo_99_0 : (vl_99_0).all (fun q => vt_okb 99 q.1 q.2) = true := by decide +kernel
theorem vo_100_0 : (vl_100_0).all (fun q => vt_okb 100 q.1 q.2) = true := by decide +kernel
theorem vo_100_1 : (vl_100_1).all (fun q => vt_okb 100 q.1 q.2) = true := by decide +kernel
theorem vo_100_2 : (vl_100_2).all (fun q => vt_okb 100 q.1 q.2) = true := by decide +kernel
theorem vo_101_0 : (vl_101_0).all (fun q => vt_okb 101 q.1 q.2) = true := by decide +kernel
theorem vo_101_1 : (vl_101_1).all (fun q => vt_okb 101 q.1 q.2) = true := by decide +kernel
theorem vo_101_2 : (vl_101_2).all (fun q => vt_okb 101 q.1 q.2) = true := by decide +kernel
theorem vo_101_3 : (vl_101_3).all (fun q => vt_okb 101 q.1 q.2) = true := by decide +kernel
theorem vo_102_0 : (vl_102_0).all (fun q => vt_okb 102 q.1 q.2) = true := by decide +kernel
theorem vo_102_1 : (vl_102_1).all (fun q => vt_okb 102 q.1 q.2) = true := by decide +kernel
theorem vo_103_0 : (vl_103_0).all (fun q => vt_okb 103 q.1 q.2) = true := by decide +kernel
theorem vo_103_1 : (vl_103_1).all (fun q => vt_okb 103 q.1 q.2) = true := by decide +kernel
theorem vo_103_2 : (vl_103_2).all (fun q => vt_okb 103 q.1 q.2) = true := by decide +kernel
theorem vo_103_3 : (vl_103_3).all (fun q => vt_okb 103 q.1 q.2) = true := by decide +kernel
theorem vo_104_0 : (vl_104_0).all (fun q => vt_okb 104 q.1 q.2) = true := by decide +kernel
theorem vo_104_1 : (vl_104_1).all (fun q => vt_okb 104 q.1 q.2) = true := by decide +kernel
theorem vo_105_0 : (vl_105_0).all (fun q => vt_okb 105 q.1 q.2) = true := by decide +kernel
theorem vo_105_1 : (vl_105_1).all (fun q => vt_okb 105 q.1 q.2) = true := by decide +kernel
theorem vo_105_2 : (vl_105_2).all (fun q => vt_okb 105 q.1 q.2) = true := by decide +kernel
theorem vo_106_0 : (vl_106_0).all (fun q => vt_okb 106 q.1 q.2) = true := by decide +kernel
theorem vo_106_1 : (vl_106_1).all (fun q => vt_okb 106 q.1 q.2) = true := by decide +kernel
theorem vo_107_0 : (vl_107_0).all (fun q => vt_okb 107 q.1 q.2) = true := by decide +kernel
theorem vo_107_1 : (vl_107_1).all (fun q => vt_okb 107 q.1 q.2) = true := by decide +kernel
theorem vo_108_0 : (vl_108_0).all (fun q => vt_okb 108 q.1 q.2) = true := by decide +kernel
theorem vo_109_0 : (vl_109_0).all (fun q => vt_okb 109 q.1 q.2) = true := by decide +kernel
theorem vo_110_0 : (vl_110_0).all (fun q => vt_okb 110 q.1 q.2) = true := by decide +kernel
theorem vo_111_0 : (vl_111_0).all (fun q => vt_okb 111 q.1 q.2) = true := by decide +kernel
theorem vo_112_0 : (vl_112_0).all (fun q => vt_okb 112 q.1 q.2) = true := by decide +kernel
theorem vo_113_0 : (vl_113_0).all (fun q => vt_okb 113 q.1 q.2) = true := by decide +kernel
theorem vo_114_0 : (vl_114_0).all (fun q => vt_okb 114 q.1 q.2) = true := by decide +kernel
theorem vo_115_0 : (vl_115_0).all (fun q => vt_okb 115 q.1 q.2) = true := by decide +kernel
theorem vo_116_0 : (vl_116_0).all (fun q => vt_okb 116 q.1 q.2) = true := by decide +kernel
theorem vt_ok_of {m pc : Nat} (h : (vt_code m).all (fun q => vt_okb m q.1 q.2) = true) : vt_okb m pc (vt_i m pc) = true ∨ (vt_i m pc).1 = 999 := by
  unfold vt_i
  cases hl : (vt_code m).lookup pc with
  | none => exact Or.inr rfl
  | some i => exact Or.inl (List.all_eq_true.mp h (pc, i) (vt_lkm hl))
theorem vt_ok (m pc : Nat) : vt_okb m pc (vt_i m pc) = true ∨ (vt_i m pc).1 = 999 := by
  match m with
  | 0 => exact vt_ok_of (m := 0) (List.all_append.trans (Bool.and_eq_true_iff.mpr ⟨vo_0_0, (List.all_append.trans (Bool.and_eq_true_iff.mpr ⟨vo_0_1, (List.all_append.trans (Bool.and_eq_true_iff.mpr ⟨vo_0_2, (List.all_append.trans (Bool.and_eq_true_iff.mpr ⟨vo_0_3, (List.all_append.trans (Bool.and_eq_true_iff.mpr ⟨vo_0_4, (List.all_append.trans (Bool.and_eq_true_iff.mpr ⟨vo_0_5, (List.all_append.trans (Bool.and_eq_true_iff.mpr ⟨vo_0_6, vo_0_7⟩))⟩))⟩))⟩))⟩))⟩))⟩))
  | 1 => exact vt_ok_of (m := 1) vo_1_0
  | 2 => exact vt_ok_of (m := 2) vo_2_0
  | 3 => exact vt_ok_of (m := 3) vo_3_0
  | 4 => exact vt_ok_of (m := 4) vo_4_0
  | 5 => exact vt_ok_of (m := 5) vo_5_0
  | 6 => exact vt_ok_of (m := 6) vo_6_0
  | 7 => exact vt_ok_of (m := 7) vo_7_0
  | 8 => exact vt_ok_of (m := 8) vo_8_0
  | 9 => exact vt_ok_of (m := 9) vo_9_0
  | 10 => exact vt_ok_of (m := 10) vo_10_0
  | 11 => exact vt_ok_of (m := 11) vo_11_0
  | 12 => exact vt_ok_of (m := 12) vo_12_0
  | 13 => exact vt_ok_of (m := 13) vo_13_0
  | 14 => exact vt_ok_of (m := 14) vo_14_0
  | 15 => exact vt_ok_of (m := 15) vo_15_0
  | 16 => exact vt_ok_of (m := 16) vo_16_0
  | 17 => exact vt_ok_of (m := 17) vo_17_0
  | 18 => exact vt_ok_of (m := 18) vo_18_0
  | 19 => exact vt_ok_of (m := 19) vo_19_0
  | 20 => exact vt_ok_of (m := 20) vo_20_0
  | 21 => exact vt_ok_of (m := 21) vo_21_0
  | 22 => exact vt_ok_of (m := 22) vo_22_0
  | 23 => exact vt_ok_of (m := 23) vo_23_0
  | 24 => exact vt_ok_of (m := 24) vo_24_0
  | 25 => exact vt_ok_of (m := 25) vo_25_0
  | 26 => exact vt_ok_of (m := 26) vo_26_0
  | 27 => exact vt_ok_of (m := 27) vo_27_0
  | 28 => exact vt_ok_of (m := 28) vo_28_0
  | 29 => exact vt_ok_of (m := 29) vo_29_0
  | 30 => exact vt_ok_of (m := 30) vo_30_0
  | 31 => exact vt_ok_of (m := 31) (List.all_append.trans (Bool.and_eq_true_iff.mpr ⟨vo_31_0, vo_31_1⟩))
  | 32 => exact vt_ok_of (m := 32) vo_32_0
  | 33 => exact vt_ok_of (m := 33) vo_33_0
  | 34 => exact vt_ok_of (m := 34) vo_34_0
  | 35 => exact vt_ok_of (m := 35) vo_35_0
  | 36 => exact vt_ok_of (m := 36) (List.all_append.trans (Bool.and_eq_true_iff.mpr ⟨vo_36_0, vo_36_1⟩))
  | 37 => exact vt_ok_of (m := 37) vo_37_0
  | 38 => exact vt_ok_of (m := 38) vo_38_0
  | 39 => exact vt_ok_of (m := 39) vo_39_0
  | 40 => exact vt_ok_of (m := 40) vo_40_0
  | 41 => exact vt_ok_of (m := 41) vo_41_0
  | 42 => exact vt_ok_of (m := 42) vo_42_0
  | 43 => exact vt_ok_of (m := 43) (List.all_append.trans (Bool.and_eq_true_iff.mpr ⟨vo_43_0, vo_43_1⟩))
  | 44 => exact vt_ok_of (m := 44) vo_44_0
  | 45 => exact vt_ok_of (m := 45) (List.all_append.trans (Bool.and_eq_true_iff.mpr ⟨vo_45_0, (List.all_append.trans (Bool.and_eq_true_iff.mpr ⟨vo_45_1, vo_45_2⟩))⟩))
  | 46 => exact vt_ok_of (m := 46) vo_46_0
  | 47 => exact vt_ok_of (m := 47) (List.all_append.trans (Bool.and_eq_true_iff.mpr ⟨vo_47_0, vo_47_1⟩))
  | 48 => exact vt_ok_of (m := 48) (List.all_append.trans (Bool.and_eq_true_iff.mpr ⟨vo_48_0, vo_48_1⟩))
  | 49 => exact vt_ok_of (m := 49) vo_49_0
  | 50 => exact vt_ok_of (m := 50) vo_50_0
  | 51 => exact vt_ok_of (m := 51) (List.all_append.trans (Bool.and_eq_true_iff.mpr ⟨vo_51_0, vo_51_1⟩))
  | 52 => exact vt_ok_of (m := 52) vo_52_0
  | 53 => exact vt_ok_of (m := 53) (List.all_append.trans (Bool.and_eq_true_iff.mpr ⟨vo_53_0, vo_53_1⟩))
  | 54 => exact vt_ok_of (m := 54) (List.all_append.trans (Bool.and_eq_true_iff.mpr ⟨vo_54_0, vo_54_1⟩))
  | 55 => exact vt_ok_of (m := 55) vo_55_0
  | 56 => exact vt_ok_of (m := 56) (List.all_append.trans (Bool.and_eq_true_iff.mpr ⟨vo_56_0, vo_56_1⟩))
  | 57 => exact vt_ok_of (m := 57) vo_57_0
  | 58 => exact vt_ok_of (m := 58) vo_58_0
  | 59 => exact vt_ok_of (m := 59) vo_59_0
  | 60 => exact vt_ok_of (m := 60) (List.all_append.trans (Bool.and_eq_true_iff.mpr ⟨vo_60_0, (List.all_append.trans (Bool.and_eq_true_iff.mpr ⟨vo_60_1, vo_60_2⟩))⟩))
  | 61 => exact vt_ok_of (m := 61) vo_61_0
  | 62 => exact vt_ok_of (m := 62) vo_62_0
  | 63 => exact vt_ok_of (m := 63) (List.all_append.trans (Bool.and_eq_true_iff.mpr ⟨vo_63_0, vo_63_1⟩))
  | 64 => exact vt_ok_of (m := 64) vo_64_0
  | 65 => exact vt_ok_of (m := 65) (List.all_append.trans (Bool.and_eq_true_iff.mpr ⟨vo_65_0, vo_65_1⟩))
  | 66 => exact vt_ok_of (m := 66) vo_66_0
  | 67 => exact vt_ok_of (m := 67) vo_67_0
  | 68 => exact vt_ok_of (m := 68) vo_68_0
  | 69 => exact vt_ok_of (m := 69) vo_69_0
  | 70 => exact vt_ok_of (m := 70) (List.all_append.trans (Bool.and_eq_true_iff.mpr ⟨vo_70_0, vo_70_1⟩))
  | 71 => exact vt_ok_of (m := 71) vo_71_0
  | 72 => exact vt_ok_of (m := 72) vo_72_0
  | 73 => exact vt_ok_of (m := 73) vo_73_0
  | 74 => exact vt_ok_of (m := 74) vo_74_0
  | 75 => exact vt_ok_of (m := 75) vo_75_0
  | 76 => exact vt_ok_of (m := 76) vo_76_0
  | 77 => exact vt_ok_of (m := 77) vo_77_0
  | 78 => exact vt_ok_of (m := 78) vo_78_0
  | 79 => exact vt_ok_of (m := 79) vo_79_0
  | 80 => exact vt_ok_of (m := 80) vo_80_0
  | 81 => exact vt_ok_of (m := 81) (List.all_append.trans (Bool.and_eq_true_iff.mpr ⟨vo_81_0, vo_81_1⟩))
  | 82 => exact vt_ok_of (m := 82) vo_82_0
  | 83 => exact vt_ok_of (m := 83) vo_83_0
  | 84 => exact vt_ok_of (m := 84) vo_84_0
  | 85 => exact vt_ok_of (m := 85) vo_85_0
  | 86 => exact vt_ok_of (m := 86) vo_86_0
  | 87 => exact vt_ok_of (m := 87) vo_87_0
  | 88 => exact vt_ok_of (m := 88) (List.all_append.trans (Bool.and_eq_true_iff.mpr ⟨vo_88_0, vo_88_1⟩))
  | 89 => exact vt_ok_of (m := 89) vo_89_0
  | 90 => exact vt_ok_of (m := 90) vo_90_0
  | 91 => exact vt_ok_of (m := 91) vo_91_0
  | 92 => exact vt_ok_of (m := 92) (List.all_append.trans (Bool.and_eq_true_iff.mpr ⟨vo_92_0, vo_92_1⟩))
  | 93 => exact vt_ok_of (m := 93) vo_93_0
  | 94 => exact vt_ok_of (m := 94) vo_94_0
  | 95 => exact vt_ok_of (m := 95) (List.all_append.trans (Bool.and_eq_true_iff.mpr ⟨vo_95_0, vo_95_1⟩))
  | 96 => exact vt_ok_of (m := 96) vo_96_0
  | 97 => exact vt_ok_of (m := 97) (List.all_append.trans (Bool.and_eq_true_iff.mpr ⟨vo_97_0, vo_97_1⟩))
  | 98 => exact vt_ok_of (m := 98) vo_98_0
  | 99 => exact vt_ok_of (m := 99) vo_99_0
  | 100 => exact vt_ok_of (m := 100) (List.all_append.trans (Bool.and_eq_true_iff.mpr ⟨vo_100_0, (List.all_append.trans (Bool.and_eq_true_iff.mpr ⟨vo_100_1, vo_100_2⟩))⟩))
  | 101 => exact vt_ok_of (m := 101) (List.all_append.trans (Bool.and_eq_true_iff.mpr ⟨vo_101_0, (List.all_append.trans (Bool.and_eq_true_iff.mpr ⟨vo_101_1, (List.all_append.trans (Bool.and_eq_true_iff.mpr ⟨vo_101_2, vo_101_3⟩))⟩))⟩))
  | 102 => exact vt_ok_of (m := 102) (List.all_append.trans (Bool.and_eq_true_iff.mpr ⟨vo_102_0, vo_102_1⟩))
  | 103 => exact vt_ok_of (m := 103) (List.all_append.trans (Bool.and_eq_true_iff.mpr ⟨vo_103_0, (List.all_append.trans (Bool.and_eq_true_iff.mpr ⟨vo_103_1, (List.all_append.trans (Bool.and_eq_true_iff.mpr ⟨vo_103_2, vo_103_3⟩))⟩))⟩))
  | 104 => exact vt_ok_of (m := 104) (List.all_append.trans (Bool.and_eq_true_iff.mpr ⟨vo_104_0, vo_104_1⟩))
  | 105 => exact vt_ok_of (m := 105) (List.all_append.trans (Bool.and_eq_true_iff.mpr ⟨vo_105_0, (List.all_append.trans (Bool.and_eq_true_iff.mpr ⟨vo_105_1, vo_105_2⟩))⟩))
  | 106 => exact vt_ok_of (m := 106) (List.all_append.trans (Bool.and_eq_true_iff.mpr ⟨vo_106_0, vo_106_1⟩))
  | 107 => exact vt_ok_of (m := 107) (List.all_append.trans (Bool.and_eq_true_iff.mpr ⟨vo_107_0, vo_107_1⟩))
  | 108 => exact vt_ok_of (m := 108) vo_108_0
  | 109 => exact vt_ok_of (m := 109) vo_109_0
  | 110 => exact vt_ok_of (m := 110) vo_110_0
  | 111 => exact vt_ok_of (m := 111) vo_111_0
  | 112 => exact vt_ok_of (m := 112) vo_112_0
  | 113 => exact vt_ok_of (m := 113) vo_113_0
  | 114 => exact vt_ok_of (m := 114) vo_114_0
  | 115 => exact vt_ok_of (m := 115) vo_115_0
  | 116 => exact vt_ok_of (m := 116) vo_116_0
  | k + 117 =>
    right
    have : vt_code (k + 117) = [] := by
      unfold vt_code
      rw [List.getD_eq_getElem?_getD, List.getElem?_eq_none (by show _ ≤ k + 117; exact Nat.le_add_left _ _)]
      rfl
    unfold vt_i
    rw [this]
    rfl
end
section
/-- WHAT THE SMALL MACHINE DOES, THE MACHINE DOES -/
theorem vt_sim {m pc : Nat} {ls st : List Value} {h : vt_H} {Q : vt_Q} (w : Wp m pc ls st h Q) : ∃ v h', Q v h' ∧ (vh_n h ≤ vh_n h' ∧ vh_u h ≤ vh_u h' ∧ vh_X h' = vh_X h ∧ vh_L h' = vh_L h) ∧ vt_Ex m pc ls st h v h' := by
  refine w (fun m pc ls st h Q => ∃ v h', Q v h' ∧ (vh_n h ≤ vh_n h' ∧ vh_u h ≤ vh_u h' ∧ vh_X h' = vh_X h ∧ vh_L h' = vh_L h) ∧ vt_Ex m pc ls st h v h') ?_ ?_
  · rintro m pc ls st h Q1 Q2 hQ ⟨v, h', q, g⟩
    exact ⟨v, h', hQ _ _ q, g⟩
  · intro m pc ls st h Q hh
    have hok : vt_okb m pc (vt_i m pc) = true ∨ (vt_i m pc).1 = 999 := vt_ok m pc
    unfold vt_step at hh
    revert hh hok
    generalize hi : vt_i m pc = i
    obtain ⟨op, w, v, a, b, c, e⟩ := i
    intro hh hok
    dsimp only at hh
    split at hh
    · obtain ⟨⟨k1, k2, k3, k4⟩, k5, v1, h1, ⟨v2, h2, q, ⟨m1, m2, m3, m4⟩, g2⟩, ⟨n1, n2, n3, n4⟩, g1⟩ := hh
      have hok := hok.resolve_right (by simp)
      refine ⟨v2, h2, q, ⟨by omega, by omega, m3.trans n3, m4.trans n4⟩, ?_⟩
      intro p l ee Rm s mm args below meth cc Qf base b0 D ca cells slots C Wd hbc hbs hret
      refine sm_call C Wd hok k1 k2 k3 k4 k5 g1 n1 (by omega) (by omega) ?_
      refine g2 p l ee Rm s mm args below meth cc Qf base b0 D ca _ _ C (by rw [n3, n4]; exact Wd) (by omega) (by omega) ?_
      intro pc' ls' hr'
      have k := hret pc' ls' hr'
      rw [show cells + (vh_n h1 - vh_n h) + (vh_n h2 - vh_n h1) = cells + (vh_n h2 - vh_n h) by omega, show slots + (vh_u h1 - vh_u h) + (vh_u h2 - vh_u h1) = slots + (vh_u h2 - vh_u h) by omega]
      exact k
    · have hok := hok.resolve_right (by simp)
      unfold vt_back at hh
      split at hh
      · rename_i x
        refine ⟨_, h, hh.2, ⟨Nat.le_refl _, Nat.le_refl _, rfl, rfl⟩, ?_⟩
        intro p l ee Rm s mm args below meth cc Qf base b0 D ca cells slots C Wd hbc hbs hret
        have k := hret pc ls ⟨by rw [hi]; exact hok, by rw [hi]; exact ⟨rfl, hh.1⟩⟩
        rw [Nat.sub_self, Nat.sub_self] at k
        exact k
      · exact hh.elim
    · have hok := hok.resolve_right (by simp)
      obtain ⟨rfl, hh⟩ := hh
      refine ⟨_, h, hh, ⟨Nat.le_refl _, Nat.le_refl _, rfl, rfl⟩, ?_⟩
      intro p l ee Rm s mm args below meth cc Qf base b0 D ca cells slots C Wd hbc hbs hret
      have k := hret pc ls ⟨by rw [hi]; exact hok, by rw [hi]⟩
      rw [Nat.sub_self, Nat.sub_self] at k
      exact k
    · have hok := hok.resolve_right (by simp)
      unfold vt_backR at hh
      split at hh
      · rename_i v1
        refine ⟨_, h, hh.2, ⟨Nat.le_refl _, Nat.le_refl _, rfl, rfl⟩, ?_⟩
        intro p l ee Rm s mm args below meth cc Qf base b0 D ca cells slots C Wd hbc hbs hret
        have k := hret pc ls ⟨by rw [hi]; exact hok, by rw [hi]; cases v1 <;> first | exact ⟨rfl, hh.1⟩ | (have := hh.1; simp [vt_rv] at this)⟩
        rw [Nat.sub_self, Nat.sub_self] at k
        exact k
      · exact hh.elim
    · obtain ⟨pc', ls', st', h', k1, v2, h2, q, ⟨m1, m2, m3, m4⟩, g2⟩ := hh
      have hok := hok.resolve_right (by
        intro z
        have z : op = 999 := z
        subst z
        simp [vt_nx] at k1)
      obtain ⟨n1, n2, n3, n4⟩ := vt_nx_up k1
      refine ⟨v2, h2, q, ⟨by omega, by omega, m3.trans n3, m4.trans n4⟩, ?_⟩
      intro p l ee Rm s mm args below meth cc Qf base b0 D ca cells slots C Wd hbc hbs hret
      refine sm_all C Wd (cells' := cells + (vh_n h' - vh_n h)) (slots' := slots + (vh_u h' - vh_u h)) rfl rfl (by omega) (by omega) k1 hok ?_
      refine g2 p l ee Rm s mm args below meth cc Qf base b0 D ca _ _ C (by rw [n3, n4]; exact Wd) (by omega) (by omega) ?_
      intro pc' ls' hr'
      have k := hret pc' ls' hr'
      rw [show cells + (vh_n h' - vh_n h) + (vh_n h2 - vh_n h') = cells + (vh_n h2 - vh_n h) by omega, show slots + (vh_u h' - vh_u h) + (vh_u h2 - vh_u h') = slots + (vh_u h2 - vh_u h) by omega]
      exact k
end
section
/-! THE CLAIM OUT OF ONE WALK OF THE LAW'S BODY. Your part is whole_start (and what it stands on); all else here is the same for every law, but numbers. -/
def R_law : String := "RuleEngineLaw"
def lw_P (b : Addr) (xs : List Int32) (args : Array Value) (s : State) : Prop := args = #[.ref b] ∧ s.IntsAt b xs ∧ xs.length ≤ 3072 ∧ (Jvm.Cond.and given_1 narrow_1).before args s = true
def lw_Q (_ : Array Value) (s : State) (o : Outcome) (t : State) : Prop := o = .returned (some (.int 1)) ∧ Framed s o t [] 600000 7302249
def lw_Z (below : List Frame) (a : Array Value) (s : State) : State → Prop := fun t => ∃ o, t.status = .running ∧ Ended t below o ∧ lw_Q a s o t
/-- the law's own end, with 1 on the stack, nothing written that was there before, its room as the claim has it -/
theorem lw_ret {p : Program} {l : Launch} {e : Env} {s : State} {m : MethodId} {below : List Frame} {meth : Method} {c : Code} {b : Nat} (hx : p.tables.exec = Jvm.exec) (hb : c.code = code) (hr : meth.sig.returnType = ret) (hlocks : meth.locks = false) {pc : Nat} {H : Heap} {ls : Array Slot} (hdg : decode code pc = .ok (.ireturn, 1)) : W p l e room_1 s m #[Value.ref b] below meth c H [] 600000 7302249 (lw_Z below #[Value.ref b] s) (F0 m pc ls [.int 1]) := by
  intro T hT X
  obtain ⟨fs, hret, hrun, hended, hW, hframe⟩ := X.leave (v := some (.int 1)) (hlocks := hlocks) (fun h => by rw [hr] at h; cases h)
  have hmeth' : T.vm.method? m = some meth := X.method'
  refine ⟨T.setFrames fs, ?_, .returned (some (.int 1)), hrun, hended, rfl, ⟨_, rfl⟩, hW, hframe⟩
  jvm_step X.here [X.here.top, hx, hb, hdg, hmeth', hr, ret, narrow_b1]
  (try refine ⟨rfl, ?_⟩); (try refine ⟨rfl, ?_⟩)
  first | (intro acts; rw [hret _ acts rfl rfl rfl]) | rw [hret _ _ rfl rfl rfl]
  exact Steps.refl _
/-- what holds at the law's entry: the machine, the code, the tables' words (any of lw_tbl by 'hts w (by decide +kernel)'), the script of L ints xs at the cell b, what the Statement gives of the start (any of its parts by flat_of_before) -/
def lw_At (p : Program) (s : State) (m : MethodId) (meth : Method) (c : Code) (b L : Nat) (xs : Nat → Int32) : Prop :=
  p.tables.exec = Jvm.exec ∧ c.code = code ∧ meth.sig.returnType = ret ∧ c.maxLocals = 4 ∧ s.vm.findClass R_law = some m.cls ∧ (∀ w ∈ lw_tbl, w.before #[Value.ref b] s = true) ∧ va_X b L xs s s.heap ∧ b < s.heap.size ∧ meth.locks = false ∧ (Jvm.Cond.and given_1 narrow_1).before #[Value.ref b] s = true
/-- the small heap at the law's entry -/
def lh_0 (L : Nat) (xs : Nat → Int32) : vt_H := ((0, 0), (fun _ => 0, fun _ => 0), (fun _ _ => 0, fun _ _ => none), (xs, L))
def lh_Q : vt_Q := fun v h => v = some (.int 1) ∧ vh_n h ≤ 600000 ∧ vh_u h ≤ 7302249
theorem law_wp (L : Nat) (xs : Nat → Int32) (hL : L ≤ 3072) : Wp 0 0 [vt_sc, vt_un, vt_un, vt_un] [] (lh_0 L xs) lh_Q := by
  sorry
theorem lh_arr {s : State} {args : Array Value} {ty : FieldType} (h : (Jvm.Cond.arrayClass ty).before args s = true) (hv : ∀ c, va_RA s c ty = (s.vm.findClass ("[" ++ ty.toString) = some c)) : ∃ cA : ClassId, ArrOfT s cA ty ∧ va_RA s cA ty := by
  obtain ⟨cA, kA, comp, h1, h2, h3⟩ := Cond.arrayClass_spec h
  exact ⟨cA, fun n z => ⟨fun k q => (by cases q), kA, h2, comp, h3⟩, by rw [hv]; exact h1⟩
set_option maxRecDepth 100000 in
set_option maxHeartbeats 4000000 in
theorem whole_start {p : Program} {e : Env} {s : State} {m : MethodId} {below : List Frame} {meth : Method} {c : Code} (l : Launch) {b L : Nat} {xs : Nat → Int32} (hL : L ≤ 3072) (C0 : lw_At p s m meth c b L xs) : W p l e room_1 s m #[Value.ref b] below meth c s.heap [] 0 0 (lw_Z below #[Value.ref b] s) (entryFrame m ([Value.ref b] : List Value).toArray 4) := by
  obtain ⟨hx, hb, hr, hml, hown, hts, hX, hbl, hlocks, hgv⟩ := C0
  have hts2 : ∀ w ∈ vt_T, w.before #[Value.ref b] s = true := fun w hw => hts w (vt_T_in w hw)
  obtain ⟨c0, i0, k0⟩ := u_known (C := "RuleEngine$Cases") (T := vt_T0) (N := 16) hts2 vt_clw0 (hts2 _ vt_cli0.1)
  obtain ⟨c1, i1, k1⟩ := u_known (C := "RuleEngine$Facts") (T := vt_T1) (N := 2) hts2 vt_clw1 (hts2 _ vt_cli1.1)
  obtain ⟨c2, i2, k2⟩ := u_known (C := "RuleEngine$Model") (T := vt_T2) (N := 11) hts2 vt_clw2 (hts2 _ vt_cli2.1)
  obtain ⟨c3, i3, k3⟩ := u_known (C := "RuleEngine$Rule") (T := vt_T3) (N := 10) hts2 vt_clw3 (hts2 _ vt_cli3.1)
  obtain ⟨c4, i4, k4⟩ := u_known (C := "RuleEngine$Strata") (T := vt_T4) (N := 5) hts2 vt_clw4 (hts2 _ vt_cli4.1)
  obtain ⟨c5, i5, k5⟩ := u_known (C := "RuleEngine") (T := vt_T5) (N := 4) hts2 vt_clw5 (hts2 _ vt_cli5.1)
  obtain ⟨c6, i6, k6⟩ := u_known (C := "RuleEngineModel") (T := vt_T6) (N := 26) hts2 vt_clw6 (hts2 _ vt_cli6.1)
  obtain ⟨dC, dI, hKc⟩ : ∃ (dC : Nat → ClassId) (dI : Nat → Nat → Nat), ∀ (k : Nat) (q : vw_C), vt_cl[k]? = some q → u_Kn s q.1 q.2.1 q.2.2 (dC k) (dI k) := by
    refine ⟨fun k => match k with | 0 => c0 | 1 => c1 | 2 => c2 | 3 => c3 | 4 => c4 | 5 => c5 | _ => c6, fun k => match k with | 0 => i0 | 1 => i1 | 2 => i2 | 3 => i3 | 4 => i4 | 5 => i5 | _ => i6, ?_⟩
    intro k q hq
    match k, hq with
    | 0, hq => cases hq; exact k0
    | 1, hq => cases hq; exact k1
    | 2, hq => cases hq; exact k2
    | 3, hq => cases hq; exact k3
    | 4, hq => cases hq; exact k4
    | 5, hq => cases hq; exact k5
    | 6, hq => cases hq; exact k6
    | k + 7, hq => simp [vt_cl] at hq
  obtain ⟨a1, ha1⟩ := lh_arr (hts2 _ vt_wArr) (fun _ => rfl)
  obtain ⟨a4, ha4⟩ := lh_arr (hts2 _ vt_wArz) (fun _ => rfl)
  have hov : va_AO "RuleEngine$Rule" s := hts _ lw_ovR
  have hoi : va_Nw (.arrayOver (.array .int)) s := hts _ lw_ovI
  obtain ⟨a2, ha2⟩ : ∃ cA : ClassId, ArrOfT s cA (.object "RuleEngine$Rule") ∧ va_RA s cA (.object "RuleEngine$Rule") := by
    obtain ⟨comp, cA, kA, h1, h2, h3, h4, h5⟩ := Cond.arrayOver_spec hov
    exact ⟨cA, fun n z => ⟨fun k q => (by cases q), kA, h3, comp, h4⟩, kA, comp, h3, h4, h1, h5⟩
  obtain ⟨a3, ha3⟩ : ∃ cA : ClassId, ArrOfT s cA (.array .int) ∧ va_RA s cA (.array .int) := by
    obtain ⟨comp, cA, kA, h1, h3, h4, h5⟩ := Cond.arrayOver_specA hoi
    exact ⟨cA, fun n z => ⟨fun k q => (by cases q), kA, h3, comp, h4⟩, h5⟩
  have hK : va_K (dC, dI) vt_cl (vt_tys (fun k => match k with | 1 => a1 | 2 => a2 | 3 => a3 | _ => a4)) s := by
    refine ⟨hKc, fun k q hq => ?_⟩
    match k, hq with
    | 0, hq => cases hq; exact ha1
    | 1, hq => cases hq; exact ha2
    | 2, hq => cases hq; exact ha3
    | 3, hq => cases hq; exact ha4
    | k + 4, hq => simp [vt_tys, vt_aks] at hq
  have hTx : vt_Tx s := ⟨fun q hq => va_Nw.of rfl (hts _ (lw_nl q hq)), hov, hoi⟩
  obtain ⟨v, h', ⟨hv, hn', hu'⟩, -, hE⟩ := vt_sim (law_wp L xs hL)
  subst hv
  have hC : vt_Ctx 0 p room_1 s m #[Value.ref b] meth c := ⟨hx, hb, hml, hr, hown, hts2, hlocks, fun q => absurd q (by decide +kernel), by decide +kernel, by decide +kernel⟩
  have g := hE p l e room_1 s m #[Value.ref b] below meth c (lw_Z below #[Value.ref b] s) s.heap.size b (dC, dI) _ 0 0 hC ⟨hK, hbl, Nat.le_refl _, hX, hTx⟩ (by show 0 + (vh_n h' - 0) ≤ 600000; omega) (by show 0 + (vh_u h' - 0) ≤ 7302249; omega) ?_
  · rw [lg_entry_eq]
    refine g s.heap [] _ rfl ⟨fun _ _ => rfl, fun k _ q => absurd q (Nat.lt_irrefl 0), fun k q hq => ?_⟩ va_S.rf (vt_entry (as := [vt_sc]) (by simp [Value.category]) (by decide +kernel))
    exact absurd (vt_ws_of hq).1 (Nat.not_lt_zero _)
  · intro pc' ls' hret H locs lsA hZ hR hS hLL
    refine va_forget (fun q hq => hS.2.2 q hq) ?_
    refine W.widen (k := 600000) (n := 7302249) (by show 0 + (vh_n h' - 0) ≤ 600000; omega) (by show 0 + (vh_u h' - 0) ≤ 7302249; omega) ?_
    obtain ⟨hok, hret, -⟩ := hret
    generalize hi : vt_i 0 pc' = i at hok hret
    obtain ⟨op, w, v0, a, b1, d1, e1⟩ := i
    dsimp only at hret
    subst hret
    simp only [vt_okb, Bool.and_eq_true] at hok
    exact lw_ret hx hb hr hlocks (vt_dc_of hok.1)
-- ===== YOUR PART ENDS =====
set_option maxHeartbeats 4000000 in
theorem lw_walk (l : Launch) (b : Addr) (xs : List Int32) : MetFree l x (headSpec (Jvm.Cond.code x code maxLocals ret :: tables_1) room_1) (lw_P b xs) (fun _ _ _ _ _ => True) lw_Q := by
  refine MetFree.of_bodyS (code := code) (maxLocals := maxLocals) (ret := ret) (by decide) ?_ ?_
  · intro args s m h hn
    obtain ⟨meth, c, h1, h2, h3, h4, h5, h6, -, -⟩ := Cond.code_spec hn (atoms_spec (ws := Jvm.Cond.code x code maxLocals ret :: tables_1) h _ List.mem_cons_self)
    exact ⟨meth, c, h1, h2, h3, h4, h5, h6⟩
  · intro p e s m args below meth c s₁ B hml0 hP _
    obtain ⟨rfl, hx, hbd, hgv⟩ := hP
    obtain ⟨scr, harrAt, hlist, hof, hsmall⟩ := hx
    obtain ⟨hcb, hkn, -, -⟩ := State.arrayAt?_spec harrAt
    have hown : s.vm.findClass R_law = some m.cls := findClass_of_methodNamed B.named
    have hts0 : ∀ c ∈ (Jvm.Cond.code x code maxLocals ret :: tables_1), c.before #[Value.ref b] s = true := atoms_spec (ws := Jvm.Cond.code x code maxLocals ret :: tables_1) B.pre
    have hts : ∀ w ∈ lw_tbl, w.before #[Value.ref b] s = true := k2_hts_sels lw_privs (fun w hw => hts0 w (List.mem_cons_of_mem _ hw)) lw_privs_ok
    have hml : c.maxLocals = 4 := B.maxLocals_eq (hts0 _ List.mem_cons_self)
    have X₀ : Stand p l e room_1 s m #[Value.ref b] below meth c s₁ [] 0 0 := Stand.of_body B
    have hh0 : s₁.heap = s.heap := by rw [B.state]; rfl
    have hsz : scr.slots.size = xs.length := by rw [← Array.length_toList, hlist, List.length_map]
    have hval : ∀ j : Nat, j < xs.length → scr.slots[j]? = some (.int (xs.getD j 0)) := fun j hj => by
      rw [← Array.getElem?_toList, hlist]
      simp [hj]
    have hbl : b < s.heap.size := (Array.getElem?_eq_some_iff.mp hcb).1
    have hX : va_X b xs.length (fun j => xs.getD j 0) s s.heap := ⟨scr, hcb, hof, hkn, hsz, hval⟩
    have K : W p l e room_1 s m #[Value.ref b] below meth c s₁.heap [] 0 0 (lw_Z below #[Value.ref b] s) (entryFrame m ([Value.ref b] : List Value).toArray 4) := by
      rw [hh0]
      exact whole_start l hbd ⟨B.exec, B.bytes, B.returns, hml, hown, hts, hX, hbl, B.notSynchronized, hgv⟩
    obtain ⟨t, a1, o, b1, b2, b3⟩ := K s₁ rfl X₀
    exact ⟨t, o, a1, b1, b2, b3⟩
theorem lw_pre_spec {args : Array Value} {s : State} (h : (Jvm.Cond.and given_1 narrow_1).before args s = true) (hr : rest_1_c.before args s = true) : ∃ (b : Addr) (xs : List Int32), lw_P b xs args s := by
  have hs := flat_of_before _ h
  have hq := flat_of_before _ hr
  have hc : (Cond.count 1).before args s = true := hs _ (by decide +kernel)
  have harr : (Cond.arrayOf (.arg 0) .int).before args s = true := hs _ (by decide +kernel)
  have hle : (Cond.le (.length (.arg 0)) (.int 3072)).before args s = true := hs _ (by decide +kernel)
  have hlen : (Cond.isInt (.length (.arg 0))).before args s = true := hq _ (by decide +kernel)
  have hall : (Cond.all (.arg 0) (.isInt (.elem (.arg 0) (.index 0)))).before args s = true := hq _ (by decide +kernel)
  obtain ⟨b, xs, hb, hx⟩ := State.ints_of_pre rfl harr hlen hall
  have hsm : xs.length < 2 ^ 31 := hx.choose_spec.2.2.2
  have hev : (Term.length (.arg 0)).eval args s none [] s = some (.int xs.length.toInt32) := hx.length_eval hb
  have hv := Cond.le_ints hev (show (Term.int 3072).eval args s none [] s = some (.int 3072) from rfl)
  have hd : xs.length.toInt32 ≤ 3072 := by
    simpa [Cond.before, Cond.holds, hv] using hle
  have hN : xs.length ≤ 3072 := (Int32.ofNat_le_ofNat hsm (by decide)).mp (show Int32.ofNat xs.length ≤ Int32.ofNat 3072 from hd)
  exact ⟨b, xs, Cond.one_arg hc (show args[0]? = some (.ref b) from hb), hx, hN, h⟩
theorem lw_comes (l : Launch) : Comes l x (Jvm.Cond.code x code maxLocals ret :: tables_1) room_1 (fun tb e args s => Calls_1 tb e args s ∧ rest_1 tb e args s ∧ Pre_1 tb e args s)
    (fun _ _ args s o t => lw_Q args s o t) := by
  intro p e ha hc hk s m args below hf hfit hheap happ hpre
  obtain ⟨b, xs, hP⟩ := lw_pre_spec hpre.2.2 hpre.2.1
  obtain ⟨k, o, h1, h2, h3, hQ⟩ := lw_walk l b xs p e ha hc hk s m args below hf ((Spec.applies_iff_loose hf).mp happ).1 hP trivial
  exact ⟨k, o, h1, h2, h3, hQ⟩
theorem lw_frame {s t : State} {o : Outcome} {args : Array Value} (h : Framed s o t [] 600000 7302249) :
    Framed s o t (fieldLocs frame_1_writes args s ++ arrayLocs frame_1_arrays args s ++ staticLocs frame_1_statics s) 600000 7302249 := h
theorem lw_limb (L : Cond) (hL : ∀ (args : Array Value) (s t : State), L.after args s (.returned (some (.int 1))) t = true) :
    ArmFor flags0 classFile x code maxLocals ret World_1 tables_1 room_1 Calls_1 rest_1 Pre_1
      (fun tb e a s o t => postC L tb e a s o t ∧ Framed s o t (fieldLocs frame_1_writes a s ++ arrayLocs frame_1_arrays a s ++ staticLocs frame_1_statics s) 600000 7302249) := by
  intro l _ _ _ p e ha hc hk s m args below hf hfit hheap happ hpre
  obtain ⟨k, o, h1, h2, h3, rfl, hF⟩ := lw_comes l p e ha hc hk s m args below hf hfit hheap happ hpre
  exact ⟨k, _, h1, h2, h3, hL args s _, lw_frame hF⟩
theorem i_vc : Claimed_1_1 ∧ Claimed_1_2 := ⟨lw_limb limb_1_1 (fun args s t => by simp [limb_1_1, Cond.after, Cond.holds, Cond.value]), lw_limb limb_1_2 (fun args s t => Cond.after_iff.mpr (by
  first | (rw [show limb_1_2 = Cond.eq .result (.int 1) from rfl, Cond.eq_ints (x := 1) (y := 1) rfl rfl]; simp; done) | (simp [limb_1_2, Cond.value, Term.eval]; done)))⟩
end
