section
-- ===== PART A: goes FIRST, ahead of the names: the tables' words, and 'selects' of the private methods out of them =====
/-- a private method of a class that the tables say can be made, by its rows of tables_1 -/
def lw_okq (q : MethodName × Nat) : Prop := (q.1.cls ≠ "java/lang/invoke/MethodHandle" ∧ q.1.cls ≠ "java/lang/invoke/VarHandle") ∧ Cond.instantiable q.1.cls q.2 ∈ tables_1 ∧ Cond.privateMethod q.1 ∈ tables_1 ∧ Cond.instanceMethod q.1 ∈ tables_1
theorem lw_p0 : lw_okq (⟨"RowCode", "forgetWork", "()V"⟩, 8) := ⟨⟨by decide +kernel, by decide +kernel⟩, List.mem_of_getElem? (i := 20) (by decide +kernel), List.mem_of_getElem? (i := 264) (by decide +kernel), List.mem_of_getElem? (i := 265) (by decide +kernel)⟩
theorem lw_p1 : lw_okq (⟨"RowCode$Judge", "argumentsFit", "()Z"⟩, 7) := ⟨⟨by decide +kernel, by decide +kernel⟩, List.mem_of_getElem? (i := 55) (by decide +kernel), List.mem_of_getElem? (i := 293) (by decide +kernel), List.mem_of_getElem? (i := 294) (by decide +kernel)⟩
theorem lw_p2 : lw_okq (⟨"RowCode$Judge", "labelsAreOnce", "()Z"⟩, 7) := ⟨⟨by decide +kernel, by decide +kernel⟩, List.mem_of_getElem? (i := 55) (by decide +kernel), List.mem_of_getElem? (i := 311) (by decide +kernel), List.mem_of_getElem? (i := 312) (by decide +kernel)⟩
theorem lw_p3 : lw_okq (⟨"RowCode$Judge", "goalsAreThere", "()Z"⟩, 7) := ⟨⟨by decide +kernel, by decide +kernel⟩, List.mem_of_getElem? (i := 55) (by decide +kernel), List.mem_of_getElem? (i := 321) (by decide +kernel), List.mem_of_getElem? (i := 322) (by decide +kernel)⟩
theorem lw_p4 : lw_okq (⟨"RowCode$Judge", "waysAgree", "()Z"⟩, 7) := ⟨⟨by decide +kernel, by decide +kernel⟩, List.mem_of_getElem? (i := 55) (by decide +kernel), List.mem_of_getElem? (i := 331) (by decide +kernel), List.mem_of_getElem? (i := 332) (by decide +kernel)⟩
theorem lw_p5 : lw_okq (⟨"RowCode$Judge", "arrives", "(II)Z"⟩, 7) := ⟨⟨by decide +kernel, by decide +kernel⟩, List.mem_of_getElem? (i := 55) (by decide +kernel), List.mem_of_getElem? (i := 336) (by decide +kernel), List.mem_of_getElem? (i := 337) (by decide +kernel)⟩
theorem lw_p6 : lw_okq (⟨"RowCode$Judge", "leavesRightly", "(I)Z"⟩, 7) := ⟨⟨by decide +kernel, by decide +kernel⟩, List.mem_of_getElem? (i := 55) (by decide +kernel), List.mem_of_getElem? (i := 346) (by decide +kernel), List.mem_of_getElem? (i := 347) (by decide +kernel)⟩
theorem lw_p7 : lw_okq (⟨"RowCode$Judge", "following", "(I)I"⟩, 7) := ⟨⟨by decide +kernel, by decide +kernel⟩, List.mem_of_getElem? (i := 55) (by decide +kernel), List.mem_of_getElem? (i := 354) (by decide +kernel), List.mem_of_getElem? (i := 355) (by decide +kernel)⟩
theorem lw_p8 : lw_okq (⟨"RowCode$Judge", "goal", "(I)I"⟩, 7) := ⟨⟨by decide +kernel, by decide +kernel⟩, List.mem_of_getElem? (i := 55) (by decide +kernel), List.mem_of_getElem? (i := 361) (by decide +kernel), List.mem_of_getElem? (i := 362) (by decide +kernel)⟩
theorem lw_p9 : lw_okq (⟨"RowCode$Judge", "roundsSpend", "()Z"⟩, 7) := ⟨⟨by decide +kernel, by decide +kernel⟩, List.mem_of_getElem? (i := 55) (by decide +kernel), List.mem_of_getElem? (i := 365) (by decide +kernel), List.mem_of_getElem? (i := 366) (by decide +kernel)⟩
theorem lw_p10 : lw_okq (⟨"RowCode$Judge", "isFree", "(I)Z"⟩, 7) := ⟨⟨by decide +kernel, by decide +kernel⟩, List.mem_of_getElem? (i := 55) (by decide +kernel), List.mem_of_getElem? (i := 369) (by decide +kernel), List.mem_of_getElem? (i := 370) (by decide +kernel)⟩
theorem lw_p11 : lw_okq (⟨"RowCode$Judge", "countComer", "(I)V"⟩, 7) := ⟨⟨by decide +kernel, by decide +kernel⟩, List.mem_of_getElem? (i := 55) (by decide +kernel), List.mem_of_getElem? (i := 373) (by decide +kernel), List.mem_of_getElem? (i := 374) (by decide +kernel)⟩
theorem lw_p12 : lw_okq (⟨"RowCode$Judge", "loseComer", "(I)V"⟩, 7) := ⟨⟨by decide +kernel, by decide +kernel⟩, List.mem_of_getElem? (i := 55) (by decide +kernel), List.mem_of_getElem? (i := 377) (by decide +kernel), List.mem_of_getElem? (i := 378) (by decide +kernel)⟩
theorem lw_p13 : lw_okq (⟨"RowCode$Improver", "copyReached", "(LRowCode$Code;LRowCode$Judge;)V"⟩, 4) := ⟨⟨by decide +kernel, by decide +kernel⟩, List.mem_of_getElem? (i := 85) (by decide +kernel), List.mem_of_getElem? (i := 389) (by decide +kernel), List.mem_of_getElem? (i := 390) (by decide +kernel)⟩
theorem lw_p14 : lw_okq (⟨"RowCode$Improver", "findPlaces", "()V"⟩, 4) := ⟨⟨by decide +kernel, by decide +kernel⟩, List.mem_of_getElem? (i := 85) (by decide +kernel), List.mem_of_getElem? (i := 402) (by decide +kernel), List.mem_of_getElem? (i := 403) (by decide +kernel)⟩
theorem lw_p15 : lw_okq (⟨"RowCode$Improver", "countUses", "()V"⟩, 4) := ⟨⟨by decide +kernel, by decide +kernel⟩, List.mem_of_getElem? (i := 85) (by decide +kernel), List.mem_of_getElem? (i := 408) (by decide +kernel), List.mem_of_getElem? (i := 409) (by decide +kernel)⟩
def lw_privs_1 : List (MethodName × Nat) := [(⟨"RowCode", "forgetWork", "()V"⟩, 8), (⟨"RowCode$Judge", "argumentsFit", "()Z"⟩, 7), (⟨"RowCode$Judge", "labelsAreOnce", "()Z"⟩, 7), (⟨"RowCode$Judge", "goalsAreThere", "()Z"⟩, 7), (⟨"RowCode$Judge", "waysAgree", "()Z"⟩, 7), (⟨"RowCode$Judge", "arrives", "(II)Z"⟩, 7), (⟨"RowCode$Judge", "leavesRightly", "(I)Z"⟩, 7), (⟨"RowCode$Judge", "following", "(I)I"⟩, 7), (⟨"RowCode$Judge", "goal", "(I)I"⟩, 7), (⟨"RowCode$Judge", "roundsSpend", "()Z"⟩, 7), (⟨"RowCode$Judge", "isFree", "(I)Z"⟩, 7), (⟨"RowCode$Judge", "countComer", "(I)V"⟩, 7), (⟨"RowCode$Judge", "loseComer", "(I)V"⟩, 7), (⟨"RowCode$Improver", "copyReached", "(LRowCode$Code;LRowCode$Judge;)V"⟩, 4), (⟨"RowCode$Improver", "findPlaces", "()V"⟩, 4), (⟨"RowCode$Improver", "countUses", "()V"⟩, 4)]
theorem lw_r1 : ∀ q ∈ lw_privs_1, lw_okq q := List.forall_mem_cons.mpr ⟨lw_p0, List.forall_mem_cons.mpr ⟨lw_p1, List.forall_mem_cons.mpr ⟨lw_p2, List.forall_mem_cons.mpr ⟨lw_p3, List.forall_mem_cons.mpr ⟨lw_p4, List.forall_mem_cons.mpr ⟨lw_p5, List.forall_mem_cons.mpr ⟨lw_p6, List.forall_mem_cons.mpr ⟨lw_p7, List.forall_mem_cons.mpr ⟨lw_p8, List.forall_mem_cons.mpr ⟨lw_p9, List.forall_mem_cons.mpr ⟨lw_p10, List.forall_mem_cons.mpr ⟨lw_p11, List.forall_mem_cons.mpr ⟨lw_p12, List.forall_mem_cons.mpr ⟨lw_p13, List.forall_mem_cons.mpr ⟨lw_p14, List.forall_mem_cons.mpr ⟨lw_p15, fun _ h => absurd h List.not_mem_nil⟩⟩⟩⟩⟩⟩⟩⟩⟩⟩⟩⟩⟩⟩⟩⟩
theorem lw_p16 : lw_okq (⟨"RowCode$Improver", "farthest", "(I)I"⟩, 4) := ⟨⟨by decide +kernel, by decide +kernel⟩, List.mem_of_getElem? (i := 85) (by decide +kernel), List.mem_of_getElem? (i := 413) (by decide +kernel), List.mem_of_getElem? (i := 414) (by decide +kernel)⟩
theorem lw_p17 : lw_okq (⟨"RowCode$Improver", "rewrite", "()V"⟩, 4) := ⟨⟨by decide +kernel, by decide +kernel⟩, List.mem_of_getElem? (i := 85) (by decide +kernel), List.mem_of_getElem? (i := 418) (by decide +kernel), List.mem_of_getElem? (i := 419) (by decide +kernel)⟩
theorem lw_p18 : lw_okq (⟨"RowCode$Improver", "folds", "(II)Z"⟩, 4) := ⟨⟨by decide +kernel, by decide +kernel⟩, List.mem_of_getElem? (i := 85) (by decide +kernel), List.mem_of_getElem? (i := 422) (by decide +kernel), List.mem_of_getElem? (i := 423) (by decide +kernel)⟩
theorem lw_p19 : lw_okq (⟨"RowCode$Improver", "foldsOne", "(I)Z"⟩, 4) := ⟨⟨by decide +kernel, by decide +kernel⟩, List.mem_of_getElem? (i := 85) (by decide +kernel), List.mem_of_getElem? (i := 426) (by decide +kernel), List.mem_of_getElem? (i := 427) (by decide +kernel)⟩
theorem lw_p20 : lw_okq (⟨"RowCode$Improver", "foldsCalculation", "(I)Z"⟩, 4) := ⟨⟨by decide +kernel, by decide +kernel⟩, List.mem_of_getElem? (i := 85) (by decide +kernel), List.mem_of_getElem? (i := 450) (by decide +kernel), List.mem_of_getElem? (i := 451) (by decide +kernel)⟩
theorem lw_p21 : lw_okq (⟨"RowCode$Improver", "foldsComparison", "(I)Z"⟩, 4) := ⟨⟨by decide +kernel, by decide +kernel⟩, List.mem_of_getElem? (i := 85) (by decide +kernel), List.mem_of_getElem? (i := 463) (by decide +kernel), List.mem_of_getElem? (i := 464) (by decide +kernel)⟩
theorem lw_p22 : lw_okq (⟨"RowCode$Improver", "foldsDrop", "()Z"⟩, 4) := ⟨⟨by decide +kernel, by decide +kernel⟩, List.mem_of_getElem? (i := 85) (by decide +kernel), List.mem_of_getElem? (i := 473) (by decide +kernel), List.mem_of_getElem? (i := 474) (by decide +kernel)⟩
theorem lw_p23 : lw_okq (⟨"RowCode$Improver", "foldsCondition", "(II)Z"⟩, 4) := ⟨⟨by decide +kernel, by decide +kernel⟩, List.mem_of_getElem? (i := 85) (by decide +kernel), List.mem_of_getElem? (i := 477) (by decide +kernel), List.mem_of_getElem? (i := 478) (by decide +kernel)⟩
theorem lw_p24 : lw_okq (⟨"RowCode$Improver", "shortenWayTo", "(I)V"⟩, 4) := ⟨⟨by decide +kernel, by decide +kernel⟩, List.mem_of_getElem? (i := 85) (by decide +kernel), List.mem_of_getElem? (i := 484) (by decide +kernel), List.mem_of_getElem? (i := 485) (by decide +kernel)⟩
theorem lw_p25 : lw_okq (⟨"RowCode$Translator", "layRow", "(I)V"⟩, 5) := ⟨⟨by decide +kernel, by decide +kernel⟩, List.mem_of_getElem? (i := 108) (by decide +kernel), List.mem_of_getElem? (i := 495) (by decide +kernel), List.mem_of_getElem? (i := 496) (by decide +kernel)⟩
theorem lw_p26 : lw_okq (⟨"RowCode$Translator", "lay", "(II)V"⟩, 5) := ⟨⟨by decide +kernel, by decide +kernel⟩, List.mem_of_getElem? (i := 108) (by decide +kernel), List.mem_of_getElem? (i := 503) (by decide +kernel), List.mem_of_getElem? (i := 504) (by decide +kernel)⟩
theorem lw_p27 : lw_okq (⟨"RowCode$Translator", "storeLocal", "(I)V"⟩, 5) := ⟨⟨by decide +kernel, by decide +kernel⟩, List.mem_of_getElem? (i := 108) (by decide +kernel), List.mem_of_getElem? (i := 508) (by decide +kernel), List.mem_of_getElem? (i := 509) (by decide +kernel)⟩
theorem lw_p28 : lw_okq (⟨"RowCode$Translator", "settle", "(II)V"⟩, 5) := ⟨⟨by decide +kernel, by decide +kernel⟩, List.mem_of_getElem? (i := 108) (by decide +kernel), List.mem_of_getElem? (i := 514) (by decide +kernel), List.mem_of_getElem? (i := 515) (by decide +kernel)⟩
theorem lw_p29 : lw_okq (⟨"RowCode$Translator", "write", "(II)V"⟩, 5) := ⟨⟨by decide +kernel, by decide +kernel⟩, List.mem_of_getElem? (i := 108) (by decide +kernel), List.mem_of_getElem? (i := 518) (by decide +kernel), List.mem_of_getElem? (i := 519) (by decide +kernel)⟩
theorem lw_p30 : lw_okq (⟨"RowCode$Translator", "toA", "(I)V"⟩, 5) := ⟨⟨by decide +kernel, by decide +kernel⟩, List.mem_of_getElem? (i := 108) (by decide +kernel), List.mem_of_getElem? (i := 524) (by decide +kernel), List.mem_of_getElem? (i := 525) (by decide +kernel)⟩
theorem lw_p31 : lw_okq (⟨"RowCode$Translator", "drop", "(I)V"⟩, 5) := ⟨⟨by decide +kernel, by decide +kernel⟩, List.mem_of_getElem? (i := 108) (by decide +kernel), List.mem_of_getElem? (i := 529) (by decide +kernel), List.mem_of_getElem? (i := 530) (by decide +kernel)⟩
def lw_privs_2 : List (MethodName × Nat) := [(⟨"RowCode$Improver", "farthest", "(I)I"⟩, 4), (⟨"RowCode$Improver", "rewrite", "()V"⟩, 4), (⟨"RowCode$Improver", "folds", "(II)Z"⟩, 4), (⟨"RowCode$Improver", "foldsOne", "(I)Z"⟩, 4), (⟨"RowCode$Improver", "foldsCalculation", "(I)Z"⟩, 4), (⟨"RowCode$Improver", "foldsComparison", "(I)Z"⟩, 4), (⟨"RowCode$Improver", "foldsDrop", "()Z"⟩, 4), (⟨"RowCode$Improver", "foldsCondition", "(II)Z"⟩, 4), (⟨"RowCode$Improver", "shortenWayTo", "(I)V"⟩, 4), (⟨"RowCode$Translator", "layRow", "(I)V"⟩, 5), (⟨"RowCode$Translator", "lay", "(II)V"⟩, 5), (⟨"RowCode$Translator", "storeLocal", "(I)V"⟩, 5), (⟨"RowCode$Translator", "settle", "(II)V"⟩, 5), (⟨"RowCode$Translator", "write", "(II)V"⟩, 5), (⟨"RowCode$Translator", "toA", "(I)V"⟩, 5), (⟨"RowCode$Translator", "drop", "(I)V"⟩, 5)]
theorem lw_r2 : ∀ q ∈ lw_privs_2, lw_okq q := List.forall_mem_cons.mpr ⟨lw_p16, List.forall_mem_cons.mpr ⟨lw_p17, List.forall_mem_cons.mpr ⟨lw_p18, List.forall_mem_cons.mpr ⟨lw_p19, List.forall_mem_cons.mpr ⟨lw_p20, List.forall_mem_cons.mpr ⟨lw_p21, List.forall_mem_cons.mpr ⟨lw_p22, List.forall_mem_cons.mpr ⟨lw_p23, List.forall_mem_cons.mpr ⟨lw_p24, List.forall_mem_cons.mpr ⟨lw_p25, List.forall_mem_cons.mpr ⟨lw_p26, List.forall_mem_cons.mpr ⟨lw_p27, List.forall_mem_cons.mpr ⟨lw_p28, List.forall_mem_cons.mpr ⟨lw_p29, List.forall_mem_cons.mpr ⟨lw_p30, List.forall_mem_cons.mpr ⟨lw_p31, fun _ h => absurd h List.not_mem_nil⟩⟩⟩⟩⟩⟩⟩⟩⟩⟩⟩⟩⟩⟩⟩⟩
theorem lw_p32 : lw_okq (⟨"RowCode$Translator", "changeTop", "(I)V"⟩, 5) := ⟨⟨by decide +kernel, by decide +kernel⟩, List.mem_of_getElem? (i := 108) (by decide +kernel), List.mem_of_getElem? (i := 533) (by decide +kernel), List.mem_of_getElem? (i := 534) (by decide +kernel)⟩
theorem lw_p33 : lw_okq (⟨"RowCode$Translator", "meet", "(Z)Z"⟩, 5) := ⟨⟨by decide +kernel, by decide +kernel⟩, List.mem_of_getElem? (i := 108) (by decide +kernel), List.mem_of_getElem? (i := 537) (by decide +kernel), List.mem_of_getElem? (i := 538) (by decide +kernel)⟩
theorem lw_p34 : lw_okq (⟨"RowCode$Translator", "leaveInA", "()V"⟩, 5) := ⟨⟨by decide +kernel, by decide +kernel⟩, List.mem_of_getElem? (i := 108) (by decide +kernel), List.mem_of_getElem? (i := 544) (by decide +kernel), List.mem_of_getElem? (i := 545) (by decide +kernel)⟩
theorem lw_p35 : lw_okq (⟨"RowCode$Translator", "compareAndGo", "(III)V"⟩, 5) := ⟨⟨by decide +kernel, by decide +kernel⟩, List.mem_of_getElem? (i := 108) (by decide +kernel), List.mem_of_getElem? (i := 549) (by decide +kernel), List.mem_of_getElem? (i := 550) (by decide +kernel)⟩
theorem lw_p36 : lw_okq (⟨"RowCode$Translator", "compareAndKeep", "(I)V"⟩, 5) := ⟨⟨by decide +kernel, by decide +kernel⟩, List.mem_of_getElem? (i := 108) (by decide +kernel), List.mem_of_getElem? (i := 557) (by decide +kernel), List.mem_of_getElem? (i := 558) (by decide +kernel)⟩
theorem lw_p37 : lw_okq (⟨"RowCode$Translator", "goIf", "(II)V"⟩, 5) := ⟨⟨by decide +kernel, by decide +kernel⟩, List.mem_of_getElem? (i := 108) (by decide +kernel), List.mem_of_getElem? (i := 561) (by decide +kernel), List.mem_of_getElem? (i := 562) (by decide +kernel)⟩
theorem lw_p38 : lw_okq (⟨"RowCode$Translator", "goInCase", "(II)V"⟩, 5) := ⟨⟨by decide +kernel, by decide +kernel⟩, List.mem_of_getElem? (i := 108) (by decide +kernel), List.mem_of_getElem? (i := 569) (by decide +kernel), List.mem_of_getElem? (i := 570) (by decide +kernel)⟩
theorem lw_p39 : lw_okq (⟨"RowCode$Translator", "storeByte", "()V"⟩, 5) := ⟨⟨by decide +kernel, by decide +kernel⟩, List.mem_of_getElem? (i := 108) (by decide +kernel), List.mem_of_getElem? (i := 573) (by decide +kernel), List.mem_of_getElem? (i := 574) (by decide +kernel)⟩
theorem lw_p40 : lw_okq (⟨"RowCode$Program", "take", "(II)V"⟩, 3) := ⟨⟨by decide +kernel, by decide +kernel⟩, List.mem_of_getElem? (i := 132) (by decide +kernel), List.mem_of_getElem? (i := 585) (by decide +kernel), List.mem_of_getElem? (i := 586) (by decide +kernel)⟩
theorem lw_p41 : lw_okq (⟨"RowCode$Machine", "move", "(II)V"⟩, 8) := ⟨⟨by decide +kernel, by decide +kernel⟩, List.mem_of_getElem? (i := 163) (by decide +kernel), List.mem_of_getElem? (i := 607) (by decide +kernel), List.mem_of_getElem? (i := 608) (by decide +kernel)⟩
theorem lw_p42 : lw_okq (⟨"RowCode$Machine", "work", "(II)V"⟩, 8) := ⟨⟨by decide +kernel, by decide +kernel⟩, List.mem_of_getElem? (i := 163) (by decide +kernel), List.mem_of_getElem? (i := 620) (by decide +kernel), List.mem_of_getElem? (i := 621) (by decide +kernel)⟩
theorem lw_p43 : lw_okq (⟨"RowCode$Machine", "fetch", "()V"⟩, 8) := ⟨⟨by decide +kernel, by decide +kernel⟩, List.mem_of_getElem? (i := 163) (by decide +kernel), List.mem_of_getElem? (i := 628) (by decide +kernel), List.mem_of_getElem? (i := 629) (by decide +kernel)⟩
theorem lw_p44 : lw_okq (⟨"RowCode$Machine", "reaches", "(J)Z"⟩, 8) := ⟨⟨by decide +kernel, by decide +kernel⟩, List.mem_of_getElem? (i := 163) (by decide +kernel), List.mem_of_getElem? (i := 632) (by decide +kernel), List.mem_of_getElem? (i := 633) (by decide +kernel)⟩
theorem lw_p45 : lw_okq (⟨"RowCode$Machine", "store", "()V"⟩, 8) := ⟨⟨by decide +kernel, by decide +kernel⟩, List.mem_of_getElem? (i := 163) (by decide +kernel), List.mem_of_getElem? (i := 645) (by decide +kernel), List.mem_of_getElem? (i := 646) (by decide +kernel)⟩
theorem lw_p46 : lw_okq (⟨"RowCode$Machine", "combine", "(I)V"⟩, 8) := ⟨⟨by decide +kernel, by decide +kernel⟩, List.mem_of_getElem? (i := 163) (by decide +kernel), List.mem_of_getElem? (i := 653) (by decide +kernel), List.mem_of_getElem? (i := 654) (by decide +kernel)⟩
theorem lw_p47 : lw_okq (⟨"RowCode$Machine", "relateAndKeep", "(I)V"⟩, 8) := ⟨⟨by decide +kernel, by decide +kernel⟩, List.mem_of_getElem? (i := 163) (by decide +kernel), List.mem_of_getElem? (i := 660) (by decide +kernel), List.mem_of_getElem? (i := 661) (by decide +kernel)⟩
def lw_privs_3 : List (MethodName × Nat) := [(⟨"RowCode$Translator", "changeTop", "(I)V"⟩, 5), (⟨"RowCode$Translator", "meet", "(Z)Z"⟩, 5), (⟨"RowCode$Translator", "leaveInA", "()V"⟩, 5), (⟨"RowCode$Translator", "compareAndGo", "(III)V"⟩, 5), (⟨"RowCode$Translator", "compareAndKeep", "(I)V"⟩, 5), (⟨"RowCode$Translator", "goIf", "(II)V"⟩, 5), (⟨"RowCode$Translator", "goInCase", "(II)V"⟩, 5), (⟨"RowCode$Translator", "storeByte", "()V"⟩, 5), (⟨"RowCode$Program", "take", "(II)V"⟩, 3), (⟨"RowCode$Machine", "move", "(II)V"⟩, 8), (⟨"RowCode$Machine", "work", "(II)V"⟩, 8), (⟨"RowCode$Machine", "fetch", "()V"⟩, 8), (⟨"RowCode$Machine", "reaches", "(J)Z"⟩, 8), (⟨"RowCode$Machine", "store", "()V"⟩, 8), (⟨"RowCode$Machine", "combine", "(I)V"⟩, 8), (⟨"RowCode$Machine", "relateAndKeep", "(I)V"⟩, 8)]
theorem lw_r3 : ∀ q ∈ lw_privs_3, lw_okq q := List.forall_mem_cons.mpr ⟨lw_p32, List.forall_mem_cons.mpr ⟨lw_p33, List.forall_mem_cons.mpr ⟨lw_p34, List.forall_mem_cons.mpr ⟨lw_p35, List.forall_mem_cons.mpr ⟨lw_p36, List.forall_mem_cons.mpr ⟨lw_p37, List.forall_mem_cons.mpr ⟨lw_p38, List.forall_mem_cons.mpr ⟨lw_p39, List.forall_mem_cons.mpr ⟨lw_p40, List.forall_mem_cons.mpr ⟨lw_p41, List.forall_mem_cons.mpr ⟨lw_p42, List.forall_mem_cons.mpr ⟨lw_p43, List.forall_mem_cons.mpr ⟨lw_p44, List.forall_mem_cons.mpr ⟨lw_p45, List.forall_mem_cons.mpr ⟨lw_p46, List.forall_mem_cons.mpr ⟨lw_p47, fun _ h => absurd h List.not_mem_nil⟩⟩⟩⟩⟩⟩⟩⟩⟩⟩⟩⟩⟩⟩⟩⟩
theorem lw_p48 : lw_okq (⟨"RowCode$Machine", "fetchByte", "()V"⟩, 8) := ⟨⟨by decide +kernel, by decide +kernel⟩, List.mem_of_getElem? (i := 163) (by decide +kernel), List.mem_of_getElem? (i := 664) (by decide +kernel), List.mem_of_getElem? (i := 665) (by decide +kernel)⟩
theorem lw_p49 : lw_okq (⟨"RowCode$Machine", "byteAddress", "()J"⟩, 8) := ⟨⟨by decide +kernel, by decide +kernel⟩, List.mem_of_getElem? (i := 163) (by decide +kernel), List.mem_of_getElem? (i := 668) (by decide +kernel), List.mem_of_getElem? (i := 669) (by decide +kernel)⟩
theorem lw_p50 : lw_okq (⟨"RowCode$Machine", "storeByte", "(I)V"⟩, 8) := ⟨⟨by decide +kernel, by decide +kernel⟩, List.mem_of_getElem? (i := 163) (by decide +kernel), List.mem_of_getElem? (i := 672) (by decide +kernel), List.mem_of_getElem? (i := 673) (by decide +kernel)⟩
theorem lw_p51 : lw_okq (⟨"RowCode$Machine", "pay", "()V"⟩, 8) := ⟨⟨by decide +kernel, by decide +kernel⟩, List.mem_of_getElem? (i := 163) (by decide +kernel), List.mem_of_getElem? (i := 676) (by decide +kernel), List.mem_of_getElem? (i := 677) (by decide +kernel)⟩
theorem lw_p52 : lw_okq (⟨"RowCode$Machine", "jumps", "(I)Z"⟩, 8) := ⟨⟨by decide +kernel, by decide +kernel⟩, List.mem_of_getElem? (i := 163) (by decide +kernel), List.mem_of_getElem? (i := 680) (by decide +kernel), List.mem_of_getElem? (i := 681) (by decide +kernel)⟩
theorem lw_p53 : lw_okq (⟨"java/lang/Throwable", "fillInStackTrace", "(I)Ljava/lang/Throwable;"⟩, 6) := ⟨⟨by decide +kernel, by decide +kernel⟩, List.mem_of_getElem? (i := 750) (by decide +kernel), List.mem_of_getElem? (i := 748) (by decide +kernel), List.mem_of_getElem? (i := 749) (by decide +kernel)⟩
theorem lw_p54 : lw_okq (⟨"RowCodeModel", "isSaid", "()Z"⟩, 12) := ⟨⟨by decide +kernel, by decide +kernel⟩, List.mem_of_getElem? (i := 789) (by decide +kernel), List.mem_of_getElem? (i := 849) (by decide +kernel), List.mem_of_getElem? (i := 850) (by decide +kernel)⟩
theorem lw_p55 : lw_okq (⟨"RowCodeModel", "place", "(I)I"⟩, 12) := ⟨⟨by decide +kernel, by decide +kernel⟩, List.mem_of_getElem? (i := 789) (by decide +kernel), List.mem_of_getElem? (i := 859) (by decide +kernel), List.mem_of_getElem? (i := 860) (by decide +kernel)⟩
theorem lw_p56 : lw_okq (⟨"RowCodeModel", "isEven", "()Z"⟩, 12) := ⟨⟨by decide +kernel, by decide +kernel⟩, List.mem_of_getElem? (i := 789) (by decide +kernel), List.mem_of_getElem? (i := 863) (by decide +kernel), List.mem_of_getElem? (i := 864) (by decide +kernel)⟩
theorem lw_p57 : lw_okq (⟨"RowCodeModel", "way", "(II)I"⟩, 12) := ⟨⟨by decide +kernel, by decide +kernel⟩, List.mem_of_getElem? (i := 789) (by decide +kernel), List.mem_of_getElem? (i := 873) (by decide +kernel), List.mem_of_getElem? (i := 874) (by decide +kernel)⟩
theorem lw_p58 : lw_okq (⟨"RowCodeModel", "comes", "(II)Z"⟩, 12) := ⟨⟨by decide +kernel, by decide +kernel⟩, List.mem_of_getElem? (i := 789) (by decide +kernel), List.mem_of_getElem? (i := 877) (by decide +kernel), List.mem_of_getElem? (i := 878) (by decide +kernel)⟩
theorem lw_p59 : lw_okq (⟨"RowCodeModel", "isSpent", "()Z"⟩, 12) := ⟨⟨by decide +kernel, by decide +kernel⟩, List.mem_of_getElem? (i := 789) (by decide +kernel), List.mem_of_getElem? (i := 881) (by decide +kernel), List.mem_of_getElem? (i := 882) (by decide +kernel)⟩
theorem lw_p60 : lw_okq (⟨"RowCodeModel", "pop", "()I"⟩, 12) := ⟨⟨by decide +kernel, by decide +kernel⟩, List.mem_of_getElem? (i := 789) (by decide +kernel), List.mem_of_getElem? (i := 890) (by decide +kernel), List.mem_of_getElem? (i := 891) (by decide +kernel)⟩
theorem lw_p61 : lw_okq (⟨"RowCodeModel", "does", "(II)I"⟩, 12) := ⟨⟨by decide +kernel, by decide +kernel⟩, List.mem_of_getElem? (i := 789) (by decide +kernel), List.mem_of_getElem? (i := 894) (by decide +kernel), List.mem_of_getElem? (i := 895) (by decide +kernel)⟩
theorem lw_p62 : lw_okq (⟨"RowCodeModel", "push", "(I)V"⟩, 12) := ⟨⟨by decide +kernel, by decide +kernel⟩, List.mem_of_getElem? (i := 789) (by decide +kernel), List.mem_of_getElem? (i := 898) (by decide +kernel), List.mem_of_getElem? (i := 899) (by decide +kernel)⟩
theorem lw_p63 : lw_okq (⟨"RowCodeModel", "sets", "()I"⟩, 12) := ⟨⟨by decide +kernel, by decide +kernel⟩, List.mem_of_getElem? (i := 789) (by decide +kernel), List.mem_of_getElem? (i := 912) (by decide +kernel), List.mem_of_getElem? (i := 913) (by decide +kernel)⟩
def lw_privs_4 : List (MethodName × Nat) := [(⟨"RowCode$Machine", "fetchByte", "()V"⟩, 8), (⟨"RowCode$Machine", "byteAddress", "()J"⟩, 8), (⟨"RowCode$Machine", "storeByte", "(I)V"⟩, 8), (⟨"RowCode$Machine", "pay", "()V"⟩, 8), (⟨"RowCode$Machine", "jumps", "(I)Z"⟩, 8), (⟨"java/lang/Throwable", "fillInStackTrace", "(I)Ljava/lang/Throwable;"⟩, 6), (⟨"RowCodeModel", "isSaid", "()Z"⟩, 12), (⟨"RowCodeModel", "place", "(I)I"⟩, 12), (⟨"RowCodeModel", "isEven", "()Z"⟩, 12), (⟨"RowCodeModel", "way", "(II)I"⟩, 12), (⟨"RowCodeModel", "comes", "(II)Z"⟩, 12), (⟨"RowCodeModel", "isSpent", "()Z"⟩, 12), (⟨"RowCodeModel", "pop", "()I"⟩, 12), (⟨"RowCodeModel", "does", "(II)I"⟩, 12), (⟨"RowCodeModel", "push", "(I)V"⟩, 12), (⟨"RowCodeModel", "sets", "()I"⟩, 12)]
theorem lw_r4 : ∀ q ∈ lw_privs_4, lw_okq q := List.forall_mem_cons.mpr ⟨lw_p48, List.forall_mem_cons.mpr ⟨lw_p49, List.forall_mem_cons.mpr ⟨lw_p50, List.forall_mem_cons.mpr ⟨lw_p51, List.forall_mem_cons.mpr ⟨lw_p52, List.forall_mem_cons.mpr ⟨lw_p53, List.forall_mem_cons.mpr ⟨lw_p54, List.forall_mem_cons.mpr ⟨lw_p55, List.forall_mem_cons.mpr ⟨lw_p56, List.forall_mem_cons.mpr ⟨lw_p57, List.forall_mem_cons.mpr ⟨lw_p58, List.forall_mem_cons.mpr ⟨lw_p59, List.forall_mem_cons.mpr ⟨lw_p60, List.forall_mem_cons.mpr ⟨lw_p61, List.forall_mem_cons.mpr ⟨lw_p62, List.forall_mem_cons.mpr ⟨lw_p63, fun _ h => absurd h List.not_mem_nil⟩⟩⟩⟩⟩⟩⟩⟩⟩⟩⟩⟩⟩⟩⟩⟩
theorem lw_p64 : lw_okq (⟨"RowCodeModel", "goesOn", "(I)I"⟩, 12) := ⟨⟨by decide +kernel, by decide +kernel⟩, List.mem_of_getElem? (i := 789) (by decide +kernel), List.mem_of_getElem? (i := 916) (by decide +kernel), List.mem_of_getElem? (i := 917) (by decide +kernel)⟩
def lw_privs_5 : List (MethodName × Nat) := [(⟨"RowCodeModel", "goesOn", "(I)I"⟩, 12)]
theorem lw_r5 : ∀ q ∈ lw_privs_5, lw_okq q := List.forall_mem_cons.mpr ⟨lw_p64, fun _ h => absurd h List.not_mem_nil⟩
def lw_privs : List (MethodName × Nat) := lw_privs_1 ++ (lw_privs_2 ++ (lw_privs_3 ++ (lw_privs_4 ++ (lw_privs_5))))
def lw_tbl : List Cond := k2_sels lw_privs ++ tables_1
theorem lw_privs_ok : ∀ q ∈ lw_privs, lw_okq q := by
  show ∀ q ∈ lw_privs_1 ++ (lw_privs_2 ++ (lw_privs_3 ++ (lw_privs_4 ++ (lw_privs_5)))), lw_okq q
  exact List.forall_mem_append.mpr ⟨lw_r1, List.forall_mem_append.mpr ⟨lw_r2, List.forall_mem_append.mpr ⟨lw_r3, List.forall_mem_append.mpr ⟨lw_r4, lw_r5⟩⟩⟩⟩
-- ===== end of PART A; then your names; then what follows =====
end
section
def RX0 : String := "RowCode$Arithmetic"
def TX0 : u_T := fun k => match k with
  | _ => ("", "", "", false)
def tyX0 : Nat → FieldType := fun k => match k with
  | _ => .int
theorem nmX0 : ∀ a, a < 0 → ∀ b, b < 0 → a ≠ b → (TX0 a).2.1 ≠ (TX0 b).2.1 := by decide +kernel
theorem tyX0_ok : ∀ k, k < 0 → parseFieldDescriptor (TX0 k).2.2.1 = some (tyX0 k) := by decide +kernel
theorem inX0 : ∀ w ∈ u_ws RX0 TX0 0, w ∈ lw_tbl := by decide +kernel
def RX1 : String := "RowCode$Code"
def TX1 : u_T := fun k => match k with
  | 0 => ("RowCode$Code", "numbers", "LRowCode$Numbers;", true)
  | _ => ("RowCode$Code", "arguments", "LRowCode$Numbers;", true)
def tyX1 : Nat → FieldType := fun k => match k with
  | 0 => .object "RowCode$Numbers"
  | _ => .object "RowCode$Numbers"
theorem nmX1 : ∀ a, a < 2 → ∀ b, b < 2 → a ≠ b → (TX1 a).2.1 ≠ (TX1 b).2.1 := by decide +kernel
theorem tyX1_ok : ∀ k, k < 2 → parseFieldDescriptor (TX1 k).2.2.1 = some (tyX1 k) := by decide +kernel
theorem inX1 : ∀ w ∈ u_ws RX1 TX1 2, w ∈ lw_tbl := by decide +kernel
def RX2 : String := "RowCode$Improver"
def TX2 : u_T := fun k => match k with
  | 0 => ("RowCode$Improver", "places", "LRowCode$Numbers;", true)
  | 1 => ("RowCode$Improver", "uses", "LRowCode$Numbers;", true)
  | 2 => ("RowCode$Improver", "from", "LRowCode$Code;", false)
  | _ => ("RowCode$Improver", "into", "LRowCode$Code;", false)
def tyX2 : Nat → FieldType := fun k => match k with
  | 0 => .object "RowCode$Numbers"
  | 1 => .object "RowCode$Numbers"
  | 2 => .object "RowCode$Code"
  | _ => .object "RowCode$Code"
theorem nmX2 : ∀ a, a < 4 → ∀ b, b < 4 → a ≠ b → (TX2 a).2.1 ≠ (TX2 b).2.1 := by decide +kernel
theorem tyX2_ok : ∀ k, k < 4 → parseFieldDescriptor (TX2 k).2.2.1 = some (tyX2 k) := by decide +kernel
theorem inX2 : ∀ w ∈ u_ws RX2 TX2 4, w ∈ lw_tbl := by decide +kernel
def RX3 : String := "RowCode$Judge"
def TX3 : u_T := fun k => match k with
  | 0 => ("RowCode$Judge", "code", "LRowCode$Code;", true)
  | 1 => ("RowCode$Judge", "places", "LRowCode$Numbers;", true)
  | 2 => ("RowCode$Judge", "depths", "LRowCode$Numbers;", true)
  | 3 => ("RowCode$Judge", "comers", "LRowCode$Numbers;", true)
  | 4 => ("RowCode$Judge", "waiting", "LRowCode$Numbers;", true)
  | 5 => ("RowCode$Judge", "isJudged", "Z", false)
  | _ => ("RowCode$Judge", "isRight", "Z", false)
def tyX3 : Nat → FieldType := fun k => match k with
  | 0 => .object "RowCode$Code"
  | 1 => .object "RowCode$Numbers"
  | 2 => .object "RowCode$Numbers"
  | 3 => .object "RowCode$Numbers"
  | 4 => .object "RowCode$Numbers"
  | 5 => .boolean
  | _ => .boolean
theorem nmX3 : ∀ a, a < 7 → ∀ b, b < 7 → a ≠ b → (TX3 a).2.1 ≠ (TX3 b).2.1 := by decide +kernel
theorem tyX3_ok : ∀ k, k < 7 → parseFieldDescriptor (TX3 k).2.2.1 = some (tyX3 k) := by decide +kernel
theorem inX3 : ∀ w ∈ u_ws RX3 TX3 7, w ∈ lw_tbl := by decide +kernel
def RX4 : String := "RowCode$Machine"
def TX4 : u_T := fun k => match k with
  | 0 => ("RowCode$Machine", "memory", "LRowCode$Memory;", true)
  | 1 => ("RowCode$Machine", "slots", "LRowCode$Numbers;", true)
  | 2 => ("RowCode$Machine", "a", "I", false)
  | 3 => ("RowCode$Machine", "b", "I", false)
  | 4 => ("RowCode$Machine", "at", "I", false)
  | 5 => ("RowCode$Machine", "state", "I", false)
  | 6 => ("RowCode$Machine", "endValue", "I", false)
  | _ => ("RowCode$Machine", "fuelLeft", "I", false)
def tyX4 : Nat → FieldType := fun k => match k with
  | 0 => .object "RowCode$Memory"
  | 1 => .object "RowCode$Numbers"
  | 2 => .int
  | 3 => .int
  | 4 => .int
  | 5 => .int
  | 6 => .int
  | _ => .int
theorem nmX4 : ∀ a, a < 8 → ∀ b, b < 8 → a ≠ b → (TX4 a).2.1 ≠ (TX4 b).2.1 := by decide +kernel
theorem tyX4_ok : ∀ k, k < 8 → parseFieldDescriptor (TX4 k).2.2.1 = some (tyX4 k) := by decide +kernel
theorem inX4 : ∀ w ∈ u_ws RX4 TX4 8, w ∈ lw_tbl := by decide +kernel
def RX5 : String := "RowCode$Memory"
def TX5 : u_T := fun k => match k with
  | 0 => ("RowCode$Memory", "locals", "[I", true)
  | _ => ("RowCode$Memory", "words", "[I", true)
def tyX5 : Nat → FieldType := fun k => match k with
  | 0 => .array .int
  | _ => .array .int
theorem nmX5 : ∀ a, a < 2 → ∀ b, b < 2 → a ≠ b → (TX5 a).2.1 ≠ (TX5 b).2.1 := by decide +kernel
theorem tyX5_ok : ∀ k, k < 2 → parseFieldDescriptor (TX5 k).2.2.1 = some (tyX5 k) := by decide +kernel
theorem inX5 : ∀ w ∈ u_ws RX5 TX5 2, w ∈ lw_tbl := by decide +kernel
def RX6 : String := "RowCode$Numbers"
def TX6 : u_T := fun k => match k with
  | 0 => ("RowCode$Numbers", "items", "[I", false)
  | _ => ("RowCode$Numbers", "count", "I", false)
def tyX6 : Nat → FieldType := fun k => match k with
  | 0 => .array .int
  | _ => .int
theorem nmX6 : ∀ a, a < 2 → ∀ b, b < 2 → a ≠ b → (TX6 a).2.1 ≠ (TX6 b).2.1 := by decide +kernel
theorem tyX6_ok : ∀ k, k < 2 → parseFieldDescriptor (TX6 k).2.2.1 = some (tyX6 k) := by decide +kernel
theorem inX6 : ∀ w ∈ u_ws RX6 TX6 2, w ∈ lw_tbl := by decide +kernel
def RX7 : String := "RowCode$Program"
def TX7 : u_T := fun k => match k with
  | 0 => ("RowCode$Program", "numbers", "LRowCode$Numbers;", true)
  | 1 => ("RowCode$Program", "arguments", "LRowCode$Numbers;", true)
  | _ => ("RowCode$Program", "places", "LRowCode$Numbers;", true)
def tyX7 : Nat → FieldType := fun k => match k with
  | 0 => .object "RowCode$Numbers"
  | 1 => .object "RowCode$Numbers"
  | _ => .object "RowCode$Numbers"
theorem nmX7 : ∀ a, a < 3 → ∀ b, b < 3 → a ≠ b → (TX7 a).2.1 ≠ (TX7 b).2.1 := by decide +kernel
theorem tyX7_ok : ∀ k, k < 3 → parseFieldDescriptor (TX7 k).2.2.1 = some (tyX7 k) := by decide +kernel
theorem inX7 : ∀ w ∈ u_ws RX7 TX7 3, w ∈ lw_tbl := by decide +kernel
def RX8 : String := "RowCode$Translator"
def TX8 : u_T := fun k => match k with
  | 0 => ("RowCode$Translator", "image", "LRowCode$Numbers;", true)
  | 1 => ("RowCode$Translator", "kinds", "LRowCode$Numbers;", true)
  | 2 => ("RowCode$Translator", "details", "LRowCode$Numbers;", true)
  | 3 => ("RowCode$Translator", "inA", "I", false)
  | _ => ("RowCode$Translator", "inB", "I", false)
def tyX8 : Nat → FieldType := fun k => match k with
  | 0 => .object "RowCode$Numbers"
  | 1 => .object "RowCode$Numbers"
  | 2 => .object "RowCode$Numbers"
  | 3 => .int
  | _ => .int
theorem nmX8 : ∀ a, a < 5 → ∀ b, b < 5 → a ≠ b → (TX8 a).2.1 ≠ (TX8 b).2.1 := by decide +kernel
theorem tyX8_ok : ∀ k, k < 5 → parseFieldDescriptor (TX8 k).2.2.1 = some (tyX8 k) := by decide +kernel
theorem inX8 : ∀ w ∈ u_ws RX8 TX8 5, w ∈ lw_tbl := by decide +kernel
def RX9 : String := "RowCode"
def TX9 : u_T := fun k => match k with
  | 0 => ("RowCode", "code", "LRowCode$Code;", true)
  | 1 => ("RowCode", "judge", "LRowCode$Judge;", true)
  | 2 => ("RowCode", "improver", "LRowCode$Improver;", true)
  | 3 => ("RowCode", "translator", "LRowCode$Translator;", true)
  | 4 => ("RowCode", "program", "LRowCode$Program;", true)
  | 5 => ("RowCode", "memory", "LRowCode$Memory;", true)
  | 6 => ("RowCode", "machine", "LRowCode$Machine;", true)
  | _ => ("RowCode", "isLoaded", "Z", false)
def tyX9 : Nat → FieldType := fun k => match k with
  | 0 => .object "RowCode$Code"
  | 1 => .object "RowCode$Judge"
  | 2 => .object "RowCode$Improver"
  | 3 => .object "RowCode$Translator"
  | 4 => .object "RowCode$Program"
  | 5 => .object "RowCode$Memory"
  | 6 => .object "RowCode$Machine"
  | _ => .boolean
theorem nmX9 : ∀ a, a < 8 → ∀ b, b < 8 → a ≠ b → (TX9 a).2.1 ≠ (TX9 b).2.1 := by decide +kernel
theorem tyX9_ok : ∀ k, k < 8 → parseFieldDescriptor (TX9 k).2.2.1 = some (tyX9 k) := by decide +kernel
theorem inX9 : ∀ w ∈ u_ws RX9 TX9 8, w ∈ lw_tbl := by decide +kernel
def RX10 : String := "RowCodeModel"
def TX10 : u_T := fun k => match k with
  | 0 => ("RowCodeModel", "thrown", "I", false)
  | 1 => ("RowCodeModel", "size", "I", false)
  | 2 => ("RowCodeModel", "numbers", "[I", true)
  | 3 => ("RowCodeModel", "args", "[I", true)
  | 4 => ("RowCodeModel", "locals", "[I", true)
  | 5 => ("RowCodeModel", "words", "[I", true)
  | 6 => ("RowCodeModel", "value", "I", false)
  | 7 => ("RowCodeModel", "fuel", "I", false)
  | 8 => ("RowCodeModel", "heights", "[I", true)
  | 9 => ("RowCodeModel", "gone", "[Z", true)
  | 10 => ("RowCodeModel", "row", "[I", true)
  | _ => ("RowCodeModel", "high", "I", false)
def tyX10 : Nat → FieldType := fun k => match k with
  | 0 => .int
  | 1 => .int
  | 2 => .array .int
  | 3 => .array .int
  | 4 => .array .int
  | 5 => .array .int
  | 6 => .int
  | 7 => .int
  | 8 => .array .int
  | 9 => .array .boolean
  | 10 => .array .int
  | _ => .int
theorem nmX10 : ∀ a, a < 12 → ∀ b, b < 12 → a ≠ b → (TX10 a).2.1 ≠ (TX10 b).2.1 := by decide +kernel
theorem tyX10_ok : ∀ k, k < 12 → parseFieldDescriptor (TX10 k).2.2.1 = some (tyX10 k) := by decide +kernel
theorem inX10 : ∀ w ∈ u_ws RX10 TX10 12, w ∈ lw_tbl := by decide +kernel
abbrev mx_cl : List vw_C := [(RX0, TX0, 0), (RX1, TX1, 2), (RX2, TX2, 4), (RX3, TX3, 7), (RX4, TX4, 8), (RX5, TX5, 2), (RX6, TX6, 2), (RX7, TX7, 3), (RX8, TX8, 5), (RX9, TX9, 8), (RX10, TX10, 12)]
end
section
/-! THE SMALL MACHINE. A heap of cells by their addresses; an instruction is a function of locals, stack and heap; calls are big steps. -/
/-- an array (of booleans, else of ints), or an object by its class's number and its fields -/
abbrev mx_C : Type := (Bool × Nat × (Nat → Int32)) ⊕ (Nat × List Value)
/-- static arrays: where the k-th lies; what lies there -/
abbrev mx_G : Type := (Nat → Nat) × (Nat → Option (Nat × (Nat → Int32)))
/-- size, slots made, cells, static arrays -/
abbrev mx_H : Type := Nat × Nat × (Nat → Option mx_C) × mx_G
abbrev mx_L : Type := List (Nat × Value)
abbrev mx_S : Type := Nat × mx_L × List Value × mx_H
abbrev mx_F : Type := mx_L → List Value → mx_H → Option mx_S
/-- a plain instruction; a call (method, how many values it takes, the receiver's class where it is looked at, the callee's locals); a return -/
abbrev mx_E : Type := mx_F ⊕ ((Nat × Nat × Option (Option Nat) × Nat) ⊕ Option FieldType)
def mx_get (h : mx_H) (a : Nat) : Option mx_C := h.2.2.1 a
def mx_set (h : mx_H) (a : Nat) (c : mx_C) : mx_H := (h.1, h.2.1, fun q => if q = a then some c else h.2.2.1 q, h.2.2.2)
def mx_push (h : mx_H) (n : Nat) (c : mx_C) : mx_H := (h.1 + 1, h.2.1 + n, fun q => if q = h.1 then some c else h.2.2.1 q, h.2.2.2)
def mx_lget (lv : mx_L) (i : Nat) : Option Value := (lv.find? (fun q => q.1 == i)).map (fun q => q.2)
def mx_ins : mx_L → Nat → Value → mx_L
  | [], i, v => [(i, v)]
  | q :: r, i, v => if q.1 = i then (i, v) :: r.filter (fun x => !(x.1 == i)) else q :: mx_ins r i v
def mx_lset (lv : mx_L) (i : Nat) (v : Value) : mx_L := mx_ins (lv.filter (fun q => !(q.1 + 1 == i && q.2.category == 2))) i v
def mx_lset2 (lv : mx_L) (i : Nat) (v : Value) : mx_L := mx_ins (lv.filter (fun q => !(q.1 == i + 1) && !(q.1 + 1 == i && q.2.category == 2))) i v
def mx_rok (ty : FieldType) (v : Value) : Bool := match ty, v with
  | .object _, .ref _ => true
  | .object _, .null => true
  | .array _, .ref _ => true
  | .array _, .null => true
  | .long, .long _ => true
  | .int, .int _ => true
  | .boolean, .int x => decide (narrow .boolean (.int x) = .int x)
  | _, _ => false
def mx_ret : Option FieldType → List Value → mx_H → Option (Option Value × mx_H)
  | none, [], h => some (none, h)
  | some ty, [v], h => if mx_rok ty v = true then some (some v, h) else none
  | _, _, _ => none
def mx_rcv (r : Option (Option Nat)) (as : List Value) (h : mx_H) : Bool := match r, as with
  | none, _ => true
  | some none, .ref _ :: _ => true
  | some (some ci), .ref b :: _ => (match mx_get h b with
    | some (.inr o) => decide (o.1 = ci)
    | _ => false)
  | _, _ => false
def mx_cok (c : Nat × Nat × Option (Option Nat) × Nat) (st : List Value) (h : mx_H) : Bool :=
  decide (c.2.1 ≤ st.length) && (decide (((st.drop c.2.1).map fun v => v.category).sum ≤ 8) && (decide ((lg_sl (st.take c.2.1).reverse).length ≤ c.2.2.2) && mx_rcv c.2.2.1 (st.take c.2.1).reverse h))
def mx_exec (M : Nat → Nat → Option mx_E) : Nat → Nat → Nat → mx_L → List Value → mx_H → Option (Option Value × mx_H)
  | 0, _, _, _, _, _ => none
  | n + 1, mi, pc, lv, st, h => match M mi pc with
    | none => none
    | some (.inl f) => (match f lv st h with
      | none => none
      | some q => mx_exec M n mi q.1 q.2.1 q.2.2.1 q.2.2.2)
    | some (.inr (.inl c)) => if mx_cok c st h = true then
        (match mx_exec M n c.1 0 (lv_args 0 (st.take c.2.1).reverse) [] h with
        | none => none
        | some q => mx_exec M n mi (pc + 3) lv (q.1.toList ++ st.drop c.2.1) q.2) else none
    | some (.inr (.inr ty)) => mx_ret ty st h
theorem mx_exec_up (M : Nat → Nat → Option mx_E) : ∀ (n mi pc : Nat) (lv : mx_L) (st : List Value) (h : mx_H) (r : Option Value × mx_H), mx_exec M n mi pc lv st h = some r → mx_exec M (n + 1) mi pc lv st h = some r := by
  intro n
  induction n with
  | zero => intro mi pc lv st h r e; simp [mx_exec] at e
  | succ n ih =>
    intro mi pc lv st h r e
    rw [mx_exec] at e ⊢
    cases hM : M mi pc with
    | none => rw [hM] at e; cases e
    | some x =>
      rw [hM] at e
      rcases x with f | c | ty
      · cases hq : f lv st h with
        | none => simp only [hq] at e; cases e
        | some q =>
          simp only [hq] at e ⊢
          exact ih _ _ _ _ _ _ e
      · by_cases hk : mx_cok c st h = true
        · simp only [hk, if_true] at e ⊢
          cases hq : mx_exec M n c.1 0 (lv_args 0 (st.take c.2.1).reverse) [] h with
          | none => simp only [hq] at e; cases e
          | some q =>
            simp only [hq] at e
            simp only [ih _ _ _ _ _ _ hq]
            exact ih _ _ _ _ _ _ e
        · simp only [hk] at e
          cases e
      · exact e
theorem mx_exec_le (M : Nat → Nat → Option mx_E) {n k mi pc : Nat} {lv : mx_L} {st : List Value} {h : mx_H} {r : Option Value × mx_H} (hk : n ≤ k) (e : mx_exec M n mi pc lv st h = some r) : mx_exec M k mi pc lv st h = some r := by
  induction hk with
  | refl => exact e
  | step _ ih => exact mx_exec_up M _ _ _ _ _ _ _ ih
/-- what a run comes to, whatever the fuel -/
def mx_to (M : Nat → Nat → Option mx_E) (mi pc : Nat) (lv : mx_L) (st : List Value) (h : mx_H) (r : Option Value × mx_H) : Prop := ∃ n, mx_exec M n mi pc lv st h = some r
theorem mx_to.step {M : Nat → Nat → Option mx_E} {mi pc pc' : Nat} {lv lv' : mx_L} {st st' : List Value} {h h' : mx_H} {r : Option Value × mx_H} {f : mx_F} (hM : M mi pc = some (.inl f)) (hf : f lv st h = some (pc', lv', st', h')) (k : mx_to M mi pc' lv' st' h' r) : mx_to M mi pc lv st h r := by
  obtain ⟨n, e⟩ := k
  exact ⟨n + 1, by rw [mx_exec, hM]; simp only [hf]; exact e⟩
theorem mx_to.call {M : Nat → Nat → Option mx_E} {mi pc : Nat} {lv : mx_L} {st : List Value} {h : mx_H} {r : Option Value × mx_H} {c : Nat × Nat × Option (Option Nat) × Nat} {q : Option Value × mx_H} (hM : M mi pc = some (.inr (.inl c))) (hc : mx_cok c st h = true) (hq : mx_to M c.1 0 (lv_args 0 (st.take c.2.1).reverse) [] h q) (k : mx_to M mi (pc + 3) lv (q.1.toList ++ st.drop c.2.1) q.2 r) : mx_to M mi pc lv st h r := by
  obtain ⟨n1, e1⟩ := hq
  obtain ⟨n2, e2⟩ := k
  refine ⟨max n1 n2 + 1, ?_⟩
  rw [mx_exec, hM]
  simp only [hc, if_true, mx_exec_le M (Nat.le_max_left n1 n2) e1]
  exact mx_exec_le M (Nat.le_max_right n1 n2) e2
theorem mx_to.ret {M : Nat → Nat → Option mx_E} {mi pc : Nat} {lv : mx_L} {st : List Value} {h : mx_H} {r : Option Value × mx_H} {ty : Option FieldType} (hM : M mi pc = some (.inr (.inr ty))) (hr : mx_ret ty st h = some r) : mx_to M mi pc lv st h r := ⟨1, by rw [mx_exec, hM]; exact hr⟩
end
section
/-! WHAT THE SMALL MACHINE MEANS ON THE MACHINE ITSELF -/
def mx_e (cI cZ : ClassId) : mx_C → va_E
  | .inl a => .inl (if a.1 = true then cZ else cI, a.2.1, .inl a.2.2)
  | .inr o => .inr o
abbrev mx_tys (cI cZ : ClassId) : List (ClassId × FieldType) := [(cI, .int), (cZ, .boolean)]
def mx_A (h : mx_H) : Nat → Prop := fun q => (mx_get h q).isSome = true ∨ h.1 ≤ q
/-- the heap holds the cells, which lie in A -/
def mx_R (D : va_G) (cI cZ : ClassId) (A : Nat → Prop) (g : mx_G) (h : mx_H) (H : Heap) : Prop :=
  H.size = h.1 ∧ h.2.2.2 = g ∧ ∀ (a : Nat) (c : mx_C), mx_get h a = some c → va_at D mx_cl (a, mx_e cI cZ c) H ∧ A a
def mx_sts : List (String × String × String) := [("RowCode", "GREATEST", "[I"), ("RowCode", "TAKES", "[I"), ("RowCode", "GIVES", "[I")]
def mx_Z (A : Nat → Prop) (g : mx_G) (U : State) (H : Heap) : Prop :=
  (∀ (k : Nat) (q : String × String × String), mx_sts[k]? = some q → va_Z q.1 q.2.1 q.2.2 (.ref (g.1 k)) A U H) ∧ ∀ (a n : Nat) (f : Nat → Int32), g.2 a = some (n, f) → va_T .int a n (fun j => .int (f j)) A U H
def mx_isn (w : Cond) : Bool := match w with
  | .fieldLinkNest .. => true
  | .methodLinkNest .. => true
  | _ => false
/-- the words that every method's contract asks for, and those on nest mates -/
def mx_tb : List Cond := lw_tbl.filter (fun w => goodWord w || k2_isCode w)
def mx_nst : List Cond := lw_tbl.filter mx_isn
theorem mx_tb_good : ∀ w ∈ mx_tb, w ∈ lw_tbl ∧ ((w.onTables && w.keeps) = true ∨ ∃ ty, w = .arrayClass ty) := by
  intro w hw
  obtain ⟨h1, h2⟩ := List.mem_filter.mp hw
  refine ⟨h1, ?_⟩
  rcases (Bool.or_eq_true _ _).mp h2 with h | h
  · exact good_of_word h
  · cases w <;> first | (simp [k2_isCode] at h; done) | exact Or.inl rfl
theorem mx_tb_in {w : Cond} (h : w ∈ lw_tbl) (hg : (goodWord w || k2_isCode w) = true) : w ∈ mx_tb := List.mem_filter.mpr ⟨h, hg⟩
theorem mx_nst_in {w : Cond} (h : w ∈ lw_tbl) (hg : mx_isn w = true) : w ∈ mx_nst := List.mem_filter.mpr ⟨h, hg⟩
theorem mx_nst_warm {s U : State} (hW : s.WarmedH U.vm) (h : ∀ w ∈ mx_nst, va_Nw w s) : ∀ w ∈ mx_nst, va_Nw w U := by
  intro w hw
  have h1 := h w hw
  have h2 := (List.mem_filter.mp hw).2
  cases w <;> first | (simp [mx_isn] at h2; done) | exact va_Nw.warmF hW h1 | exact va_Nw.warmM hW h1
theorem mx_nst_same {u U : State} (hv : u.vm = U.vm) (h : ∀ w ∈ mx_nst, va_Nw w u) : ∀ w ∈ mx_nst, va_Nw w U := by
  intro w hw
  have h1 := h w hw
  have h2 := (List.mem_filter.mp hw).2
  cases w <;> first | (simp [mx_isn] at h2; done) | exact va_Nw.same rfl hv h1
/-- a frame of a method of class 'own': what holds all along -/
def mx_X (own ynm : String) (cc : ByteArray) (nL : Nat) (ret : Option FieldType) (p : Program) (R : Room) (s : State) (m : MethodId) (args : Array Value) (meth : Method) (c : Code) (D : va_G) (cI cZ : ClassId) (A : Nat → Prop) (g : mx_G) : Prop :=
  p.tables.exec = Jvm.exec ∧ c.code = cc ∧ c.maxLocals = nL ∧ meth.sig.returnType = ret ∧ s.vm.findClass own = some m.cls ∧ (∀ w ∈ mx_tb, w.before args s = true) ∧ meth.locks = false ∧ meth.name = ynm ∧ va_K D mx_cl (mx_tys cI cZ) s ∧ (∀ w ∈ mx_nst, va_Nw w s) ∧ mx_Z A g s s.heap ∧ (∀ q, s.heap.size ≤ q → A q)
/-- a plain instruction does on the machine what it does here -/
def mx_W (own ynm : String) (cc : ByteArray) (nL : Nat) (ret : Option FieldType) (fr lc pc : Nat) (f : mx_F) : Prop :=
  (∀ lv st h q, f lv st h = some q → h.1 ≤ q.2.2.2.1 ∧ h.2.1 ≤ q.2.2.2.2.1 ∧ q.2.2.2.2.2.2 = h.2.2.2) ∧
  ∀ (p : Program) (l : Launch) (e : Env) (R : Room) (s : State) (m : MethodId) (args : Array Value) (below : List Frame) (meth : Method) (c : Code) (D : va_G) (cI cZ : ClassId) (A : Nat → Prop) (g : mx_G) (Q : State → Prop), fr ≤ R.frames → lc ≤ R.locals → mx_X own ynm cc nL ret p R s m args meth c D cI cZ A g →
  ∀ (lv : mx_L) (st : List Value) (h : mx_H) (q : mx_S), f lv st h = some q → ∀ (H : Heap) (locs : List Loc) (ls : Array Slot) (cells slots : Nat), mx_R D cI cZ A g h H → va_S A s.heap H locs → lv_has ls nL lv →
  cells + (q.2.2.2.1 - h.1) ≤ R.cells → slots + (q.2.2.2.2.1 - h.2.1) ≤ R.slots →
  (∀ (H' : Heap) (locs' : List Loc) (ls' : Array Slot), mx_R D cI cZ A g q.2.2.2 H' → va_S A s.heap H' locs' → lv_has ls' nL q.2.1 → W p l e R s m args below meth c H' locs' (cells + (q.2.2.2.1 - h.1)) (slots + (q.2.2.2.2.1 - h.2.1)) Q (F0 m q.1 ls' q.2.2.1)) →
  W p l e R s m args below meth c H locs cells slots Q (F0 m pc ls st)
theorem mx_lget_at {ls : Array Slot} {nL : Nat} {lv : mx_L} {i : Nat} {v : Value} (h : lv_has ls nL lv) (hi : mx_lget lv i = some v) : ls[i]? = some (.val v) := by
  unfold mx_lget at hi
  cases hq : lv.find? (fun q => q.1 == i) with
  | none => rw [hq] at hi; cases hi
  | some q =>
    rw [hq] at hi
    have h1 : q ∈ lv := List.mem_of_find?_eq_some hq
    have h2 : q.1 = i := by have := List.find?_some hq; simpa using this
    have h3 : q.2 = v := by simpa using hi
    rw [← h2, ← h3]
    exact h.2.2 q h1
theorem mx_ins_mem : ∀ (l : mx_L) (i : Nat) (v : Value) (q : Nat × Value), q ∈ mx_ins l i v → q = (i, v) ∨ (q ∈ l ∧ ¬ q.1 = i) := by
  intro l
  induction l with
  | nil => intro i v q h; exact Or.inl (by simpa [mx_ins] using h)
  | cons x r ih =>
    intro i v q h
    unfold mx_ins at h
    by_cases hx : x.1 = i
    · rw [if_pos hx] at h
      rcases List.mem_cons.mp h with h | h
      · exact Or.inl h
      · obtain ⟨h1, h2⟩ := List.mem_filter.mp h
        exact Or.inr ⟨List.mem_cons_of_mem _ h1, by simpa using h2⟩
    · rw [if_neg hx] at h
      rcases List.mem_cons.mp h with h | h
      · exact Or.inr ⟨h ▸ List.mem_cons_self, h ▸ hx⟩
      · rcases ih i v q h with h | ⟨h1, h2⟩
        · exact Or.inl h
        · exact Or.inr ⟨List.mem_cons_of_mem _ h1, h2⟩
theorem mx_lset_has {ls : Array Slot} {nL : Nat} {lv : mx_L} {i : Nat} {v : Value} (h : lv_has ls nL ((i, v) :: lv.filter (fun q => !(q.1 == i) && !(q.1 + 1 == i && q.2.category == 2)))) : lv_has ls nL (mx_lset lv i v) := by
  refine ⟨h.1, h.2.1, fun q hq => h.2.2 q ?_⟩
  rcases mx_ins_mem _ _ _ _ hq with rfl | ⟨h1, h2⟩
  · exact List.mem_cons_self
  · obtain ⟨h3, h4⟩ := List.mem_filter.mp h1
    exact List.mem_cons_of_mem _ (List.mem_filter.mpr ⟨h3, by simp only [Bool.and_eq_true]; exact ⟨by simpa using h2, h4⟩⟩)
theorem mx_lset2_has {ls : Array Slot} {nL : Nat} {lv : mx_L} {i : Nat} {v : Value} (h : lv_has ls nL ((i, v) :: lv.filter (fun q => !(q.1 == i) && (!(q.1 == i + 1) && !(q.1 + 1 == i && q.2.category == 2))))) : lv_has ls nL (mx_lset2 lv i v) := by
  refine ⟨h.1, h.2.1, fun q hq => h.2.2 q ?_⟩
  rcases mx_ins_mem _ _ _ _ hq with rfl | ⟨h1, h2⟩
  · exact List.mem_cons_self
  · obtain ⟨h3, h4⟩ := List.mem_filter.mp h1
    exact List.mem_cons_of_mem _ (List.mem_filter.mpr ⟨h3, by simp only [Bool.and_eq_true] at h4 ⊢; exact ⟨by simpa using h2, h4⟩⟩)
end
section
/-! THE INSTRUCTIONS: what each does here, and that the machine does the same -/
theorem mx_W.of {own ynm : String} {cc : ByteArray} {nL : Nat} {ret : Option FieldType} {fr lc pc : Nat} {f : mx_F} (hm : ∀ lv st h q, f lv st h = some q → q.2.2.2 = h)
    (k : ∀ (p : Program) (l : Launch) (e : Env) (R : Room) (s : State) (m : MethodId) (args : Array Value) (below : List Frame) (meth : Method) (c : Code) (D : va_G) (cI cZ : ClassId) (A : Nat → Prop) (g : mx_G) (Q : State → Prop), fr ≤ R.frames → lc ≤ R.locals → mx_X own ynm cc nL ret p R s m args meth c D cI cZ A g →
      ∀ (lv : mx_L) (st : List Value) (h : mx_H) (q : mx_S), f lv st h = some q → ∀ (H : Heap) (locs : List Loc) (ls : Array Slot) (cells slots : Nat), mx_R D cI cZ A g h H → va_S A s.heap H locs → lv_has ls nL lv →
      (∀ (ls' : Array Slot), lv_has ls' nL q.2.1 → W p l e R s m args below meth c H locs cells slots Q (F0 m q.1 ls' q.2.2.1)) → W p l e R s m args below meth c H locs cells slots Q (F0 m pc ls st)) : mx_W own ynm cc nL ret fr lc pc f := by
  refine ⟨fun lv st h q hq => ?_, ?_⟩
  · rw [hm lv st h q hq]
    exact ⟨Nat.le_refl _, Nat.le_refl _, rfl⟩
  · intro p l e R s m args below meth c D cI cZ A g Q hfr hlc X lv st h q hq H locs ls cells slots hR hS hl _ _ kk
    have e1 := hm lv st h q hq
    refine k p l e R s m args below meth c D cI cZ A g Q hfr hlc X lv st h q hq H locs ls cells slots hR hS hl (fun ls' hl' => ?_)
    have h1 := kk H locs ls' (by rw [e1]; exact hR) hS hl'
    rw [e1, Nat.sub_self, Nat.sub_self, Nat.add_zero, Nat.add_zero] at h1
    exact h1
section SX
variable {own ynm : String} {cc : ByteArray} {nL : Nat} {ret : Option FieldType} {fr lc pc : Nat}
def sx_const (v : Value) (n : Nat) : mx_F := fun lv st h => some (n, lv, v :: st, h)
theorem sn_iconst {k : Int} {v : Int32} (hd : decode cc pc = .ok (.iconst k, 1)) (hv : Int32.ofInt k = v) : mx_W own ynm cc nL ret fr lc pc (sx_const (.int v) (pc + 1)) := by
  refine mx_W.of (fun lv st h q hq => by cases hq; rfl) ?_
  intro p l e R s m args below meth c D cI cZ A g Q hfr hlc X lv st h q hq H locs ls cells slots hR hS hl kk
  cases hq
  exact lv_iconst X.1 X.2.1 hd hv (kk ls hl)
theorem sn_bipush {k : Int} {v : Int32} (hd : decode cc pc = .ok (.bipush k, 2)) (hv : (Int8.ofInt k).toInt32 = v) : mx_W own ynm cc nL ret fr lc pc (sx_const (.int v) (pc + 2)) := by
  refine mx_W.of (fun lv st h q hq => by cases hq; rfl) ?_
  intro p l e R s m args below meth c D cI cZ A g Q hfr hlc X lv st h q hq H locs ls cells slots hR hS hl kk
  cases hq
  exact lv_bipush X.1 X.2.1 hd hv (kk ls hl)
theorem sn_sipush {k : Int} {v : Int32} (hd : decode cc pc = .ok (.sipush k, 3)) (hv : (Int16.ofInt k).toInt32 = v) : mx_W own ynm cc nL ret fr lc pc (sx_const (.int v) (pc + 3)) := by
  refine mx_W.of (fun lv st h q hq => by cases hq; rfl) ?_
  intro p l e R s m args below meth c D cI cZ A g Q hfr hlc X lv st h q hq H locs ls cells slots hR hS hl kk
  cases hq
  exact lv_sipush X.1 X.2.1 hd hv (kk ls hl)
theorem sn_ldc {k : Nat} {v : Int32} (hd : decode cc pc = .ok (.ldc k, 2)) (hv : Jvm.Cond.constant own k v ∈ mx_tb) : mx_W own ynm cc nL ret fr lc pc (sx_const (.int v) (pc + 2)) := by
  refine mx_W.of (fun lv st h q hq => by cases hq; rfl) ?_
  intro p l e R s m args below meth c D cI cZ A g Q hfr hlc X lv st h q hq H locs ls cells slots hR hS hl kk
  cases hq
  exact lv_ldc X.1 X.2.1 X.2.2.2.2.1 (X.2.2.2.2.2.1 _ hv) hd (kk ls hl)
theorem sn_lconst {k : Fin 2} {v : Int64} (hd : decode cc pc = .ok (.lconst k, 1)) (hv : Int64.ofNat (k : Nat) = v) : mx_W own ynm cc nL ret fr lc pc (sx_const (.long v) (pc + 1)) := by
  refine mx_W.of (fun lv st h q hq => by cases hq; rfl) ?_
  intro p l e R s m args below meth c D cI cZ A g Q hfr hlc X lv st h q hq H locs ls cells slots hR hS hl kk
  cases hq
  exact lv_lconst X.1 X.2.1 hd hv (kk ls hl)
theorem sn_ldc2 {k : Nat} {v : Int64} (hd : decode cc pc = .ok (.ldc2_w k, 3)) (hv : Jvm.Cond.constantLong own k v ∈ mx_tb) : mx_W own ynm cc nL ret fr lc pc (sx_const (.long v) (pc + 3)) := by
  refine mx_W.of (fun lv st h q hq => by cases hq; rfl) ?_
  intro p l e R s m args below meth c D cI cZ A g Q hfr hlc X lv st h q hq H locs ls cells slots hR hS hl kk
  cases hq
  exact lv_ldc2 X.1 X.2.1 X.2.2.2.2.1 (X.2.2.2.2.2.1 _ hv) hd (kk ls hl)
def sx_iload (i n : Nat) : mx_F := fun lv st h => match mx_lget lv i with
  | some (.int x) => some (n, lv, .int x :: st, h)
  | _ => none
theorem sn_iload_n {k : Fin 4} (hd : decode cc pc = .ok (.iload_n k, 1)) : mx_W own ynm cc nL ret fr lc pc (sx_iload k (pc + 1)) := by
  refine mx_W.of (fun lv st h q hq => by unfold sx_iload at hq; split at hq <;> cases hq; rfl) ?_
  intro p l e R s m args below meth c D cI cZ A g Q hfr hlc X lv st h q hq H locs ls cells slots hR hS hl kk
  unfold sx_iload at hq
  split at hq
  · rename_i x hx
    cases hq
    exact lv_iload_n X.1 X.2.1 hd rfl (mx_lget_at hl hx) (kk ls hl)
  · cases hq
theorem sn_iload {k : Nat} (hd : decode cc pc = .ok (.iload k, 2)) : mx_W own ynm cc nL ret fr lc pc (sx_iload k (pc + 2)) := by
  refine mx_W.of (fun lv st h q hq => by unfold sx_iload at hq; split at hq <;> cases hq; rfl) ?_
  intro p l e R s m args below meth c D cI cZ A g Q hfr hlc X lv st h q hq H locs ls cells slots hR hS hl kk
  unfold sx_iload at hq
  split at hq
  · rename_i x hx
    cases hq
    exact lv_iload X.1 X.2.1 hd (mx_lget_at hl hx) (kk ls hl)
  · cases hq
def sx_aload (i n : Nat) : mx_F := fun lv st h => match mx_lget lv i with
  | some (.ref x) => some (n, lv, .ref x :: st, h)
  | _ => none
theorem sn_aload_n {k : Fin 4} (hd : decode cc pc = .ok (.aload_n k, 1)) : mx_W own ynm cc nL ret fr lc pc (sx_aload k (pc + 1)) := by
  refine mx_W.of (fun lv st h q hq => by unfold sx_aload at hq; split at hq <;> cases hq; rfl) ?_
  intro p l e R s m args below meth c D cI cZ A g Q hfr hlc X lv st h q hq H locs ls cells slots hR hS hl kk
  unfold sx_aload at hq
  split at hq
  · rename_i x hx
    cases hq
    exact lv_aload_n X.1 X.2.1 hd rfl (mx_lget_at hl hx) (kk ls hl)
  · cases hq
theorem sn_aload {k : Nat} (hd : decode cc pc = .ok (.aload k, 2)) : mx_W own ynm cc nL ret fr lc pc (sx_aload k (pc + 2)) := by
  refine mx_W.of (fun lv st h q hq => by unfold sx_aload at hq; split at hq <;> cases hq; rfl) ?_
  intro p l e R s m args below meth c D cI cZ A g Q hfr hlc X lv st h q hq H locs ls cells slots hR hS hl kk
  unfold sx_aload at hq
  split at hq
  · rename_i x hx
    cases hq
    exact lv_aload X.1 X.2.1 hd (mx_lget_at hl hx) (kk ls hl)
  · cases hq
def sx_lload (i n : Nat) : mx_F := fun lv st h => match mx_lget lv i with
  | some (.long x) => some (n, lv, .long x :: st, h)
  | _ => none
theorem sn_lload_n {k : Fin 4} (hd : decode cc pc = .ok (.lload_n k, 1)) : mx_W own ynm cc nL ret fr lc pc (sx_lload k (pc + 1)) := by
  refine mx_W.of (fun lv st h q hq => by unfold sx_lload at hq; split at hq <;> cases hq; rfl) ?_
  intro p l e R s m args below meth c D cI cZ A g Q hfr hlc X lv st h q hq H locs ls cells slots hR hS hl kk
  unfold sx_lload at hq
  split at hq
  · rename_i x hx
    cases hq
    exact lv_lload_n X.1 X.2.1 hd rfl (mx_lget_at hl hx) (kk ls hl)
  · cases hq
theorem sn_lload {k : Nat} (hd : decode cc pc = .ok (.lload k, 2)) : mx_W own ynm cc nL ret fr lc pc (sx_lload k (pc + 2)) := by
  refine mx_W.of (fun lv st h q hq => by unfold sx_lload at hq; split at hq <;> cases hq; rfl) ?_
  intro p l e R s m args below meth c D cI cZ A g Q hfr hlc X lv st h q hq H locs ls cells slots hR hS hl kk
  unfold sx_lload at hq
  split at hq
  · rename_i x hx
    cases hq
    exact lv_lload X.1 X.2.1 hd (mx_lget_at hl hx) (kk ls hl)
  · cases hq
def sx_istore (i n : Nat) : mx_F := fun lv st h => match st with
  | .int x :: r => some (n, mx_lset lv i (.int x), r, h)
  | _ => none
theorem sn_istore_n {k : Fin 4} (hd : decode cc pc = .ok (.istore_n k, 1)) (hn : (k : Nat) < nL) : mx_W own ynm cc nL ret fr lc pc (sx_istore k (pc + 1)) := by
  refine mx_W.of (fun lv st h q hq => by unfold sx_istore at hq; split at hq <;> cases hq; rfl) ?_
  intro p l e R s m args below meth c D cI cZ A g Q hfr hlc X lv st h q hq H locs ls cells slots hR hS hl kk
  unfold sx_istore at hq
  split at hq
  · cases hq
    exact lv_istore_n X.1 X.2.1 hd rfl hl hn rfl (fun ls2 hl2 => kk ls2 (mx_lset_has hl2))
  · cases hq
theorem sn_istore {k : Nat} (hd : decode cc pc = .ok (.istore k, 2)) (hn : k < nL) : mx_W own ynm cc nL ret fr lc pc (sx_istore k (pc + 2)) := by
  refine mx_W.of (fun lv st h q hq => by unfold sx_istore at hq; split at hq <;> cases hq; rfl) ?_
  intro p l e R s m args below meth c D cI cZ A g Q hfr hlc X lv st h q hq H locs ls cells slots hR hS hl kk
  unfold sx_istore at hq
  split at hq
  · cases hq
    exact lv_istore X.1 X.2.1 hd hl hn rfl (fun ls2 hl2 => kk ls2 (mx_lset_has hl2))
  · cases hq
def sx_astore (i n : Nat) : mx_F := fun lv st h => match st with
  | .ref x :: r => some (n, mx_lset lv i (.ref x), r, h)
  | _ => none
theorem sn_astore_n {k : Fin 4} (hd : decode cc pc = .ok (.astore_n k, 1)) (hn : (k : Nat) < nL) : mx_W own ynm cc nL ret fr lc pc (sx_astore k (pc + 1)) := by
  refine mx_W.of (fun lv st h q hq => by unfold sx_astore at hq; split at hq <;> cases hq; rfl) ?_
  intro p l e R s m args below meth c D cI cZ A g Q hfr hlc X lv st h q hq H locs ls cells slots hR hS hl kk
  unfold sx_astore at hq
  split at hq
  · cases hq
    exact lv_astore_n X.1 X.2.1 hd rfl hl hn rfl (fun ls2 hl2 => kk ls2 (mx_lset_has hl2))
  · cases hq
theorem sn_astore {k : Nat} (hd : decode cc pc = .ok (.astore k, 2)) (hn : k < nL) : mx_W own ynm cc nL ret fr lc pc (sx_astore k (pc + 2)) := by
  refine mx_W.of (fun lv st h q hq => by unfold sx_astore at hq; split at hq <;> cases hq; rfl) ?_
  intro p l e R s m args below meth c D cI cZ A g Q hfr hlc X lv st h q hq H locs ls cells slots hR hS hl kk
  unfold sx_astore at hq
  split at hq
  · cases hq
    exact lv_astore X.1 X.2.1 hd hl hn rfl (fun ls2 hl2 => kk ls2 (mx_lset_has hl2))
  · cases hq
def sx_lstore (i n : Nat) : mx_F := fun lv st h => match st with
  | .long x :: r => some (n, mx_lset2 lv i (.long x), r, h)
  | _ => none
theorem sn_lstore_n {k : Fin 4} (hd : decode cc pc = .ok (.lstore_n k, 1)) (hn : (k : Nat) + 1 < nL) : mx_W own ynm cc nL ret fr lc pc (sx_lstore k (pc + 1)) := by
  refine mx_W.of (fun lv st h q hq => by unfold sx_lstore at hq; split at hq <;> cases hq; rfl) ?_
  intro p l e R s m args below meth c D cI cZ A g Q hfr hlc X lv st h q hq H locs ls cells slots hR hS hl kk
  unfold sx_lstore at hq
  split at hq
  · cases hq
    exact lv_lstore_n X.1 X.2.1 hd rfl hl hn rfl (fun ls2 hl2 => kk ls2 (mx_lset2_has hl2))
  · cases hq
theorem sn_lstore {k : Nat} (hd : decode cc pc = .ok (.lstore k, 2)) (hn : k + 1 < nL) : mx_W own ynm cc nL ret fr lc pc (sx_lstore k (pc + 2)) := by
  refine mx_W.of (fun lv st h q hq => by unfold sx_lstore at hq; split at hq <;> cases hq; rfl) ?_
  intro p l e R s m args below meth c D cI cZ A g Q hfr hlc X lv st h q hq H locs ls cells slots hR hS hl kk
  unfold sx_lstore at hq
  split at hq
  · cases hq
    exact lv_lstore X.1 X.2.1 hd hl hn rfl (fun ls2 hl2 => kk ls2 (mx_lset2_has hl2))
  · cases hq
def sx_iinc (i : Nat) (d : Int32) (n : Nat) : mx_F := fun lv st h => match mx_lget lv i with
  | some (.int x) => some (n, mx_lset lv i (.int (x + d)), st, h)
  | _ => none
theorem mx_lget_pos {lv : mx_L} {i : Nat} {v : Value} (h : mx_lget lv i = some v) : ∃ k : Nat, lv[k]? = some (i, v) := by
  unfold mx_lget at h
  cases hq : lv.find? (fun q => q.1 == i) with
  | none => rw [hq] at h; cases h
  | some q =>
    rw [hq] at h
    have h1 : q ∈ lv := List.mem_of_find?_eq_some hq
    have h2 : q.1 = i := by have := List.find?_some hq; simpa using this
    have h3 : q.2 = v := by simpa using h
    obtain ⟨k, hk⟩ := List.getElem?_of_mem h1
    exact ⟨k, by rw [hk, ← h2, ← h3]⟩
theorem sn_iinc {k : Nat} {d : Int} {v : Int32} (hd : decode cc pc = .ok (.iinc k d, 3)) (hv : Int32.ofInt d = v) (hn : k < nL) : mx_W own ynm cc nL ret fr lc pc (sx_iinc k v (pc + 3)) := by
  refine mx_W.of (fun lv st h q hq => by unfold sx_iinc at hq; split at hq <;> cases hq; rfl) ?_
  intro p l e R s m args below meth c D cI cZ A g Q hfr hlc X lv st h q hq H locs ls cells slots hR hS hl kk
  unfold sx_iinc at hq
  split at hq
  · rename_i x hx
    cases hq
    obtain ⟨j, hj⟩ := mx_lget_pos hx
    exact lv_iinc X.1 X.2.1 hd hl hj (by rw [hv]) hn rfl (fun ls2 hl2 => kk ls2 (mx_lset_has hl2))
  · cases hq
def sx_bin (g : Int32 → Int32 → Int32) (n : Nat) : mx_F := fun lv st h => match st with
  | .int y :: .int x :: r => some (n, lv, .int (g x y) :: r, h)
  | _ => none
def sx_div (g : Int32 → Int32 → Int32) (n : Nat) : mx_F := fun lv st h => match st with
  | .int y :: .int x :: r => if y = 0 then none else some (n, lv, .int (g x y) :: r, h)
  | _ => none
theorem sn_iadd (hd : decode cc pc = .ok (.iadd, 1)) : mx_W own ynm cc nL ret fr lc pc (sx_bin (fun x y => x + y) (pc + 1)) := by
  refine mx_W.of (fun lv st h q hq => by unfold sx_bin at hq; split at hq <;> cases hq; rfl) ?_
  intro p l e R s m args below meth c D cI cZ A g Q hfr hlc X lv st h q hq H locs ls cells slots hR hS hl kk
  unfold sx_bin at hq
  split at hq
  · cases hq
    exact lv_iadd X.1 X.2.1 hd (kk ls hl)
  · cases hq
theorem sn_isub (hd : decode cc pc = .ok (.isub, 1)) : mx_W own ynm cc nL ret fr lc pc (sx_bin (fun x y => x - y) (pc + 1)) := by
  refine mx_W.of (fun lv st h q hq => by unfold sx_bin at hq; split at hq <;> cases hq; rfl) ?_
  intro p l e R s m args below meth c D cI cZ A g Q hfr hlc X lv st h q hq H locs ls cells slots hR hS hl kk
  unfold sx_bin at hq
  split at hq
  · cases hq
    exact lv_isub X.1 X.2.1 hd (kk ls hl)
  · cases hq
theorem sn_imul (hd : decode cc pc = .ok (.imul, 1)) : mx_W own ynm cc nL ret fr lc pc (sx_bin (fun x y => x * y) (pc + 1)) := by
  refine mx_W.of (fun lv st h q hq => by unfold sx_bin at hq; split at hq <;> cases hq; rfl) ?_
  intro p l e R s m args below meth c D cI cZ A g Q hfr hlc X lv st h q hq H locs ls cells slots hR hS hl kk
  unfold sx_bin at hq
  split at hq
  · cases hq
    exact lv_imul X.1 X.2.1 hd (kk ls hl)
  · cases hq
theorem sn_iand (hd : decode cc pc = .ok (.iand, 1)) : mx_W own ynm cc nL ret fr lc pc (sx_bin (fun x y => x &&& y) (pc + 1)) := by
  refine mx_W.of (fun lv st h q hq => by unfold sx_bin at hq; split at hq <;> cases hq; rfl) ?_
  intro p l e R s m args below meth c D cI cZ A g Q hfr hlc X lv st h q hq H locs ls cells slots hR hS hl kk
  unfold sx_bin at hq
  split at hq
  · cases hq
    exact lv_iand X.1 X.2.1 hd (kk ls hl)
  · cases hq
theorem sn_ior (hd : decode cc pc = .ok (.ior, 1)) : mx_W own ynm cc nL ret fr lc pc (sx_bin (fun x y => x ||| y) (pc + 1)) := by
  refine mx_W.of (fun lv st h q hq => by unfold sx_bin at hq; split at hq <;> cases hq; rfl) ?_
  intro p l e R s m args below meth c D cI cZ A g Q hfr hlc X lv st h q hq H locs ls cells slots hR hS hl kk
  unfold sx_bin at hq
  split at hq
  · cases hq
    exact lv_ior X.1 X.2.1 hd (kk ls hl)
  · cases hq
theorem sn_ixor (hd : decode cc pc = .ok (.ixor, 1)) : mx_W own ynm cc nL ret fr lc pc (sx_bin (fun x y => x ^^^ y) (pc + 1)) := by
  refine mx_W.of (fun lv st h q hq => by unfold sx_bin at hq; split at hq <;> cases hq; rfl) ?_
  intro p l e R s m args below meth c D cI cZ A g Q hfr hlc X lv st h q hq H locs ls cells slots hR hS hl kk
  unfold sx_bin at hq
  split at hq
  · cases hq
    exact lv_ixor X.1 X.2.1 hd (kk ls hl)
  · cases hq
theorem sn_ishl (hd : decode cc pc = .ok (.ishl, 1)) : mx_W own ynm cc nL ret fr lc pc (sx_bin (fun x y => x <<< (y &&& 31)) (pc + 1)) := by
  refine mx_W.of (fun lv st h q hq => by unfold sx_bin at hq; split at hq <;> cases hq; rfl) ?_
  intro p l e R s m args below meth c D cI cZ A g Q hfr hlc X lv st h q hq H locs ls cells slots hR hS hl kk
  unfold sx_bin at hq
  split at hq
  · cases hq
    exact lv_ishl X.1 X.2.1 hd (kk ls hl)
  · cases hq
theorem sn_ishr (hd : decode cc pc = .ok (.ishr, 1)) : mx_W own ynm cc nL ret fr lc pc (sx_bin (fun x y => x >>> (y &&& 31)) (pc + 1)) := by
  refine mx_W.of (fun lv st h q hq => by unfold sx_bin at hq; split at hq <;> cases hq; rfl) ?_
  intro p l e R s m args below meth c D cI cZ A g Q hfr hlc X lv st h q hq H locs ls cells slots hR hS hl kk
  unfold sx_bin at hq
  split at hq
  · cases hq
    exact lv_ishr X.1 X.2.1 hd (kk ls hl)
  · cases hq
theorem sn_iushr (hd : decode cc pc = .ok (.iushr, 1)) : mx_W own ynm cc nL ret fr lc pc (sx_bin (fun x y => (x.toUInt32 >>> (y.toUInt32 &&& Int32.toUInt32 31)).toInt32) (pc + 1)) := by
  refine mx_W.of (fun lv st h q hq => by unfold sx_bin at hq; split at hq <;> cases hq; rfl) ?_
  intro p l e R s m args below meth c D cI cZ A g Q hfr hlc X lv st h q hq H locs ls cells slots hR hS hl kk
  unfold sx_bin at hq
  split at hq
  · cases hq
    exact lv_iushr X.1 X.2.1 hd rfl (kk ls hl)
  · cases hq
theorem sn_idiv (hd : decode cc pc = .ok (.idiv, 1)) : mx_W own ynm cc nL ret fr lc pc (sx_div (fun x y => x / y) (pc + 1)) := by
  refine mx_W.of (fun lv st h q hq => by unfold sx_div at hq; split at hq; (split at hq <;> cases hq; rfl); cases hq) ?_
  intro p l e R s m args below meth c D cI cZ A g Q hfr hlc X lv st h q hq H locs ls cells slots hR hS hl kk
  unfold sx_div at hq
  split at hq
  · split at hq
    · cases hq
    · rename_i hne
      cases hq
      exact lv_idiv X.1 X.2.1 hd hne (kk ls hl)
  · cases hq
theorem sn_irem (hd : decode cc pc = .ok (.irem, 1)) : mx_W own ynm cc nL ret fr lc pc (sx_div (fun x y => x - x / y * y) (pc + 1)) := by
  refine mx_W.of (fun lv st h q hq => by unfold sx_div at hq; split at hq; (split at hq <;> cases hq; rfl); cases hq) ?_
  intro p l e R s m args below meth c D cI cZ A g Q hfr hlc X lv st h q hq H locs ls cells slots hR hS hl kk
  unfold sx_div at hq
  split at hq
  · split at hq
    · cases hq
    · rename_i hne
      cases hq
      exact lv_irem X.1 X.2.1 hd hne (kk ls hl)
  · cases hq
def sx_ineg (n : Nat) : mx_F := fun lv st h => match st with
  | .int x :: r => some (n, lv, .int (-x) :: r, h)
  | _ => none
def sx_i2l (n : Nat) : mx_F := fun lv st h => match st with
  | .int x :: r => some (n, lv, .long x.toInt64 :: r, h)
  | _ => none
def sx_l2i (n : Nat) : mx_F := fun lv st h => match st with
  | .long x :: r => some (n, lv, .int x.toInt32 :: r, h)
  | _ => none
def sx_ladd (n : Nat) : mx_F := fun lv st h => match st with
  | .long y :: .long x :: r => some (n, lv, .long (x + y) :: r, h)
  | _ => none
def sx_lcmp (n : Nat) : mx_F := fun lv st h => match st with
  | .long y :: .long x :: r => some (n, lv, .int (lg_cmp x y) :: r, h)
  | _ => none
theorem sn_ineg (hd : decode cc pc = .ok (.ineg, 1)) : mx_W own ynm cc nL ret fr lc pc (sx_ineg (pc + 1)) := by
  refine mx_W.of (fun lv st h q hq => by unfold sx_ineg at hq; split at hq <;> cases hq; rfl) ?_
  intro p l e R s m args below meth c D cI cZ A g Q hfr hlc X lv st h q hq H locs ls cells slots hR hS hl kk
  unfold sx_ineg at hq
  split at hq
  · cases hq
    exact lv_ineg X.1 X.2.1 hd (kk ls hl)
  · cases hq
theorem sn_i2l (hd : decode cc pc = .ok (.i2l, 1)) : mx_W own ynm cc nL ret fr lc pc (sx_i2l (pc + 1)) := by
  refine mx_W.of (fun lv st h q hq => by unfold sx_i2l at hq; split at hq <;> cases hq; rfl) ?_
  intro p l e R s m args below meth c D cI cZ A g Q hfr hlc X lv st h q hq H locs ls cells slots hR hS hl kk
  unfold sx_i2l at hq
  split at hq
  · cases hq
    exact lv_i2l X.1 X.2.1 hd rfl (kk ls hl)
  · cases hq
theorem sn_l2i (hd : decode cc pc = .ok (.l2i, 1)) : mx_W own ynm cc nL ret fr lc pc (sx_l2i (pc + 1)) := by
  refine mx_W.of (fun lv st h q hq => by unfold sx_l2i at hq; split at hq <;> cases hq; rfl) ?_
  intro p l e R s m args below meth c D cI cZ A g Q hfr hlc X lv st h q hq H locs ls cells slots hR hS hl kk
  unfold sx_l2i at hq
  split at hq
  · cases hq
    exact lv_l2i X.1 X.2.1 hd rfl (kk ls hl)
  · cases hq
theorem sn_ladd (hd : decode cc pc = .ok (.ladd, 1)) : mx_W own ynm cc nL ret fr lc pc (sx_ladd (pc + 1)) := by
  refine mx_W.of (fun lv st h q hq => by unfold sx_ladd at hq; split at hq <;> cases hq; rfl) ?_
  intro p l e R s m args below meth c D cI cZ A g Q hfr hlc X lv st h q hq H locs ls cells slots hR hS hl kk
  unfold sx_ladd at hq
  split at hq
  · cases hq
    exact lv_ladd X.1 X.2.1 hd (kk ls hl)
  · cases hq
theorem sn_lcmp (hd : decode cc pc = .ok (.lcmp, 1)) : mx_W own ynm cc nL ret fr lc pc (sx_lcmp (pc + 1)) := by
  refine mx_W.of (fun lv st h q hq => by unfold sx_lcmp at hq; split at hq <;> cases hq; rfl) ?_
  intro p l e R s m args below meth c D cI cZ A g Q hfr hlc X lv st h q hq H locs ls cells slots hR hS hl kk
  unfold sx_lcmp at hq
  split at hq
  · cases hq
    exact W.lcmp X.1 X.2.1 hd (kk ls hl)
  · cases hq
def sx_if (g : Int32 → Bool) (t n : Nat) : mx_F := fun lv st h => match st with
  | .int x :: r => some (if g x = true then t else n, lv, r, h)
  | _ => none
def sx_icmp (g : Int32 → Int32 → Bool) (t n : Nat) : mx_F := fun lv st h => match st with
  | .int y :: .int x :: r => some (if g x y = true then t else n, lv, r, h)
  | _ => none
theorem sn_if_eq {off : Int} {t : Nat} (hd : decode cc pc = .ok (.ifCond .eq off, 3)) (ht : (pc : Int) + off = (t : Int)) : mx_W own ynm cc nL ret fr lc pc (sx_if (fun x => decide (x = 0)) t (pc + 3)) := by
  refine mx_W.of (fun lv st h q hq => by unfold sx_if at hq; split at hq <;> cases hq; rfl) ?_
  intro p l e R s m args below meth c D cI cZ A g Q hfr hlc X lv st h q hq H locs ls cells slots hR hS hl kk
  unfold sx_if at hq
  split at hq
  · cases hq
    refine lv_if_eq X.1 X.2.1 hd ht (fun hc => ?_) (fun hc => ?_)
    · have k1 := kk ls hl
      rw [if_pos (decide_eq_true hc)] at k1
      exact k1
    · have k1 := kk ls hl
      rw [if_neg (by rw [decide_eq_true_iff]; first | exact hc | exact fun z => z hc)] at k1
      exact k1
  · cases hq
theorem sn_icmp_eq {off : Int} {t : Nat} (hd : decode cc pc = .ok (.if_icmp .eq off, 3)) (ht : (pc : Int) + off = (t : Int)) : mx_W own ynm cc nL ret fr lc pc (sx_icmp (fun x y => decide (x = y)) t (pc + 3)) := by
  refine mx_W.of (fun lv st h q hq => by unfold sx_icmp at hq; split at hq <;> cases hq; rfl) ?_
  intro p l e R s m args below meth c D cI cZ A g Q hfr hlc X lv st h q hq H locs ls cells slots hR hS hl kk
  unfold sx_icmp at hq
  split at hq
  · cases hq
    refine lv_icmp_eq X.1 X.2.1 hd ht (fun hc => ?_) (fun hc => ?_)
    · have k1 := kk ls hl
      rw [if_pos (decide_eq_true hc)] at k1
      exact k1
    · have k1 := kk ls hl
      rw [if_neg (by rw [decide_eq_true_iff]; first | exact hc | exact fun z => z hc)] at k1
      exact k1
  · cases hq
theorem sn_if_ne {off : Int} {t : Nat} (hd : decode cc pc = .ok (.ifCond .ne off, 3)) (ht : (pc : Int) + off = (t : Int)) : mx_W own ynm cc nL ret fr lc pc (sx_if (fun x => decide (¬ x = 0)) t (pc + 3)) := by
  refine mx_W.of (fun lv st h q hq => by unfold sx_if at hq; split at hq <;> cases hq; rfl) ?_
  intro p l e R s m args below meth c D cI cZ A g Q hfr hlc X lv st h q hq H locs ls cells slots hR hS hl kk
  unfold sx_if at hq
  split at hq
  · cases hq
    refine lv_if_ne X.1 X.2.1 hd ht (fun hc => ?_) (fun hc => ?_)
    · have k1 := kk ls hl
      rw [if_pos (decide_eq_true hc)] at k1
      exact k1
    · have k1 := kk ls hl
      rw [if_neg (by rw [decide_eq_true_iff]; first | exact hc | exact fun z => z hc)] at k1
      exact k1
  · cases hq
theorem sn_icmp_ne {off : Int} {t : Nat} (hd : decode cc pc = .ok (.if_icmp .ne off, 3)) (ht : (pc : Int) + off = (t : Int)) : mx_W own ynm cc nL ret fr lc pc (sx_icmp (fun x y => decide (¬ x = y)) t (pc + 3)) := by
  refine mx_W.of (fun lv st h q hq => by unfold sx_icmp at hq; split at hq <;> cases hq; rfl) ?_
  intro p l e R s m args below meth c D cI cZ A g Q hfr hlc X lv st h q hq H locs ls cells slots hR hS hl kk
  unfold sx_icmp at hq
  split at hq
  · cases hq
    refine lv_icmp_ne X.1 X.2.1 hd ht (fun hc => ?_) (fun hc => ?_)
    · have k1 := kk ls hl
      rw [if_pos (decide_eq_true hc)] at k1
      exact k1
    · have k1 := kk ls hl
      rw [if_neg (by rw [decide_eq_true_iff]; first | exact hc | exact fun z => z hc)] at k1
      exact k1
  · cases hq
theorem sn_if_lt {off : Int} {t : Nat} (hd : decode cc pc = .ok (.ifCond .lt off, 3)) (ht : (pc : Int) + off = (t : Int)) : mx_W own ynm cc nL ret fr lc pc (sx_if (fun x => decide (x < 0)) t (pc + 3)) := by
  refine mx_W.of (fun lv st h q hq => by unfold sx_if at hq; split at hq <;> cases hq; rfl) ?_
  intro p l e R s m args below meth c D cI cZ A g Q hfr hlc X lv st h q hq H locs ls cells slots hR hS hl kk
  unfold sx_if at hq
  split at hq
  · cases hq
    refine lv_if_lt X.1 X.2.1 hd ht (fun hc => ?_) (fun hc => ?_)
    · have k1 := kk ls hl
      rw [if_pos (decide_eq_true hc)] at k1
      exact k1
    · have k1 := kk ls hl
      rw [if_neg (by rw [decide_eq_true_iff]; first | exact hc | exact fun z => z hc)] at k1
      exact k1
  · cases hq
theorem sn_icmp_lt {off : Int} {t : Nat} (hd : decode cc pc = .ok (.if_icmp .lt off, 3)) (ht : (pc : Int) + off = (t : Int)) : mx_W own ynm cc nL ret fr lc pc (sx_icmp (fun x y => decide (x < y)) t (pc + 3)) := by
  refine mx_W.of (fun lv st h q hq => by unfold sx_icmp at hq; split at hq <;> cases hq; rfl) ?_
  intro p l e R s m args below meth c D cI cZ A g Q hfr hlc X lv st h q hq H locs ls cells slots hR hS hl kk
  unfold sx_icmp at hq
  split at hq
  · cases hq
    refine lv_icmp_lt X.1 X.2.1 hd ht (fun hc => ?_) (fun hc => ?_)
    · have k1 := kk ls hl
      rw [if_pos (decide_eq_true hc)] at k1
      exact k1
    · have k1 := kk ls hl
      rw [if_neg (by rw [decide_eq_true_iff]; first | exact hc | exact fun z => z hc)] at k1
      exact k1
  · cases hq
theorem sn_if_ge {off : Int} {t : Nat} (hd : decode cc pc = .ok (.ifCond .ge off, 3)) (ht : (pc : Int) + off = (t : Int)) : mx_W own ynm cc nL ret fr lc pc (sx_if (fun x => decide (0 ≤ x)) t (pc + 3)) := by
  refine mx_W.of (fun lv st h q hq => by unfold sx_if at hq; split at hq <;> cases hq; rfl) ?_
  intro p l e R s m args below meth c D cI cZ A g Q hfr hlc X lv st h q hq H locs ls cells slots hR hS hl kk
  unfold sx_if at hq
  split at hq
  · cases hq
    refine lv_if_ge X.1 X.2.1 hd ht (fun hc => ?_) (fun hc => ?_)
    · have k1 := kk ls hl
      rw [if_pos (decide_eq_true hc)] at k1
      exact k1
    · have k1 := kk ls hl
      rw [if_neg (by rw [decide_eq_true_iff]; first | exact hc | exact fun z => z hc)] at k1
      exact k1
  · cases hq
theorem sn_icmp_ge {off : Int} {t : Nat} (hd : decode cc pc = .ok (.if_icmp .ge off, 3)) (ht : (pc : Int) + off = (t : Int)) : mx_W own ynm cc nL ret fr lc pc (sx_icmp (fun x y => decide (y ≤ x)) t (pc + 3)) := by
  refine mx_W.of (fun lv st h q hq => by unfold sx_icmp at hq; split at hq <;> cases hq; rfl) ?_
  intro p l e R s m args below meth c D cI cZ A g Q hfr hlc X lv st h q hq H locs ls cells slots hR hS hl kk
  unfold sx_icmp at hq
  split at hq
  · cases hq
    refine lv_icmp_ge X.1 X.2.1 hd ht (fun hc => ?_) (fun hc => ?_)
    · have k1 := kk ls hl
      rw [if_pos (decide_eq_true hc)] at k1
      exact k1
    · have k1 := kk ls hl
      rw [if_neg (by rw [decide_eq_true_iff]; first | exact hc | exact fun z => z hc)] at k1
      exact k1
  · cases hq
theorem sn_if_gt {off : Int} {t : Nat} (hd : decode cc pc = .ok (.ifCond .gt off, 3)) (ht : (pc : Int) + off = (t : Int)) : mx_W own ynm cc nL ret fr lc pc (sx_if (fun x => decide (0 < x)) t (pc + 3)) := by
  refine mx_W.of (fun lv st h q hq => by unfold sx_if at hq; split at hq <;> cases hq; rfl) ?_
  intro p l e R s m args below meth c D cI cZ A g Q hfr hlc X lv st h q hq H locs ls cells slots hR hS hl kk
  unfold sx_if at hq
  split at hq
  · cases hq
    refine lv_if_gt X.1 X.2.1 hd ht (fun hc => ?_) (fun hc => ?_)
    · have k1 := kk ls hl
      rw [if_pos (decide_eq_true hc)] at k1
      exact k1
    · have k1 := kk ls hl
      rw [if_neg (by rw [decide_eq_true_iff]; first | exact hc | exact fun z => z hc)] at k1
      exact k1
  · cases hq
theorem sn_icmp_gt {off : Int} {t : Nat} (hd : decode cc pc = .ok (.if_icmp .gt off, 3)) (ht : (pc : Int) + off = (t : Int)) : mx_W own ynm cc nL ret fr lc pc (sx_icmp (fun x y => decide (y < x)) t (pc + 3)) := by
  refine mx_W.of (fun lv st h q hq => by unfold sx_icmp at hq; split at hq <;> cases hq; rfl) ?_
  intro p l e R s m args below meth c D cI cZ A g Q hfr hlc X lv st h q hq H locs ls cells slots hR hS hl kk
  unfold sx_icmp at hq
  split at hq
  · cases hq
    refine lv_icmp_gt X.1 X.2.1 hd ht (fun hc => ?_) (fun hc => ?_)
    · have k1 := kk ls hl
      rw [if_pos (decide_eq_true hc)] at k1
      exact k1
    · have k1 := kk ls hl
      rw [if_neg (by rw [decide_eq_true_iff]; first | exact hc | exact fun z => z hc)] at k1
      exact k1
  · cases hq
theorem sn_if_le {off : Int} {t : Nat} (hd : decode cc pc = .ok (.ifCond .le off, 3)) (ht : (pc : Int) + off = (t : Int)) : mx_W own ynm cc nL ret fr lc pc (sx_if (fun x => decide (x ≤ 0)) t (pc + 3)) := by
  refine mx_W.of (fun lv st h q hq => by unfold sx_if at hq; split at hq <;> cases hq; rfl) ?_
  intro p l e R s m args below meth c D cI cZ A g Q hfr hlc X lv st h q hq H locs ls cells slots hR hS hl kk
  unfold sx_if at hq
  split at hq
  · cases hq
    refine lv_if_le X.1 X.2.1 hd ht (fun hc => ?_) (fun hc => ?_)
    · have k1 := kk ls hl
      rw [if_pos (decide_eq_true hc)] at k1
      exact k1
    · have k1 := kk ls hl
      rw [if_neg (by rw [decide_eq_true_iff]; first | exact hc | exact fun z => z hc)] at k1
      exact k1
  · cases hq
theorem sn_icmp_le {off : Int} {t : Nat} (hd : decode cc pc = .ok (.if_icmp .le off, 3)) (ht : (pc : Int) + off = (t : Int)) : mx_W own ynm cc nL ret fr lc pc (sx_icmp (fun x y => decide (x ≤ y)) t (pc + 3)) := by
  refine mx_W.of (fun lv st h q hq => by unfold sx_icmp at hq; split at hq <;> cases hq; rfl) ?_
  intro p l e R s m args below meth c D cI cZ A g Q hfr hlc X lv st h q hq H locs ls cells slots hR hS hl kk
  unfold sx_icmp at hq
  split at hq
  · cases hq
    refine lv_icmp_le X.1 X.2.1 hd ht (fun hc => ?_) (fun hc => ?_)
    · have k1 := kk ls hl
      rw [if_pos (decide_eq_true hc)] at k1
      exact k1
    · have k1 := kk ls hl
      rw [if_neg (by rw [decide_eq_true_iff]; first | exact hc | exact fun z => z hc)] at k1
      exact k1
  · cases hq
def sx_goto (t : Nat) : mx_F := fun lv st h => some (t, lv, st, h)
theorem sn_goto {off : Int} {t : Nat} (hd : decode cc pc = .ok (.goto off, 3)) (ht : (pc : Int) + off = (t : Int)) : mx_W own ynm cc nL ret fr lc pc (sx_goto t) := by
  refine mx_W.of (fun lv st h q hq => by cases hq; rfl) ?_
  intro p l e R s m args below meth c D cI cZ A g Q hfr hlc X lv st h q hq H locs ls cells slots hR hS hl kk
  cases hq
  exact lv_goto X.1 X.2.1 hd ht (kk ls hl)
def sx_table (dt : Nat) (lo hi : Int) (ts : List Nat) : mx_F := fun lv st h => match st with
  | .int x :: r => if x.toInt < lo ∨ hi < x.toInt then some (dt, lv, r, h) else (match ts[(x.toInt - lo).toNat]? with
    | some t => some (t, lv, r, h)
    | none => none)
  | _ => none
theorem sn_table {df lo hi : Int} {offs : Array Int} {len dt : Nat} {ts : List Nat} (hd : decode cc pc = .ok (.tableswitch df lo hi offs, len)) (hdt : (pc : Int) + df = (dt : Int)) (hts : offs.toList.map (fun x => (pc : Int) + x) = ts.map (fun (t : Nat) => (t : Int))) : mx_W own ynm cc nL ret fr lc pc (sx_table dt lo hi ts) := by
  refine mx_W.of (fun lv st h q hq => by unfold sx_table at hq; split at hq; (split at hq; (cases hq; rfl); (split at hq <;> cases hq; rfl)); cases hq) ?_
  intro p l e R s m args below meth c D cI cZ A g Q hfr hlc X lv st h q hq H locs ls cells slots hR hS hl kk
  unfold sx_table at hq
  split at hq
  · rename_i x r
    split at hq
    · rename_i hc
      cases hq
      exact lv_tableOut X.1 X.2.1 hd hc hdt (kk ls hl)
    · rename_i hc
      split at hq
      · rename_i t ht
        cases hq
        have e1 : (offs.toList.map (fun x => (pc : Int) + x))[(x.toInt - lo).toNat]? = some (t : Int) := by rw [hts, List.getElem?_map, ht]; rfl
        rw [List.getElem?_map] at e1
        cases ho : offs.toList[(x.toInt - lo).toNat]? with
        | none => rw [ho] at e1; cases e1
        | some off =>
          rw [ho] at e1
          exact lv_tableIn X.1 X.2.1 hd (fun z => hc (Or.inl z)) (fun z => hc (Or.inr z)) (by rw [← Array.getElem?_toList]; exact ho) (Option.some.inj e1) (kk ls hl)
      · cases hq
  · cases hq
def sx_dup (n : Nat) : mx_F := fun lv st h => match st with
  | v :: r => if v.category = 1 then some (n, lv, v :: v :: r, h) else none
  | _ => none
def sx_pop (n : Nat) : mx_F := fun lv st h => match st with
  | v :: r => if v.category = 1 then some (n, lv, r, h) else none
  | _ => none
theorem sn_dup (hd : decode cc pc = .ok (.dup, 1)) : mx_W own ynm cc nL ret fr lc pc (sx_dup (pc + 1)) := by
  refine mx_W.of (fun lv st h q hq => by unfold sx_dup at hq; split at hq; (split at hq <;> cases hq; rfl); cases hq) ?_
  intro p l e R s m args below meth c D cI cZ A g Q hfr hlc X lv st h q hq H locs ls cells slots hR hS hl kk
  unfold sx_dup at hq
  split at hq
  · split at hq
    · rename_i hc
      cases hq
      exact lv_dup X.1 X.2.1 hd hc (kk ls hl)
    · cases hq
  · cases hq
theorem sn_pop (hd : decode cc pc = .ok (.pop, 1)) : mx_W own ynm cc nL ret fr lc pc (sx_pop (pc + 1)) := by
  refine mx_W.of (fun lv st h q hq => by unfold sx_pop at hq; split at hq; (split at hq <;> cases hq; rfl); cases hq) ?_
  intro p l e R s m args below meth c D cI cZ A g Q hfr hlc X lv st h q hq H locs ls cells slots hR hS hl kk
  unfold sx_pop at hq
  split at hq
  · split at hq
    · rename_i hc
      cases hq
      exact lv_pop X.1 X.2.1 hd hc (kk ls hl)
    · cases hq
  · cases hq
end SX
end
section
/-! FIELDS, ARRAYS, NEW CELLS -/
theorem mx_P1 {D : va_G} {q : Nat × va_E} {H : Heap} (h : va_at D mx_cl q H) : va_P D mx_cl [q] H := by
  intro k x hx
  cases k with
  | zero => cases hx; exact h
  | succ k => simp at hx
theorem mx_get_set (h : mx_H) (a : Nat) (c : mx_C) (q : Nat) : mx_get (mx_set h a c) q = if q = a then some c else mx_get h q := rfl
theorem mx_get_push (h : mx_H) (n : Nat) (c : mx_C) (q : Nat) : mx_get (mx_push h n c) q = if q = h.1 then some c else mx_get h q := rfl
theorem mx_R.set {D : va_G} {cI cZ : ClassId} {A : Nat → Prop} {g : mx_G} {h : mx_H} {H H' : Heap} {a : Nat} {c c' : mx_C} (hR : mx_R D cI cZ A g h H) (hg : mx_get h a = some c) (he : va_at D mx_cl (a, mx_e cI cZ c') H') (hz : H'.size = H.size) (ho : ∀ q : Nat, q ≠ a → H'[q]? = H[q]?) : mx_R D cI cZ A g (mx_set h a c') H' := by
  refine ⟨hz.trans hR.1, hR.2.1, fun q x hx => ?_⟩
  rw [mx_get_set] at hx
  by_cases hq : q = a
  · rw [if_pos hq] at hx
    cases hx
    subst hq
    exact ⟨he, (hR.2.2 q c hg).2⟩
  · rw [if_neg hq] at hx
    obtain ⟨h1, h2⟩ := hR.2.2 q x hx
    exact ⟨h1.kept (ho q hq), h2⟩
theorem mx_R.push {D : va_G} {cI cZ : ClassId} {A : Nat → Prop} {g : mx_G} {h : mx_H} {H H' : Heap} {n : Nat} {c' : mx_C} (hR : mx_R D cI cZ A g h H) (he : va_at D mx_cl (h.1, mx_e cI cZ c') H') (hz : H'.size = h.1 + 1) (ho : ∀ q : Nat, q < h.1 → H'[q]? = H[q]?) (hA : A h.1) : mx_R D cI cZ A g (mx_push h n c') H' := by
  refine ⟨hz, hR.2.1, fun q x hx => ?_⟩
  rw [mx_get_push] at hx
  by_cases hq : q = h.1
  · rw [if_pos hq] at hx
    cases hx
    subst hq
    exact ⟨he, hA⟩
  · rw [if_neg hq] at hx
    obtain ⟨h1, h2⟩ := hR.2.2 q x hx
    exact ⟨h1.kept (ho q (by have := h1.lt; rw [hR.1] at this; exact this)), h2⟩
theorem mx_S.push {A : Nat → Prop} {H0 H H' : Heap} {locs : List Loc} {n : Nat} (hS : va_S A H0 H locs) (hz0 : H.size = n) (hz : H'.size = n + 1) (ho : ∀ q : Nat, q < n → H'[q]? = H[q]?) : va_S A H0 H' locs :=
  ⟨Nat.le_trans hS.1 (by omega), fun q h1 h2 => (ho q (by have := hS.1; omega)).trans (hS.2.1 q h1 h2), hS.2.2⟩
section SH
variable {own ynm : String} {cc : ByteArray} {nL : Nat} {ret : Option FieldType} {fr lc pc : Nat}
def sx_getf (ci k n : Nat) : mx_F := fun lv st h => match st with
  | .ref a :: r => (match mx_get h a with
    | some (.inr o) => if o.1 = ci then (match o.2[k]? with
      | some v => some (n, lv, v :: r, h)
      | none => none) else none
    | _ => none)
  | _ => none
theorem sx_getf_spec {ci k n : Nat} {lv : mx_L} {st : List Value} {h : mx_H} {q : mx_S} (hq : sx_getf ci k n lv st h = some q) : ∃ (a : Nat) (r : List Value) (fs : List Value) (v : Value), st = .ref a :: r ∧ mx_get h a = some (.inr (ci, fs)) ∧ fs[k]? = some v ∧ q = (n, lv, v :: r, h) := by
  unfold sx_getf at hq
  split at hq
  · rename_i a r
    split at hq
    · rename_i o ho
      split at hq
      · rename_i hc
        split at hq
        · rename_i v hv
          cases hq
          exact ⟨a, r, o.2, v, rfl, by rw [ho, ← hc], hv, rfl⟩
        · cases hq
      · cases hq
    · cases hq
  · cases hq
theorem sn_getf {ci k idx N : Nat} {C : String} {T : u_T} (hd : decode cc pc = .ok (.getfield idx, 3)) (hc : mx_cl[ci]? = some (C, T, N)) (hin : ∀ w ∈ u_ws C T N, w ∈ mx_tb) (hk : k < N) (hw : Cond.fieldLink own idx (T k).1 (T k).2.1 (T k).2.2.1 ∈ mx_tb) : mx_W own ynm cc nL ret fr lc pc (sx_getf ci k (pc + 3)) := by
  refine mx_W.of (fun lv st h q hq => ?_) ?_
  · obtain ⟨a, r, fs, v, -, -, -, rfl⟩ := sx_getf_spec hq
    rfl
  · intro p l e R s m args below meth c D cI cZ A g Q hfr hlc X lv st h q hq H locs ls cells slots hR hS hl kk
    obtain ⟨a, r, fs, v, rfl, hg, hv, rfl⟩ := sx_getf_spec hq
    obtain ⟨hx, hb, hml, hr, hown, hts, -, -, hK, -⟩ := X
    exact va_get (D := D) (ci := ci) hx hb hts hin hown hK (mx_P1 (hR.2.2 a _ hg).1) 0 rfl hc k hk (hts _ hw) (fun _ h9 => h9) hv hd (kk ls hl)
theorem sn_getfN {ci k idx N : Nat} {C host : String} {T : u_T} (hd : decode cc pc = .ok (.getfield idx, 3)) (hc : mx_cl[ci]? = some (C, T, N)) (hin : ∀ w ∈ u_ws C T N, w ∈ mx_tb) (hk : k < N) (hw : Cond.fieldLinkNest own idx (T k).1 (T k).2.1 (T k).2.2.1 host ∈ mx_nst) : mx_W own ynm cc nL ret fr lc pc (sx_getf ci k (pc + 3)) := by
  refine mx_W.of (fun lv st h q hq => ?_) ?_
  · obtain ⟨a, r, fs, v, -, -, -, rfl⟩ := sx_getf_spec hq
    rfl
  · intro p l e R s m args below meth c D cI cZ A g Q hfr hlc X lv st h q hq H locs ls cells slots hR hS hl kk
    obtain ⟨a, r, fs, v, rfl, hg, hv, rfl⟩ := sx_getf_spec hq
    obtain ⟨hx, hb, hml, hr, hown, hts, -, -, hK, hN, -⟩ := X
    exact va_getN (D := D) (ci := ci) hx hb hts hin hown hK (mx_P1 (hR.2.2 a _ hg).1) 0 rfl hc k hk (va_Nw.use rfl (hN _ hw)) (fun _ h9 => h9) hv hd (kk ls hl)
def sx_putf (ci k : Nat) (ty : FieldType) (n : Nat) : mx_F := fun lv st h => match st with
  | v :: .ref a :: r => (match mx_get h a with
    | some (.inr o) => if o.1 = ci ∧ k < o.2.length ∧ narrow ty v = v ∧ fits ty v = true then some (n, lv, r, mx_set h a (.inr (ci, o.2.set k v))) else none
    | _ => none)
  | _ => none
theorem sx_putf_spec {ci k n : Nat} {ty : FieldType} {lv : mx_L} {st : List Value} {h : mx_H} {q : mx_S} (hq : sx_putf ci k ty n lv st h = some q) : ∃ (a : Nat) (r : List Value) (fs : List Value) (v : Value), st = v :: .ref a :: r ∧ mx_get h a = some (.inr (ci, fs)) ∧ k < fs.length ∧ narrow ty v = v ∧ fits ty v = true ∧ q = (n, lv, r, mx_set h a (.inr (ci, fs.set k v))) := by
  unfold sx_putf at hq
  split at hq
  · rename_i v a r
    split at hq
    · rename_i o ho
      split at hq
      · rename_i hc
        cases hq
        exact ⟨a, r, o.2, v, rfl, by rw [ho, ← hc.1], hc.2.1, hc.2.2.1, hc.2.2.2, rfl⟩
      · cases hq
    · cases hq
  · cases hq
theorem sn_putf {ci k idx N : Nat} {C : String} {T : u_T} {ty : FieldType} (ty0 : Nat → FieldType) (hd : decode cc pc = .ok (.putfield idx, 3)) (hc : mx_cl[ci]? = some (C, T, N)) (hin : ∀ w ∈ u_ws C T N, w ∈ mx_tb) (hty : ∀ k, k < N → parseFieldDescriptor (T k).2.2.1 = some (ty0 k)) (hnm : ∀ a, a < N → ∀ b, b < N → a ≠ b → (T a).2.1 ≠ (T b).2.1) (hk : k < N) (hw : Cond.fieldLink own idx (T k).1 (T k).2.1 (T k).2.2.1 ∈ mx_tb) (hfin : (T k).2.2.2 = false ∨ ((T k).2.2.2 = true ∧ ynm = "<init>" ∧ (T k).1 = own)) (hpt : ty0 k = ty) : mx_W own ynm cc nL ret fr lc pc (sx_putf ci k ty (pc + 3)) := by
  refine ⟨fun lv st h q hq => ?_, ?_⟩
  · obtain ⟨a, r, fs, v, -, -, -, -, -, rfl⟩ := sx_putf_spec hq
    exact ⟨Nat.le_refl _, Nat.le_refl _, rfl⟩
  · intro p l e R s m args below meth c D cI cZ A g Q hfr hlc X lv st h q hq H locs ls cells slots hR hS hl hcs hss kk
    obtain ⟨a, r, fs, v, rfl, hg, hlen, hn, hfit, rfl⟩ := sx_putf_spec hq
    obtain ⟨hx, hb, hml, hr, hown, hts, -, hname, hK, -⟩ := X
    have hap := va_apart (own := own) hts hin ty0 hty hnm hK hc
    obtain ⟨⟨r0, hr0, cell, q1, q2, q3, q4⟩, hAa⟩ := hR.2.2 a _ hg
    cases Option.some.inj (hr0.symm.trans hc)
    obtain ⟨hSl, hfc, kC, hkC, hkind⟩ := hK.1 ci _ hc
    obtain ⟨cf, kf, fi, f, hi, hsl⟩ := hSl k hk
    have hst := (u_facts hfc hkC (u_lays hts hin hk) hi).1
    have hparse : parseFieldDescriptor (T k).2.2.1 = some ty := by rw [← hpt]; exact hty k hk
    have fin : ∀ H' : Heap, H'[a]? = some (cell.setSlot f.slot v) → H'.size = H.size → (∀ q, q ≠ a → H'[q]? = H[q]?) → W p l e R s m args below meth c H' (locs ++ [⟨a, f.slot⟩]) cells slots Q (F0 m (pc + 3) ls r) := by
      intro H' e1 e2 e3
      have h1 := kk H' (locs ++ [⟨a, f.slot⟩]) ls (mx_R.set (c' := .inr (ci, fs.set k v)) hR hg ⟨_, hc, t_OB.to (V := updV (vp_V fs) k v) ⟨_, e1, q2, q3, by rw [hsl]; exact t_set q4 hap hk v⟩ (fun j _ => vp_updV_set hlen v j)⟩ e2 e3) (hS.put e2 e3 hAa) hl
      simp only [mx_set, Nat.sub_self, Nat.add_zero] at h1
      exact h1
    rcases hfin with hf | ⟨hf, hyn, hdecl⟩
    · have hlay := hts _ (hin _ (u_in_lay hk))
      unfold u_lay at hlay
      rw [if_neg (by rw [hf]; decide)] at hlay
      have h6 := u_store hfc hkC hkind hlay hi hparse hn hfit
      exact W.putK hx hb (f := f) ⟨hown, hts _ hw, ⟨_, _, _, hi⟩, hst⟩ (by rw [q2]; exact h6) q1 q3 (by rw [hsl]; exact k2_hasslot (q4 k hk)) rfl rfl hd fin
    · have hlay := hts _ (hin _ (u_in_lay hk))
      unfold u_lay at hlay
      rw [if_pos hf] at hlay
      have hcf : m.cls = cf := by
        obtain ⟨_, _, c1, _, _, _, -, -, h1, -, -, -, h2, -⟩ := Cond.laysFinal_spec hlay
        have h3 : c1 = cf := congrArg (fun x => x.1) (Option.some.inj (h1.symm.trans hi))
        rw [hdecl] at h2
        exact (Option.some.inj (hown.symm.trans h2)).trans h3
      have h6 := u_fits hfc hkC hkind (Or.inr hlay) hi hparse hn hfit
      exact W.putFinK hx hb hown (hts _ hw) hi hst hcf (hname.trans hyn) (by rw [q2]; exact h6) q1 q3 (by rw [hsl]; exact k2_hasslot (q4 k hk)) rfl rfl hd fin
def sx_gets (k n : Nat) : mx_F := fun lv st h => some (n, lv, .ref (h.2.2.2.1 k) :: st, h)
theorem sn_getsN {k idx : Nat} {q0 : String × String × String} {host : String} (hd : decode cc pc = .ok (.getstatic idx, 3)) (hq0 : mx_sts[k]? = some q0) (hw : Cond.fieldLinkNest own idx q0.1 q0.2.1 q0.2.2 host ∈ mx_nst) : mx_W own ynm cc nL ret fr lc pc (sx_gets k (pc + 3)) := by
  refine mx_W.of (fun lv st h q hq => by cases hq; rfl) ?_
  intro p l e R s m args below meth c D cI cZ A g Q hfr hlc X lv st h q hq H locs ls cells slots hR hS hl kk
  cases hq
  obtain ⟨hx, hb, hml, hr, hown, hts, -, hname, hK, hN, hZ, -⟩ := X
  have k1 := kk ls hl
  rw [hR.2.1] at k1
  exact va_getsN hx hb (hZ.1 k q0 hq0) hS hown (va_Nw.use rfl (hN _ hw)) (fun _ h9 => h9) hd k1
def mx_rd (t : Bool) (i : Int32) (a : Nat) (h : mx_H) : Option Int32 := match mx_get h a with
  | some (.inl x) => if x.1 = t ∧ ¬ (i < 0 ∨ x.2.1 ≤ i.toNatClampNeg) then some (x.2.2 i.toNatClampNeg) else none
  | some (.inr _) => none
  | none => (match h.2.2.2.2 a with
    | some x => if t = false ∧ ¬ (i < 0 ∨ x.1 ≤ i.toNatClampNeg) then some (x.2 i.toNatClampNeg) else none
    | none => none)
def sx_ald (t : Bool) (n : Nat) : mx_F := fun lv st h => match st with
  | .int i :: .ref a :: r => (match mx_rd t i a h with
    | some v => some (n, lv, .int v :: r, h)
    | none => none)
  | _ => none
theorem sx_ald_spec {t : Bool} {n : Nat} {lv : mx_L} {st : List Value} {h : mx_H} {q : mx_S} (hq : sx_ald t n lv st h = some q) : ∃ (a : Nat) (i v : Int32) (r : List Value), st = .int i :: .ref a :: r ∧ mx_rd t i a h = some v ∧ q = (n, lv, .int v :: r, h) := by
  unfold sx_ald at hq
  split at hq
  · rename_i i a r
    split at hq
    · rename_i v hv
      cases hq
      exact ⟨a, i, v, r, rfl, hv, rfl⟩
    · cases hq
  · cases hq
theorem mx_rd_spec {t : Bool} {i v : Int32} {a : Nat} {h : mx_H} (hv : mx_rd t i a h = some v) : (∃ (n : Nat) (f : Nat → Int32), mx_get h a = some (.inl (t, n, f)) ∧ ¬ (i < 0 ∨ n ≤ i.toNatClampNeg) ∧ v = f i.toNatClampNeg) ∨ (t = false ∧ ∃ (n : Nat) (f : Nat → Int32), h.2.2.2.2 a = some (n, f) ∧ ¬ (i < 0 ∨ n ≤ i.toNatClampNeg) ∧ v = f i.toNatClampNeg) := by
  unfold mx_rd at hv
  split at hv
  · rename_i x hx
    split at hv
    · rename_i hc
      cases hv
      exact Or.inl ⟨x.2.1, x.2.2, by rw [hx, ← hc.1], hc.2, rfl⟩
    · cases hv
  · cases hv
  · split at hv
    · rename_i x hx
      split at hv
      · rename_i hc
        cases hv
        exact Or.inr ⟨hc.1, x.1, x.2, hx, hc.2, rfl⟩
      · cases hv
    · cases hv
theorem sn_iald (hd : decode cc pc = .ok (.iaload, 1)) : mx_W own ynm cc nL ret fr lc pc (sx_ald false (pc + 1)) := by
  refine mx_W.of (fun lv st h q hq => ?_) ?_
  · obtain ⟨a, i, v, r, -, -, rfl⟩ := sx_ald_spec hq
    rfl
  · intro p l e R s m args below meth c D cI cZ A g Q hfr hlc X lv st h q hq H locs ls cells slots hR hS hl kk
    obtain ⟨a, i, v, r, rfl, hv, rfl⟩ := sx_ald_spec hq
    obtain ⟨hx, hb, hml, hr, hown, hts, -, hname, hK, hN, hZ, -⟩ := X
    rcases mx_rd_spec hv with ⟨n, f, hg, hin, rfl⟩ | ⟨-, n, f, hg, hin, rfl⟩
    · exact va_iald (D := D) hx hb hK (mx_P1 (hR.2.2 a _ hg).1) 0 0 rfl rfl hin hd (kk ls hl)
    · rw [hR.2.1] at hg
      exact va_ti hx hb (hZ.2 a n f hg) hS hin rfl hd (kk ls hl)
theorem sn_zald (hd : decode cc pc = .ok (.baload, 1)) : mx_W own ynm cc nL ret fr lc pc (sx_ald true (pc + 1)) := by
  refine mx_W.of (fun lv st h q hq => ?_) ?_
  · obtain ⟨a, i, v, r, -, -, rfl⟩ := sx_ald_spec hq
    rfl
  · intro p l e R s m args below meth c D cI cZ A g Q hfr hlc X lv st h q hq H locs ls cells slots hR hS hl kk
    obtain ⟨a, i, v, r, rfl, hv, rfl⟩ := sx_ald_spec hq
    obtain ⟨hx, hb, hml, hr, hown, hts, -, hname, hK, hN, hZ, -⟩ := X
    rcases mx_rd_spec hv with ⟨n, f, hg, hin, rfl⟩ | ⟨h0, -⟩
    · exact va_zald (D := D) hx hb hK (mx_P1 (hR.2.2 a _ hg).1) 0 1 rfl rfl hin hd (kk ls hl)
    · cases h0
def mx_len (a : Nat) (h : mx_H) : Option Nat := match mx_get h a with
  | some (.inl x) => some x.2.1
  | some (.inr _) => none
  | none => (match h.2.2.2.2 a with
    | some x => some x.1
    | none => none)
def sx_alen (n : Nat) : mx_F := fun lv st h => match st with
  | .ref a :: r => (match mx_len a h with
    | some k => some (n, lv, .int (Int32.ofNat k) :: r, h)
    | none => none)
  | _ => none
theorem sn_alen (hd : decode cc pc = .ok (.arraylength, 1)) : mx_W own ynm cc nL ret fr lc pc (sx_alen (pc + 1)) := by
  have sp : ∀ lv st h q, sx_alen (pc + 1) lv st h = some q → ∃ (a k : Nat) (r : List Value), st = .ref a :: r ∧ mx_len a h = some k ∧ q = (pc + 1, lv, .int (Int32.ofNat k) :: r, h) := by
    intro lv st h q hq
    unfold sx_alen at hq
    split at hq
    · rename_i a r
      split at hq
      · rename_i k hk
        cases hq
        exact ⟨a, k, r, rfl, hk, rfl⟩
      · cases hq
    · cases hq
  refine mx_W.of (fun lv st h q hq => ?_) ?_
  · obtain ⟨a, k, r, -, -, rfl⟩ := sp _ _ _ _ hq
    rfl
  · intro p l e R s m args below meth c D cI cZ A g Q hfr hlc X lv st h q hq H locs ls cells slots hR hS hl kk
    obtain ⟨a, k, r, rfl, hk, rfl⟩ := sp _ _ _ _ hq
    obtain ⟨hx, hb, hml, hr, hown, hts, -, hname, hK, hN, hZ, -⟩ := X
    unfold mx_len at hk
    split at hk
    · rename_i x hg
      cases hk
      obtain ⟨t, n, f⟩ := x
      cases t
      · exact va_alen (D := D) hx hb hK (mx_P1 (hR.2.2 a _ hg).1) 0 0 rfl rfl rfl hd (kk ls hl)
      · exact va_alen (D := D) hx hb hK (mx_P1 (hR.2.2 a _ hg).1) 0 1 rfl rfl rfl hd (kk ls hl)
    · cases hk
    · split at hk
      · rename_i x hg
        cases hk
        rw [hR.2.1] at hg
        exact va_tlen hx hb (hZ.2 a x.1 x.2 hg) hS rfl hd (kk ls hl)
      · cases hk
def sx_ast (t : Bool) (n : Nat) : mx_F := fun lv st h => match st with
  | .int v :: .int i :: .ref a :: r => (match mx_get h a with
    | some (.inl x) => if x.1 = t ∧ ¬ (i < 0 ∨ x.2.1 ≤ i.toNatClampNeg) then some (n, lv, r, mx_set h a (.inl (t, x.2.1, upd x.2.2 i.toNatClampNeg (if t = true then vp_nar .boolean v else v)))) else none
    | _ => none)
  | _ => none
theorem sx_ast_spec {t : Bool} {n : Nat} {lv : mx_L} {st : List Value} {h : mx_H} {q : mx_S} (hq : sx_ast t n lv st h = some q) : ∃ (a : Nat) (i v : Int32) (r : List Value) (k : Nat) (f : Nat → Int32), st = .int v :: .int i :: .ref a :: r ∧ mx_get h a = some (.inl (t, k, f)) ∧ ¬ (i < 0 ∨ k ≤ i.toNatClampNeg) ∧ q = (n, lv, r, mx_set h a (.inl (t, k, upd f i.toNatClampNeg (if t = true then vp_nar .boolean v else v)))) := by
  unfold sx_ast at hq
  split at hq
  · rename_i v i a r
    split at hq
    · rename_i x hx
      split at hq
      · rename_i hc
        cases hq
        exact ⟨a, i, v, r, x.2.1, x.2.2, rfl, by rw [hx, ← hc.1], hc.2, rfl⟩
      · cases hq
    · cases hq
  · cases hq
theorem mx_arr_upd (cA : ClassId) (n k : Nat) (f : Nat → Int32) (v : Int32) : (vp_cell cA (n, .inl f)).setSlot k (.int v) = vp_cell cA (n, .inl (upd f k v)) := by
  rw [vp_cell_i, vp_cell_i, arrV_store]
  congr 2
  funext q
  unfold updV upd
  split <;> rfl
theorem sn_iast (hd : decode cc pc = .ok (.iastore, 1)) : mx_W own ynm cc nL ret fr lc pc (sx_ast false (pc + 1)) := by
  refine ⟨fun lv st h q hq => ?_, ?_⟩
  · obtain ⟨a, i, v, r, k, f, -, -, -, rfl⟩ := sx_ast_spec hq
    exact ⟨Nat.le_refl _, Nat.le_refl _, rfl⟩
  · intro p l e R s m args below meth c D cI cZ A g Q hfr hlc X lv st h q hq H locs ls cells slots hR hS hl hcs hss kk
    obtain ⟨a, i, v, r, k, f, rfl, hg, hin, rfl⟩ := sx_ast_spec hq
    obtain ⟨hx, hb, hml, hr, hown, hts, -, hname, hK, hN, hZ, -⟩ := X
    obtain ⟨hat, hAa⟩ := hR.2.2 a _ hg
    refine W.iast hx hb hat ((hK.2 0 _ rfl).1 k (fun j => .int (f j))) (fun q => by cases q) (by show ¬ (i < 0 ∨ (arrV _ _ _).slots.size ≤ _); rw [arrV_size]; exact hin) rfl rfl hd fun H1 e1 e2 e3 => ?_
    have h1 := kk H1 (locs ++ [⟨a, i.toNatClampNeg⟩]) ls (mx_R.set (c' := .inl (false, k, upd f i.toNatClampNeg v)) hR hg (by show H1[a]? = _; rw [e1]; exact congrArg some (mx_arr_upd _ _ _ _ _)) e2 e3) (hS.put e2 e3 hAa) hl
    simp only [mx_set, Nat.sub_self, Nat.add_zero] at h1
    exact h1
theorem sn_zast (hd : decode cc pc = .ok (.bastore, 1)) : mx_W own ynm cc nL ret fr lc pc (sx_ast true (pc + 1)) := by
  refine ⟨fun lv st h q hq => ?_, ?_⟩
  · obtain ⟨a, i, v, r, k, f, -, -, -, rfl⟩ := sx_ast_spec hq
    exact ⟨Nat.le_refl _, Nat.le_refl _, rfl⟩
  · intro p l e R s m args below meth c D cI cZ A g Q hfr hlc X lv st h q hq H locs ls cells slots hR hS hl hcs hss kk
    obtain ⟨a, i, v, r, k, f, rfl, hg, hin, rfl⟩ := sx_ast_spec hq
    obtain ⟨hx, hb, hml, hr, hown, hts, -, hname, hK, hN, hZ, -⟩ := X
    obtain ⟨hat, hAa⟩ := hR.2.2 a _ hg
    refine W.zast hx hb hat ((hK.2 1 _ rfl).1 k (fun j => .int (f j))) (fun q => by cases q) (by show ¬ (i < 0 ∨ (arrV _ _ _).slots.size ≤ _); rw [arrV_size]; exact hin) rfl rfl hd fun H1 e1 e2 e3 => ?_
    have h1 := kk H1 (locs ++ [⟨a, i.toNatClampNeg⟩]) ls (mx_R.set (c' := .inl (true, k, upd f i.toNatClampNeg (vp_nar .boolean v))) hR hg (by show H1[a]? = _; rw [e1]; exact congrArg some (mx_arr_upd _ _ _ _ _)) e2 e3) (hS.put e2 e3 hAa) hl
    simp only [mx_set, Nat.sub_self, Nat.add_zero] at h1
    exact h1
def sx_new (ci : Nat) (fs : List Value) (n : Nat) : mx_F := fun lv st h => some (n, lv, .ref h.1 :: st, mx_push h fs.length (.inr (ci, fs)))
theorem sn_new {ci idx N : Nat} {C : String} {T : u_T} {fs : List Value} (ty0 : Nat → FieldType) (hd : decode cc pc = .ok (.new idx, 3)) (hc : mx_cl[ci]? = some (C, T, N)) (hin : ∀ w ∈ u_ws C T N, w ∈ mx_tb) (hty : ∀ k, k < N → parseFieldDescriptor (T k).2.2.1 = some (ty0 k)) (hw : Cond.classLink own idx C ∈ mx_tb) (hw2 : Cond.instantiable C N ∈ mx_tb) (hw3 : Cond.initialized C ∈ mx_tb) (hlen : fs.length = N) (hfs : ∀ j, j < N → defaultValue (ty0 j) = vp_V fs j) : mx_W own ynm cc nL ret fr lc pc (sx_new ci fs (pc + 3)) := by
  refine ⟨fun lv st h q hq => ?_, ?_⟩
  · cases hq
    exact ⟨Nat.le_succ _, Nat.le_add_right _ _, rfl⟩
  · intro p l e R s m args below meth c D cI cZ A g Q hfr hlc X lv st h q hq H locs ls cells slots hR hS hl hcs hss kk
    cases hq
    obtain ⟨hx, hb, hml, hr, hown, hts, -, hname, hK, hN, hZ, hA⟩ := X
    subst hlen
    have e0 : h.1 + 1 - h.1 = 1 := by omega
    have e9 : h.2.1 + fs.length - h.2.1 = fs.length := by omega
    simp only [mx_push, e0, e9] at hcs hss kk
    have hKn := hK.1 ci _ hc
    refine W.newcK hx hb hown (hts _ hw) (hts _ hw2) (hts _ hw3) rfl hd hcs hss hKn.2.1 hR.1 fun H1 kC hkC e1 z1 o1 => ?_
    exact kk H1 locs ls (mx_R.push (n := fs.length) (c' := .inr (ci, fs)) hR ⟨_, hc, (u_born ty0 hts hin hKn hkC e1 hty).to hfs⟩ z1 o1 (hA _ (by rw [← hR.1]; exact hS.1))) (mx_S.push hS hR.1 z1 o1) hl
def sx_newa (t : Bool) (n : Nat) : mx_F := fun lv st h => match st with
  | .int k :: r => if ¬ k < 0 ∧ k.toNatClampNeg * 4 ≤ 536870912 then some (n, lv, .ref h.1 :: r, mx_push h k.toNatClampNeg (.inl (t, k.toNatClampNeg, fun _ => 0))) else none
  | _ => none
theorem sn_newi (hd : decode cc pc = .ok (.newarray .int, 2)) (hw : Cond.arrayClass .int ∈ mx_tb) : mx_W own ynm cc nL ret fr lc pc (sx_newa false (pc + 2)) := by
  refine ⟨fun lv st h q hq => ?_, ?_⟩
  · unfold sx_newa at hq
    split at hq
    · split at hq
      · cases hq
        exact ⟨Nat.le_succ _, Nat.le_add_right _ _, rfl⟩
      · cases hq
    · cases hq
  · intro p l e R s m args below meth c D cI cZ A g Q hfr hlc X lv st h q hq H locs ls cells slots hR hS hl hcs hss kk
    unfold sx_newa at hq
    split at hq
    · rename_i k r
      split at hq
      · rename_i hk
        cases hq
        obtain ⟨hx, hb, hml, hr, hown, hts, -, hname, hK, hN, hZ, hA⟩ := X
        have e0 : h.1 + 1 - h.1 = 1 := by omega
        have e9 : h.2.1 + k.toNatClampNeg - h.2.1 = k.toNatClampNeg := by omega
        simp only [mx_push, e0, e9] at hcs hss kk
        refine va_newaK hx hb (atype := .int) (hts _ hw) rfl hd rfl hk.1 rfl hk.2 hcs hss hR.1 fun H1 cA e1 z1 o1 hAr hNm => ?_
        have hcA : cA = cI := Option.some.inj (hNm.symm.trans (hK.2 0 _ rfl).2)
        subst hcA
        exact kk H1 locs ls (mx_R.push (n := k.toNatClampNeg) (c' := .inl (false, k.toNatClampNeg, fun _ => 0)) hR e1 z1 o1 (hA _ (by rw [← hR.1]; exact hS.1))) (mx_S.push hS hR.1 z1 o1) hl
      · cases hq
    · cases hq
theorem sn_newz (hd : decode cc pc = .ok (.newarray .boolean, 2)) (hw : Cond.arrayClass .boolean ∈ mx_tb) : mx_W own ynm cc nL ret fr lc pc (sx_newa true (pc + 2)) := by
  refine ⟨fun lv st h q hq => ?_, ?_⟩
  · unfold sx_newa at hq
    split at hq
    · split at hq
      · cases hq
        exact ⟨Nat.le_succ _, Nat.le_add_right _ _, rfl⟩
      · cases hq
    · cases hq
  · intro p l e R s m args below meth c D cI cZ A g Q hfr hlc X lv st h q hq H locs ls cells slots hR hS hl hcs hss kk
    unfold sx_newa at hq
    split at hq
    · rename_i k r
      split at hq
      · rename_i hk
        cases hq
        obtain ⟨hx, hb, hml, hr, hown, hts, -, hname, hK, hN, hZ, hA⟩ := X
        have e0 : h.1 + 1 - h.1 = 1 := by omega
        have e9 : h.2.1 + k.toNatClampNeg - h.2.1 = k.toNatClampNeg := by omega
        simp only [mx_push, e0, e9] at hcs hss kk
        refine va_newaK hx hb (atype := .boolean) (hts _ hw) rfl hd rfl hk.1 rfl (by show k.toNatClampNeg * 1 ≤ _; omega) hcs hss hR.1 fun H1 cA e1 z1 o1 hAr hNm => ?_
        have hcA : cA = cZ := Option.some.inj (hNm.symm.trans (hK.2 1 _ rfl).2)
        subst hcA
        exact kk H1 locs ls (mx_R.push (n := k.toNatClampNeg) (c' := .inl (true, k.toNatClampNeg, fun _ => 0)) hR e1 z1 o1 (hA _ (by rw [← hR.1]; exact hS.1))) (mx_S.push hS hR.1 z1 o1) hl
      · cases hq
    · cases hq
def sx_obj (n : Nat) : mx_F := fun lv st h => match st with
  | .ref _ :: r => if (r.map fun v => v.category).sum ≤ 8 then some (n, lv, r, h) else none
  | _ => none
theorem sn_obj {idx : Nat} (hd : decode cc pc = .ok (.invokespecial idx, 3)) (hw : Cond.methodLink own idx Lib.objectInit ∈ mx_tb) (hw2 : Cond.instanceMethod Lib.objectInit ∈ mx_tb) (hw3 : Cond.code Lib.objectInit ⟨#[0xb1]⟩ 1 none ∈ mx_tb) (h1 : 1 ≤ fr) (h2 : 20 ≤ lc) : mx_W own ynm cc nL ret fr lc pc (sx_obj (pc + 3)) := by
  refine mx_W.of (fun lv st h q hq => ?_) ?_
  · unfold sx_obj at hq
    split at hq
    · split at hq <;> cases hq
      rfl
    · cases hq
  · intro p l e R s m args below meth c D cI cZ A g Q hfr hlc X lv st h q hq H locs ls cells slots hR hS hl kk
    unfold sx_obj at hq
    split at hq
    · rename_i a r
      split at hq
      · rename_i hc
        cases hq
        obtain ⟨hx, hb, hml, hr, hown, hts, -⟩ := X
        exact W.objInit hx hb hown (hts _ hw) (hts _ hw2) (hts _ hw3) rfl (by rw [hml]; exact hl.1) rfl hd (Nat.le_trans h1 hfr) (by show 2 * 0 + _ + 12 ≤ _; omega) (kk ls hl)
      · cases hq
    · cases hq
end SH
end
section
/-! METHODS: a table's run gives the method's contract -/
/-- a method: its name, code, locals, what it answers; frames and locals' room below it -/
abbrev mx_I : Type := MethodName × ByteArray × Nat × Option FieldType × Nat × Nat
def mx_retd (cc : ByteArray) (pc : Nat) : Option FieldType → Prop
  | none => decode cc pc = .ok (.return_, 1)
  | some .int => decode cc pc = .ok (.ireturn, 1)
  | some .boolean => decode cc pc = .ok (.ireturn, 1)
  | some .long => decode cc pc = .ok (.lreturn, 1)
  | some (.object _) => decode cc pc = .ok (.areturn, 1)
  | some (.array _) => decode cc pc = .ok (.areturn, 1)
  | _ => False
def mx_link (own : String) (idx : Nat) (y : MethodName) : Prop := Cond.methodLink own idx y ∈ mx_tb ∨ ∃ host, Cond.methodLinkNest own idx y host ∈ mx_nst
def mx_call (i j : mx_I) (pc : Nat) (c : Nat × Nat × Option (Option Nat) × Nat) : Prop :=
  j.2.2.2.2.1 + 1 ≤ i.2.2.2.2.1 ∧ 8 + (j.2.2.1 + 11) + j.2.2.2.2.2 ≤ i.2.2.2.2.2 ∧ c.2.2.2 = j.2.2.1 ∧ Cond.code j.1 j.2.1 j.2.2.1 j.2.2.2.1 ∈ mx_tb ∧ Cond.initialized j.1.cls ∈ mx_tb ∧ (j.1.cls ≠ "java/lang/invoke/MethodHandle" ∧ j.1.cls ≠ "java/lang/invoke/VarHandle") ∧ ∃ n idx : Nat, (parseMethodDescriptor j.1.desc).map (fun d => d.parameters.length) = some n ∧ mx_link i.1.cls idx j.1 ∧
  ((c.2.1 = n + 1 ∧ (∃ (ci N : Nat) (T : u_T), c.2.2.1 = some (some ci) ∧ mx_cl[ci]? = some (j.1.cls, T, N)) ∧ decode i.2.1 pc = .ok (.invokevirtual idx, 3) ∧ Cond.instanceMethod j.1 ∈ mx_tb ∧ Cond.selects j.1.cls j.1 j.1 ∈ mx_tb) ∨
   (c.2.1 = n ∧ decode i.2.1 pc = .ok (.invokestatic idx, 3) ∧ Cond.static j.1 ∈ mx_tb) ∨
   (c.2.1 = n + 1 ∧ c.2.2.1 = some none ∧ decode i.2.1 pc = .ok (.invokespecial idx, 3) ∧ j.1.name = "<init>" ∧ j.2.2.2.1 = none ∧ Cond.instanceMethod j.1 ∈ mx_tb))
def mx_ok (I : Nat → Option mx_I) (i : mx_I) (pc : Nat) : mx_E → Prop
  | .inl f => mx_W i.1.cls i.1.name i.2.1 i.2.2.1 i.2.2.2.1 i.2.2.2.2.1 i.2.2.2.2.2 pc f
  | .inr (.inl c) => ∃ j, I c.1 = some j ∧ mx_call i j pc c
  | .inr (.inr ty) => i.2.2.2.1 = ty ∧ mx_retd i.2.1 pc ty
def mx_Pre (D : va_G) (cI cZ : ClassId) (av : List Value) (h : mx_H) : Array Value → State → Prop :=
  va_Pc av (fun U => mx_R D cI cZ (fun _ => True) h.2.2.2 h U.heap ∧ va_K D mx_cl (mx_tys cI cZ) U ∧ (∀ w ∈ mx_nst, va_Nw w U) ∧ mx_Z (mx_A h) h.2.2.2 U U.heap)
def mx_Post (D : va_G) (cI cZ : ClassId) (h : mx_H) (v : Option Value) (hf : mx_H) : Array Value → State → Outcome → State → Prop := fun _ st oc t =>
  oc = .returned v ∧ mx_R D cI cZ (mx_A h) h.2.2.2 hf t.heap ∧ va_F (mx_A h) st t
def mx_rm (j : mx_I) (h hf : mx_H) : Room := { frames := j.2.2.2.2.1, cells := hf.1 - h.1, slots := hf.2.1 - h.2.1, locals := j.2.2.2.2.2 }
def mx_ws (j : mx_I) : List Cond := Cond.code j.1 j.2.1 j.2.2.1 j.2.2.2.1 :: mx_tb
def mx_Met (M : Nat → Nat → Option mx_E) (l : Launch) (D : va_G) (cI cZ : ClassId) (mi : Nat) (j : mx_I) : Prop :=
  ∀ (n : Nat) (av : List Value) (h : mx_H) (v : Option Value) (hf : mx_H), mx_exec M n mi 0 (lv_args 0 av) [] h = some (v, hf) → (lg_sl av).length ≤ j.2.2.1 →
    Met l j.1 (mx_ws j) (mx_rm j h hf) (mx_Pre D cI cZ av h) (mx_Post D cI cZ h v hf) (hf.1 - h.1) (hf.2.1 - h.2.1) (mx_A h)
def mx_mono (M : Nat → Nat → Option mx_E) : Prop := ∀ (mi pc : Nat) (f : mx_F), M mi pc = some (.inl f) → ∀ lv st h q, f lv st h = some q → h.1 ≤ q.2.2.2.1 ∧ h.2.1 ≤ q.2.2.2.2.1 ∧ q.2.2.2.2.2.2 = h.2.2.2
theorem mx_exec_mono {M : Nat → Nat → Option mx_E} (hM : mx_mono M) : ∀ (n mi pc : Nat) (lv : mx_L) (st : List Value) (h : mx_H) (r : Option Value × mx_H), mx_exec M n mi pc lv st h = some r → h.1 ≤ r.2.1 ∧ h.2.1 ≤ r.2.2.1 ∧ r.2.2.2.2 = h.2.2.2 := by
  intro n
  induction n with
  | zero => intro mi pc lv st h r e; simp [mx_exec] at e
  | succ n ih =>
    intro mi pc lv st h r e
    rw [mx_exec] at e
    cases hE : M mi pc with
    | none => rw [hE] at e; cases e
    | some x =>
      rw [hE] at e
      rcases x with f | c | ty
      · cases hq : f lv st h with
        | none => simp only [hq] at e; cases e
        | some q =>
          simp only [hq] at e
          obtain ⟨a1, a2, a3⟩ := hM mi pc f hE lv st h q hq
          obtain ⟨b1, b2, b3⟩ := ih _ _ _ _ _ _ e
          exact ⟨Nat.le_trans a1 b1, Nat.le_trans a2 b2, b3.trans a3⟩
      · by_cases hk : mx_cok c st h = true
        · simp only [hk, if_true] at e
          cases hq : mx_exec M n c.1 0 (lv_args 0 (st.take c.2.1).reverse) [] h with
          | none => simp only [hq] at e; cases e
          | some q =>
            simp only [hq] at e
            obtain ⟨a1, a2, a3⟩ := ih _ _ _ _ _ _ hq
            obtain ⟨b1, b2, b3⟩ := ih _ _ _ _ _ _ e
            exact ⟨Nat.le_trans a1 b1, Nat.le_trans a2 b2, b3.trans a3⟩
        · simp only [hk] at e
          cases e
      · simp only at e
        unfold mx_ret at e
        split at e
        · cases e; exact ⟨Nat.le_refl _, Nat.le_refl _, rfl⟩
        · split at e
          · cases e; exact ⟨Nat.le_refl _, Nat.le_refl _, rfl⟩
          · cases e
        · cases e
theorem mx_R.weak {D : va_G} {cI cZ : ClassId} {A B : Nat → Prop} {g : mx_G} {h : mx_H} {H : Heap} (hR : mx_R D cI cZ A g h H) (hB : ∀ q, A q → B q) : mx_R D cI cZ B g h H := ⟨hR.1, hR.2.1, fun a c hc => ⟨(hR.2.2 a c hc).1, hB a (hR.2.2 a c hc).2⟩⟩
theorem mx_R.self {D : va_G} {cI cZ : ClassId} {A : Nat → Prop} {g : mx_G} {h : mx_H} {H : Heap} (hR : mx_R D cI cZ A g h H) : mx_R D cI cZ (mx_A h) g h H := ⟨hR.1, hR.2.1, fun a c hc => ⟨(hR.2.2 a c hc).1, Or.inl (by rw [hc]; rfl)⟩⟩
theorem mx_Z.keep {A : Nat → Prop} {g : mx_G} {s : State} {H : Heap} {locs : List Loc} (hZ : mx_Z A g s s.heap) (hS : va_S A s.heap H locs) : mx_Z A g s H :=
  ⟨fun k q hk => (hZ.1 k q hk).kept hS.2.1, fun a n f hf => (hZ.2 a n f hf).kept hS.2.1⟩
theorem mx_Z.move {A : Nat → Prop} {g : mx_G} {s U : State} {H : Heap} (hv : s.vm.Alike U.vm) (hZ : mx_Z A g s H) : mx_Z A g U H :=
  ⟨fun k q hk => va_Z.moved hv (hZ.1 k q hk), fun a n f hf => va_T.moved hv (hZ.2 a n f hf)⟩
theorem mx_Z.less {A B : Nat → Prop} {g : mx_G} {s : State} {H : Heap} (hZ : mx_Z A g s H) (hB : ∀ q, B q → A q) : mx_Z B g s H :=
  ⟨fun k q hk => (hZ.1 k q hk).narrow hB, fun a n f hf => (hZ.2 a n f hf).narrow hB⟩
theorem mx_Pre.blind {D : va_G} {cI cZ : ClassId} {av : List Value} {h : mx_H} : FrameBlind (mx_Pre D cI cZ av h) := by
  intro a U g mk q
  obtain ⟨q0, qR, qK, qN, qZ⟩ := q
  exact ⟨q0, qR, va_K.moved (u := U) (U := U.calling g mk a) (Vm.Alike.refl U.vm) qK, mx_nst_same (u := U) (U := U.calling g mk a) rfl qN, mx_Z.move (s := U) (U := U.calling g mk a) (Vm.Alike.refl U.vm) qZ⟩
theorem mx_go {p : Program} {l : Launch} {e : Env} {R : Room} {s : State} {m : MethodId} {args : Array Value} {below : List Frame} {meth : Method} {c : Code} {H : Heap} {locs : List Loc} {cells slots mc ms pc : Nat} {Q : State → Prop} {ls : Array Slot} {st0 rest : List Value} {D : va_G} {cI cZ : ClassId} {A : Nat → Prop} {h hf : mx_H} {v : Option Value} {a : Array Value}
    (hr : va_Run p l e R s m args below meth c H locs cells slots mc ms (F0 m pc ls st0) rest (mx_Post D cI cZ h v hf a) (mx_A h)) (hS : va_S A s.heap H locs) (hA : ∀ q, mx_A h q → A q)
    (kk : ∀ (H1 : Heap) (locs1 : List Loc), mx_R D cI cZ A h.2.2.2 hf H1 → va_S A s.heap H1 locs1 → W p l e R s m args below meth c H1 locs1 (cells + mc) (slots + ms) Q (F0 m (pc + 3) ls (v.toList ++ rest))) : W p l e R s m args below meth c H locs cells slots Q (F0 m pc ls st0) := by
  intro T hT X
  obtain ⟨v1, st1, t, T', L, h0, X', hL, e1, e2, ⟨hv, hR1, hz, hk⟩, st⟩ := hr T hT X
  cases hv
  rw [h0] at hz hk
  have hS1 : va_S A s.heap T'.heap (locs ++ L) := by
    refine ⟨Nat.le_trans hS.1 (by rw [e1]; exact hz), fun q h1 h2 => ?_, fun q hq => ?_⟩
    · rw [e1, hk q (Nat.lt_of_lt_of_le h1 hS.1) (fun z => h2 (hA q z))]
      exact hS.2.1 q h1 h2
    · rcases List.mem_append.mp hq with h | h
      · exact hS.2.2 q h
      · exact hA _ (hL q h)
  obtain ⟨t2, a1, b1⟩ := kk T'.heap (locs ++ L) (by rw [e1]; exact hR1.weak hA) hS1 T' rfl X'
  exact ⟨t2, st t2 a1, b1⟩
end
section
theorem mx_rcv_spec {o : Option Nat} {av : List Value} {h : mx_H} (hk : mx_rcv (some o) av h = true) : ∃ (b : Nat) (As : List Value), av = .ref b :: As ∧ ∀ ci, o = some ci → ∃ fs, mx_get h b = some (.inr (ci, fs)) := by
  unfold mx_rcv at hk
  split at hk
  · rename_i heq; cases heq
  · rename_i heq
    cases heq
    exact ⟨_, _, rfl, fun ci h => by cases h⟩
  · rename_i ci b r heq
    cases heq
    refine ⟨b, r, rfl, fun ci' h' => ?_⟩
    cases h'
    split at hk
    · rename_i o ho
      have h1 : o.1 = ci := by simpa using hk
      exact ⟨o.2, by rw [ho, ← h1]⟩
    · cases hk
  · cases hk
theorem mx_take_rev {st : List Value} {k : Nat} {b : Nat} {As : List Value} (h : (st.take k).reverse = .ref b :: As) : st = As.reverse ++ .ref b :: st.drop k := by
  have h1 : st.take k = As.reverse ++ [.ref b] := by
    have := congrArg List.reverse h
    rw [List.reverse_reverse, List.reverse_cons] at this
    exact this
  calc st = st.take k ++ st.drop k := (List.take_append_drop k st).symm
    _ = As.reverse ++ .ref b :: st.drop k := by rw [h1, List.append_assoc]; rfl
set_option maxHeartbeats 1000000 in
theorem mx_do_call {p : Program} {l : Launch} {e : Env} {R : Room} {s : State} {m : MethodId} {args : Array Value} {below : List Frame} {meth : Method} {c : Code} {H : Heap} {locs : List Loc} {cells slots pc : Nat} {Q : State → Prop} {ls : Array Slot} {st : List Value} {lv : mx_L} {D : va_G} {cI cZ : ClassId} {A : Nat → Prop} {g : mx_G} {h hf : mx_H} {v : Option Value} {i j : mx_I} {cl : Nat × Nat × Option (Option Nat) × Nat}
    (X : mx_X i.1.cls i.1.name i.2.1 i.2.2.1 i.2.2.2.1 p R s m args meth c D cI cZ A g) (hfr : i.2.2.2.2.1 ≤ R.frames) (hlc : i.2.2.2.2.2 ≤ R.locals) (hcall : mx_call i j pc cl) (hok : mx_cok cl st h = true)
    (hM : Met l j.1 (mx_ws j) (mx_rm j h hf) (mx_Pre D cI cZ (st.take cl.2.1).reverse h) (mx_Post D cI cZ h v hf) (hf.1 - h.1) (hf.2.1 - h.2.1) (mx_A h))
    (hR : mx_R D cI cZ A g h H) (hS : va_S A s.heap H locs) (hl : lv_has ls i.2.2.1 lv) (hcells : cells + (hf.1 - h.1) ≤ R.cells) (hslots : slots + (hf.2.1 - h.2.1) ≤ R.slots)
    (kk : ∀ (H1 : Heap) (locs1 : List Loc), mx_R D cI cZ A g hf H1 → va_S A s.heap H1 locs1 → W p l e R s m args below meth c H1 locs1 (cells + (hf.1 - h.1)) (slots + (hf.2.1 - h.2.1)) Q (F0 m (pc + 3) ls (v.toList ++ st.drop cl.2.1))) : W p l e R s m args below meth c H locs cells slots Q (F0 m pc ls st) := by
  obtain ⟨hx, hb, hml, hr, hown, hts, hlk, hname, hK, hN, hZ, hA⟩ := X
  obtain ⟨c1, c2, c3, c4, c5, c6, n, idx, c7, c8, kind⟩ := hcall
  have hAA : ∀ q, mx_A h q → A q := by
    rintro q (h1 | h1)
    · obtain ⟨x, hc⟩ := Option.isSome_iff_exists.mp h1
      exact (hR.2.2 q x hc).2
    · exact hA q (Nat.le_trans (by rw [← hR.1]; exact hS.1) h1)
  have hgood : GoodIn mx_tb (mx_ws j) := by
    intro w hw
    rcases List.mem_cons.mp hw with rfl | hw
    · exact ⟨c4, (mx_tb_good _ c4).2⟩
    · exact ⟨hw, (mx_tb_good w hw).2⟩
  have hgeq : h.2.2.2 = g := hR.2.1
  have hpre : ∀ U : State, U.heap = H → s.WarmedH U.vm → mx_Pre D cI cZ (st.take cl.2.1).reverse h (st.take cl.2.1).reverse.toArray U := by
    intro U hU hW
    refine ⟨rfl, ?_, va_K.moved hW.alike hK, mx_nst_warm hW hN, ?_⟩
    · rw [hU, hgeq]; exact hR.weak (fun _ _ => trivial)
    · rw [hU, hgeq]; exact ((hZ.keep hS).move hW.alike).less hAA
  unfold mx_cok at hok
  simp only [Bool.and_eq_true, decide_eq_true_eq] at hok
  obtain ⟨k1, k2, k3, k4⟩ := hok
  have hlen : ((st.take cl.2.1).reverse).length = cl.2.1 := by rw [List.length_reverse, List.length_take]; omega
  have kk' : ∀ (H1 : Heap) (locs1 : List Loc), mx_R D cI cZ A h.2.2.2 hf H1 → va_S A s.heap H1 locs1 → W p l e R s m args below meth c H1 locs1 (cells + (hf.1 - h.1)) (slots + (hf.2.1 - h.2.1)) Q (F0 m (pc + 3) ls (v.toList ++ st.drop cl.2.1)) := by
    rw [hgeq]; exact kk
  have hrm : (mx_rm j h hf).frames + 1 ≤ R.frames ∧ 8 + (j.2.2.1 + 11) + (mx_rm j h hf).locals ≤ R.locals := ⟨Nat.le_trans c1 hfr, Nat.le_trans c2 hlc⟩
  rcases kind with ⟨e1, ⟨ci, N, T, hci, hcl⟩, hd, hi, hs⟩ | ⟨e1, hd, hs⟩ | ⟨e1, e2, hd, hnm, hret, hi⟩
  · rw [hci] at k4
    obtain ⟨b, As, hav, hfs⟩ := mx_rcv_spec k4
    obtain ⟨fs, hget⟩ := hfs ci rfl
    have hst := mx_take_rev hav
    rw [hav] at hM hpre hlen
    have hn : As.length = n := by simp at hlen; omega
    rcases c8 with hlk | ⟨host, hlk⟩
    · exact mx_go (va_runV (C := j.1.cls) (As := As) (rest := st.drop cl.2.1) (b := b) ⟨hx, hb, hml, hown, hts⟩ hM ⟨callB_of n hts hgood rfl rfl rfl (hts _ c5) (hts _ hlk) ⟨c6.1, c6.2, c7⟩ hrm, hts _ hi, hts _ hs⟩ ⟨mx_Pre.blind, va_recv hK (mx_P1 (hR.2.2 b _ hget).1) (q0 := 0) hcl rfl, hpre⟩ rfl hn hl.1 hst (by show 2 * 0 + _ ≤ 8; omega) hd ⟨hcells, hslots⟩) hS hAA kk'
    · exact mx_go (va_runVN (C := j.1.cls) (As := As) (rest := st.drop cl.2.1) (b := b) ⟨hx, hb, hml, hown, hts⟩ hM ⟨va_cnB n hts hgood rfl rfl rfl (hN _ hlk) (hts _ c5) ⟨c6.1, c6.2, c7⟩ hrm, hts _ hi, hts _ hs⟩ ⟨mx_Pre.blind, va_recv hK (mx_P1 (hR.2.2 b _ hget).1) (q0 := 0) hcl rfl, hpre⟩ rfl hn hl.1 hst (by show 2 * 0 + _ ≤ 8; omega) hd ⟨hcells, hslots⟩) hS hAA kk'
  · have hst : st = ((st.take cl.2.1).reverse).reverse ++ st.drop cl.2.1 := by rw [List.reverse_reverse, List.take_append_drop]
    rcases c8 with hlk | ⟨host, hlk⟩
    · exact mx_go (va_runS (As := (st.take cl.2.1).reverse) (rest := st.drop cl.2.1) ⟨hx, hb, hml, hown, hts⟩ hM ⟨callB_of n hts hgood rfl rfl rfl (hts _ c5) (hts _ hlk) ⟨c6.1, c6.2, c7⟩ hrm, hts _ hs⟩ ⟨mx_Pre.blind, hpre⟩ rfl (by rw [hlen, e1]) hl.1 hst (by show 2 * 0 + _ ≤ 8; omega) hd ⟨hcells, hslots⟩) hS hAA kk'
    · exact mx_go (va_runSN (As := (st.take cl.2.1).reverse) (rest := st.drop cl.2.1) ⟨hx, hb, hml, hown, hts⟩ hM ⟨va_cnB n hts hgood rfl rfl rfl (hN _ hlk) (hts _ c5) ⟨c6.1, c6.2, c7⟩ hrm, hts _ hs, trivial⟩ ⟨mx_Pre.blind, hpre⟩ rfl (by rw [hlen, e1]) hl.1 hst (by show 2 * 0 + _ ≤ 8; omega) hd ⟨hcells, hslots⟩) hS hAA kk'
  · rw [e2] at k4
    obtain ⟨b, As, hav, -⟩ := mx_rcv_spec k4
    have hst := mx_take_rev hav
    rw [hav] at hM hpre hlen
    have hn : As.length = n := by simp at hlen; omega
    rcases c8 with hlk | ⟨host, hlk⟩
    · have cb := callB_of (ws := mx_ws j) (rm := mx_rm j h hf) n hts hgood rfl rfl rfl (hts _ c5) (hts _ hlk) ⟨c6.1, c6.2, c7⟩ hrm
      rw [hret] at cb
      exact mx_go (va_runI (As := As) (rest := st.drop cl.2.1) (b := b) ⟨hx, hb, hml, hown, hts⟩ hM ⟨cb, hnm, hts _ hi⟩ ⟨mx_Pre.blind, hpre⟩ rfl hn hl.1 hst (by show 2 * 0 + _ ≤ 8; omega) hd ⟨hcells, hslots⟩) hS hAA kk'
    · have cb := va_cnB (ws := mx_ws j) (rm := mx_rm j h hf) (R := R) n hts hgood rfl rfl rfl (hN _ hlk) (hts _ c5) ⟨c6.1, c6.2, c7⟩ hrm
      rw [hret] at cb
      exact mx_go (va_runIN (As := As) (rest := st.drop cl.2.1) (b := b) ⟨hx, hb, hml, hown, hts⟩ hM ⟨cb, hnm, hts _ hi⟩ ⟨mx_Pre.blind, hpre⟩ rfl hn hl.1 hst (by show 2 * 0 + _ ≤ 8; omega) hd ⟨hcells, hslots⟩) hS hAA kk'
end
section
/-- a method whose every entry is sound has its contract, if those that it calls have theirs -/
theorem mx_method {M : Nat → Nat → Option mx_E} {I : Nat → Option mx_I} (hmono : mx_mono M) {l : Launch} {D : va_G} {cI cZ : ClassId} {mi : Nat} {i : mx_I} (hpl : plainName i.1.cls = true) (hok : ∀ (pc : Nat) (en : mx_E), M mi pc = some en → mx_ok I i pc en)
    (hrec : ∀ (mj : Nat) (j : mx_I), I mj = some j → j.2.2.2.2.1 < i.2.2.2.2.1 → mx_Met M l D cI cZ mj j) : mx_Met M l D cI cZ mi i := by
  intro n0 av h0 v hf hex0 hav
  refine Met.ofW (cc := i.2.1) (maxL := i.2.2.1) (ret := i.2.2.2.1) hpl rfl ?_
  intro p e s m args below meth c s₁ B hml hv
  obtain ⟨rfl, hR0, hK, hN, hZ⟩ := hv
  have hx := B.exec
  have hb := B.bytes
  have hr := B.returns
  have hts0 := atoms_spec (ws := mx_ws i) B.pre
  have hts : ∀ w ∈ mx_tb, w.before av.toArray s = true := fun w hw => hts0 w (List.mem_cons_of_mem _ hw)
  have hown : s.vm.findClass i.1.cls = some m.cls := findClass_of_methodNamed B.named
  have hlocks := B.notSynchronized
  have hin : meth.name = i.1.name := (name_of_methodNamed B.named B.method).1
  have hA : ∀ q, s.heap.size ≤ q → mx_A h0 q := fun q hq => Or.inr (by rw [← hR0.1]; exact hq)
  have X : mx_X i.1.cls i.1.name i.2.1 i.2.2.1 i.2.2.2.1 p (headSpec (mx_ws i) (mx_rm i h0 hf)).room s m av.toArray meth c D cI cZ (mx_A h0) h0.2.2.2 := ⟨hx, hb, hml, hr, hown, hts, hlocks, hin, hK, hN, hZ, hA⟩
  have run : ∀ (n pc : Nat) (lv : mx_L) (st : List Value) (h : mx_H), mx_exec M n mi pc lv st h = some (v, hf) → ∀ (H : Heap) (locs : List Loc) (ls : Array Slot), mx_R D cI cZ (mx_A h0) h0.2.2.2 h H → va_S (mx_A h0) s.heap H locs → lv_has ls i.2.2.1 lv → h0.1 ≤ h.1 → h0.2.1 ≤ h.2.1 →
      W p l e (headSpec (mx_ws i) (mx_rm i h0 hf)).room s m av.toArray below meth c H locs (h.1 - h0.1) (h.2.1 - h0.2.1) (MQ below (mx_Post D cI cZ h0 v hf) av.toArray s (hf.1 - h0.1) (hf.2.1 - h0.2.1) (mx_A h0)) (F0 m pc ls st) := by
    intro n
    induction n with
    | zero => intro pc lv st h hex; simp [mx_exec] at hex
    | succ n ih =>
      intro pc lv st h hex H locs ls hR hS hl hz1 hz2
      have hmn := mx_exec_mono hmono _ _ _ _ _ _ _ hex
      rw [mx_exec] at hex
      cases hE : M mi pc with
      | none => rw [hE] at hex; cases hex
      | some x =>
        rw [hE] at hex
        have hent := hok pc x hE
        rcases x with f | cl | ty
        · cases hq : f lv st h with
          | none => simp only [hq] at hex; cases hex
          | some q =>
            simp only [hq] at hex
            have m1 := hent.1 lv st h q hq
            have m2 := mx_exec_mono hmono _ _ _ _ _ _ _ hex
            dsimp only at m2
            have ea : h.1 - h0.1 + (q.2.2.2.1 - h.1) = q.2.2.2.1 - h0.1 := by omega
            have eb : h.2.1 - h0.2.1 + (q.2.2.2.2.1 - h.2.1) = q.2.2.2.2.1 - h0.2.1 := by omega
            refine hent.2 p l e _ s m av.toArray below meth c D cI cZ (mx_A h0) h0.2.2.2 _ (Nat.le_refl _) (Nat.le_refl _) X lv st h q hq H locs ls _ _ hR hS hl ?_ ?_ ?_
            · rw [ea]; show _ ≤ hf.1 - h0.1; omega
            · rw [eb]; show _ ≤ hf.2.1 - h0.2.1; omega
            · intro H' locs' ls' hR' hS' hl'
              rw [ea, eb]
              exact ih _ _ _ _ hex H' locs' ls' hR' hS' hl' (by omega) (by omega)
        · obtain ⟨j, hj, hcall⟩ := hent
          by_cases hk : mx_cok cl st h = true
          · simp only [hk, if_true] at hex
            cases hq : mx_exec M n cl.1 0 (lv_args 0 (st.take cl.2.1).reverse) [] h with
            | none => simp only [hq] at hex; cases hex
            | some q =>
              simp only [hq] at hex
              have m1 := mx_exec_mono hmono _ _ _ _ _ _ _ hq
              have m2 := mx_exec_mono hmono _ _ _ _ _ _ _ hex
              dsimp only at m2
              have ea : h.1 - h0.1 + (q.2.1 - h.1) = q.2.1 - h0.1 := by omega
              have eb : h.2.1 - h0.2.1 + (q.2.2.1 - h.2.1) = q.2.2.1 - h0.2.1 := by omega
              have hk2 := hk
              unfold mx_cok at hk2
              simp only [Bool.and_eq_true, decide_eq_true_eq] at hk2
              have hMj := hrec cl.1 j hj (by have := hcall.1; omega) n (st.take cl.2.1).reverse h q.1 q.2 hq (by rw [← hcall.2.2.1]; exact hk2.2.2.1)
              refine mx_do_call X (Nat.le_refl _) (Nat.le_refl _) hcall hk hMj hR hS hl ?_ ?_ ?_
              · rw [ea]; show _ ≤ hf.1 - h0.1; omega
              · rw [eb]; show _ ≤ hf.2.1 - h0.2.1; omega
              · intro H1 locs1 hR1 hS1
                rw [ea, eb]
                exact ih _ _ _ _ hex H1 locs1 ls hR1 hS1 hl (by omega) (by omega)
          · simp only [hk] at hex
            cases hex
        · obtain ⟨hty, hdec⟩ := hent
          simp only at hex
          have hr' : meth.sig.returnType = ty := hr.trans hty
          cases ty with
          | none =>
            unfold mx_ret at hex
            split at hex
            · cases hex
              exact W.vret hx hb hr' (fun t ht hW => ⟨rfl, by rw [ht]; exact hR, hS.F ht⟩) hS.2.2 hdec
            · rename_i heq; cases heq
            · cases hex
          | some ty =>
            have h9 : ∃ w, st = [w] ∧ mx_rok ty w = true ∧ v = some w ∧ hf = h := by
              unfold mx_ret at hex
              split at hex
              · rename_i heq; cases heq
              · rename_i ty' w heq
                cases heq
                split at hex
                · rename_i hk
                  cases hex
                  exact ⟨w, rfl, hk, rfl, rfl⟩
                · cases hex
              · cases hex
            obtain ⟨w, rfl, hrok, rfl, rfl⟩ := h9
            have hpost : ∀ t : State, t.heap = H → s.WarmedH t.vm → mx_Post D cI cZ h0 (some w) hf av.toArray s (.returned (some w)) t := fun t ht hW => ⟨rfl, by rw [ht]; exact hR, hS.F ht⟩
            unfold mx_rok at hrok
            split at hrok
            · exact W.aret hx hb hr' (Or.inl ⟨_, rfl⟩) (Or.inr ⟨_, rfl⟩) hpost hS.2.2 hdec
            · exact W.aret hx hb hr' (Or.inl ⟨_, rfl⟩) (Or.inl rfl) hpost hS.2.2 hdec
            · exact W.aret hx hb hr' (Or.inr ⟨_, rfl⟩) (Or.inr ⟨_, rfl⟩) hpost hS.2.2 hdec
            · exact W.aret hx hb hr' (Or.inr ⟨_, rfl⟩) (Or.inl rfl) hpost hS.2.2 hdec
            · exact W.lret hx hb hr' hpost hS.2.2 hdec
            · exact W.iret hx hb hr' hpost hS.2.2 hdec
            · exact W.zret hx hb hr' (by simpa using hrok) hpost hS.2.2 hdec
            · cases hrok
  have hl := lv_entry av (n := i.2.2.1) hav
  rw [lg_entry_eq]
  have h1 := run n0 0 (lv_args 0 av) [] h0 hex0 s.heap [] _ hR0.self va_S.rf hl (Nat.le_refl _) (Nat.le_refl _)
  rw [Nat.sub_self, Nat.sub_self] at h1
  exact h1
/-- all methods at once, by the frames that they need -/
theorem mx_sound {M : Nat → Nat → Option mx_E} {I : Nat → Option mx_I} (hmono : mx_mono M) {l : Launch} {D : va_G} {cI cZ : ClassId}
    (hok : ∀ (mi : Nat) (i : mx_I), I mi = some i → (plainName i.1.cls = true ∧ ∀ (pc : Nat) (en : mx_E), M mi pc = some en → mx_ok I i pc en) ∨ mx_Met M l D cI cZ mi i) : ∀ (mi : Nat) (i : mx_I), I mi = some i → mx_Met M l D cI cZ mi i := by
  have hd : ∀ (d mi : Nat) (i : mx_I), I mi = some i → i.2.2.2.2.1 < d → mx_Met M l D cI cZ mi i := by
    intro d
    induction d with
    | zero => intro mi i _ h; omega
    | succ d ih =>
      intro mi i hi hlt
      rcases hok mi i hi with ⟨h1, h2⟩ | h1
      · exact mx_method hmono h1 h2 (fun mj j hj hjl => ih mj j hj (by omega))
      · exact h1
  exact fun mi i hi => hd _ mi i hi (Nat.lt_succ_self _)
end
section
/-! System.arraycopy of ints -/
section SC
variable {p : Program} {l : Launch} {e : Env} {R : Room} {s : State} {m : MethodId} {args : Array Value} {below : List Frame} {meth : Method} {c : Code} {H : Heap} {locs : List Loc} {cells slots : Nat} {Q : State → Prop}
theorem mx_nn {z : Int32} (hz : ¬ z < 0) : z.toInt = (z.toNatClampNeg : Int) := by
  have h1 : (0 : Int) ≤ z.toInt := by simpa using Int32.le_iff_toInt_le.mp (Int32.not_lt.mp hz)
  show z.toInt = ((z.toInt.toNat : Nat) : Int)
  omega
theorem mx_Wcopy {cc : ByteArray} {pc : Nat} {ls : Array Slot} {rest : List Value} (hexec : p.tables.exec = Jvm.exec) (hb : c.code = cc) (hml : c.maxLocals = ls.size) {own : String} {idx : Nat} (hown : s.vm.findClass own = some m.cls) (hlink : (Cond.methodLink own idx arraycopyName).before args s = true) (hnat : (Cond.native arraycopyName).before args s = true) (hstat : (Cond.static arraycopyName).before args s = true) (hini : (Cond.initialized "java/lang/System").before args s = true)
    {cA : ClassId} (hArr : ArrOfT s cA .int) {a0 a n0 n1 : Nat} {f g : Nat → Int32} (h0 : H[a0]? = some (vp_cell cA (n0, .inl f))) (h9 : H[a]? = some (vp_cell cA (n1, .inl g))) {sp dp n : Int32} (h1 : ¬ sp < 0) (h2 : ¬ dp < 0) (h3 : ¬ n < 0) (h4 : sp.toNatClampNeg + n.toNatClampNeg ≤ n0) (h5 : dp.toNatClampNeg + n.toNatClampNeg ≤ n1)
    (hfr : 1 ≤ R.frames) (hlo : (rest.map fun v => v.category).sum + (nativeFrameWords "java/lang/System" "arraycopy" 5 + 11) ≤ R.locals) (hdg : decode cc pc = .ok (.invokestatic idx, 3))
    (kk : ∀ (H1 : Heap) (L : List Loc), (∀ q ∈ L, q.base = a) → H1[a]? = some (vp_cell cA (n1, .inl (va_cpy f g sp.toNatClampNeg dp.toNatClampNeg n.toNatClampNeg))) → H1.size = H.size → (∀ q : Nat, q ≠ a → H1[q]? = H[q]?) → W p l e R s m args below meth c H1 (locs ++ L) cells slots Q (F0 m (pc + 3) ls rest)) : W p l e R s m args below meth c H locs cells slots Q (F0 m pc ls (.int n :: .int dp :: .ref a :: .int sp :: .ref a0 :: rest)) := by
  intro T hT X
  obtain ⟨-, k0, hk0, cm0, hkk0⟩ := hArr n0 (fun j => .int (f j))
  obtain ⟨-, k1, hk1, cm1, hkk1⟩ := hArr n1 (fun j => .int (g j))
  have z0 : (vp_cell cA (n0, .inl f)).slots.size = n0 := arrV_size _ _ _
  have z1 : (vp_cell cA (n1, .inl g)).slots.size = n1 := arrV_size _ _ _
  obtain ⟨vm', X', step⟩ := X.arraycopy hexec hown hlink hnat hstat hini (src := a0) (dst := a) (cs := vp_cell cA (n0, .inl f)) (cd := vp_cell cA (n1, .inl g)) (srcPos := sp) (destPos := dp) (n := n) (by rw [hT]; exact h0) (by rw [hT]; exact h9)
    (fun _ h => by cases h) (fun _ h => by cases h) (fun h => by cases h) (fun h => by cases h) hk0 hk1 hkk0 hkk1 (by simp [refKind]) h1 h2 h3
    (by rw [mx_nn h1, mx_nn h3, z0]; omega) (by rw [mx_nn h2, mx_nn h3, z1]; omega)
    (fun vm₁ _ j hj => by
      have e1 : (vp_cell cA (n0, .inl f)).slots.getD (sp.toNatClampNeg + j) .null = .int (f (sp.toNatClampNeg + j)) := by
        rw [Array.getD_eq_getD_getElem?, show (vp_cell cA (n0, .inl f)).slots[sp.toNatClampNeg + j]? = some (.int (f (sp.toNatClampNeg + j))) from arrV_read _ _ (by omega)]
        rfl
      rw [e1]
      exact ⟨rfl, trivial⟩)
    (g := F0 m pc ls (.int n :: .int dp :: .ref a :: .int sp :: .ref a0 :: rest)) rfl (by rw [hml]) (rest := rest) rfl (by rw [hb]; exact hdg) hfr (by show 2 * 0 + _ + _ ≤ _; omega)
  have e1 : copied (vp_cell cA (n0, .inl f)) (vp_cell cA (n1, .inl g)) sp dp n = vp_cell cA (n1, .inl (va_cpy f g sp.toNatClampNeg dp.toNatClampNeg n.toNatClampNeg)) := va_copied (fun z => .int z) cA cA f g h4
  rw [e1] at X' step
  have hl : a < H.size := (Array.getElem?_eq_some_iff.mp h9).1
  have hheap : ((T.setVm vm').setCell a (vp_cell cA (n1, .inl (va_cpy f g sp.toNatClampNeg dp.toNatClampNeg n.toNatClampNeg)))).heap = H.setIfInBounds a (vp_cell cA (n1, .inl (va_cpy f g sp.toNatClampNeg dp.toNatClampNeg n.toNatClampNeg))) := by rw [← hT]; rfl
  obtain ⟨t, a1, b1⟩ := kk _ _ (fun q hq => by obtain ⟨z, -, hz⟩ := List.mem_map.mp hq; rw [← hz]) (by simp [Array.getElem?_setIfInBounds, hl]) (by simp) (fun q hq => by simp [Array.getElem?_setIfInBounds, Ne.symm hq]) _ hheap X'
  exact ⟨t, step t a1, b1⟩
end SC
def sx_copy (n : Nat) : mx_F := fun lv st h => match st with
  | .int k :: .int dp :: .ref b :: .int sp :: .ref a :: r => (match mx_get h a, mx_get h b with
    | some (.inl x), some (.inl y) => if x.1 = false ∧ y.1 = false ∧ ¬ sp < 0 ∧ ¬ dp < 0 ∧ ¬ k < 0 ∧ sp.toNatClampNeg + k.toNatClampNeg ≤ x.2.1 ∧ dp.toNatClampNeg + k.toNatClampNeg ≤ y.2.1 ∧ (r.map fun v => v.category).sum ≤ 8 then
        some (n, lv, r, mx_set h b (.inl (false, y.2.1, va_cpy x.2.2 y.2.2 sp.toNatClampNeg dp.toNatClampNeg k.toNatClampNeg))) else none
    | _, _ => none)
  | _ => none
theorem sx_copy_spec {n : Nat} {lv : mx_L} {st : List Value} {h : mx_H} {q : mx_S} (hq : sx_copy n lv st h = some q) : ∃ (k dp sp : Int32) (a b n0 n1 : Nat) (f g : Nat → Int32) (r : List Value), st = .int k :: .int dp :: .ref b :: .int sp :: .ref a :: r ∧ mx_get h a = some (.inl (false, n0, f)) ∧ mx_get h b = some (.inl (false, n1, g)) ∧ ¬ sp < 0 ∧ ¬ dp < 0 ∧ ¬ k < 0 ∧ sp.toNatClampNeg + k.toNatClampNeg ≤ n0 ∧ dp.toNatClampNeg + k.toNatClampNeg ≤ n1 ∧ (r.map fun v => v.category).sum ≤ 8 ∧ q = (n, lv, r, mx_set h b (.inl (false, n1, va_cpy f g sp.toNatClampNeg dp.toNatClampNeg k.toNatClampNeg))) := by
  unfold sx_copy at hq
  split at hq
  · rename_i k dp b sp a r
    split at hq
    · rename_i x y hx hy
      split at hq
      · rename_i hc
        cases hq
        exact ⟨k, dp, sp, a, b, x.2.1, y.2.1, x.2.2, y.2.2, r, rfl, by rw [hx, ← hc.1], by rw [hy, ← hc.2.1], hc.2.2.1, hc.2.2.2.1, hc.2.2.2.2.1, hc.2.2.2.2.2.1, hc.2.2.2.2.2.2.1, hc.2.2.2.2.2.2.2, rfl⟩
      · cases hq
    · cases hq
  · cases hq
theorem sn_copy {own ynm : String} {cc : ByteArray} {nL : Nat} {ret : Option FieldType} {fr lc pc idx : Nat} (hd : decode cc pc = .ok (.invokestatic idx, 3)) (hw : Cond.methodLink own idx arraycopyName ∈ mx_tb) (hw2 : Cond.native arraycopyName ∈ mx_tb) (hw3 : Cond.static arraycopyName ∈ mx_tb) (hw4 : Cond.initialized "java/lang/System" ∈ mx_tb) (h1 : 1 ≤ fr) (h2 : 8 + (nativeFrameWords "java/lang/System" "arraycopy" 5 + 11) ≤ lc) : mx_W own ynm cc nL ret fr lc pc (sx_copy (pc + 3)) := by
  refine ⟨fun lv st h q hq => ?_, ?_⟩
  · obtain ⟨k, dp, sp, a, b, n0, n1, f, g, r, -, -, -, -, -, -, -, -, -, rfl⟩ := sx_copy_spec hq
    exact ⟨Nat.le_refl _, Nat.le_refl _, rfl⟩
  · intro p l e R s m args below meth c D cI cZ A g0 Q hfr hlc X lv st h q hq H locs ls cells slots hR hS hl hcs hss kk
    obtain ⟨k, dp, sp, a, b, n0, n1, f, g, r, rfl, hga, hgb, c1, c2, c3, c4, c5, c6, rfl⟩ := sx_copy_spec hq
    obtain ⟨hx, hb, hml, hr, hown, hts, -, hname, hK, hN, hZ, hA⟩ := X
    obtain ⟨hat, -⟩ := hR.2.2 a _ hga
    obtain ⟨hbt, hAb⟩ := hR.2.2 b _ hgb
    refine mx_Wcopy hx hb (by rw [hml]; exact hl.1.symm) hown (hts _ hw) (hts _ hw2) (hts _ hw3) (hts _ hw4) (hK.2 0 _ rfl).1 hat hbt c1 c2 c3 c4 c5 (Nat.le_trans h1 hfr) (by omega) hd fun H1 L hL e1 e2 e3 => ?_
    have h1 := kk H1 (locs ++ L) ls (mx_R.set (c' := .inl (false, n1, va_cpy f g sp.toNatClampNeg dp.toNatClampNeg k.toNatClampNeg)) hR hgb e1 e2 e3) ⟨Nat.le_trans hS.1 (by rw [e2]; exact Nat.le_refl _), fun q g1 g2 => (e3 q (fun z => g2 (by rw [z]; exact hAb))).trans (hS.2.1 q g1 g2), fun q hq => (List.mem_append.mp hq).elim (hS.2.2 q) (fun z => by rw [hL q z]; exact hAb)⟩ hl
    simp only [mx_set, Nat.sub_self, Nat.add_zero] at h1
    exact h1
end
section
/-! THE WORDS, by their places (printed by wip/tables.py) -/
theorem tw_111 : Cond.arrayClass .int ∈ mx_tb := mx_tb_in (List.mem_of_getElem? (i := 111) (by decide +kernel)) (by decide +kernel)
theorem tw_253 : Cond.methodLink "java/util/Arrays" 304 ⟨"java/lang/Math", "min", "(II)I"⟩ ∈ mx_tb := mx_tb_in (List.mem_of_getElem? (i := 253) (by decide +kernel)) (by decide +kernel)
theorem tw_256 : Cond.methodLink "java/util/Arrays" 150 ⟨"java/lang/System", "arraycopy", "(Ljava/lang/Object;ILjava/lang/Object;II)V"⟩ ∈ mx_tb := mx_tb_in (List.mem_of_getElem? (i := 256) (by decide +kernel)) (by decide +kernel)
theorem tw_258 : Cond.native ⟨"java/lang/System", "arraycopy", "(Ljava/lang/Object;ILjava/lang/Object;II)V"⟩ ∈ mx_tb := mx_tb_in (List.mem_of_getElem? (i := 258) (by decide +kernel)) (by decide +kernel)
theorem tw_257 : Cond.static ⟨"java/lang/System", "arraycopy", "(Ljava/lang/Object;ILjava/lang/Object;II)V"⟩ ∈ mx_tb := mx_tb_in (List.mem_of_getElem? (i := 257) (by decide +kernel)) (by decide +kernel)
theorem tw_77 : Cond.initialized "java/lang/System" ∈ mx_tb := mx_tb_in (List.mem_of_getElem? (i := 77) (by decide +kernel)) (by decide +kernel)
theorem tw_103 : Cond.methodLink "RowCode$Numbers" 3 ⟨"java/lang/Object", "<init>", "()V"⟩ ∈ mx_tb := mx_tb_in (List.mem_of_getElem? (i := 103) (by decide +kernel)) (by decide +kernel)
theorem tw_90 : Cond.instanceMethod ⟨"java/lang/Object", "<init>", "()V"⟩ ∈ mx_tb := mx_tb_in (List.mem_of_getElem? (i := 90) (by decide +kernel)) (by decide +kernel)
theorem tw_104 : Cond.fieldLink "RowCode$Numbers" 9 "RowCode$Numbers" "items" "[I" ∈ mx_tb := mx_tb_in (List.mem_of_getElem? (i := 104) (by decide +kernel)) (by decide +kernel)
theorem tw_105 : Cond.fieldLink "RowCode$Numbers" 15 "RowCode$Numbers" "count" "I" ∈ mx_tb := mx_tb_in (List.mem_of_getElem? (i := 105) (by decide +kernel)) (by decide +kernel)
theorem tw_243 : Cond.methodLink "RowCode$Numbers" 19 ⟨"java/util/Arrays", "copyOf", "([II)[I"⟩ ∈ mx_tb := mx_tb_in (List.mem_of_getElem? (i := 243) (by decide +kernel)) (by decide +kernel)
theorem tw_239 : Cond.methodLink "RowCode$Numbers" 25 ⟨"RowCode$Numbers", "append", "(I)V"⟩ ∈ mx_tb := mx_tb_in (List.mem_of_getElem? (i := 239) (by decide +kernel)) (by decide +kernel)
theorem tw_534 : Cond.methodLink "RowCode$Arithmetic" 7 ⟨"RowCode$Arithmetic", "holds", "(III)Z"⟩ ∈ mx_tb := mx_tb_in (List.mem_of_getElem? (i := 534) (by decide +kernel)) (by decide +kernel)
theorem tw_219 : Cond.methodLink "RowCode$Memory" 3 ⟨"java/lang/Object", "<init>", "()V"⟩ ∈ mx_tb := mx_tb_in (List.mem_of_getElem? (i := 219) (by decide +kernel)) (by decide +kernel)
theorem tw_220 : Cond.fieldLink "RowCode$Memory" 9 "RowCode$Memory" "locals" "[I" ∈ mx_tb := mx_tb_in (List.mem_of_getElem? (i := 220) (by decide +kernel)) (by decide +kernel)
theorem tw_221 : Cond.fieldLink "RowCode$Memory" 15 "RowCode$Memory" "words" "[I" ∈ mx_tb := mx_tb_in (List.mem_of_getElem? (i := 221) (by decide +kernel)) (by decide +kernel)
theorem tw_703 : Jvm.Cond.constantLong "RowCode$Memory" 18 (64) ∈ mx_tb := mx_tb_in (List.mem_of_getElem? (i := 703) (by decide +kernel)) (by decide +kernel)
theorem tw_679 : Cond.methodLink "RowCode$Memory" 20 ⟨"RowCode$Memory", "hasLocal", "(I)Z"⟩ ∈ mx_tb := mx_tb_in (List.mem_of_getElem? (i := 679) (by decide +kernel)) (by decide +kernel)
theorem tw_708 : Cond.methodLink "RowCode$Memory" 24 ⟨"RowCode$Memory", "hasWord", "(J)Z"⟩ ∈ mx_tb := mx_tb_in (List.mem_of_getElem? (i := 708) (by decide +kernel)) (by decide +kernel)
theorem tw_97 : Cond.methodLink "RowCode$Code" 1 ⟨"java/lang/Object", "<init>", "()V"⟩ ∈ mx_tb := mx_tb_in (List.mem_of_getElem? (i := 97) (by decide +kernel)) (by decide +kernel)
theorem tw_98 : Cond.classLink "RowCode$Code" 7 "RowCode$Numbers" ∈ mx_tb := mx_tb_in (List.mem_of_getElem? (i := 98) (by decide +kernel)) (by decide +kernel)
theorem tw_99 : Cond.instantiable "RowCode$Numbers" 2 ∈ mx_tb := mx_tb_in (List.mem_of_getElem? (i := 99) (by decide +kernel)) (by decide +kernel)
theorem tw_68 : Cond.initialized "RowCode$Numbers" ∈ mx_tb := mx_tb_in (List.mem_of_getElem? (i := 68) (by decide +kernel)) (by decide +kernel)
theorem tw_100 : Cond.methodLinkNest "RowCode$Code" 9 ⟨"RowCode$Numbers", "<init>", "()V"⟩ "RowCode" ∈ mx_nst := mx_nst_in (List.mem_of_getElem? (i := 100) (by decide +kernel)) rfl
theorem tw_112 : Cond.fieldLink "RowCode$Code" 10 "RowCode$Code" "numbers" "LRowCode$Numbers;" ∈ mx_tb := mx_tb_in (List.mem_of_getElem? (i := 112) (by decide +kernel)) (by decide +kernel)
theorem tw_113 : Cond.fieldLink "RowCode$Code" 16 "RowCode$Code" "arguments" "LRowCode$Numbers;" ∈ mx_tb := mx_tb_in (List.mem_of_getElem? (i := 113) (by decide +kernel)) (by decide +kernel)
theorem tw_319 : Cond.methodLink "RowCode$Code" 19 ⟨"RowCode$Numbers", "size", "()I"⟩ ∈ mx_tb := mx_tb_in (List.mem_of_getElem? (i := 319) (by decide +kernel)) (by decide +kernel)
theorem tw_365 : Cond.methodLink "RowCode$Code" 23 ⟨"RowCode$Numbers", "at", "(I)I"⟩ ∈ mx_tb := mx_tb_in (List.mem_of_getElem? (i := 365) (by decide +kernel)) (by decide +kernel)
theorem tw_327 : Cond.methodLink "RowCode$Code" 27 ⟨"RowCode$Numbers", "append", "(I)V"⟩ ∈ mx_tb := mx_tb_in (List.mem_of_getElem? (i := 327) (by decide +kernel)) (by decide +kernel)
theorem tw_344 : Cond.methodLink "RowCode$Code" 31 ⟨"RowCode$Numbers", "cutTo", "(I)V"⟩ ∈ mx_tb := mx_tb_in (List.mem_of_getElem? (i := 344) (by decide +kernel)) (by decide +kernel)
theorem tw_510 : Cond.methodLink "RowCode$Code" 34 ⟨"RowCode$Numbers", "takeLast", "()I"⟩ ∈ mx_tb := mx_tb_in (List.mem_of_getElem? (i := 510) (by decide +kernel)) (by decide +kernel)
theorem tw_201 : Cond.methodLink "RowCode$Program" 3 ⟨"java/lang/Object", "<init>", "()V"⟩ ∈ mx_tb := mx_tb_in (List.mem_of_getElem? (i := 201) (by decide +kernel)) (by decide +kernel)
theorem tw_202 : Cond.classLink "RowCode$Program" 9 "RowCode$Numbers" ∈ mx_tb := mx_tb_in (List.mem_of_getElem? (i := 202) (by decide +kernel)) (by decide +kernel)
theorem tw_203 : Cond.methodLinkNest "RowCode$Program" 11 ⟨"RowCode$Numbers", "<init>", "()V"⟩ "RowCode" ∈ mx_nst := mx_nst_in (List.mem_of_getElem? (i := 203) (by decide +kernel)) rfl
theorem tw_204 : Cond.fieldLink "RowCode$Program" 12 "RowCode$Program" "numbers" "LRowCode$Numbers;" ∈ mx_tb := mx_tb_in (List.mem_of_getElem? (i := 204) (by decide +kernel)) (by decide +kernel)
theorem tw_205 : Cond.fieldLink "RowCode$Program" 18 "RowCode$Program" "arguments" "LRowCode$Numbers;" ∈ mx_tb := mx_tb_in (List.mem_of_getElem? (i := 205) (by decide +kernel)) (by decide +kernel)
theorem tw_206 : Cond.fieldLink "RowCode$Program" 21 "RowCode$Program" "places" "LRowCode$Numbers;" ∈ mx_tb := mx_tb_in (List.mem_of_getElem? (i := 206) (by decide +kernel)) (by decide +kernel)
theorem tw_645 : Cond.methodLink "RowCode$Program" 24 ⟨"RowCode$Numbers", "cutTo", "(I)V"⟩ ∈ mx_tb := mx_tb_in (List.mem_of_getElem? (i := 645) (by decide +kernel)) (by decide +kernel)
theorem tw_646 : Cond.methodLink "RowCode$Program" 28 ⟨"RowCode$Numbers", "refill", "(II)V"⟩ ∈ mx_tb := mx_tb_in (List.mem_of_getElem? (i := 646) (by decide +kernel)) (by decide +kernel)
theorem tw_647 : Cond.methodLink "RowCode$Program" 32 ⟨"RowCode$Numbers", "size", "()I"⟩ ∈ mx_tb := mx_tb_in (List.mem_of_getElem? (i := 647) (by decide +kernel)) (by decide +kernel)
theorem tw_648 : Cond.methodLink "RowCode$Program" 36 ⟨"RowCode$Numbers", "at", "(I)I"⟩ ∈ mx_tb := mx_tb_in (List.mem_of_getElem? (i := 648) (by decide +kernel)) (by decide +kernel)
theorem tw_649 : Cond.methodLink "RowCode$Program" 40 ⟨"RowCode$Program", "take", "(II)V"⟩ ∈ mx_tb := mx_tb_in (List.mem_of_getElem? (i := 649) (by decide +kernel)) (by decide +kernel)
theorem tw_653 : Cond.methodLink "RowCode$Program" 43 ⟨"RowCode$Numbers", "change", "(II)V"⟩ ∈ mx_tb := mx_tb_in (List.mem_of_getElem? (i := 653) (by decide +kernel)) (by decide +kernel)
theorem tw_654 : Cond.methodLink "RowCode$Program" 46 ⟨"RowCode$Numbers", "append", "(I)V"⟩ ∈ mx_tb := mx_tb_in (List.mem_of_getElem? (i := 654) (by decide +kernel)) (by decide +kernel)
theorem tw_232 : Cond.methodLink "RowCode$Machine" 3 ⟨"java/lang/Object", "<init>", "()V"⟩ ∈ mx_tb := mx_tb_in (List.mem_of_getElem? (i := 232) (by decide +kernel)) (by decide +kernel)
theorem tw_233 : Cond.classLink "RowCode$Machine" 9 "RowCode$Numbers" ∈ mx_tb := mx_tb_in (List.mem_of_getElem? (i := 233) (by decide +kernel)) (by decide +kernel)
theorem tw_234 : Cond.methodLinkNest "RowCode$Machine" 11 ⟨"RowCode$Numbers", "<init>", "()V"⟩ "RowCode" ∈ mx_nst := mx_nst_in (List.mem_of_getElem? (i := 234) (by decide +kernel)) rfl
theorem tw_260 : Cond.fieldLink "RowCode$Machine" 12 "RowCode$Machine" "slots" "LRowCode$Numbers;" ∈ mx_tb := mx_tb_in (List.mem_of_getElem? (i := 260) (by decide +kernel)) (by decide +kernel)
theorem tw_259 : Cond.fieldLink "RowCode$Machine" 18 "RowCode$Machine" "memory" "LRowCode$Memory;" ∈ mx_tb := mx_tb_in (List.mem_of_getElem? (i := 259) (by decide +kernel)) (by decide +kernel)
theorem tw_235 : Cond.methodLink "RowCode$Machine" 22 ⟨"RowCode$Numbers", "refill", "(II)V"⟩ ∈ mx_tb := mx_tb_in (List.mem_of_getElem? (i := 235) (by decide +kernel)) (by decide +kernel)
theorem tw_263 : Cond.fieldLink "RowCode$Machine" 26 "RowCode$Machine" "at" "I" ∈ mx_tb := mx_tb_in (List.mem_of_getElem? (i := 263) (by decide +kernel)) (by decide +kernel)
theorem tw_265 : Cond.fieldLink "RowCode$Machine" 30 "RowCode$Machine" "endValue" "I" ∈ mx_tb := mx_tb_in (List.mem_of_getElem? (i := 265) (by decide +kernel)) (by decide +kernel)
theorem tw_267 : Cond.fieldLink "RowCode$Machine" 33 "RowCode$Machine" "fuelLeft" "I" ∈ mx_tb := mx_tb_in (List.mem_of_getElem? (i := 267) (by decide +kernel)) (by decide +kernel)
theorem tw_264 : Cond.fieldLink "RowCode$Machine" 36 "RowCode$Machine" "state" "I" ∈ mx_tb := mx_tb_in (List.mem_of_getElem? (i := 264) (by decide +kernel)) (by decide +kernel)
theorem tw_659 : Cond.methodLink "RowCode$Machine" 39 ⟨"RowCode$Program", "size", "()I"⟩ ∈ mx_tb := mx_tb_in (List.mem_of_getElem? (i := 659) (by decide +kernel)) (by decide +kernel)
theorem tw_663 : Cond.methodLink "RowCode$Machine" 45 ⟨"RowCode$Program", "numberAt", "(I)I"⟩ ∈ mx_tb := mx_tb_in (List.mem_of_getElem? (i := 663) (by decide +kernel)) (by decide +kernel)
theorem tw_667 : Cond.methodLink "RowCode$Machine" 49 ⟨"RowCode$Program", "argumentAt", "(I)I"⟩ ∈ mx_tb := mx_tb_in (List.mem_of_getElem? (i := 667) (by decide +kernel)) (by decide +kernel)
theorem tw_671 : Cond.methodLink "RowCode$Machine" 52 ⟨"RowCode$Machine", "move", "(II)V"⟩ ∈ mx_tb := mx_tb_in (List.mem_of_getElem? (i := 671) (by decide +kernel)) (by decide +kernel)
theorem tw_684 : Cond.methodLink "RowCode$Machine" 55 ⟨"RowCode$Machine", "work", "(II)V"⟩ ∈ mx_tb := mx_tb_in (List.mem_of_getElem? (i := 684) (by decide +kernel)) (by decide +kernel)
theorem tw_744 : Cond.methodLink "RowCode$Machine" 58 ⟨"RowCode$Machine", "jumps", "(I)Z"⟩ ∈ mx_tb := mx_tb_in (List.mem_of_getElem? (i := 744) (by decide +kernel)) (by decide +kernel)
theorem tw_261 : Cond.fieldLink "RowCode$Machine" 62 "RowCode$Machine" "a" "I" ∈ mx_tb := mx_tb_in (List.mem_of_getElem? (i := 261) (by decide +kernel)) (by decide +kernel)
theorem tw_262 : Cond.fieldLink "RowCode$Machine" 65 "RowCode$Machine" "b" "I" ∈ mx_tb := mx_tb_in (List.mem_of_getElem? (i := 262) (by decide +kernel)) (by decide +kernel)
theorem tw_675 : Cond.methodLink "RowCode$Machine" 68 ⟨"RowCode$Memory", "localAt", "(I)I"⟩ ∈ mx_tb := mx_tb_in (List.mem_of_getElem? (i := 675) (by decide +kernel)) (by decide +kernel)
theorem tw_682 : Cond.methodLink "RowCode$Machine" 73 ⟨"RowCode$Numbers", "at", "(I)I"⟩ ∈ mx_tb := mx_tb_in (List.mem_of_getElem? (i := 682) (by decide +kernel)) (by decide +kernel)
theorem tw_683 : Cond.methodLink "RowCode$Machine" 75 ⟨"RowCode$Numbers", "change", "(II)V"⟩ ∈ mx_tb := mx_tb_in (List.mem_of_getElem? (i := 683) (by decide +kernel)) (by decide +kernel)
theorem tw_748 : Cond.methodLink "RowCode$Machine" 78 ⟨"RowCode$Arithmetic", "holds", "(III)Z"⟩ ∈ mx_tb := mx_tb_in (List.mem_of_getElem? (i := 748) (by decide +kernel)) (by decide +kernel)
theorem tw_688 : Cond.methodLink "RowCode$Machine" 84 ⟨"RowCode$Memory", "changeLocal", "(II)V"⟩ ∈ mx_tb := mx_tb_in (List.mem_of_getElem? (i := 688) (by decide +kernel)) (by decide +kernel)
theorem tw_692 : Cond.methodLink "RowCode$Machine" 87 ⟨"RowCode$Machine", "fetch", "()V"⟩ ∈ mx_tb := mx_tb_in (List.mem_of_getElem? (i := 692) (by decide +kernel)) (by decide +kernel)
theorem tw_709 : Cond.methodLink "RowCode$Machine" 90 ⟨"RowCode$Machine", "store", "()V"⟩ ∈ mx_tb := mx_tb_in (List.mem_of_getElem? (i := 709) (by decide +kernel)) (by decide +kernel)
theorem tw_717 : Cond.methodLink "RowCode$Machine" 93 ⟨"RowCode$Machine", "combine", "(I)V"⟩ ∈ mx_tb := mx_tb_in (List.mem_of_getElem? (i := 717) (by decide +kernel)) (by decide +kernel)
theorem tw_723 : Cond.methodLink "RowCode$Machine" 97 ⟨"RowCode$Arithmetic", "compare", "(III)I"⟩ ∈ mx_tb := mx_tb_in (List.mem_of_getElem? (i := 723) (by decide +kernel)) (by decide +kernel)
theorem tw_724 : Cond.methodLink "RowCode$Machine" 101 ⟨"RowCode$Machine", "relateAndKeep", "(I)V"⟩ ∈ mx_tb := mx_tb_in (List.mem_of_getElem? (i := 724) (by decide +kernel)) (by decide +kernel)
theorem tw_728 : Cond.methodLink "RowCode$Machine" 104 ⟨"RowCode$Machine", "fetchByte", "()V"⟩ ∈ mx_tb := mx_tb_in (List.mem_of_getElem? (i := 728) (by decide +kernel)) (by decide +kernel)
theorem tw_736 : Cond.methodLink "RowCode$Machine" 107 ⟨"RowCode$Machine", "storeByte", "(I)V"⟩ ∈ mx_tb := mx_tb_in (List.mem_of_getElem? (i := 736) (by decide +kernel)) (by decide +kernel)
theorem tw_740 : Cond.methodLink "RowCode$Machine" 110 ⟨"RowCode$Machine", "pay", "()V"⟩ ∈ mx_tb := mx_tb_in (List.mem_of_getElem? (i := 740) (by decide +kernel)) (by decide +kernel)
theorem tw_700 : Cond.methodLink "RowCode$Machine" 113 ⟨"RowCode$Memory", "hasWord", "(J)Z"⟩ ∈ mx_tb := mx_tb_in (List.mem_of_getElem? (i := 700) (by decide +kernel)) (by decide +kernel)
theorem tw_696 : Cond.methodLink "RowCode$Machine" 117 ⟨"RowCode$Machine", "reaches", "(J)Z"⟩ ∈ mx_tb := mx_tb_in (List.mem_of_getElem? (i := 696) (by decide +kernel)) (by decide +kernel)
theorem tw_704 : Cond.methodLink "RowCode$Machine" 120 ⟨"RowCode$Memory", "wordAt", "(I)I"⟩ ∈ mx_tb := mx_tb_in (List.mem_of_getElem? (i := 704) (by decide +kernel)) (by decide +kernel)
theorem tw_713 : Cond.methodLink "RowCode$Machine" 123 ⟨"RowCode$Memory", "changeWord", "(II)V"⟩ ∈ mx_tb := mx_tb_in (List.mem_of_getElem? (i := 713) (by decide +kernel)) (by decide +kernel)
theorem tw_721 : Cond.methodLink "RowCode$Machine" 126 ⟨"RowCode$Arithmetic", "divides", "(I)Z"⟩ ∈ mx_tb := mx_tb_in (List.mem_of_getElem? (i := 721) (by decide +kernel)) (by decide +kernel)
theorem tw_722 : Cond.methodLink "RowCode$Machine" 129 ⟨"RowCode$Arithmetic", "calculate", "(III)I"⟩ ∈ mx_tb := mx_tb_in (List.mem_of_getElem? (i := 722) (by decide +kernel)) (by decide +kernel)
theorem tw_732 : Cond.methodLink "RowCode$Machine" 132 ⟨"RowCode$Machine", "byteAddress", "()J"⟩ ∈ mx_tb := mx_tb_in (List.mem_of_getElem? (i := 732) (by decide +kernel)) (by decide +kernel)
theorem tw_124 : Cond.methodLink "RowCode$Judge" 3 ⟨"java/lang/Object", "<init>", "()V"⟩ ∈ mx_tb := mx_tb_in (List.mem_of_getElem? (i := 124) (by decide +kernel)) (by decide +kernel)
theorem tw_125 : Cond.classLink "RowCode$Judge" 9 "RowCode$Numbers" ∈ mx_tb := mx_tb_in (List.mem_of_getElem? (i := 125) (by decide +kernel)) (by decide +kernel)
theorem tw_126 : Cond.methodLinkNest "RowCode$Judge" 11 ⟨"RowCode$Numbers", "<init>", "()V"⟩ "RowCode" ∈ mx_nst := mx_nst_in (List.mem_of_getElem? (i := 126) (by decide +kernel)) rfl
theorem tw_128 : Cond.fieldLink "RowCode$Judge" 12 "RowCode$Judge" "places" "LRowCode$Numbers;" ∈ mx_tb := mx_tb_in (List.mem_of_getElem? (i := 128) (by decide +kernel)) (by decide +kernel)
theorem tw_129 : Cond.fieldLink "RowCode$Judge" 18 "RowCode$Judge" "depths" "LRowCode$Numbers;" ∈ mx_tb := mx_tb_in (List.mem_of_getElem? (i := 129) (by decide +kernel)) (by decide +kernel)
theorem tw_130 : Cond.fieldLink "RowCode$Judge" 21 "RowCode$Judge" "comers" "LRowCode$Numbers;" ∈ mx_tb := mx_tb_in (List.mem_of_getElem? (i := 130) (by decide +kernel)) (by decide +kernel)
theorem tw_131 : Cond.fieldLink "RowCode$Judge" 24 "RowCode$Judge" "waiting" "LRowCode$Numbers;" ∈ mx_tb := mx_tb_in (List.mem_of_getElem? (i := 131) (by decide +kernel)) (by decide +kernel)
theorem tw_127 : Cond.fieldLink "RowCode$Judge" 27 "RowCode$Judge" "code" "LRowCode$Code;" ∈ mx_tb := mx_tb_in (List.mem_of_getElem? (i := 127) (by decide +kernel)) (by decide +kernel)
theorem tw_132 : Cond.fieldLink "RowCode$Judge" 31 "RowCode$Judge" "isJudged" "Z" ∈ mx_tb := mx_tb_in (List.mem_of_getElem? (i := 132) (by decide +kernel)) (by decide +kernel)
theorem tw_356 : Cond.methodLink "RowCode$Judge" 35 ⟨"RowCode$Code", "size", "()I"⟩ ∈ mx_tb := mx_tb_in (List.mem_of_getElem? (i := 356) (by decide +kernel)) (by decide +kernel)
theorem tw_357 : Cond.methodLink "RowCode$Judge" 41 ⟨"RowCode$Judge", "argumentsFit", "()Z"⟩ ∈ mx_tb := mx_tb_in (List.mem_of_getElem? (i := 357) (by decide +kernel)) (by decide +kernel)
theorem tw_375 : Cond.methodLink "RowCode$Judge" 45 ⟨"RowCode$Judge", "labelsAreOnce", "()Z"⟩ ∈ mx_tb := mx_tb_in (List.mem_of_getElem? (i := 375) (by decide +kernel)) (by decide +kernel)
theorem tw_385 : Cond.methodLink "RowCode$Judge" 48 ⟨"RowCode$Judge", "goalsAreThere", "()Z"⟩ ∈ mx_tb := mx_tb_in (List.mem_of_getElem? (i := 385) (by decide +kernel)) (by decide +kernel)
theorem tw_395 : Cond.methodLink "RowCode$Judge" 51 ⟨"RowCode$Judge", "waysAgree", "()Z"⟩ ∈ mx_tb := mx_tb_in (List.mem_of_getElem? (i := 395) (by decide +kernel)) (by decide +kernel)
theorem tw_429 : Cond.methodLink "RowCode$Judge" 54 ⟨"RowCode$Judge", "roundsSpend", "()Z"⟩ ∈ mx_tb := mx_tb_in (List.mem_of_getElem? (i := 429) (by decide +kernel)) (by decide +kernel)
theorem tw_133 : Cond.fieldLink "RowCode$Judge" 57 "RowCode$Judge" "isRight" "Z" ∈ mx_tb := mx_tb_in (List.mem_of_getElem? (i := 133) (by decide +kernel)) (by decide +kernel)
theorem tw_380 : Cond.methodLink "RowCode$Judge" 60 ⟨"RowCode$Numbers", "at", "(I)I"⟩ ∈ mx_tb := mx_tb_in (List.mem_of_getElem? (i := 380) (by decide +kernel)) (by decide +kernel)
theorem tw_361 : Cond.methodLink "RowCode$Judge" 64 ⟨"RowCode$Code", "numberAt", "(I)I"⟩ ∈ mx_tb := mx_tb_in (List.mem_of_getElem? (i := 361) (by decide +kernel)) (by decide +kernel)
theorem tw_369 : Cond.fieldLinkNest "RowCode$Judge" 67 "RowCode" "GREATEST" "[I" "RowCode" ∈ mx_nst := mx_nst_in (List.mem_of_getElem? (i := 369) (by decide +kernel)) rfl
theorem tw_371 : Cond.methodLink "RowCode$Judge" 71 ⟨"RowCode$Code", "argumentAt", "(I)I"⟩ ∈ mx_tb := mx_tb_in (List.mem_of_getElem? (i := 371) (by decide +kernel)) (by decide +kernel)
theorem tw_379 : Cond.methodLink "RowCode$Judge" 74 ⟨"RowCode$Numbers", "refill", "(II)V"⟩ ∈ mx_tb := mx_tb_in (List.mem_of_getElem? (i := 379) (by decide +kernel)) (by decide +kernel)
theorem tw_381 : Cond.methodLink "RowCode$Judge" 78 ⟨"RowCode$Numbers", "change", "(II)V"⟩ ∈ mx_tb := mx_tb_in (List.mem_of_getElem? (i := 381) (by decide +kernel)) (by decide +kernel)
theorem tw_389 : Cond.methodLinkNest "RowCode$Judge" 81 ⟨"RowCode", "goesToLabel", "(I)Z"⟩ "RowCode" ∈ mx_nst := mx_nst_in (List.mem_of_getElem? (i := 389) (by decide +kernel)) rfl
theorem tw_422 : Cond.methodLinkNest "RowCode$Judge" 85 ⟨"RowCode", "endsWay", "(I)Z"⟩ "RowCode" ∈ mx_nst := mx_nst_in (List.mem_of_getElem? (i := 422) (by decide +kernel)) rfl
theorem tw_399 : Cond.methodLink "RowCode$Judge" 88 ⟨"RowCode$Numbers", "cutTo", "(I)V"⟩ ∈ mx_tb := mx_tb_in (List.mem_of_getElem? (i := 399) (by decide +kernel)) (by decide +kernel)
theorem tw_400 : Cond.methodLink "RowCode$Judge" 92 ⟨"RowCode$Judge", "arrives", "(II)Z"⟩ ∈ mx_tb := mx_tb_in (List.mem_of_getElem? (i := 400) (by decide +kernel)) (by decide +kernel)
theorem tw_404 : Cond.methodLink "RowCode$Judge" 96 ⟨"RowCode$Numbers", "size", "()I"⟩ ∈ mx_tb := mx_tb_in (List.mem_of_getElem? (i := 404) (by decide +kernel)) (by decide +kernel)
theorem tw_406 : Cond.methodLink "RowCode$Judge" 97 ⟨"RowCode$Numbers", "takeLast", "()I"⟩ ∈ mx_tb := mx_tb_in (List.mem_of_getElem? (i := 406) (by decide +kernel)) (by decide +kernel)
theorem tw_410 : Cond.methodLink "RowCode$Judge" 100 ⟨"RowCode$Judge", "leavesRightly", "(I)Z"⟩ ∈ mx_tb := mx_tb_in (List.mem_of_getElem? (i := 410) (by decide +kernel)) (by decide +kernel)
theorem tw_414 : Cond.fieldLinkNest "RowCode$Judge" 103 "RowCode" "TAKES" "[I" "RowCode" ∈ mx_nst := mx_nst_in (List.mem_of_getElem? (i := 414) (by decide +kernel)) rfl
theorem tw_416 : Cond.fieldLinkNest "RowCode$Judge" 106 "RowCode" "GIVES" "[I" "RowCode" ∈ mx_nst := mx_nst_in (List.mem_of_getElem? (i := 416) (by decide +kernel)) rfl
theorem tw_418 : Cond.methodLink "RowCode$Judge" 109 ⟨"RowCode$Judge", "following", "(I)I"⟩ ∈ mx_tb := mx_tb_in (List.mem_of_getElem? (i := 418) (by decide +kernel)) (by decide +kernel)
theorem tw_425 : Cond.methodLink "RowCode$Judge" 112 ⟨"RowCode$Judge", "goal", "(I)I"⟩ ∈ mx_tb := mx_tb_in (List.mem_of_getElem? (i := 425) (by decide +kernel)) (by decide +kernel)
theorem tw_405 : Cond.methodLink "RowCode$Judge" 115 ⟨"RowCode$Numbers", "append", "(I)V"⟩ ∈ mx_tb := mx_tb_in (List.mem_of_getElem? (i := 405) (by decide +kernel)) (by decide +kernel)
theorem tw_433 : Cond.methodLink "RowCode$Judge" 118 ⟨"RowCode$Judge", "isFree", "(I)Z"⟩ ∈ mx_tb := mx_tb_in (List.mem_of_getElem? (i := 433) (by decide +kernel)) (by decide +kernel)
theorem tw_437 : Cond.methodLink "RowCode$Judge" 121 ⟨"RowCode$Judge", "countComer", "(I)V"⟩ ∈ mx_tb := mx_tb_in (List.mem_of_getElem? (i := 437) (by decide +kernel)) (by decide +kernel)
theorem tw_441 : Cond.methodLink "RowCode$Judge" 124 ⟨"RowCode$Judge", "loseComer", "(I)V"⟩ ∈ mx_tb := mx_tb_in (List.mem_of_getElem? (i := 441) (by decide +kernel)) (by decide +kernel)
theorem tw_154 : Cond.methodLink "RowCode$Improver" 3 ⟨"java/lang/Object", "<init>", "()V"⟩ ∈ mx_tb := mx_tb_in (List.mem_of_getElem? (i := 154) (by decide +kernel)) (by decide +kernel)
theorem tw_155 : Cond.classLink "RowCode$Improver" 9 "RowCode$Numbers" ∈ mx_tb := mx_tb_in (List.mem_of_getElem? (i := 155) (by decide +kernel)) (by decide +kernel)
theorem tw_156 : Cond.methodLinkNest "RowCode$Improver" 11 ⟨"RowCode$Numbers", "<init>", "()V"⟩ "RowCode" ∈ mx_nst := mx_nst_in (List.mem_of_getElem? (i := 156) (by decide +kernel)) rfl
theorem tw_159 : Cond.fieldLink "RowCode$Improver" 12 "RowCode$Improver" "places" "LRowCode$Numbers;" ∈ mx_tb := mx_tb_in (List.mem_of_getElem? (i := 159) (by decide +kernel)) (by decide +kernel)
theorem tw_160 : Cond.fieldLink "RowCode$Improver" 18 "RowCode$Improver" "uses" "LRowCode$Numbers;" ∈ mx_tb := mx_tb_in (List.mem_of_getElem? (i := 160) (by decide +kernel)) (by decide +kernel)
theorem tw_157 : Cond.classLink "RowCode$Improver" 21 "RowCode$Code" ∈ mx_tb := mx_tb_in (List.mem_of_getElem? (i := 157) (by decide +kernel)) (by decide +kernel)
theorem tw_93 : Cond.instantiable "RowCode$Code" 2 ∈ mx_tb := mx_tb_in (List.mem_of_getElem? (i := 93) (by decide +kernel)) (by decide +kernel)
theorem tw_67 : Cond.initialized "RowCode$Code" ∈ mx_tb := mx_tb_in (List.mem_of_getElem? (i := 67) (by decide +kernel)) (by decide +kernel)
theorem tw_158 : Cond.methodLinkNest "RowCode$Improver" 23 ⟨"RowCode$Code", "<init>", "()V"⟩ "RowCode" ∈ mx_nst := mx_nst_in (List.mem_of_getElem? (i := 158) (by decide +kernel)) rfl
theorem tw_161 : Cond.fieldLink "RowCode$Improver" 24 "RowCode$Improver" "from" "LRowCode$Code;" ∈ mx_tb := mx_tb_in (List.mem_of_getElem? (i := 161) (by decide +kernel)) (by decide +kernel)
theorem tw_162 : Cond.fieldLink "RowCode$Improver" 28 "RowCode$Improver" "into" "LRowCode$Code;" ∈ mx_tb := mx_tb_in (List.mem_of_getElem? (i := 162) (by decide +kernel)) (by decide +kernel)
theorem tw_453 : Cond.methodLink "RowCode$Improver" 31 ⟨"RowCode$Improver", "copyReached", "(LRowCode$Code;LRowCode$Judge;)V"⟩ ∈ mx_tb := mx_tb_in (List.mem_of_getElem? (i := 453) (by decide +kernel)) (by decide +kernel)
theorem tw_466 : Cond.methodLink "RowCode$Improver" 35 ⟨"RowCode$Improver", "findPlaces", "()V"⟩ ∈ mx_tb := mx_tb_in (List.mem_of_getElem? (i := 466) (by decide +kernel)) (by decide +kernel)
theorem tw_472 : Cond.methodLink "RowCode$Improver" 38 ⟨"RowCode$Improver", "countUses", "()V"⟩ ∈ mx_tb := mx_tb_in (List.mem_of_getElem? (i := 472) (by decide +kernel)) (by decide +kernel)
theorem tw_482 : Cond.methodLink "RowCode$Improver" 41 ⟨"RowCode$Improver", "rewrite", "()V"⟩ ∈ mx_tb := mx_tb_in (List.mem_of_getElem? (i := 482) (by decide +kernel)) (by decide +kernel)
theorem tw_457 : Cond.methodLink "RowCode$Improver" 44 ⟨"RowCode$Code", "cutTo", "(I)V"⟩ ∈ mx_tb := mx_tb_in (List.mem_of_getElem? (i := 457) (by decide +kernel)) (by decide +kernel)
theorem tw_458 : Cond.methodLink "RowCode$Improver" 48 ⟨"RowCode$Code", "size", "()I"⟩ ∈ mx_tb := mx_tb_in (List.mem_of_getElem? (i := 458) (by decide +kernel)) (by decide +kernel)
theorem tw_459 : Cond.methodLink "RowCode$Improver" 52 ⟨"RowCode$Code", "numberAt", "(I)I"⟩ ∈ mx_tb := mx_tb_in (List.mem_of_getElem? (i := 459) (by decide +kernel)) (by decide +kernel)
theorem tw_460 : Cond.methodLink "RowCode$Improver" 56 ⟨"RowCode$Judge", "isReached", "(I)Z"⟩ ∈ mx_tb := mx_tb_in (List.mem_of_getElem? (i := 460) (by decide +kernel)) (by decide +kernel)
theorem tw_464 : Cond.methodLink "RowCode$Improver" 62 ⟨"RowCode$Code", "argumentAt", "(I)I"⟩ ∈ mx_tb := mx_tb_in (List.mem_of_getElem? (i := 464) (by decide +kernel)) (by decide +kernel)
theorem tw_465 : Cond.methodLink "RowCode$Improver" 65 ⟨"RowCode$Code", "append", "(II)V"⟩ ∈ mx_tb := mx_tb_in (List.mem_of_getElem? (i := 465) (by decide +kernel)) (by decide +kernel)
theorem tw_470 : Cond.methodLink "RowCode$Improver" 69 ⟨"RowCode$Numbers", "refill", "(II)V"⟩ ∈ mx_tb := mx_tb_in (List.mem_of_getElem? (i := 470) (by decide +kernel)) (by decide +kernel)
theorem tw_471 : Cond.methodLink "RowCode$Improver" 72 ⟨"RowCode$Numbers", "change", "(II)V"⟩ ∈ mx_tb := mx_tb_in (List.mem_of_getElem? (i := 471) (by decide +kernel)) (by decide +kernel)
theorem tw_476 : Cond.methodLinkNest "RowCode$Improver" 75 ⟨"RowCode", "goesToLabel", "(I)Z"⟩ "RowCode" ∈ mx_nst := mx_nst_in (List.mem_of_getElem? (i := 476) (by decide +kernel)) rfl
theorem tw_477 : Cond.methodLink "RowCode$Improver" 78 ⟨"RowCode$Improver", "farthest", "(I)I"⟩ ∈ mx_tb := mx_tb_in (List.mem_of_getElem? (i := 477) (by decide +kernel)) (by decide +kernel)
theorem tw_481 : Cond.methodLink "RowCode$Improver" 81 ⟨"RowCode$Numbers", "at", "(I)I"⟩ ∈ mx_tb := mx_tb_in (List.mem_of_getElem? (i := 481) (by decide +kernel)) (by decide +kernel)
theorem tw_486 : Cond.methodLink "RowCode$Improver" 84 ⟨"RowCode$Improver", "folds", "(II)Z"⟩ ∈ mx_tb := mx_tb_in (List.mem_of_getElem? (i := 486) (by decide +kernel)) (by decide +kernel)
theorem tw_494 : Cond.methodLink "RowCode$Improver" 88 ⟨"RowCode$Code", "lastNumber", "(I)I"⟩ ∈ mx_tb := mx_tb_in (List.mem_of_getElem? (i := 494) (by decide +kernel)) (by decide +kernel)
theorem tw_553 : Cond.methodLinkNest "RowCode$Improver" 91 ⟨"RowCode", "endsWay", "(I)Z"⟩ "RowCode" ∈ mx_nst := mx_nst_in (List.mem_of_getElem? (i := 553) (by decide +kernel)) rfl
theorem tw_490 : Cond.methodLink "RowCode$Improver" 94 ⟨"RowCode$Improver", "foldsOne", "(I)Z"⟩ ∈ mx_tb := mx_tb_in (List.mem_of_getElem? (i := 490) (by decide +kernel)) (by decide +kernel)
theorem tw_514 : Cond.methodLink "RowCode$Improver" 97 ⟨"RowCode$Improver", "foldsCalculation", "(I)Z"⟩ ∈ mx_tb := mx_tb_in (List.mem_of_getElem? (i := 514) (by decide +kernel)) (by decide +kernel)
theorem tw_527 : Cond.methodLink "RowCode$Improver" 100 ⟨"RowCode$Improver", "foldsComparison", "(I)Z"⟩ ∈ mx_tb := mx_tb_in (List.mem_of_getElem? (i := 527) (by decide +kernel)) (by decide +kernel)
theorem tw_537 : Cond.methodLink "RowCode$Improver" 103 ⟨"RowCode$Improver", "foldsDrop", "()Z"⟩ ∈ mx_tb := mx_tb_in (List.mem_of_getElem? (i := 537) (by decide +kernel)) (by decide +kernel)
theorem tw_541 : Cond.methodLink "RowCode$Improver" 107 ⟨"RowCode$Improver", "foldsCondition", "(II)Z"⟩ ∈ mx_tb := mx_tb_in (List.mem_of_getElem? (i := 541) (by decide +kernel)) (by decide +kernel)
theorem tw_548 : Cond.methodLink "RowCode$Improver" 110 ⟨"RowCode$Improver", "shortenWayTo", "(I)V"⟩ ∈ mx_tb := mx_tb_in (List.mem_of_getElem? (i := 548) (by decide +kernel)) (by decide +kernel)
theorem tw_498 : Cond.methodLink "RowCode$Improver" 113 ⟨"RowCode$Code", "lastArgument", "(I)I"⟩ ∈ mx_tb := mx_tb_in (List.mem_of_getElem? (i := 498) (by decide +kernel)) (by decide +kernel)
theorem tw_502 : Cond.methodLink "RowCode$Improver" 116 ⟨"RowCode$Code", "replaceLast", "(III)V"⟩ ∈ mx_tb := mx_tb_in (List.mem_of_getElem? (i := 502) (by decide +kernel)) (by decide +kernel)
theorem tw_506 : Cond.methodLink "RowCode$Improver" 120 ⟨"RowCode$Code", "cutLast", "()V"⟩ ∈ mx_tb := mx_tb_in (List.mem_of_getElem? (i := 506) (by decide +kernel)) (by decide +kernel)
theorem tw_511 : Cond.methodLink "RowCode$Improver" 123 ⟨"RowCode$Arithmetic", "opposite", "(I)I"⟩ ∈ mx_tb := mx_tb_in (List.mem_of_getElem? (i := 511) (by decide +kernel)) (by decide +kernel)
theorem tw_518 : Cond.methodLink "RowCode$Improver" 128 ⟨"RowCode$Arithmetic", "leavesAlone", "(II)Z"⟩ ∈ mx_tb := mx_tb_in (List.mem_of_getElem? (i := 518) (by decide +kernel)) (by decide +kernel)
theorem tw_521 : Cond.methodLink "RowCode$Improver" 131 ⟨"RowCode$Arithmetic", "divides", "(I)Z"⟩ ∈ mx_tb := mx_tb_in (List.mem_of_getElem? (i := 521) (by decide +kernel)) (by decide +kernel)
theorem tw_524 : Cond.methodLink "RowCode$Improver" 134 ⟨"RowCode$Arithmetic", "calculate", "(III)I"⟩ ∈ mx_tb := mx_tb_in (List.mem_of_getElem? (i := 524) (by decide +kernel)) (by decide +kernel)
theorem tw_531 : Cond.methodLink "RowCode$Improver" 138 ⟨"RowCode$Arithmetic", "compare", "(III)I"⟩ ∈ mx_tb := mx_tb_in (List.mem_of_getElem? (i := 531) (by decide +kernel)) (by decide +kernel)
theorem tw_545 : Cond.methodLink "RowCode$Improver" 141 ⟨"RowCode$Improver", "otherCondition", "(I)I"⟩ ∈ mx_tb := mx_tb_in (List.mem_of_getElem? (i := 545) (by decide +kernel)) (by decide +kernel)
theorem tw_552 : Cond.methodLinkNest "RowCode$Improver" 144 ⟨"RowCode", "isCondition", "(I)Z"⟩ "RowCode" ∈ mx_nst := mx_nst_in (List.mem_of_getElem? (i := 552) (by decide +kernel)) rfl
theorem tw_177 : Cond.methodLink "RowCode$Translator" 3 ⟨"java/lang/Object", "<init>", "()V"⟩ ∈ mx_tb := mx_tb_in (List.mem_of_getElem? (i := 177) (by decide +kernel)) (by decide +kernel)
theorem tw_178 : Cond.classLink "RowCode$Translator" 9 "RowCode$Numbers" ∈ mx_tb := mx_tb_in (List.mem_of_getElem? (i := 178) (by decide +kernel)) (by decide +kernel)
theorem tw_179 : Cond.methodLinkNest "RowCode$Translator" 11 ⟨"RowCode$Numbers", "<init>", "()V"⟩ "RowCode" ∈ mx_nst := mx_nst_in (List.mem_of_getElem? (i := 179) (by decide +kernel)) rfl
theorem tw_180 : Cond.fieldLink "RowCode$Translator" 12 "RowCode$Translator" "image" "LRowCode$Numbers;" ∈ mx_tb := mx_tb_in (List.mem_of_getElem? (i := 180) (by decide +kernel)) (by decide +kernel)
theorem tw_181 : Cond.fieldLink "RowCode$Translator" 18 "RowCode$Translator" "kinds" "LRowCode$Numbers;" ∈ mx_tb := mx_tb_in (List.mem_of_getElem? (i := 181) (by decide +kernel)) (by decide +kernel)
theorem tw_182 : Cond.fieldLink "RowCode$Translator" 21 "RowCode$Translator" "details" "LRowCode$Numbers;" ∈ mx_tb := mx_tb_in (List.mem_of_getElem? (i := 182) (by decide +kernel)) (by decide +kernel)
theorem tw_558 : Cond.methodLink "RowCode$Translator" 24 ⟨"RowCode$Numbers", "cutTo", "(I)V"⟩ ∈ mx_tb := mx_tb_in (List.mem_of_getElem? (i := 558) (by decide +kernel)) (by decide +kernel)
theorem tw_559 : Cond.methodLink "RowCode$Translator" 28 ⟨"RowCode$Translator", "layRow", "(I)V"⟩ ∈ mx_tb := mx_tb_in (List.mem_of_getElem? (i := 559) (by decide +kernel)) (by decide +kernel)
theorem tw_564 : Cond.methodLink "RowCode$Translator" 31 ⟨"RowCode$Code", "size", "()I"⟩ ∈ mx_tb := mx_tb_in (List.mem_of_getElem? (i := 564) (by decide +kernel)) (by decide +kernel)
theorem tw_565 : Cond.methodLink "RowCode$Translator" 37 ⟨"RowCode$Code", "numberAt", "(I)I"⟩ ∈ mx_tb := mx_tb_in (List.mem_of_getElem? (i := 565) (by decide +kernel)) (by decide +kernel)
theorem tw_566 : Cond.methodLink "RowCode$Translator" 41 ⟨"RowCode$Code", "argumentAt", "(I)I"⟩ ∈ mx_tb := mx_tb_in (List.mem_of_getElem? (i := 566) (by decide +kernel)) (by decide +kernel)
theorem tw_567 : Cond.methodLink "RowCode$Translator" 44 ⟨"RowCode$Translator", "lay", "(II)V"⟩ ∈ mx_tb := mx_tb_in (List.mem_of_getElem? (i := 567) (by decide +kernel)) (by decide +kernel)
theorem tw_572 : Cond.methodLink "RowCode$Translator" 48 ⟨"RowCode$Translator", "storeLocal", "(I)V"⟩ ∈ mx_tb := mx_tb_in (List.mem_of_getElem? (i := 572) (by decide +kernel)) (by decide +kernel)
theorem tw_597 : Cond.methodLink "RowCode$Translator" 51 ⟨"RowCode$Translator", "changeTop", "(I)V"⟩ ∈ mx_tb := mx_tb_in (List.mem_of_getElem? (i := 597) (by decide +kernel)) (by decide +kernel)
theorem tw_601 : Cond.methodLink "RowCode$Translator" 54 ⟨"RowCode$Translator", "meet", "(Z)Z"⟩ ∈ mx_tb := mx_tb_in (List.mem_of_getElem? (i := 601) (by decide +kernel)) (by decide +kernel)
theorem tw_582 : Cond.methodLink "RowCode$Translator" 58 ⟨"RowCode$Translator", "write", "(II)V"⟩ ∈ mx_tb := mx_tb_in (List.mem_of_getElem? (i := 582) (by decide +kernel)) (by decide +kernel)
theorem tw_593 : Cond.methodLink "RowCode$Translator" 61 ⟨"RowCode$Translator", "drop", "(I)V"⟩ ∈ mx_tb := mx_tb_in (List.mem_of_getElem? (i := 593) (by decide +kernel)) (by decide +kernel)
theorem tw_605 : Cond.methodLink "RowCode$Translator" 64 ⟨"RowCode$Arithmetic", "commutes", "(I)Z"⟩ ∈ mx_tb := mx_tb_in (List.mem_of_getElem? (i := 605) (by decide +kernel)) (by decide +kernel)
theorem tw_608 : Cond.methodLink "RowCode$Translator" 70 ⟨"RowCode$Translator", "leaveInA", "()V"⟩ ∈ mx_tb := mx_tb_in (List.mem_of_getElem? (i := 608) (by decide +kernel)) (by decide +kernel)
theorem tw_612 : Cond.methodLinkNest "RowCode$Translator" 73 ⟨"RowCode", "isCondition", "(I)Z"⟩ "RowCode" ∈ mx_nst := mx_nst_in (List.mem_of_getElem? (i := 612) (by decide +kernel)) rfl
theorem tw_613 : Cond.methodLink "RowCode$Translator" 76 ⟨"RowCode$Translator", "compareAndGo", "(III)V"⟩ ∈ mx_tb := mx_tb_in (List.mem_of_getElem? (i := 613) (by decide +kernel)) (by decide +kernel)
theorem tw_617 : Cond.methodLink "RowCode$Translator" 80 ⟨"RowCode$Arithmetic", "mirrored", "(I)I"⟩ ∈ mx_tb := mx_tb_in (List.mem_of_getElem? (i := 617) (by decide +kernel)) (by decide +kernel)
theorem tw_621 : Cond.methodLink "RowCode$Translator" 83 ⟨"RowCode$Translator", "compareAndKeep", "(I)V"⟩ ∈ mx_tb := mx_tb_in (List.mem_of_getElem? (i := 621) (by decide +kernel)) (by decide +kernel)
theorem tw_576 : Cond.methodLink "RowCode$Translator" 86 ⟨"RowCode$Numbers", "size", "()I"⟩ ∈ mx_tb := mx_tb_in (List.mem_of_getElem? (i := 576) (by decide +kernel)) (by decide +kernel)
theorem tw_578 : Cond.methodLink "RowCode$Translator" 87 ⟨"RowCode$Translator", "settle", "(II)V"⟩ ∈ mx_tb := mx_tb_in (List.mem_of_getElem? (i := 578) (by decide +kernel)) (by decide +kernel)
theorem tw_625 : Cond.methodLink "RowCode$Translator" 90 ⟨"RowCode$Translator", "goIf", "(II)V"⟩ ∈ mx_tb := mx_tb_in (List.mem_of_getElem? (i := 625) (by decide +kernel)) (by decide +kernel)
theorem tw_629 : Cond.methodLink "RowCode$Translator" 93 ⟨"RowCode$Judge", "depthAtLabel", "(I)I"⟩ ∈ mx_tb := mx_tb_in (List.mem_of_getElem? (i := 629) (by decide +kernel)) (by decide +kernel)
theorem tw_588 : Cond.methodLink "RowCode$Translator" 98 ⟨"RowCode$Translator", "toA", "(I)V"⟩ ∈ mx_tb := mx_tb_in (List.mem_of_getElem? (i := 588) (by decide +kernel)) (by decide +kernel)
theorem tw_633 : Cond.methodLink "RowCode$Translator" 101 ⟨"RowCode$Translator", "goInCase", "(II)V"⟩ ∈ mx_tb := mx_tb_in (List.mem_of_getElem? (i := 633) (by decide +kernel)) (by decide +kernel)
theorem tw_637 : Cond.methodLink "RowCode$Translator" 104 ⟨"RowCode$Translator", "storeByte", "()V"⟩ ∈ mx_tb := mx_tb_in (List.mem_of_getElem? (i := 637) (by decide +kernel)) (by decide +kernel)
theorem tw_586 : Jvm.Cond.constant "RowCode$Translator" 107 (-8388608) ∈ mx_tb := mx_tb_in (List.mem_of_getElem? (i := 586) (by decide +kernel)) (by decide +kernel)
theorem tw_587 : Jvm.Cond.constant "RowCode$Translator" 108 (8388608) ∈ mx_tb := mx_tb_in (List.mem_of_getElem? (i := 587) (by decide +kernel)) (by decide +kernel)
theorem tw_571 : Cond.methodLink "RowCode$Translator" 109 ⟨"RowCode$Numbers", "append", "(I)V"⟩ ∈ mx_tb := mx_tb_in (List.mem_of_getElem? (i := 571) (by decide +kernel)) (by decide +kernel)
theorem tw_563 : Cond.methodLink "RowCode$Translator" 112 ⟨"RowCode$Numbers", "refill", "(II)V"⟩ ∈ mx_tb := mx_tb_in (List.mem_of_getElem? (i := 563) (by decide +kernel)) (by decide +kernel)
theorem tw_183 : Cond.fieldLink "RowCode$Translator" 115 "RowCode$Translator" "inA" "I" ∈ mx_tb := mx_tb_in (List.mem_of_getElem? (i := 183) (by decide +kernel)) (by decide +kernel)
theorem tw_184 : Cond.fieldLink "RowCode$Translator" 119 "RowCode$Translator" "inB" "I" ∈ mx_tb := mx_tb_in (List.mem_of_getElem? (i := 184) (by decide +kernel)) (by decide +kernel)
theorem tw_592 : Cond.methodLink "RowCode$Translator" 122 ⟨"RowCode$Numbers", "change", "(II)V"⟩ ∈ mx_tb := mx_tb_in (List.mem_of_getElem? (i := 592) (by decide +kernel)) (by decide +kernel)
theorem tw_577 : Cond.methodLink "RowCode$Translator" 125 ⟨"RowCode$Numbers", "at", "(I)I"⟩ ∈ mx_tb := mx_tb_in (List.mem_of_getElem? (i := 577) (by decide +kernel)) (by decide +kernel)
theorem tw_620 : Cond.methodLink "RowCode$Translator" 128 ⟨"RowCode$Arithmetic", "opposite", "(I)I"⟩ ∈ mx_tb := mx_tb_in (List.mem_of_getElem? (i := 620) (by decide +kernel)) (by decide +kernel)
theorem tw_89 : Cond.methodLink "RowCode" 1 ⟨"java/lang/Object", "<init>", "()V"⟩ ∈ mx_tb := mx_tb_in (List.mem_of_getElem? (i := 89) (by decide +kernel)) (by decide +kernel)
theorem tw_92 : Cond.classLink "RowCode" 7 "RowCode$Code" ∈ mx_tb := mx_tb_in (List.mem_of_getElem? (i := 92) (by decide +kernel)) (by decide +kernel)
theorem tw_94 : Cond.methodLinkNest "RowCode" 9 ⟨"RowCode$Code", "<init>", "()V"⟩ "RowCode" ∈ mx_nst := mx_nst_in (List.mem_of_getElem? (i := 94) (by decide +kernel)) rfl
theorem tw_286 : Cond.fieldLink "RowCode" 10 "RowCode" "code" "LRowCode$Code;" ∈ mx_tb := mx_tb_in (List.mem_of_getElem? (i := 286) (by decide +kernel)) (by decide +kernel)
theorem tw_119 : Cond.classLink "RowCode" 16 "RowCode$Judge" ∈ mx_tb := mx_tb_in (List.mem_of_getElem? (i := 119) (by decide +kernel)) (by decide +kernel)
theorem tw_120 : Cond.instantiable "RowCode$Judge" 7 ∈ mx_tb := mx_tb_in (List.mem_of_getElem? (i := 120) (by decide +kernel)) (by decide +kernel)
theorem tw_69 : Cond.initialized "RowCode$Judge" ∈ mx_tb := mx_tb_in (List.mem_of_getElem? (i := 69) (by decide +kernel)) (by decide +kernel)
theorem tw_121 : Cond.methodLink "RowCode" 18 ⟨"RowCode$Judge", "<init>", "(LRowCode$Code;)V"⟩ ∈ mx_tb := mx_tb_in (List.mem_of_getElem? (i := 121) (by decide +kernel)) (by decide +kernel)
theorem tw_287 : Cond.fieldLink "RowCode" 21 "RowCode" "judge" "LRowCode$Judge;" ∈ mx_tb := mx_tb_in (List.mem_of_getElem? (i := 287) (by decide +kernel)) (by decide +kernel)
theorem tw_149 : Cond.classLink "RowCode" 25 "RowCode$Improver" ∈ mx_tb := mx_tb_in (List.mem_of_getElem? (i := 149) (by decide +kernel)) (by decide +kernel)
theorem tw_150 : Cond.instantiable "RowCode$Improver" 4 ∈ mx_tb := mx_tb_in (List.mem_of_getElem? (i := 150) (by decide +kernel)) (by decide +kernel)
theorem tw_70 : Cond.initialized "RowCode$Improver" ∈ mx_tb := mx_tb_in (List.mem_of_getElem? (i := 70) (by decide +kernel)) (by decide +kernel)
theorem tw_151 : Cond.methodLinkNest "RowCode" 27 ⟨"RowCode$Improver", "<init>", "()V"⟩ "RowCode" ∈ mx_nst := mx_nst_in (List.mem_of_getElem? (i := 151) (by decide +kernel)) rfl
theorem tw_288 : Cond.fieldLink "RowCode" 28 "RowCode" "improver" "LRowCode$Improver;" ∈ mx_tb := mx_tb_in (List.mem_of_getElem? (i := 288) (by decide +kernel)) (by decide +kernel)
theorem tw_172 : Cond.classLink "RowCode" 32 "RowCode$Translator" ∈ mx_tb := mx_tb_in (List.mem_of_getElem? (i := 172) (by decide +kernel)) (by decide +kernel)
theorem tw_173 : Cond.instantiable "RowCode$Translator" 5 ∈ mx_tb := mx_tb_in (List.mem_of_getElem? (i := 173) (by decide +kernel)) (by decide +kernel)
theorem tw_71 : Cond.initialized "RowCode$Translator" ∈ mx_tb := mx_tb_in (List.mem_of_getElem? (i := 71) (by decide +kernel)) (by decide +kernel)
theorem tw_174 : Cond.methodLinkNest "RowCode" 34 ⟨"RowCode$Translator", "<init>", "()V"⟩ "RowCode" ∈ mx_nst := mx_nst_in (List.mem_of_getElem? (i := 174) (by decide +kernel)) rfl
theorem tw_289 : Cond.fieldLink "RowCode" 35 "RowCode" "translator" "LRowCode$Translator;" ∈ mx_tb := mx_tb_in (List.mem_of_getElem? (i := 289) (by decide +kernel)) (by decide +kernel)
theorem tw_196 : Cond.classLink "RowCode" 39 "RowCode$Program" ∈ mx_tb := mx_tb_in (List.mem_of_getElem? (i := 196) (by decide +kernel)) (by decide +kernel)
theorem tw_197 : Cond.instantiable "RowCode$Program" 3 ∈ mx_tb := mx_tb_in (List.mem_of_getElem? (i := 197) (by decide +kernel)) (by decide +kernel)
theorem tw_72 : Cond.initialized "RowCode$Program" ∈ mx_tb := mx_tb_in (List.mem_of_getElem? (i := 72) (by decide +kernel)) (by decide +kernel)
theorem tw_198 : Cond.methodLinkNest "RowCode" 41 ⟨"RowCode$Program", "<init>", "()V"⟩ "RowCode" ∈ mx_nst := mx_nst_in (List.mem_of_getElem? (i := 198) (by decide +kernel)) rfl
theorem tw_290 : Cond.fieldLink "RowCode" 42 "RowCode" "program" "LRowCode$Program;" ∈ mx_tb := mx_tb_in (List.mem_of_getElem? (i := 290) (by decide +kernel)) (by decide +kernel)
theorem tw_214 : Cond.classLink "RowCode" 46 "RowCode$Memory" ∈ mx_tb := mx_tb_in (List.mem_of_getElem? (i := 214) (by decide +kernel)) (by decide +kernel)
theorem tw_215 : Cond.instantiable "RowCode$Memory" 2 ∈ mx_tb := mx_tb_in (List.mem_of_getElem? (i := 215) (by decide +kernel)) (by decide +kernel)
theorem tw_73 : Cond.initialized "RowCode$Memory" ∈ mx_tb := mx_tb_in (List.mem_of_getElem? (i := 73) (by decide +kernel)) (by decide +kernel)
theorem tw_216 : Cond.methodLinkNest "RowCode" 48 ⟨"RowCode$Memory", "<init>", "()V"⟩ "RowCode" ∈ mx_nst := mx_nst_in (List.mem_of_getElem? (i := 216) (by decide +kernel)) rfl
theorem tw_291 : Cond.fieldLink "RowCode" 49 "RowCode" "memory" "LRowCode$Memory;" ∈ mx_tb := mx_tb_in (List.mem_of_getElem? (i := 291) (by decide +kernel)) (by decide +kernel)
theorem tw_227 : Cond.classLink "RowCode" 53 "RowCode$Machine" ∈ mx_tb := mx_tb_in (List.mem_of_getElem? (i := 227) (by decide +kernel)) (by decide +kernel)
theorem tw_228 : Cond.instantiable "RowCode$Machine" 8 ∈ mx_tb := mx_tb_in (List.mem_of_getElem? (i := 228) (by decide +kernel)) (by decide +kernel)
theorem tw_74 : Cond.initialized "RowCode$Machine" ∈ mx_tb := mx_tb_in (List.mem_of_getElem? (i := 74) (by decide +kernel)) (by decide +kernel)
theorem tw_229 : Cond.methodLink "RowCode" 55 ⟨"RowCode$Machine", "<init>", "(LRowCode$Memory;)V"⟩ ∈ mx_tb := mx_tb_in (List.mem_of_getElem? (i := 229) (by decide +kernel)) (by decide +kernel)
theorem tw_292 : Cond.fieldLink "RowCode" 58 "RowCode" "machine" "LRowCode$Machine;" ∈ mx_tb := mx_tb_in (List.mem_of_getElem? (i := 292) (by decide +kernel)) (by decide +kernel)
theorem tw_315 : Cond.methodLink "RowCode" 62 ⟨"RowCode$Code", "size", "()I"⟩ ∈ mx_tb := mx_tb_in (List.mem_of_getElem? (i := 315) (by decide +kernel)) (by decide +kernel)
theorem tw_323 : Cond.methodLink "RowCode" 66 ⟨"RowCode$Code", "append", "(II)V"⟩ ∈ mx_tb := mx_tb_in (List.mem_of_getElem? (i := 323) (by decide +kernel)) (by decide +kernel)
theorem tw_328 : Cond.methodLink "RowCode" 70 ⟨"RowCode", "forgetWork", "()V"⟩ ∈ mx_tb := mx_tb_in (List.mem_of_getElem? (i := 328) (by decide +kernel)) (by decide +kernel)
theorem tw_340 : Cond.methodLink "RowCode" 73 ⟨"RowCode$Code", "cutTo", "(I)V"⟩ ∈ mx_tb := mx_tb_in (List.mem_of_getElem? (i := 340) (by decide +kernel)) (by decide +kernel)
theorem tw_352 : Cond.methodLink "RowCode" 77 ⟨"RowCode$Judge", "findsRight", "()Z"⟩ ∈ mx_tb := mx_tb_in (List.mem_of_getElem? (i := 352) (by decide +kernel)) (by decide +kernel)
theorem tw_293 : Cond.fieldLink "RowCode" 81 "RowCode" "isLoaded" "Z" ∈ mx_tb := mx_tb_in (List.mem_of_getElem? (i := 293) (by decide +kernel)) (by decide +kernel)
theorem tw_449 : Cond.methodLink "RowCode" 85 ⟨"RowCode$Improver", "improve", "(LRowCode$Code;LRowCode$Judge;)LRowCode$Code;"⟩ ∈ mx_tb := mx_tb_in (List.mem_of_getElem? (i := 449) (by decide +kernel)) (by decide +kernel)
theorem tw_554 : Cond.methodLink "RowCode" 89 ⟨"RowCode$Translator", "translate", "(LRowCode$Code;LRowCode$Judge;)LRowCode$Numbers;"⟩ ∈ mx_tb := mx_tb_in (List.mem_of_getElem? (i := 554) (by decide +kernel)) (by decide +kernel)
theorem tw_641 : Cond.methodLink "RowCode" 93 ⟨"RowCode$Program", "load", "(LRowCode$Numbers;)V"⟩ ∈ mx_tb := mx_tb_in (List.mem_of_getElem? (i := 641) (by decide +kernel)) (by decide +kernel)
theorem tw_655 : Cond.methodLink "RowCode" 97 ⟨"RowCode$Machine", "execute", "(LRowCode$Program;I)I"⟩ ∈ mx_tb := mx_tb_in (List.mem_of_getElem? (i := 655) (by decide +kernel)) (by decide +kernel)
theorem tw_266 : Cond.fieldLinkNest "RowCode" 101 "RowCode$Machine" "endValue" "I" "RowCode" ∈ mx_nst := mx_nst_in (List.mem_of_getElem? (i := 266) (by decide +kernel)) rfl
theorem tw_268 : Cond.fieldLinkNest "RowCode" 105 "RowCode$Machine" "fuelLeft" "I" "RowCode" ∈ mx_nst := mx_nst_in (List.mem_of_getElem? (i := 268) (by decide +kernel)) rfl
theorem tw_761 : Cond.methodLink "RowCode" 108 ⟨"RowCode$Memory", "localAt", "(I)I"⟩ ∈ mx_tb := mx_tb_in (List.mem_of_getElem? (i := 761) (by decide +kernel)) (by decide +kernel)
theorem tw_762 : Cond.methodLink "RowCode" 112 ⟨"RowCode$Memory", "changeLocal", "(II)V"⟩ ∈ mx_tb := mx_tb_in (List.mem_of_getElem? (i := 762) (by decide +kernel)) (by decide +kernel)
theorem tw_767 : Cond.methodLink "RowCode" 126 ⟨"RowCode$Memory", "wordAt", "(I)I"⟩ ∈ mx_tb := mx_tb_in (List.mem_of_getElem? (i := 767) (by decide +kernel)) (by decide +kernel)
theorem tw_768 : Cond.methodLink "RowCode" 129 ⟨"RowCode$Memory", "changeWord", "(II)V"⟩ ∈ mx_tb := mx_tb_in (List.mem_of_getElem? (i := 768) (by decide +kernel)) (by decide +kernel)
theorem tw_332 : Cond.methodLink "RowCode" 138 ⟨"RowCode$Judge", "forgetJudgement", "()V"⟩ ∈ mx_tb := mx_tb_in (List.mem_of_getElem? (i := 332) (by decide +kernel)) (by decide +kernel)
theorem tw_392 : Cond.methodLink "RowCode" 141 ⟨"RowCode", "isCondition", "(I)Z"⟩ ∈ mx_tb := mx_tb_in (List.mem_of_getElem? (i := 392) (by decide +kernel)) (by decide +kernel)
theorem tw_858 : Cond.methodLink "RowCodeModel" 1 ⟨"java/lang/Object", "<init>", "()V"⟩ ∈ mx_tb := mx_tb_in (List.mem_of_getElem? (i := 858) (by decide +kernel)) (by decide +kernel)
theorem tw_861 : Cond.fieldLink "RowCodeModel" 7 "RowCodeModel" "numbers" "[I" ∈ mx_tb := mx_tb_in (List.mem_of_getElem? (i := 861) (by decide +kernel)) (by decide +kernel)
theorem tw_862 : Cond.fieldLink "RowCodeModel" 13 "RowCodeModel" "args" "[I" ∈ mx_tb := mx_tb_in (List.mem_of_getElem? (i := 862) (by decide +kernel)) (by decide +kernel)
theorem tw_863 : Cond.fieldLink "RowCodeModel" 16 "RowCodeModel" "locals" "[I" ∈ mx_tb := mx_tb_in (List.mem_of_getElem? (i := 863) (by decide +kernel)) (by decide +kernel)
theorem tw_864 : Cond.fieldLink "RowCodeModel" 19 "RowCodeModel" "words" "[I" ∈ mx_tb := mx_tb_in (List.mem_of_getElem? (i := 864) (by decide +kernel)) (by decide +kernel)
theorem tw_867 : Cond.fieldLink "RowCodeModel" 22 "RowCodeModel" "heights" "[I" ∈ mx_tb := mx_tb_in (List.mem_of_getElem? (i := 867) (by decide +kernel)) (by decide +kernel)
theorem tw_896 : Cond.arrayClass .boolean ∈ mx_tb := mx_tb_in (List.mem_of_getElem? (i := 896) (by decide +kernel)) (by decide +kernel)
theorem tw_868 : Cond.fieldLink "RowCodeModel" 25 "RowCodeModel" "gone" "[Z" ∈ mx_tb := mx_tb_in (List.mem_of_getElem? (i := 868) (by decide +kernel)) (by decide +kernel)
theorem tw_869 : Cond.fieldLink "RowCodeModel" 29 "RowCodeModel" "row" "[I" ∈ mx_tb := mx_tb_in (List.mem_of_getElem? (i := 869) (by decide +kernel)) (by decide +kernel)
theorem tw_859 : Cond.fieldLink "RowCodeModel" 32 "RowCodeModel" "thrown" "I" ∈ mx_tb := mx_tb_in (List.mem_of_getElem? (i := 859) (by decide +kernel)) (by decide +kernel)
theorem tw_860 : Cond.fieldLink "RowCodeModel" 36 "RowCodeModel" "size" "I" ∈ mx_tb := mx_tb_in (List.mem_of_getElem? (i := 860) (by decide +kernel)) (by decide +kernel)
theorem tw_920 : Cond.methodLink "RowCodeModel" 39 ⟨"RowCodeModel", "in", "(III)Z"⟩ ∈ mx_tb := mx_tb_in (List.mem_of_getElem? (i := 920) (by decide +kernel)) (by decide +kernel)
theorem tw_917 : Cond.methodLink "RowCodeModel" 43 ⟨"RowCodeModel", "isGood", "(II)Z"⟩ ∈ mx_tb := mx_tb_in (List.mem_of_getElem? (i := 917) (by decide +kernel)) (by decide +kernel)
theorem tw_923 : Cond.methodLink "RowCodeModel" 47 ⟨"RowCodeModel", "place", "(I)I"⟩ ∈ mx_tb := mx_tb_in (List.mem_of_getElem? (i := 923) (by decide +kernel)) (by decide +kernel)
theorem tw_931 : Cond.methodLink "RowCodeModel" 51 ⟨"RowCodeModel", "gives", "(I)I"⟩ ∈ mx_tb := mx_tb_in (List.mem_of_getElem? (i := 931) (by decide +kernel)) (by decide +kernel)
theorem tw_934 : Cond.methodLink "RowCodeModel" 54 ⟨"RowCodeModel", "takes", "(I)I"⟩ ∈ mx_tb := mx_tb_in (List.mem_of_getElem? (i := 934) (by decide +kernel)) (by decide +kernel)
theorem tw_937 : Cond.methodLink "RowCodeModel" 57 ⟨"RowCodeModel", "way", "(II)I"⟩ ∈ mx_tb := mx_tb_in (List.mem_of_getElem? (i := 937) (by decide +kernel)) (by decide +kernel)
theorem tw_941 : Cond.methodLink "RowCodeModel" 61 ⟨"RowCodeModel", "comes", "(II)Z"⟩ ∈ mx_tb := mx_tb_in (List.mem_of_getElem? (i := 941) (by decide +kernel)) (by decide +kernel)
theorem tw_913 : Cond.methodLink "RowCodeModel" 64 ⟨"RowCodeModel", "isSaid", "()Z"⟩ ∈ mx_tb := mx_tb_in (List.mem_of_getElem? (i := 913) (by decide +kernel)) (by decide +kernel)
theorem tw_927 : Cond.methodLink "RowCodeModel" 68 ⟨"RowCodeModel", "isEven", "()Z"⟩ ∈ mx_tb := mx_tb_in (List.mem_of_getElem? (i := 927) (by decide +kernel)) (by decide +kernel)
theorem tw_945 : Cond.methodLink "RowCodeModel" 71 ⟨"RowCodeModel", "isSpent", "()Z"⟩ ∈ mx_tb := mx_tb_in (List.mem_of_getElem? (i := 945) (by decide +kernel)) (by decide +kernel)
theorem tw_870 : Cond.fieldLink "RowCodeModel" 74 "RowCodeModel" "high" "I" ∈ mx_tb := mx_tb_in (List.mem_of_getElem? (i := 870) (by decide +kernel)) (by decide +kernel)
theorem tw_975 : Jvm.Cond.constantLong "RowCodeModel" 77 (63) ∈ mx_tb := mx_tb_in (List.mem_of_getElem? (i := 975) (by decide +kernel)) (by decide +kernel)
theorem tw_962 : Cond.methodLink "RowCodeModel" 79 ⟨"RowCodeModel", "push", "(I)V"⟩ ∈ mx_tb := mx_tb_in (List.mem_of_getElem? (i := 962) (by decide +kernel)) (by decide +kernel)
theorem tw_954 : Cond.methodLink "RowCodeModel" 83 ⟨"RowCodeModel", "pop", "()I"⟩ ∈ mx_tb := mx_tb_in (List.mem_of_getElem? (i := 954) (by decide +kernel)) (by decide +kernel)
theorem tw_966 : Cond.methodLink "RowCodeModel" 87 ⟨"RowCodeModel", "made", "(III)I"⟩ ∈ mx_tb := mx_tb_in (List.mem_of_getElem? (i := 966) (by decide +kernel)) (by decide +kernel)
theorem tw_969 : Cond.methodLink "RowCodeModel" 91 ⟨"RowCodeModel", "compares", "(III)Z"⟩ ∈ mx_tb := mx_tb_in (List.mem_of_getElem? (i := 969) (by decide +kernel)) (by decide +kernel)
theorem tw_972 : Cond.methodLink "RowCodeModel" 94 ⟨"RowCodeModel", "wordOf", "(II)I"⟩ ∈ mx_tb := mx_tb_in (List.mem_of_getElem? (i := 972) (by decide +kernel)) (by decide +kernel)
theorem tw_976 : Cond.methodLink "RowCodeModel" 97 ⟨"RowCodeModel", "sets", "()I"⟩ ∈ mx_tb := mx_tb_in (List.mem_of_getElem? (i := 976) (by decide +kernel)) (by decide +kernel)
theorem tw_953 : Cond.methodLink "RowCodeModel" 100 ⟨"RowCodeModel", "build", "()Z"⟩ ∈ mx_tb := mx_tb_in (List.mem_of_getElem? (i := 953) (by decide +kernel)) (by decide +kernel)
theorem tw_866 : Cond.fieldLink "RowCodeModel" 103 "RowCodeModel" "fuel" "I" ∈ mx_tb := mx_tb_in (List.mem_of_getElem? (i := 866) (by decide +kernel)) (by decide +kernel)
theorem tw_865 : Cond.fieldLink "RowCodeModel" 106 "RowCodeModel" "value" "I" ∈ mx_tb := mx_tb_in (List.mem_of_getElem? (i := 865) (by decide +kernel)) (by decide +kernel)
theorem tw_958 : Cond.methodLink "RowCodeModel" 109 ⟨"RowCodeModel", "does", "(II)I"⟩ ∈ mx_tb := mx_tb_in (List.mem_of_getElem? (i := 958) (by decide +kernel)) (by decide +kernel)
theorem tw_980 : Cond.methodLink "RowCodeModel" 112 ⟨"RowCodeModel", "goesOn", "(I)I"⟩ ∈ mx_tb := mx_tb_in (List.mem_of_getElem? (i := 980) (by decide +kernel)) (by decide +kernel)
set_option maxRecDepth 100000 in
theorem tw_255 : Cond.code ⟨"java/lang/Math", "min", "(II)I"⟩ prog_15_method_69_code 2 (some .int) ∈ mx_tb := mx_tb_in (List.mem_of_getElem? (i := 255) rfl) (by decide +kernel)
theorem tw_76 : Cond.initialized "java/lang/Math" ∈ mx_tb := mx_tb_in (List.mem_of_getElem? (i := 76) (by decide +kernel)) (by decide +kernel)
theorem tw_254 : Cond.static ⟨"java/lang/Math", "min", "(II)I"⟩ ∈ mx_tb := mx_tb_in (List.mem_of_getElem? (i := 254) (by decide +kernel)) (by decide +kernel)
set_option maxRecDepth 100000 in
theorem tw_245 : Cond.code ⟨"java/util/Arrays", "copyOf", "([II)[I"⟩ prog_20_method_123_code 3 (some (.array .int)) ∈ mx_tb := mx_tb_in (List.mem_of_getElem? (i := 245) rfl) (by decide +kernel)
theorem tw_75 : Cond.initialized "java/util/Arrays" ∈ mx_tb := mx_tb_in (List.mem_of_getElem? (i := 75) (by decide +kernel)) (by decide +kernel)
theorem tw_244 : Cond.static ⟨"java/util/Arrays", "copyOf", "([II)[I"⟩ ∈ mx_tb := mx_tb_in (List.mem_of_getElem? (i := 244) (by decide +kernel)) (by decide +kernel)
set_option maxRecDepth 100000 in
theorem tw_102 : Cond.code ⟨"RowCode$Numbers", "<init>", "()V"⟩ prog_8_method_1_code 1 none ∈ mx_tb := mx_tb_in (List.mem_of_getElem? (i := 102) rfl) (by decide +kernel)
theorem tw_101 : Cond.instanceMethod ⟨"RowCode$Numbers", "<init>", "()V"⟩ ∈ mx_tb := mx_tb_in (List.mem_of_getElem? (i := 101) (by decide +kernel)) (by decide +kernel)
set_option maxRecDepth 100000 in
theorem tw_322 : Cond.code ⟨"RowCode$Numbers", "size", "()I"⟩ prog_8_method_2_code 1 (some .int) ∈ mx_tb := mx_tb_in (List.mem_of_getElem? (i := 322) rfl) (by decide +kernel)
theorem tw_320 : Cond.instanceMethod ⟨"RowCode$Numbers", "size", "()I"⟩ ∈ mx_tb := mx_tb_in (List.mem_of_getElem? (i := 320) (by decide +kernel)) (by decide +kernel)
theorem tw_321 : Cond.selects "RowCode$Numbers" ⟨"RowCode$Numbers", "size", "()I"⟩ ⟨"RowCode$Numbers", "size", "()I"⟩ ∈ mx_tb := mx_tb_in (List.mem_of_getElem? (i := 321) (by decide +kernel)) (by decide +kernel)
set_option maxRecDepth 100000 in
theorem tw_368 : Cond.code ⟨"RowCode$Numbers", "at", "(I)I"⟩ prog_8_method_3_code 2 (some .int) ∈ mx_tb := mx_tb_in (List.mem_of_getElem? (i := 368) rfl) (by decide +kernel)
theorem tw_366 : Cond.instanceMethod ⟨"RowCode$Numbers", "at", "(I)I"⟩ ∈ mx_tb := mx_tb_in (List.mem_of_getElem? (i := 366) (by decide +kernel)) (by decide +kernel)
theorem tw_367 : Cond.selects "RowCode$Numbers" ⟨"RowCode$Numbers", "at", "(I)I"⟩ ⟨"RowCode$Numbers", "at", "(I)I"⟩ ∈ mx_tb := mx_tb_in (List.mem_of_getElem? (i := 367) (by decide +kernel)) (by decide +kernel)
set_option maxRecDepth 100000 in
theorem tw_384 : Cond.code ⟨"RowCode$Numbers", "change", "(II)V"⟩ prog_8_method_4_code 3 none ∈ mx_tb := mx_tb_in (List.mem_of_getElem? (i := 384) rfl) (by decide +kernel)
theorem tw_382 : Cond.instanceMethod ⟨"RowCode$Numbers", "change", "(II)V"⟩ ∈ mx_tb := mx_tb_in (List.mem_of_getElem? (i := 382) (by decide +kernel)) (by decide +kernel)
theorem tw_383 : Cond.selects "RowCode$Numbers" ⟨"RowCode$Numbers", "change", "(II)V"⟩ ⟨"RowCode$Numbers", "change", "(II)V"⟩ ∈ mx_tb := mx_tb_in (List.mem_of_getElem? (i := 383) (by decide +kernel)) (by decide +kernel)
set_option maxRecDepth 100000 in
theorem tw_242 : Cond.code ⟨"RowCode$Numbers", "append", "(I)V"⟩ prog_8_method_5_code 2 none ∈ mx_tb := mx_tb_in (List.mem_of_getElem? (i := 242) rfl) (by decide +kernel)
theorem tw_240 : Cond.instanceMethod ⟨"RowCode$Numbers", "append", "(I)V"⟩ ∈ mx_tb := mx_tb_in (List.mem_of_getElem? (i := 240) (by decide +kernel)) (by decide +kernel)
theorem tw_241 : Cond.selects "RowCode$Numbers" ⟨"RowCode$Numbers", "append", "(I)V"⟩ ⟨"RowCode$Numbers", "append", "(I)V"⟩ ∈ mx_tb := mx_tb_in (List.mem_of_getElem? (i := 241) (by decide +kernel)) (by decide +kernel)
set_option maxRecDepth 100000 in
theorem tw_409 : Cond.code ⟨"RowCode$Numbers", "takeLast", "()I"⟩ prog_8_method_6_code 1 (some .int) ∈ mx_tb := mx_tb_in (List.mem_of_getElem? (i := 409) rfl) (by decide +kernel)
theorem tw_407 : Cond.instanceMethod ⟨"RowCode$Numbers", "takeLast", "()I"⟩ ∈ mx_tb := mx_tb_in (List.mem_of_getElem? (i := 407) (by decide +kernel)) (by decide +kernel)
theorem tw_408 : Cond.selects "RowCode$Numbers" ⟨"RowCode$Numbers", "takeLast", "()I"⟩ ⟨"RowCode$Numbers", "takeLast", "()I"⟩ ∈ mx_tb := mx_tb_in (List.mem_of_getElem? (i := 408) (by decide +kernel)) (by decide +kernel)
set_option maxRecDepth 100000 in
theorem tw_347 : Cond.code ⟨"RowCode$Numbers", "cutTo", "(I)V"⟩ prog_8_method_7_code 2 none ∈ mx_tb := mx_tb_in (List.mem_of_getElem? (i := 347) rfl) (by decide +kernel)
theorem tw_345 : Cond.instanceMethod ⟨"RowCode$Numbers", "cutTo", "(I)V"⟩ ∈ mx_tb := mx_tb_in (List.mem_of_getElem? (i := 345) (by decide +kernel)) (by decide +kernel)
theorem tw_346 : Cond.selects "RowCode$Numbers" ⟨"RowCode$Numbers", "cutTo", "(I)V"⟩ ⟨"RowCode$Numbers", "cutTo", "(I)V"⟩ ∈ mx_tb := mx_tb_in (List.mem_of_getElem? (i := 346) (by decide +kernel)) (by decide +kernel)
set_option maxRecDepth 100000 in
theorem tw_238 : Cond.code ⟨"RowCode$Numbers", "refill", "(II)V"⟩ prog_8_method_8_code 4 none ∈ mx_tb := mx_tb_in (List.mem_of_getElem? (i := 238) rfl) (by decide +kernel)
theorem tw_236 : Cond.instanceMethod ⟨"RowCode$Numbers", "refill", "(II)V"⟩ ∈ mx_tb := mx_tb_in (List.mem_of_getElem? (i := 236) (by decide +kernel)) (by decide +kernel)
theorem tw_237 : Cond.selects "RowCode$Numbers" ⟨"RowCode$Numbers", "refill", "(II)V"⟩ ⟨"RowCode$Numbers", "refill", "(II)V"⟩ ∈ mx_tb := mx_tb_in (List.mem_of_getElem? (i := 237) (by decide +kernel)) (by decide +kernel)
set_option maxRecDepth 100000 in
theorem tw_523 : Cond.code ⟨"RowCode$Arithmetic", "divides", "(I)Z"⟩ prog_2_method_2_code 1 (some .boolean) ∈ mx_tb := mx_tb_in (List.mem_of_getElem? (i := 523) rfl) (by decide +kernel)
theorem tw_79 : Cond.initialized "RowCode$Arithmetic" ∈ mx_tb := mx_tb_in (List.mem_of_getElem? (i := 79) (by decide +kernel)) (by decide +kernel)
theorem tw_522 : Cond.static ⟨"RowCode$Arithmetic", "divides", "(I)Z"⟩ ∈ mx_tb := mx_tb_in (List.mem_of_getElem? (i := 522) (by decide +kernel)) (by decide +kernel)
set_option maxRecDepth 100000 in
theorem tw_526 : Cond.code ⟨"RowCode$Arithmetic", "calculate", "(III)I"⟩ prog_2_method_3_code 3 (some .int) ∈ mx_tb := mx_tb_in (List.mem_of_getElem? (i := 526) rfl) (by decide +kernel)
theorem tw_525 : Cond.static ⟨"RowCode$Arithmetic", "calculate", "(III)I"⟩ ∈ mx_tb := mx_tb_in (List.mem_of_getElem? (i := 525) (by decide +kernel)) (by decide +kernel)
set_option maxRecDepth 100000 in
theorem tw_607 : Cond.code ⟨"RowCode$Arithmetic", "commutes", "(I)Z"⟩ prog_2_method_4_code 1 (some .boolean) ∈ mx_tb := mx_tb_in (List.mem_of_getElem? (i := 607) rfl) (by decide +kernel)
theorem tw_606 : Cond.static ⟨"RowCode$Arithmetic", "commutes", "(I)Z"⟩ ∈ mx_tb := mx_tb_in (List.mem_of_getElem? (i := 606) (by decide +kernel)) (by decide +kernel)
set_option maxRecDepth 100000 in
theorem tw_520 : Cond.code ⟨"RowCode$Arithmetic", "leavesAlone", "(II)Z"⟩ prog_2_method_5_code 2 (some .boolean) ∈ mx_tb := mx_tb_in (List.mem_of_getElem? (i := 520) rfl) (by decide +kernel)
theorem tw_519 : Cond.static ⟨"RowCode$Arithmetic", "leavesAlone", "(II)Z"⟩ ∈ mx_tb := mx_tb_in (List.mem_of_getElem? (i := 519) (by decide +kernel)) (by decide +kernel)
set_option maxRecDepth 100000 in
theorem tw_536 : Cond.code ⟨"RowCode$Arithmetic", "holds", "(III)Z"⟩ prog_2_method_6_code 3 (some .boolean) ∈ mx_tb := mx_tb_in (List.mem_of_getElem? (i := 536) rfl) (by decide +kernel)
theorem tw_535 : Cond.static ⟨"RowCode$Arithmetic", "holds", "(III)Z"⟩ ∈ mx_tb := mx_tb_in (List.mem_of_getElem? (i := 535) (by decide +kernel)) (by decide +kernel)
set_option maxRecDepth 100000 in
theorem tw_533 : Cond.code ⟨"RowCode$Arithmetic", "compare", "(III)I"⟩ prog_2_method_7_code 3 (some .int) ∈ mx_tb := mx_tb_in (List.mem_of_getElem? (i := 533) rfl) (by decide +kernel)
theorem tw_532 : Cond.static ⟨"RowCode$Arithmetic", "compare", "(III)I"⟩ ∈ mx_tb := mx_tb_in (List.mem_of_getElem? (i := 532) (by decide +kernel)) (by decide +kernel)
set_option maxRecDepth 100000 in
theorem tw_513 : Cond.code ⟨"RowCode$Arithmetic", "opposite", "(I)I"⟩ prog_2_method_8_code 1 (some .int) ∈ mx_tb := mx_tb_in (List.mem_of_getElem? (i := 513) rfl) (by decide +kernel)
theorem tw_512 : Cond.static ⟨"RowCode$Arithmetic", "opposite", "(I)I"⟩ ∈ mx_tb := mx_tb_in (List.mem_of_getElem? (i := 512) (by decide +kernel)) (by decide +kernel)
set_option maxRecDepth 100000 in
theorem tw_619 : Cond.code ⟨"RowCode$Arithmetic", "mirrored", "(I)I"⟩ prog_2_method_9_code 1 (some .int) ∈ mx_tb := mx_tb_in (List.mem_of_getElem? (i := 619) rfl) (by decide +kernel)
theorem tw_618 : Cond.static ⟨"RowCode$Arithmetic", "mirrored", "(I)I"⟩ ∈ mx_tb := mx_tb_in (List.mem_of_getElem? (i := 618) (by decide +kernel)) (by decide +kernel)
set_option maxRecDepth 100000 in
theorem tw_218 : Cond.code ⟨"RowCode$Memory", "<init>", "()V"⟩ prog_7_method_1_code 1 none ∈ mx_tb := mx_tb_in (List.mem_of_getElem? (i := 218) rfl) (by decide +kernel)
theorem tw_217 : Cond.instanceMethod ⟨"RowCode$Memory", "<init>", "()V"⟩ ∈ mx_tb := mx_tb_in (List.mem_of_getElem? (i := 217) (by decide +kernel)) (by decide +kernel)
set_option maxRecDepth 100000 in
theorem tw_681 : Cond.code ⟨"RowCode$Memory", "hasLocal", "(I)Z"⟩ prog_7_method_2_code 1 (some .boolean) ∈ mx_tb := mx_tb_in (List.mem_of_getElem? (i := 681) rfl) (by decide +kernel)
theorem tw_680 : Cond.static ⟨"RowCode$Memory", "hasLocal", "(I)Z"⟩ ∈ mx_tb := mx_tb_in (List.mem_of_getElem? (i := 680) (by decide +kernel)) (by decide +kernel)
set_option maxRecDepth 100000 in
theorem tw_702 : Cond.code ⟨"RowCode$Memory", "hasWord", "(J)Z"⟩ prog_7_method_3_code 2 (some .boolean) ∈ mx_tb := mx_tb_in (List.mem_of_getElem? (i := 702) rfl) (by decide +kernel)
theorem tw_701 : Cond.static ⟨"RowCode$Memory", "hasWord", "(J)Z"⟩ ∈ mx_tb := mx_tb_in (List.mem_of_getElem? (i := 701) (by decide +kernel)) (by decide +kernel)
set_option maxRecDepth 100000 in
theorem tw_678 : Cond.code ⟨"RowCode$Memory", "localAt", "(I)I"⟩ prog_7_method_4_code 2 (some .int) ∈ mx_tb := mx_tb_in (List.mem_of_getElem? (i := 678) rfl) (by decide +kernel)
theorem tw_676 : Cond.instanceMethod ⟨"RowCode$Memory", "localAt", "(I)I"⟩ ∈ mx_tb := mx_tb_in (List.mem_of_getElem? (i := 676) (by decide +kernel)) (by decide +kernel)
theorem tw_677 : Cond.selects "RowCode$Memory" ⟨"RowCode$Memory", "localAt", "(I)I"⟩ ⟨"RowCode$Memory", "localAt", "(I)I"⟩ ∈ mx_tb := mx_tb_in (List.mem_of_getElem? (i := 677) (by decide +kernel)) (by decide +kernel)
set_option maxRecDepth 100000 in
theorem tw_691 : Cond.code ⟨"RowCode$Memory", "changeLocal", "(II)V"⟩ prog_7_method_5_code 3 none ∈ mx_tb := mx_tb_in (List.mem_of_getElem? (i := 691) rfl) (by decide +kernel)
theorem tw_689 : Cond.instanceMethod ⟨"RowCode$Memory", "changeLocal", "(II)V"⟩ ∈ mx_tb := mx_tb_in (List.mem_of_getElem? (i := 689) (by decide +kernel)) (by decide +kernel)
theorem tw_690 : Cond.selects "RowCode$Memory" ⟨"RowCode$Memory", "changeLocal", "(II)V"⟩ ⟨"RowCode$Memory", "changeLocal", "(II)V"⟩ ∈ mx_tb := mx_tb_in (List.mem_of_getElem? (i := 690) (by decide +kernel)) (by decide +kernel)
set_option maxRecDepth 100000 in
theorem tw_707 : Cond.code ⟨"RowCode$Memory", "wordAt", "(I)I"⟩ prog_7_method_6_code 2 (some .int) ∈ mx_tb := mx_tb_in (List.mem_of_getElem? (i := 707) rfl) (by decide +kernel)
theorem tw_705 : Cond.instanceMethod ⟨"RowCode$Memory", "wordAt", "(I)I"⟩ ∈ mx_tb := mx_tb_in (List.mem_of_getElem? (i := 705) (by decide +kernel)) (by decide +kernel)
theorem tw_706 : Cond.selects "RowCode$Memory" ⟨"RowCode$Memory", "wordAt", "(I)I"⟩ ⟨"RowCode$Memory", "wordAt", "(I)I"⟩ ∈ mx_tb := mx_tb_in (List.mem_of_getElem? (i := 706) (by decide +kernel)) (by decide +kernel)
set_option maxRecDepth 100000 in
theorem tw_716 : Cond.code ⟨"RowCode$Memory", "changeWord", "(II)V"⟩ prog_7_method_7_code 3 none ∈ mx_tb := mx_tb_in (List.mem_of_getElem? (i := 716) rfl) (by decide +kernel)
theorem tw_714 : Cond.instanceMethod ⟨"RowCode$Memory", "changeWord", "(II)V"⟩ ∈ mx_tb := mx_tb_in (List.mem_of_getElem? (i := 714) (by decide +kernel)) (by decide +kernel)
theorem tw_715 : Cond.selects "RowCode$Memory" ⟨"RowCode$Memory", "changeWord", "(II)V"⟩ ⟨"RowCode$Memory", "changeWord", "(II)V"⟩ ∈ mx_tb := mx_tb_in (List.mem_of_getElem? (i := 715) (by decide +kernel)) (by decide +kernel)
set_option maxRecDepth 100000 in
theorem tw_96 : Cond.code ⟨"RowCode$Code", "<init>", "()V"⟩ prog_3_method_1_code 1 none ∈ mx_tb := mx_tb_in (List.mem_of_getElem? (i := 96) rfl) (by decide +kernel)
theorem tw_95 : Cond.instanceMethod ⟨"RowCode$Code", "<init>", "()V"⟩ ∈ mx_tb := mx_tb_in (List.mem_of_getElem? (i := 95) (by decide +kernel)) (by decide +kernel)
set_option maxRecDepth 100000 in
theorem tw_318 : Cond.code ⟨"RowCode$Code", "size", "()I"⟩ prog_3_method_2_code 1 (some .int) ∈ mx_tb := mx_tb_in (List.mem_of_getElem? (i := 318) rfl) (by decide +kernel)
theorem tw_316 : Cond.instanceMethod ⟨"RowCode$Code", "size", "()I"⟩ ∈ mx_tb := mx_tb_in (List.mem_of_getElem? (i := 316) (by decide +kernel)) (by decide +kernel)
theorem tw_317 : Cond.selects "RowCode$Code" ⟨"RowCode$Code", "size", "()I"⟩ ⟨"RowCode$Code", "size", "()I"⟩ ∈ mx_tb := mx_tb_in (List.mem_of_getElem? (i := 317) (by decide +kernel)) (by decide +kernel)
set_option maxRecDepth 100000 in
theorem tw_364 : Cond.code ⟨"RowCode$Code", "numberAt", "(I)I"⟩ prog_3_method_3_code 2 (some .int) ∈ mx_tb := mx_tb_in (List.mem_of_getElem? (i := 364) rfl) (by decide +kernel)
theorem tw_362 : Cond.instanceMethod ⟨"RowCode$Code", "numberAt", "(I)I"⟩ ∈ mx_tb := mx_tb_in (List.mem_of_getElem? (i := 362) (by decide +kernel)) (by decide +kernel)
theorem tw_363 : Cond.selects "RowCode$Code" ⟨"RowCode$Code", "numberAt", "(I)I"⟩ ⟨"RowCode$Code", "numberAt", "(I)I"⟩ ∈ mx_tb := mx_tb_in (List.mem_of_getElem? (i := 363) (by decide +kernel)) (by decide +kernel)
set_option maxRecDepth 100000 in
theorem tw_374 : Cond.code ⟨"RowCode$Code", "argumentAt", "(I)I"⟩ prog_3_method_4_code 2 (some .int) ∈ mx_tb := mx_tb_in (List.mem_of_getElem? (i := 374) rfl) (by decide +kernel)
theorem tw_372 : Cond.instanceMethod ⟨"RowCode$Code", "argumentAt", "(I)I"⟩ ∈ mx_tb := mx_tb_in (List.mem_of_getElem? (i := 372) (by decide +kernel)) (by decide +kernel)
theorem tw_373 : Cond.selects "RowCode$Code" ⟨"RowCode$Code", "argumentAt", "(I)I"⟩ ⟨"RowCode$Code", "argumentAt", "(I)I"⟩ ∈ mx_tb := mx_tb_in (List.mem_of_getElem? (i := 373) (by decide +kernel)) (by decide +kernel)
set_option maxRecDepth 100000 in
theorem tw_326 : Cond.code ⟨"RowCode$Code", "append", "(II)V"⟩ prog_3_method_5_code 3 none ∈ mx_tb := mx_tb_in (List.mem_of_getElem? (i := 326) rfl) (by decide +kernel)
theorem tw_324 : Cond.instanceMethod ⟨"RowCode$Code", "append", "(II)V"⟩ ∈ mx_tb := mx_tb_in (List.mem_of_getElem? (i := 324) (by decide +kernel)) (by decide +kernel)
theorem tw_325 : Cond.selects "RowCode$Code" ⟨"RowCode$Code", "append", "(II)V"⟩ ⟨"RowCode$Code", "append", "(II)V"⟩ ∈ mx_tb := mx_tb_in (List.mem_of_getElem? (i := 325) (by decide +kernel)) (by decide +kernel)
set_option maxRecDepth 100000 in
theorem tw_343 : Cond.code ⟨"RowCode$Code", "cutTo", "(I)V"⟩ prog_3_method_6_code 2 none ∈ mx_tb := mx_tb_in (List.mem_of_getElem? (i := 343) rfl) (by decide +kernel)
theorem tw_341 : Cond.instanceMethod ⟨"RowCode$Code", "cutTo", "(I)V"⟩ ∈ mx_tb := mx_tb_in (List.mem_of_getElem? (i := 341) (by decide +kernel)) (by decide +kernel)
theorem tw_342 : Cond.selects "RowCode$Code" ⟨"RowCode$Code", "cutTo", "(I)V"⟩ ⟨"RowCode$Code", "cutTo", "(I)V"⟩ ∈ mx_tb := mx_tb_in (List.mem_of_getElem? (i := 342) (by decide +kernel)) (by decide +kernel)
set_option maxRecDepth 100000 in
theorem tw_497 : Cond.code ⟨"RowCode$Code", "lastNumber", "(I)I"⟩ prog_3_method_7_code 2 (some .int) ∈ mx_tb := mx_tb_in (List.mem_of_getElem? (i := 497) rfl) (by decide +kernel)
theorem tw_495 : Cond.instanceMethod ⟨"RowCode$Code", "lastNumber", "(I)I"⟩ ∈ mx_tb := mx_tb_in (List.mem_of_getElem? (i := 495) (by decide +kernel)) (by decide +kernel)
theorem tw_496 : Cond.selects "RowCode$Code" ⟨"RowCode$Code", "lastNumber", "(I)I"⟩ ⟨"RowCode$Code", "lastNumber", "(I)I"⟩ ∈ mx_tb := mx_tb_in (List.mem_of_getElem? (i := 496) (by decide +kernel)) (by decide +kernel)
set_option maxRecDepth 100000 in
theorem tw_501 : Cond.code ⟨"RowCode$Code", "lastArgument", "(I)I"⟩ prog_3_method_8_code 2 (some .int) ∈ mx_tb := mx_tb_in (List.mem_of_getElem? (i := 501) rfl) (by decide +kernel)
theorem tw_499 : Cond.instanceMethod ⟨"RowCode$Code", "lastArgument", "(I)I"⟩ ∈ mx_tb := mx_tb_in (List.mem_of_getElem? (i := 499) (by decide +kernel)) (by decide +kernel)
theorem tw_500 : Cond.selects "RowCode$Code" ⟨"RowCode$Code", "lastArgument", "(I)I"⟩ ⟨"RowCode$Code", "lastArgument", "(I)I"⟩ ∈ mx_tb := mx_tb_in (List.mem_of_getElem? (i := 500) (by decide +kernel)) (by decide +kernel)
set_option maxRecDepth 100000 in
theorem tw_509 : Cond.code ⟨"RowCode$Code", "cutLast", "()V"⟩ prog_3_method_9_code 1 none ∈ mx_tb := mx_tb_in (List.mem_of_getElem? (i := 509) rfl) (by decide +kernel)
theorem tw_507 : Cond.instanceMethod ⟨"RowCode$Code", "cutLast", "()V"⟩ ∈ mx_tb := mx_tb_in (List.mem_of_getElem? (i := 507) (by decide +kernel)) (by decide +kernel)
theorem tw_508 : Cond.selects "RowCode$Code" ⟨"RowCode$Code", "cutLast", "()V"⟩ ⟨"RowCode$Code", "cutLast", "()V"⟩ ∈ mx_tb := mx_tb_in (List.mem_of_getElem? (i := 508) (by decide +kernel)) (by decide +kernel)
set_option maxRecDepth 100000 in
theorem tw_505 : Cond.code ⟨"RowCode$Code", "replaceLast", "(III)V"⟩ prog_3_method_10_code 4 none ∈ mx_tb := mx_tb_in (List.mem_of_getElem? (i := 505) rfl) (by decide +kernel)
theorem tw_503 : Cond.instanceMethod ⟨"RowCode$Code", "replaceLast", "(III)V"⟩ ∈ mx_tb := mx_tb_in (List.mem_of_getElem? (i := 503) (by decide +kernel)) (by decide +kernel)
theorem tw_504 : Cond.selects "RowCode$Code" ⟨"RowCode$Code", "replaceLast", "(III)V"⟩ ⟨"RowCode$Code", "replaceLast", "(III)V"⟩ ∈ mx_tb := mx_tb_in (List.mem_of_getElem? (i := 504) (by decide +kernel)) (by decide +kernel)
set_option maxRecDepth 100000 in
theorem tw_200 : Cond.code ⟨"RowCode$Program", "<init>", "()V"⟩ prog_9_method_1_code 1 none ∈ mx_tb := mx_tb_in (List.mem_of_getElem? (i := 200) rfl) (by decide +kernel)
theorem tw_199 : Cond.instanceMethod ⟨"RowCode$Program", "<init>", "()V"⟩ ∈ mx_tb := mx_tb_in (List.mem_of_getElem? (i := 199) (by decide +kernel)) (by decide +kernel)
set_option maxRecDepth 100000 in
theorem tw_644 : Cond.code ⟨"RowCode$Program", "load", "(LRowCode$Numbers;)V"⟩ prog_9_method_2_code 5 none ∈ mx_tb := mx_tb_in (List.mem_of_getElem? (i := 644) rfl) (by decide +kernel)
theorem tw_642 : Cond.instanceMethod ⟨"RowCode$Program", "load", "(LRowCode$Numbers;)V"⟩ ∈ mx_tb := mx_tb_in (List.mem_of_getElem? (i := 642) (by decide +kernel)) (by decide +kernel)
theorem tw_643 : Cond.selects "RowCode$Program" ⟨"RowCode$Program", "load", "(LRowCode$Numbers;)V"⟩ ⟨"RowCode$Program", "load", "(LRowCode$Numbers;)V"⟩ ∈ mx_tb := mx_tb_in (List.mem_of_getElem? (i := 643) (by decide +kernel)) (by decide +kernel)
set_option maxRecDepth 100000 in
theorem tw_652 : Cond.code ⟨"RowCode$Program", "take", "(II)V"⟩ prog_9_method_3_code 3 none ∈ mx_tb := mx_tb_in (List.mem_of_getElem? (i := 652) rfl) (by decide +kernel)
theorem tw_651 : Cond.instanceMethod ⟨"RowCode$Program", "take", "(II)V"⟩ ∈ mx_tb := mx_tb_in (List.mem_of_getElem? (i := 651) (by decide +kernel)) (by decide +kernel)
theorem tw_40 : Cond.selects "RowCode$Program" ⟨"RowCode$Program", "take", "(II)V"⟩ ⟨"RowCode$Program", "take", "(II)V"⟩ ∈ mx_tb := mx_tb_in (List.mem_of_getElem? (i := 40) (by decide +kernel)) (by decide +kernel)
set_option maxRecDepth 100000 in
theorem tw_662 : Cond.code ⟨"RowCode$Program", "size", "()I"⟩ prog_9_method_4_code 1 (some .int) ∈ mx_tb := mx_tb_in (List.mem_of_getElem? (i := 662) rfl) (by decide +kernel)
theorem tw_660 : Cond.instanceMethod ⟨"RowCode$Program", "size", "()I"⟩ ∈ mx_tb := mx_tb_in (List.mem_of_getElem? (i := 660) (by decide +kernel)) (by decide +kernel)
theorem tw_661 : Cond.selects "RowCode$Program" ⟨"RowCode$Program", "size", "()I"⟩ ⟨"RowCode$Program", "size", "()I"⟩ ∈ mx_tb := mx_tb_in (List.mem_of_getElem? (i := 661) (by decide +kernel)) (by decide +kernel)
set_option maxRecDepth 100000 in
theorem tw_666 : Cond.code ⟨"RowCode$Program", "numberAt", "(I)I"⟩ prog_9_method_5_code 2 (some .int) ∈ mx_tb := mx_tb_in (List.mem_of_getElem? (i := 666) rfl) (by decide +kernel)
theorem tw_664 : Cond.instanceMethod ⟨"RowCode$Program", "numberAt", "(I)I"⟩ ∈ mx_tb := mx_tb_in (List.mem_of_getElem? (i := 664) (by decide +kernel)) (by decide +kernel)
theorem tw_665 : Cond.selects "RowCode$Program" ⟨"RowCode$Program", "numberAt", "(I)I"⟩ ⟨"RowCode$Program", "numberAt", "(I)I"⟩ ∈ mx_tb := mx_tb_in (List.mem_of_getElem? (i := 665) (by decide +kernel)) (by decide +kernel)
set_option maxRecDepth 100000 in
theorem tw_670 : Cond.code ⟨"RowCode$Program", "argumentAt", "(I)I"⟩ prog_9_method_6_code 2 (some .int) ∈ mx_tb := mx_tb_in (List.mem_of_getElem? (i := 670) rfl) (by decide +kernel)
theorem tw_668 : Cond.instanceMethod ⟨"RowCode$Program", "argumentAt", "(I)I"⟩ ∈ mx_tb := mx_tb_in (List.mem_of_getElem? (i := 668) (by decide +kernel)) (by decide +kernel)
theorem tw_669 : Cond.selects "RowCode$Program" ⟨"RowCode$Program", "argumentAt", "(I)I"⟩ ⟨"RowCode$Program", "argumentAt", "(I)I"⟩ ∈ mx_tb := mx_tb_in (List.mem_of_getElem? (i := 669) (by decide +kernel)) (by decide +kernel)
set_option maxRecDepth 100000 in
theorem tw_231 : Cond.code ⟨"RowCode$Machine", "<init>", "(LRowCode$Memory;)V"⟩ prog_6_method_1_code 2 none ∈ mx_tb := mx_tb_in (List.mem_of_getElem? (i := 231) rfl) (by decide +kernel)
theorem tw_230 : Cond.instanceMethod ⟨"RowCode$Machine", "<init>", "(LRowCode$Memory;)V"⟩ ∈ mx_tb := mx_tb_in (List.mem_of_getElem? (i := 230) (by decide +kernel)) (by decide +kernel)
set_option maxRecDepth 100000 in
theorem tw_658 : Cond.code ⟨"RowCode$Machine", "execute", "(LRowCode$Program;I)I"⟩ prog_6_method_2_code 7 (some .int) ∈ mx_tb := mx_tb_in (List.mem_of_getElem? (i := 658) rfl) (by decide +kernel)
theorem tw_656 : Cond.instanceMethod ⟨"RowCode$Machine", "execute", "(LRowCode$Program;I)I"⟩ ∈ mx_tb := mx_tb_in (List.mem_of_getElem? (i := 656) (by decide +kernel)) (by decide +kernel)
theorem tw_657 : Cond.selects "RowCode$Machine" ⟨"RowCode$Machine", "execute", "(LRowCode$Program;I)I"⟩ ⟨"RowCode$Machine", "execute", "(LRowCode$Program;I)I"⟩ ∈ mx_tb := mx_tb_in (List.mem_of_getElem? (i := 657) (by decide +kernel)) (by decide +kernel)
set_option maxRecDepth 100000 in
theorem tw_674 : Cond.code ⟨"RowCode$Machine", "move", "(II)V"⟩ prog_6_method_3_code 4 none ∈ mx_tb := mx_tb_in (List.mem_of_getElem? (i := 674) rfl) (by decide +kernel)
theorem tw_673 : Cond.instanceMethod ⟨"RowCode$Machine", "move", "(II)V"⟩ ∈ mx_tb := mx_tb_in (List.mem_of_getElem? (i := 673) (by decide +kernel)) (by decide +kernel)
theorem tw_41 : Cond.selects "RowCode$Machine" ⟨"RowCode$Machine", "move", "(II)V"⟩ ⟨"RowCode$Machine", "move", "(II)V"⟩ ∈ mx_tb := mx_tb_in (List.mem_of_getElem? (i := 41) (by decide +kernel)) (by decide +kernel)
set_option maxRecDepth 100000 in
theorem tw_747 : Cond.code ⟨"RowCode$Machine", "jumps", "(I)Z"⟩ prog_6_method_4_code 2 (some .boolean) ∈ mx_tb := mx_tb_in (List.mem_of_getElem? (i := 747) rfl) (by decide +kernel)
theorem tw_746 : Cond.instanceMethod ⟨"RowCode$Machine", "jumps", "(I)Z"⟩ ∈ mx_tb := mx_tb_in (List.mem_of_getElem? (i := 746) (by decide +kernel)) (by decide +kernel)
theorem tw_52 : Cond.selects "RowCode$Machine" ⟨"RowCode$Machine", "jumps", "(I)Z"⟩ ⟨"RowCode$Machine", "jumps", "(I)Z"⟩ ∈ mx_tb := mx_tb_in (List.mem_of_getElem? (i := 52) (by decide +kernel)) (by decide +kernel)
set_option maxRecDepth 100000 in
theorem tw_687 : Cond.code ⟨"RowCode$Machine", "work", "(II)V"⟩ prog_6_method_5_code 3 none ∈ mx_tb := mx_tb_in (List.mem_of_getElem? (i := 687) rfl) (by decide +kernel)
theorem tw_686 : Cond.instanceMethod ⟨"RowCode$Machine", "work", "(II)V"⟩ ∈ mx_tb := mx_tb_in (List.mem_of_getElem? (i := 686) (by decide +kernel)) (by decide +kernel)
theorem tw_42 : Cond.selects "RowCode$Machine" ⟨"RowCode$Machine", "work", "(II)V"⟩ ⟨"RowCode$Machine", "work", "(II)V"⟩ ∈ mx_tb := mx_tb_in (List.mem_of_getElem? (i := 42) (by decide +kernel)) (by decide +kernel)
set_option maxRecDepth 100000 in
theorem tw_699 : Cond.code ⟨"RowCode$Machine", "reaches", "(J)Z"⟩ prog_6_method_6_code 4 (some .boolean) ∈ mx_tb := mx_tb_in (List.mem_of_getElem? (i := 699) rfl) (by decide +kernel)
theorem tw_698 : Cond.instanceMethod ⟨"RowCode$Machine", "reaches", "(J)Z"⟩ ∈ mx_tb := mx_tb_in (List.mem_of_getElem? (i := 698) (by decide +kernel)) (by decide +kernel)
theorem tw_44 : Cond.selects "RowCode$Machine" ⟨"RowCode$Machine", "reaches", "(J)Z"⟩ ⟨"RowCode$Machine", "reaches", "(J)Z"⟩ ∈ mx_tb := mx_tb_in (List.mem_of_getElem? (i := 44) (by decide +kernel)) (by decide +kernel)
set_option maxRecDepth 100000 in
theorem tw_695 : Cond.code ⟨"RowCode$Machine", "fetch", "()V"⟩ prog_6_method_7_code 1 none ∈ mx_tb := mx_tb_in (List.mem_of_getElem? (i := 695) rfl) (by decide +kernel)
theorem tw_694 : Cond.instanceMethod ⟨"RowCode$Machine", "fetch", "()V"⟩ ∈ mx_tb := mx_tb_in (List.mem_of_getElem? (i := 694) (by decide +kernel)) (by decide +kernel)
theorem tw_43 : Cond.selects "RowCode$Machine" ⟨"RowCode$Machine", "fetch", "()V"⟩ ⟨"RowCode$Machine", "fetch", "()V"⟩ ∈ mx_tb := mx_tb_in (List.mem_of_getElem? (i := 43) (by decide +kernel)) (by decide +kernel)
set_option maxRecDepth 100000 in
theorem tw_712 : Cond.code ⟨"RowCode$Machine", "store", "()V"⟩ prog_6_method_8_code 1 none ∈ mx_tb := mx_tb_in (List.mem_of_getElem? (i := 712) rfl) (by decide +kernel)
theorem tw_711 : Cond.instanceMethod ⟨"RowCode$Machine", "store", "()V"⟩ ∈ mx_tb := mx_tb_in (List.mem_of_getElem? (i := 711) (by decide +kernel)) (by decide +kernel)
theorem tw_45 : Cond.selects "RowCode$Machine" ⟨"RowCode$Machine", "store", "()V"⟩ ⟨"RowCode$Machine", "store", "()V"⟩ ∈ mx_tb := mx_tb_in (List.mem_of_getElem? (i := 45) (by decide +kernel)) (by decide +kernel)
set_option maxRecDepth 100000 in
theorem tw_720 : Cond.code ⟨"RowCode$Machine", "combine", "(I)V"⟩ prog_6_method_9_code 2 none ∈ mx_tb := mx_tb_in (List.mem_of_getElem? (i := 720) rfl) (by decide +kernel)
theorem tw_719 : Cond.instanceMethod ⟨"RowCode$Machine", "combine", "(I)V"⟩ ∈ mx_tb := mx_tb_in (List.mem_of_getElem? (i := 719) (by decide +kernel)) (by decide +kernel)
theorem tw_46 : Cond.selects "RowCode$Machine" ⟨"RowCode$Machine", "combine", "(I)V"⟩ ⟨"RowCode$Machine", "combine", "(I)V"⟩ ∈ mx_tb := mx_tb_in (List.mem_of_getElem? (i := 46) (by decide +kernel)) (by decide +kernel)
set_option maxRecDepth 100000 in
theorem tw_727 : Cond.code ⟨"RowCode$Machine", "relateAndKeep", "(I)V"⟩ prog_6_method_10_code 3 none ∈ mx_tb := mx_tb_in (List.mem_of_getElem? (i := 727) rfl) (by decide +kernel)
theorem tw_726 : Cond.instanceMethod ⟨"RowCode$Machine", "relateAndKeep", "(I)V"⟩ ∈ mx_tb := mx_tb_in (List.mem_of_getElem? (i := 726) (by decide +kernel)) (by decide +kernel)
theorem tw_47 : Cond.selects "RowCode$Machine" ⟨"RowCode$Machine", "relateAndKeep", "(I)V"⟩ ⟨"RowCode$Machine", "relateAndKeep", "(I)V"⟩ ∈ mx_tb := mx_tb_in (List.mem_of_getElem? (i := 47) (by decide +kernel)) (by decide +kernel)
set_option maxRecDepth 100000 in
theorem tw_735 : Cond.code ⟨"RowCode$Machine", "byteAddress", "()J"⟩ prog_6_method_11_code 1 (some .long) ∈ mx_tb := mx_tb_in (List.mem_of_getElem? (i := 735) rfl) (by decide +kernel)
theorem tw_734 : Cond.instanceMethod ⟨"RowCode$Machine", "byteAddress", "()J"⟩ ∈ mx_tb := mx_tb_in (List.mem_of_getElem? (i := 734) (by decide +kernel)) (by decide +kernel)
theorem tw_49 : Cond.selects "RowCode$Machine" ⟨"RowCode$Machine", "byteAddress", "()J"⟩ ⟨"RowCode$Machine", "byteAddress", "()J"⟩ ∈ mx_tb := mx_tb_in (List.mem_of_getElem? (i := 49) (by decide +kernel)) (by decide +kernel)
set_option maxRecDepth 100000 in
theorem tw_731 : Cond.code ⟨"RowCode$Machine", "fetchByte", "()V"⟩ prog_6_method_12_code 2 none ∈ mx_tb := mx_tb_in (List.mem_of_getElem? (i := 731) rfl) (by decide +kernel)
theorem tw_730 : Cond.instanceMethod ⟨"RowCode$Machine", "fetchByte", "()V"⟩ ∈ mx_tb := mx_tb_in (List.mem_of_getElem? (i := 730) (by decide +kernel)) (by decide +kernel)
theorem tw_48 : Cond.selects "RowCode$Machine" ⟨"RowCode$Machine", "fetchByte", "()V"⟩ ⟨"RowCode$Machine", "fetchByte", "()V"⟩ ∈ mx_tb := mx_tb_in (List.mem_of_getElem? (i := 48) (by decide +kernel)) (by decide +kernel)
set_option maxRecDepth 100000 in
theorem tw_739 : Cond.code ⟨"RowCode$Machine", "storeByte", "(I)V"⟩ prog_6_method_13_code 5 none ∈ mx_tb := mx_tb_in (List.mem_of_getElem? (i := 739) rfl) (by decide +kernel)
theorem tw_738 : Cond.instanceMethod ⟨"RowCode$Machine", "storeByte", "(I)V"⟩ ∈ mx_tb := mx_tb_in (List.mem_of_getElem? (i := 738) (by decide +kernel)) (by decide +kernel)
theorem tw_50 : Cond.selects "RowCode$Machine" ⟨"RowCode$Machine", "storeByte", "(I)V"⟩ ⟨"RowCode$Machine", "storeByte", "(I)V"⟩ ∈ mx_tb := mx_tb_in (List.mem_of_getElem? (i := 50) (by decide +kernel)) (by decide +kernel)
set_option maxRecDepth 100000 in
theorem tw_743 : Cond.code ⟨"RowCode$Machine", "pay", "()V"⟩ prog_6_method_14_code 1 none ∈ mx_tb := mx_tb_in (List.mem_of_getElem? (i := 743) rfl) (by decide +kernel)
theorem tw_742 : Cond.instanceMethod ⟨"RowCode$Machine", "pay", "()V"⟩ ∈ mx_tb := mx_tb_in (List.mem_of_getElem? (i := 742) (by decide +kernel)) (by decide +kernel)
theorem tw_51 : Cond.selects "RowCode$Machine" ⟨"RowCode$Machine", "pay", "()V"⟩ ⟨"RowCode$Machine", "pay", "()V"⟩ ∈ mx_tb := mx_tb_in (List.mem_of_getElem? (i := 51) (by decide +kernel)) (by decide +kernel)
set_option maxRecDepth 100000 in
theorem tw_123 : Cond.code ⟨"RowCode$Judge", "<init>", "(LRowCode$Code;)V"⟩ prog_5_method_1_code 2 none ∈ mx_tb := mx_tb_in (List.mem_of_getElem? (i := 123) rfl) (by decide +kernel)
theorem tw_122 : Cond.instanceMethod ⟨"RowCode$Judge", "<init>", "(LRowCode$Code;)V"⟩ ∈ mx_tb := mx_tb_in (List.mem_of_getElem? (i := 122) (by decide +kernel)) (by decide +kernel)
set_option maxRecDepth 100000 in
theorem tw_335 : Cond.code ⟨"RowCode$Judge", "forgetJudgement", "()V"⟩ prog_5_method_2_code 1 none ∈ mx_tb := mx_tb_in (List.mem_of_getElem? (i := 335) rfl) (by decide +kernel)
theorem tw_333 : Cond.instanceMethod ⟨"RowCode$Judge", "forgetJudgement", "()V"⟩ ∈ mx_tb := mx_tb_in (List.mem_of_getElem? (i := 333) (by decide +kernel)) (by decide +kernel)
theorem tw_334 : Cond.selects "RowCode$Judge" ⟨"RowCode$Judge", "forgetJudgement", "()V"⟩ ⟨"RowCode$Judge", "forgetJudgement", "()V"⟩ ∈ mx_tb := mx_tb_in (List.mem_of_getElem? (i := 334) (by decide +kernel)) (by decide +kernel)
set_option maxRecDepth 100000 in
theorem tw_355 : Cond.code ⟨"RowCode$Judge", "findsRight", "()Z"⟩ prog_5_method_3_code 1 (some .boolean) ∈ mx_tb := mx_tb_in (List.mem_of_getElem? (i := 355) rfl) (by decide +kernel)
theorem tw_353 : Cond.instanceMethod ⟨"RowCode$Judge", "findsRight", "()Z"⟩ ∈ mx_tb := mx_tb_in (List.mem_of_getElem? (i := 353) (by decide +kernel)) (by decide +kernel)
theorem tw_354 : Cond.selects "RowCode$Judge" ⟨"RowCode$Judge", "findsRight", "()Z"⟩ ⟨"RowCode$Judge", "findsRight", "()Z"⟩ ∈ mx_tb := mx_tb_in (List.mem_of_getElem? (i := 354) (by decide +kernel)) (by decide +kernel)
set_option maxRecDepth 100000 in
theorem tw_463 : Cond.code ⟨"RowCode$Judge", "isReached", "(I)Z"⟩ prog_5_method_4_code 2 (some .boolean) ∈ mx_tb := mx_tb_in (List.mem_of_getElem? (i := 463) rfl) (by decide +kernel)
theorem tw_461 : Cond.instanceMethod ⟨"RowCode$Judge", "isReached", "(I)Z"⟩ ∈ mx_tb := mx_tb_in (List.mem_of_getElem? (i := 461) (by decide +kernel)) (by decide +kernel)
theorem tw_462 : Cond.selects "RowCode$Judge" ⟨"RowCode$Judge", "isReached", "(I)Z"⟩ ⟨"RowCode$Judge", "isReached", "(I)Z"⟩ ∈ mx_tb := mx_tb_in (List.mem_of_getElem? (i := 462) (by decide +kernel)) (by decide +kernel)
set_option maxRecDepth 100000 in
theorem tw_632 : Cond.code ⟨"RowCode$Judge", "depthAtLabel", "(I)I"⟩ prog_5_method_5_code 2 (some .int) ∈ mx_tb := mx_tb_in (List.mem_of_getElem? (i := 632) rfl) (by decide +kernel)
theorem tw_630 : Cond.instanceMethod ⟨"RowCode$Judge", "depthAtLabel", "(I)I"⟩ ∈ mx_tb := mx_tb_in (List.mem_of_getElem? (i := 630) (by decide +kernel)) (by decide +kernel)
theorem tw_631 : Cond.selects "RowCode$Judge" ⟨"RowCode$Judge", "depthAtLabel", "(I)I"⟩ ⟨"RowCode$Judge", "depthAtLabel", "(I)I"⟩ ∈ mx_tb := mx_tb_in (List.mem_of_getElem? (i := 631) (by decide +kernel)) (by decide +kernel)
set_option maxRecDepth 100000 in
theorem tw_360 : Cond.code ⟨"RowCode$Judge", "argumentsFit", "()Z"⟩ prog_5_method_6_code 5 (some .boolean) ∈ mx_tb := mx_tb_in (List.mem_of_getElem? (i := 360) rfl) (by decide +kernel)
theorem tw_359 : Cond.instanceMethod ⟨"RowCode$Judge", "argumentsFit", "()Z"⟩ ∈ mx_tb := mx_tb_in (List.mem_of_getElem? (i := 359) (by decide +kernel)) (by decide +kernel)
theorem tw_1 : Cond.selects "RowCode$Judge" ⟨"RowCode$Judge", "argumentsFit", "()Z"⟩ ⟨"RowCode$Judge", "argumentsFit", "()Z"⟩ ∈ mx_tb := mx_tb_in (List.mem_of_getElem? (i := 1) (by decide +kernel)) (by decide +kernel)
set_option maxRecDepth 100000 in
theorem tw_378 : Cond.code ⟨"RowCode$Judge", "labelsAreOnce", "()Z"⟩ prog_5_method_7_code 3 (some .boolean) ∈ mx_tb := mx_tb_in (List.mem_of_getElem? (i := 378) rfl) (by decide +kernel)
theorem tw_377 : Cond.instanceMethod ⟨"RowCode$Judge", "labelsAreOnce", "()Z"⟩ ∈ mx_tb := mx_tb_in (List.mem_of_getElem? (i := 377) (by decide +kernel)) (by decide +kernel)
theorem tw_2 : Cond.selects "RowCode$Judge" ⟨"RowCode$Judge", "labelsAreOnce", "()Z"⟩ ⟨"RowCode$Judge", "labelsAreOnce", "()Z"⟩ ∈ mx_tb := mx_tb_in (List.mem_of_getElem? (i := 2) (by decide +kernel)) (by decide +kernel)
set_option maxRecDepth 100000 in
theorem tw_388 : Cond.code ⟨"RowCode$Judge", "goalsAreThere", "()Z"⟩ prog_5_method_8_code 3 (some .boolean) ∈ mx_tb := mx_tb_in (List.mem_of_getElem? (i := 388) rfl) (by decide +kernel)
theorem tw_387 : Cond.instanceMethod ⟨"RowCode$Judge", "goalsAreThere", "()Z"⟩ ∈ mx_tb := mx_tb_in (List.mem_of_getElem? (i := 387) (by decide +kernel)) (by decide +kernel)
theorem tw_3 : Cond.selects "RowCode$Judge" ⟨"RowCode$Judge", "goalsAreThere", "()Z"⟩ ⟨"RowCode$Judge", "goalsAreThere", "()Z"⟩ ∈ mx_tb := mx_tb_in (List.mem_of_getElem? (i := 3) (by decide +kernel)) (by decide +kernel)
set_option maxRecDepth 100000 in
theorem tw_421 : Cond.code ⟨"RowCode$Judge", "following", "(I)I"⟩ prog_5_method_9_code 3 (some .int) ∈ mx_tb := mx_tb_in (List.mem_of_getElem? (i := 421) rfl) (by decide +kernel)
theorem tw_420 : Cond.instanceMethod ⟨"RowCode$Judge", "following", "(I)I"⟩ ∈ mx_tb := mx_tb_in (List.mem_of_getElem? (i := 420) (by decide +kernel)) (by decide +kernel)
theorem tw_7 : Cond.selects "RowCode$Judge" ⟨"RowCode$Judge", "following", "(I)I"⟩ ⟨"RowCode$Judge", "following", "(I)I"⟩ ∈ mx_tb := mx_tb_in (List.mem_of_getElem? (i := 7) (by decide +kernel)) (by decide +kernel)
set_option maxRecDepth 100000 in
theorem tw_428 : Cond.code ⟨"RowCode$Judge", "goal", "(I)I"⟩ prog_5_method_10_code 3 (some .int) ∈ mx_tb := mx_tb_in (List.mem_of_getElem? (i := 428) rfl) (by decide +kernel)
theorem tw_427 : Cond.instanceMethod ⟨"RowCode$Judge", "goal", "(I)I"⟩ ∈ mx_tb := mx_tb_in (List.mem_of_getElem? (i := 427) (by decide +kernel)) (by decide +kernel)
theorem tw_8 : Cond.selects "RowCode$Judge" ⟨"RowCode$Judge", "goal", "(I)I"⟩ ⟨"RowCode$Judge", "goal", "(I)I"⟩ ∈ mx_tb := mx_tb_in (List.mem_of_getElem? (i := 8) (by decide +kernel)) (by decide +kernel)
set_option maxRecDepth 100000 in
theorem tw_398 : Cond.code ⟨"RowCode$Judge", "waysAgree", "()Z"⟩ prog_5_method_11_code 2 (some .boolean) ∈ mx_tb := mx_tb_in (List.mem_of_getElem? (i := 398) rfl) (by decide +kernel)
theorem tw_397 : Cond.instanceMethod ⟨"RowCode$Judge", "waysAgree", "()Z"⟩ ∈ mx_tb := mx_tb_in (List.mem_of_getElem? (i := 397) (by decide +kernel)) (by decide +kernel)
theorem tw_4 : Cond.selects "RowCode$Judge" ⟨"RowCode$Judge", "waysAgree", "()Z"⟩ ⟨"RowCode$Judge", "waysAgree", "()Z"⟩ ∈ mx_tb := mx_tb_in (List.mem_of_getElem? (i := 4) (by decide +kernel)) (by decide +kernel)
set_option maxRecDepth 100000 in
theorem tw_413 : Cond.code ⟨"RowCode$Judge", "leavesRightly", "(I)Z"⟩ prog_5_method_12_code 7 (some .boolean) ∈ mx_tb := mx_tb_in (List.mem_of_getElem? (i := 413) rfl) (by decide +kernel)
theorem tw_412 : Cond.instanceMethod ⟨"RowCode$Judge", "leavesRightly", "(I)Z"⟩ ∈ mx_tb := mx_tb_in (List.mem_of_getElem? (i := 412) (by decide +kernel)) (by decide +kernel)
theorem tw_6 : Cond.selects "RowCode$Judge" ⟨"RowCode$Judge", "leavesRightly", "(I)Z"⟩ ⟨"RowCode$Judge", "leavesRightly", "(I)Z"⟩ ∈ mx_tb := mx_tb_in (List.mem_of_getElem? (i := 6) (by decide +kernel)) (by decide +kernel)
set_option maxRecDepth 100000 in
theorem tw_403 : Cond.code ⟨"RowCode$Judge", "arrives", "(II)Z"⟩ prog_5_method_13_code 3 (some .boolean) ∈ mx_tb := mx_tb_in (List.mem_of_getElem? (i := 403) rfl) (by decide +kernel)
theorem tw_402 : Cond.instanceMethod ⟨"RowCode$Judge", "arrives", "(II)Z"⟩ ∈ mx_tb := mx_tb_in (List.mem_of_getElem? (i := 402) (by decide +kernel)) (by decide +kernel)
theorem tw_5 : Cond.selects "RowCode$Judge" ⟨"RowCode$Judge", "arrives", "(II)Z"⟩ ⟨"RowCode$Judge", "arrives", "(II)Z"⟩ ∈ mx_tb := mx_tb_in (List.mem_of_getElem? (i := 5) (by decide +kernel)) (by decide +kernel)
set_option maxRecDepth 100000 in
theorem tw_432 : Cond.code ⟨"RowCode$Judge", "roundsSpend", "()Z"⟩ prog_5_method_14_code 4 (some .boolean) ∈ mx_tb := mx_tb_in (List.mem_of_getElem? (i := 432) rfl) (by decide +kernel)
theorem tw_431 : Cond.instanceMethod ⟨"RowCode$Judge", "roundsSpend", "()Z"⟩ ∈ mx_tb := mx_tb_in (List.mem_of_getElem? (i := 431) (by decide +kernel)) (by decide +kernel)
theorem tw_9 : Cond.selects "RowCode$Judge" ⟨"RowCode$Judge", "roundsSpend", "()Z"⟩ ⟨"RowCode$Judge", "roundsSpend", "()Z"⟩ ∈ mx_tb := mx_tb_in (List.mem_of_getElem? (i := 9) (by decide +kernel)) (by decide +kernel)
set_option maxRecDepth 100000 in
theorem tw_436 : Cond.code ⟨"RowCode$Judge", "isFree", "(I)Z"⟩ prog_5_method_15_code 2 (some .boolean) ∈ mx_tb := mx_tb_in (List.mem_of_getElem? (i := 436) rfl) (by decide +kernel)
theorem tw_435 : Cond.instanceMethod ⟨"RowCode$Judge", "isFree", "(I)Z"⟩ ∈ mx_tb := mx_tb_in (List.mem_of_getElem? (i := 435) (by decide +kernel)) (by decide +kernel)
theorem tw_10 : Cond.selects "RowCode$Judge" ⟨"RowCode$Judge", "isFree", "(I)Z"⟩ ⟨"RowCode$Judge", "isFree", "(I)Z"⟩ ∈ mx_tb := mx_tb_in (List.mem_of_getElem? (i := 10) (by decide +kernel)) (by decide +kernel)
set_option maxRecDepth 100000 in
theorem tw_440 : Cond.code ⟨"RowCode$Judge", "countComer", "(I)V"⟩ prog_5_method_16_code 2 none ∈ mx_tb := mx_tb_in (List.mem_of_getElem? (i := 440) rfl) (by decide +kernel)
theorem tw_439 : Cond.instanceMethod ⟨"RowCode$Judge", "countComer", "(I)V"⟩ ∈ mx_tb := mx_tb_in (List.mem_of_getElem? (i := 439) (by decide +kernel)) (by decide +kernel)
theorem tw_11 : Cond.selects "RowCode$Judge" ⟨"RowCode$Judge", "countComer", "(I)V"⟩ ⟨"RowCode$Judge", "countComer", "(I)V"⟩ ∈ mx_tb := mx_tb_in (List.mem_of_getElem? (i := 11) (by decide +kernel)) (by decide +kernel)
set_option maxRecDepth 100000 in
theorem tw_444 : Cond.code ⟨"RowCode$Judge", "loseComer", "(I)V"⟩ prog_5_method_17_code 2 none ∈ mx_tb := mx_tb_in (List.mem_of_getElem? (i := 444) rfl) (by decide +kernel)
theorem tw_443 : Cond.instanceMethod ⟨"RowCode$Judge", "loseComer", "(I)V"⟩ ∈ mx_tb := mx_tb_in (List.mem_of_getElem? (i := 443) (by decide +kernel)) (by decide +kernel)
theorem tw_12 : Cond.selects "RowCode$Judge" ⟨"RowCode$Judge", "loseComer", "(I)V"⟩ ⟨"RowCode$Judge", "loseComer", "(I)V"⟩ ∈ mx_tb := mx_tb_in (List.mem_of_getElem? (i := 12) (by decide +kernel)) (by decide +kernel)
set_option maxRecDepth 100000 in
theorem tw_153 : Cond.code ⟨"RowCode$Improver", "<init>", "()V"⟩ prog_4_method_1_code 1 none ∈ mx_tb := mx_tb_in (List.mem_of_getElem? (i := 153) rfl) (by decide +kernel)
theorem tw_152 : Cond.instanceMethod ⟨"RowCode$Improver", "<init>", "()V"⟩ ∈ mx_tb := mx_tb_in (List.mem_of_getElem? (i := 152) (by decide +kernel)) (by decide +kernel)
set_option maxRecDepth 100000 in
theorem tw_452 : Cond.code ⟨"RowCode$Improver", "improve", "(LRowCode$Code;LRowCode$Judge;)LRowCode$Code;"⟩ prog_4_method_2_code 5 (some (.object "RowCode$Code")) ∈ mx_tb := mx_tb_in (List.mem_of_getElem? (i := 452) rfl) (by decide +kernel)
theorem tw_450 : Cond.instanceMethod ⟨"RowCode$Improver", "improve", "(LRowCode$Code;LRowCode$Judge;)LRowCode$Code;"⟩ ∈ mx_tb := mx_tb_in (List.mem_of_getElem? (i := 450) (by decide +kernel)) (by decide +kernel)
theorem tw_451 : Cond.selects "RowCode$Improver" ⟨"RowCode$Improver", "improve", "(LRowCode$Code;LRowCode$Judge;)LRowCode$Code;"⟩ ⟨"RowCode$Improver", "improve", "(LRowCode$Code;LRowCode$Judge;)LRowCode$Code;"⟩ ∈ mx_tb := mx_tb_in (List.mem_of_getElem? (i := 451) (by decide +kernel)) (by decide +kernel)
set_option maxRecDepth 100000 in
theorem tw_456 : Cond.code ⟨"RowCode$Improver", "copyReached", "(LRowCode$Code;LRowCode$Judge;)V"⟩ prog_4_method_3_code 5 none ∈ mx_tb := mx_tb_in (List.mem_of_getElem? (i := 456) rfl) (by decide +kernel)
theorem tw_455 : Cond.instanceMethod ⟨"RowCode$Improver", "copyReached", "(LRowCode$Code;LRowCode$Judge;)V"⟩ ∈ mx_tb := mx_tb_in (List.mem_of_getElem? (i := 455) (by decide +kernel)) (by decide +kernel)
theorem tw_13 : Cond.selects "RowCode$Improver" ⟨"RowCode$Improver", "copyReached", "(LRowCode$Code;LRowCode$Judge;)V"⟩ ⟨"RowCode$Improver", "copyReached", "(LRowCode$Code;LRowCode$Judge;)V"⟩ ∈ mx_tb := mx_tb_in (List.mem_of_getElem? (i := 13) (by decide +kernel)) (by decide +kernel)
set_option maxRecDepth 100000 in
theorem tw_469 : Cond.code ⟨"RowCode$Improver", "findPlaces", "()V"⟩ prog_4_method_4_code 2 none ∈ mx_tb := mx_tb_in (List.mem_of_getElem? (i := 469) rfl) (by decide +kernel)
theorem tw_468 : Cond.instanceMethod ⟨"RowCode$Improver", "findPlaces", "()V"⟩ ∈ mx_tb := mx_tb_in (List.mem_of_getElem? (i := 468) (by decide +kernel)) (by decide +kernel)
theorem tw_14 : Cond.selects "RowCode$Improver" ⟨"RowCode$Improver", "findPlaces", "()V"⟩ ⟨"RowCode$Improver", "findPlaces", "()V"⟩ ∈ mx_tb := mx_tb_in (List.mem_of_getElem? (i := 14) (by decide +kernel)) (by decide +kernel)
set_option maxRecDepth 100000 in
theorem tw_475 : Cond.code ⟨"RowCode$Improver", "countUses", "()V"⟩ prog_4_method_5_code 3 none ∈ mx_tb := mx_tb_in (List.mem_of_getElem? (i := 475) rfl) (by decide +kernel)
theorem tw_474 : Cond.instanceMethod ⟨"RowCode$Improver", "countUses", "()V"⟩ ∈ mx_tb := mx_tb_in (List.mem_of_getElem? (i := 474) (by decide +kernel)) (by decide +kernel)
theorem tw_15 : Cond.selects "RowCode$Improver" ⟨"RowCode$Improver", "countUses", "()V"⟩ ⟨"RowCode$Improver", "countUses", "()V"⟩ ∈ mx_tb := mx_tb_in (List.mem_of_getElem? (i := 15) (by decide +kernel)) (by decide +kernel)
set_option maxRecDepth 100000 in
theorem tw_480 : Cond.code ⟨"RowCode$Improver", "farthest", "(I)I"⟩ prog_4_method_6_code 6 (some .int) ∈ mx_tb := mx_tb_in (List.mem_of_getElem? (i := 480) rfl) (by decide +kernel)
theorem tw_479 : Cond.instanceMethod ⟨"RowCode$Improver", "farthest", "(I)I"⟩ ∈ mx_tb := mx_tb_in (List.mem_of_getElem? (i := 479) (by decide +kernel)) (by decide +kernel)
theorem tw_16 : Cond.selects "RowCode$Improver" ⟨"RowCode$Improver", "farthest", "(I)I"⟩ ⟨"RowCode$Improver", "farthest", "(I)I"⟩ ∈ mx_tb := mx_tb_in (List.mem_of_getElem? (i := 16) (by decide +kernel)) (by decide +kernel)
set_option maxRecDepth 100000 in
theorem tw_485 : Cond.code ⟨"RowCode$Improver", "rewrite", "()V"⟩ prog_4_method_7_code 6 none ∈ mx_tb := mx_tb_in (List.mem_of_getElem? (i := 485) rfl) (by decide +kernel)
theorem tw_484 : Cond.instanceMethod ⟨"RowCode$Improver", "rewrite", "()V"⟩ ∈ mx_tb := mx_tb_in (List.mem_of_getElem? (i := 484) (by decide +kernel)) (by decide +kernel)
theorem tw_17 : Cond.selects "RowCode$Improver" ⟨"RowCode$Improver", "rewrite", "()V"⟩ ⟨"RowCode$Improver", "rewrite", "()V"⟩ ∈ mx_tb := mx_tb_in (List.mem_of_getElem? (i := 17) (by decide +kernel)) (by decide +kernel)
set_option maxRecDepth 100000 in
theorem tw_489 : Cond.code ⟨"RowCode$Improver", "folds", "(II)Z"⟩ prog_4_method_8_code 3 (some .boolean) ∈ mx_tb := mx_tb_in (List.mem_of_getElem? (i := 489) rfl) (by decide +kernel)
theorem tw_488 : Cond.instanceMethod ⟨"RowCode$Improver", "folds", "(II)Z"⟩ ∈ mx_tb := mx_tb_in (List.mem_of_getElem? (i := 488) (by decide +kernel)) (by decide +kernel)
theorem tw_18 : Cond.selects "RowCode$Improver" ⟨"RowCode$Improver", "folds", "(II)Z"⟩ ⟨"RowCode$Improver", "folds", "(II)Z"⟩ ∈ mx_tb := mx_tb_in (List.mem_of_getElem? (i := 18) (by decide +kernel)) (by decide +kernel)
set_option maxRecDepth 100000 in
theorem tw_493 : Cond.code ⟨"RowCode$Improver", "foldsOne", "(I)Z"⟩ prog_4_method_9_code 4 (some .boolean) ∈ mx_tb := mx_tb_in (List.mem_of_getElem? (i := 493) rfl) (by decide +kernel)
theorem tw_492 : Cond.instanceMethod ⟨"RowCode$Improver", "foldsOne", "(I)Z"⟩ ∈ mx_tb := mx_tb_in (List.mem_of_getElem? (i := 492) (by decide +kernel)) (by decide +kernel)
theorem tw_19 : Cond.selects "RowCode$Improver" ⟨"RowCode$Improver", "foldsOne", "(I)Z"⟩ ⟨"RowCode$Improver", "foldsOne", "(I)Z"⟩ ∈ mx_tb := mx_tb_in (List.mem_of_getElem? (i := 19) (by decide +kernel)) (by decide +kernel)
set_option maxRecDepth 100000 in
theorem tw_517 : Cond.code ⟨"RowCode$Improver", "foldsCalculation", "(I)Z"⟩ prog_4_method_10_code 3 (some .boolean) ∈ mx_tb := mx_tb_in (List.mem_of_getElem? (i := 517) rfl) (by decide +kernel)
theorem tw_516 : Cond.instanceMethod ⟨"RowCode$Improver", "foldsCalculation", "(I)Z"⟩ ∈ mx_tb := mx_tb_in (List.mem_of_getElem? (i := 516) (by decide +kernel)) (by decide +kernel)
theorem tw_20 : Cond.selects "RowCode$Improver" ⟨"RowCode$Improver", "foldsCalculation", "(I)Z"⟩ ⟨"RowCode$Improver", "foldsCalculation", "(I)Z"⟩ ∈ mx_tb := mx_tb_in (List.mem_of_getElem? (i := 20) (by decide +kernel)) (by decide +kernel)
set_option maxRecDepth 100000 in
theorem tw_530 : Cond.code ⟨"RowCode$Improver", "foldsComparison", "(I)Z"⟩ prog_4_method_11_code 4 (some .boolean) ∈ mx_tb := mx_tb_in (List.mem_of_getElem? (i := 530) rfl) (by decide +kernel)
theorem tw_529 : Cond.instanceMethod ⟨"RowCode$Improver", "foldsComparison", "(I)Z"⟩ ∈ mx_tb := mx_tb_in (List.mem_of_getElem? (i := 529) (by decide +kernel)) (by decide +kernel)
theorem tw_21 : Cond.selects "RowCode$Improver" ⟨"RowCode$Improver", "foldsComparison", "(I)Z"⟩ ⟨"RowCode$Improver", "foldsComparison", "(I)Z"⟩ ∈ mx_tb := mx_tb_in (List.mem_of_getElem? (i := 21) (by decide +kernel)) (by decide +kernel)
set_option maxRecDepth 100000 in
theorem tw_540 : Cond.code ⟨"RowCode$Improver", "foldsDrop", "()Z"⟩ prog_4_method_12_code 2 (some .boolean) ∈ mx_tb := mx_tb_in (List.mem_of_getElem? (i := 540) rfl) (by decide +kernel)
theorem tw_539 : Cond.instanceMethod ⟨"RowCode$Improver", "foldsDrop", "()Z"⟩ ∈ mx_tb := mx_tb_in (List.mem_of_getElem? (i := 539) (by decide +kernel)) (by decide +kernel)
theorem tw_22 : Cond.selects "RowCode$Improver" ⟨"RowCode$Improver", "foldsDrop", "()Z"⟩ ⟨"RowCode$Improver", "foldsDrop", "()Z"⟩ ∈ mx_tb := mx_tb_in (List.mem_of_getElem? (i := 22) (by decide +kernel)) (by decide +kernel)
set_option maxRecDepth 100000 in
theorem tw_544 : Cond.code ⟨"RowCode$Improver", "foldsCondition", "(II)Z"⟩ prog_4_method_13_code 4 (some .boolean) ∈ mx_tb := mx_tb_in (List.mem_of_getElem? (i := 544) rfl) (by decide +kernel)
theorem tw_543 : Cond.instanceMethod ⟨"RowCode$Improver", "foldsCondition", "(II)Z"⟩ ∈ mx_tb := mx_tb_in (List.mem_of_getElem? (i := 543) (by decide +kernel)) (by decide +kernel)
theorem tw_23 : Cond.selects "RowCode$Improver" ⟨"RowCode$Improver", "foldsCondition", "(II)Z"⟩ ⟨"RowCode$Improver", "foldsCondition", "(II)Z"⟩ ∈ mx_tb := mx_tb_in (List.mem_of_getElem? (i := 23) (by decide +kernel)) (by decide +kernel)
set_option maxRecDepth 100000 in
theorem tw_547 : Cond.code ⟨"RowCode$Improver", "otherCondition", "(I)I"⟩ prog_4_method_14_code 1 (some .int) ∈ mx_tb := mx_tb_in (List.mem_of_getElem? (i := 547) rfl) (by decide +kernel)
theorem tw_546 : Cond.static ⟨"RowCode$Improver", "otherCondition", "(I)I"⟩ ∈ mx_tb := mx_tb_in (List.mem_of_getElem? (i := 546) (by decide +kernel)) (by decide +kernel)
set_option maxRecDepth 100000 in
theorem tw_551 : Cond.code ⟨"RowCode$Improver", "shortenWayTo", "(I)V"⟩ prog_4_method_15_code 5 none ∈ mx_tb := mx_tb_in (List.mem_of_getElem? (i := 551) rfl) (by decide +kernel)
theorem tw_550 : Cond.instanceMethod ⟨"RowCode$Improver", "shortenWayTo", "(I)V"⟩ ∈ mx_tb := mx_tb_in (List.mem_of_getElem? (i := 550) (by decide +kernel)) (by decide +kernel)
theorem tw_24 : Cond.selects "RowCode$Improver" ⟨"RowCode$Improver", "shortenWayTo", "(I)V"⟩ ⟨"RowCode$Improver", "shortenWayTo", "(I)V"⟩ ∈ mx_tb := mx_tb_in (List.mem_of_getElem? (i := 24) (by decide +kernel)) (by decide +kernel)
set_option maxRecDepth 100000 in
theorem tw_176 : Cond.code ⟨"RowCode$Translator", "<init>", "()V"⟩ prog_10_method_1_code 1 none ∈ mx_tb := mx_tb_in (List.mem_of_getElem? (i := 176) rfl) (by decide +kernel)
theorem tw_175 : Cond.instanceMethod ⟨"RowCode$Translator", "<init>", "()V"⟩ ∈ mx_tb := mx_tb_in (List.mem_of_getElem? (i := 175) (by decide +kernel)) (by decide +kernel)
set_option maxRecDepth 100000 in
theorem tw_557 : Cond.code ⟨"RowCode$Translator", "translate", "(LRowCode$Code;LRowCode$Judge;)LRowCode$Numbers;"⟩ prog_10_method_2_code 6 (some (.object "RowCode$Numbers")) ∈ mx_tb := mx_tb_in (List.mem_of_getElem? (i := 557) rfl) (by decide +kernel)
theorem tw_555 : Cond.instanceMethod ⟨"RowCode$Translator", "translate", "(LRowCode$Code;LRowCode$Judge;)LRowCode$Numbers;"⟩ ∈ mx_tb := mx_tb_in (List.mem_of_getElem? (i := 555) (by decide +kernel)) (by decide +kernel)
theorem tw_556 : Cond.selects "RowCode$Translator" ⟨"RowCode$Translator", "translate", "(LRowCode$Code;LRowCode$Judge;)LRowCode$Numbers;"⟩ ⟨"RowCode$Translator", "translate", "(LRowCode$Code;LRowCode$Judge;)LRowCode$Numbers;"⟩ ∈ mx_tb := mx_tb_in (List.mem_of_getElem? (i := 556) (by decide +kernel)) (by decide +kernel)
set_option maxRecDepth 100000 in
theorem tw_585 : Cond.code ⟨"RowCode$Translator", "write", "(II)V"⟩ prog_10_method_3_code 3 none ∈ mx_tb := mx_tb_in (List.mem_of_getElem? (i := 585) rfl) (by decide +kernel)
theorem tw_584 : Cond.instanceMethod ⟨"RowCode$Translator", "write", "(II)V"⟩ ∈ mx_tb := mx_tb_in (List.mem_of_getElem? (i := 584) (by decide +kernel)) (by decide +kernel)
theorem tw_29 : Cond.selects "RowCode$Translator" ⟨"RowCode$Translator", "write", "(II)V"⟩ ⟨"RowCode$Translator", "write", "(II)V"⟩ ∈ mx_tb := mx_tb_in (List.mem_of_getElem? (i := 29) (by decide +kernel)) (by decide +kernel)
set_option maxRecDepth 100000 in
theorem tw_562 : Cond.code ⟨"RowCode$Translator", "layRow", "(I)V"⟩ prog_10_method_4_code 2 none ∈ mx_tb := mx_tb_in (List.mem_of_getElem? (i := 562) rfl) (by decide +kernel)
theorem tw_561 : Cond.instanceMethod ⟨"RowCode$Translator", "layRow", "(I)V"⟩ ∈ mx_tb := mx_tb_in (List.mem_of_getElem? (i := 561) (by decide +kernel)) (by decide +kernel)
theorem tw_25 : Cond.selects "RowCode$Translator" ⟨"RowCode$Translator", "layRow", "(I)V"⟩ ⟨"RowCode$Translator", "layRow", "(I)V"⟩ ∈ mx_tb := mx_tb_in (List.mem_of_getElem? (i := 25) (by decide +kernel)) (by decide +kernel)
set_option maxRecDepth 100000 in
theorem tw_570 : Cond.code ⟨"RowCode$Translator", "lay", "(II)V"⟩ prog_10_method_5_code 3 none ∈ mx_tb := mx_tb_in (List.mem_of_getElem? (i := 570) rfl) (by decide +kernel)
theorem tw_569 : Cond.instanceMethod ⟨"RowCode$Translator", "lay", "(II)V"⟩ ∈ mx_tb := mx_tb_in (List.mem_of_getElem? (i := 569) (by decide +kernel)) (by decide +kernel)
theorem tw_26 : Cond.selects "RowCode$Translator" ⟨"RowCode$Translator", "lay", "(II)V"⟩ ⟨"RowCode$Translator", "lay", "(II)V"⟩ ∈ mx_tb := mx_tb_in (List.mem_of_getElem? (i := 26) (by decide +kernel)) (by decide +kernel)
set_option maxRecDepth 100000 in
theorem tw_596 : Cond.code ⟨"RowCode$Translator", "drop", "(I)V"⟩ prog_10_method_6_code 2 none ∈ mx_tb := mx_tb_in (List.mem_of_getElem? (i := 596) rfl) (by decide +kernel)
theorem tw_595 : Cond.instanceMethod ⟨"RowCode$Translator", "drop", "(I)V"⟩ ∈ mx_tb := mx_tb_in (List.mem_of_getElem? (i := 595) (by decide +kernel)) (by decide +kernel)
theorem tw_31 : Cond.selects "RowCode$Translator" ⟨"RowCode$Translator", "drop", "(I)V"⟩ ⟨"RowCode$Translator", "drop", "(I)V"⟩ ∈ mx_tb := mx_tb_in (List.mem_of_getElem? (i := 31) (by decide +kernel)) (by decide +kernel)
set_option maxRecDepth 100000 in
theorem tw_611 : Cond.code ⟨"RowCode$Translator", "leaveInA", "()V"⟩ prog_10_method_7_code 1 none ∈ mx_tb := mx_tb_in (List.mem_of_getElem? (i := 611) rfl) (by decide +kernel)
theorem tw_610 : Cond.instanceMethod ⟨"RowCode$Translator", "leaveInA", "()V"⟩ ∈ mx_tb := mx_tb_in (List.mem_of_getElem? (i := 610) (by decide +kernel)) (by decide +kernel)
theorem tw_34 : Cond.selects "RowCode$Translator" ⟨"RowCode$Translator", "leaveInA", "()V"⟩ ⟨"RowCode$Translator", "leaveInA", "()V"⟩ ∈ mx_tb := mx_tb_in (List.mem_of_getElem? (i := 34) (by decide +kernel)) (by decide +kernel)
set_option maxRecDepth 100000 in
theorem tw_591 : Cond.code ⟨"RowCode$Translator", "toA", "(I)V"⟩ prog_10_method_8_code 3 none ∈ mx_tb := mx_tb_in (List.mem_of_getElem? (i := 591) rfl) (by decide +kernel)
theorem tw_590 : Cond.instanceMethod ⟨"RowCode$Translator", "toA", "(I)V"⟩ ∈ mx_tb := mx_tb_in (List.mem_of_getElem? (i := 590) (by decide +kernel)) (by decide +kernel)
theorem tw_30 : Cond.selects "RowCode$Translator" ⟨"RowCode$Translator", "toA", "(I)V"⟩ ⟨"RowCode$Translator", "toA", "(I)V"⟩ ∈ mx_tb := mx_tb_in (List.mem_of_getElem? (i := 30) (by decide +kernel)) (by decide +kernel)
set_option maxRecDepth 100000 in
theorem tw_581 : Cond.code ⟨"RowCode$Translator", "settle", "(II)V"⟩ prog_10_method_9_code 4 none ∈ mx_tb := mx_tb_in (List.mem_of_getElem? (i := 581) rfl) (by decide +kernel)
theorem tw_580 : Cond.instanceMethod ⟨"RowCode$Translator", "settle", "(II)V"⟩ ∈ mx_tb := mx_tb_in (List.mem_of_getElem? (i := 580) (by decide +kernel)) (by decide +kernel)
theorem tw_28 : Cond.selects "RowCode$Translator" ⟨"RowCode$Translator", "settle", "(II)V"⟩ ⟨"RowCode$Translator", "settle", "(II)V"⟩ ∈ mx_tb := mx_tb_in (List.mem_of_getElem? (i := 28) (by decide +kernel)) (by decide +kernel)
set_option maxRecDepth 100000 in
theorem tw_604 : Cond.code ⟨"RowCode$Translator", "meet", "(Z)Z"⟩ prog_10_method_10_code 4 (some .boolean) ∈ mx_tb := mx_tb_in (List.mem_of_getElem? (i := 604) rfl) (by decide +kernel)
theorem tw_603 : Cond.instanceMethod ⟨"RowCode$Translator", "meet", "(Z)Z"⟩ ∈ mx_tb := mx_tb_in (List.mem_of_getElem? (i := 603) (by decide +kernel)) (by decide +kernel)
theorem tw_33 : Cond.selects "RowCode$Translator" ⟨"RowCode$Translator", "meet", "(Z)Z"⟩ ⟨"RowCode$Translator", "meet", "(Z)Z"⟩ ∈ mx_tb := mx_tb_in (List.mem_of_getElem? (i := 33) (by decide +kernel)) (by decide +kernel)
set_option maxRecDepth 100000 in
theorem tw_600 : Cond.code ⟨"RowCode$Translator", "changeTop", "(I)V"⟩ prog_10_method_11_code 2 none ∈ mx_tb := mx_tb_in (List.mem_of_getElem? (i := 600) rfl) (by decide +kernel)
theorem tw_599 : Cond.instanceMethod ⟨"RowCode$Translator", "changeTop", "(I)V"⟩ ∈ mx_tb := mx_tb_in (List.mem_of_getElem? (i := 599) (by decide +kernel)) (by decide +kernel)
theorem tw_32 : Cond.selects "RowCode$Translator" ⟨"RowCode$Translator", "changeTop", "(I)V"⟩ ⟨"RowCode$Translator", "changeTop", "(I)V"⟩ ∈ mx_tb := mx_tb_in (List.mem_of_getElem? (i := 32) (by decide +kernel)) (by decide +kernel)
set_option maxRecDepth 100000 in
theorem tw_624 : Cond.code ⟨"RowCode$Translator", "compareAndKeep", "(I)V"⟩ prog_10_method_12_code 2 none ∈ mx_tb := mx_tb_in (List.mem_of_getElem? (i := 624) rfl) (by decide +kernel)
theorem tw_623 : Cond.instanceMethod ⟨"RowCode$Translator", "compareAndKeep", "(I)V"⟩ ∈ mx_tb := mx_tb_in (List.mem_of_getElem? (i := 623) (by decide +kernel)) (by decide +kernel)
theorem tw_36 : Cond.selects "RowCode$Translator" ⟨"RowCode$Translator", "compareAndKeep", "(I)V"⟩ ⟨"RowCode$Translator", "compareAndKeep", "(I)V"⟩ ∈ mx_tb := mx_tb_in (List.mem_of_getElem? (i := 36) (by decide +kernel)) (by decide +kernel)
set_option maxRecDepth 100000 in
theorem tw_575 : Cond.code ⟨"RowCode$Translator", "storeLocal", "(I)V"⟩ prog_10_method_13_code 4 none ∈ mx_tb := mx_tb_in (List.mem_of_getElem? (i := 575) rfl) (by decide +kernel)
theorem tw_574 : Cond.instanceMethod ⟨"RowCode$Translator", "storeLocal", "(I)V"⟩ ∈ mx_tb := mx_tb_in (List.mem_of_getElem? (i := 574) (by decide +kernel)) (by decide +kernel)
theorem tw_27 : Cond.selects "RowCode$Translator" ⟨"RowCode$Translator", "storeLocal", "(I)V"⟩ ⟨"RowCode$Translator", "storeLocal", "(I)V"⟩ ∈ mx_tb := mx_tb_in (List.mem_of_getElem? (i := 27) (by decide +kernel)) (by decide +kernel)
set_option maxRecDepth 100000 in
theorem tw_640 : Cond.code ⟨"RowCode$Translator", "storeByte", "()V"⟩ prog_10_method_14_code 2 none ∈ mx_tb := mx_tb_in (List.mem_of_getElem? (i := 640) rfl) (by decide +kernel)
theorem tw_639 : Cond.instanceMethod ⟨"RowCode$Translator", "storeByte", "()V"⟩ ∈ mx_tb := mx_tb_in (List.mem_of_getElem? (i := 639) (by decide +kernel)) (by decide +kernel)
theorem tw_39 : Cond.selects "RowCode$Translator" ⟨"RowCode$Translator", "storeByte", "()V"⟩ ⟨"RowCode$Translator", "storeByte", "()V"⟩ ∈ mx_tb := mx_tb_in (List.mem_of_getElem? (i := 39) (by decide +kernel)) (by decide +kernel)
set_option maxRecDepth 100000 in
theorem tw_628 : Cond.code ⟨"RowCode$Translator", "goIf", "(II)V"⟩ prog_10_method_15_code 4 none ∈ mx_tb := mx_tb_in (List.mem_of_getElem? (i := 628) rfl) (by decide +kernel)
theorem tw_627 : Cond.instanceMethod ⟨"RowCode$Translator", "goIf", "(II)V"⟩ ∈ mx_tb := mx_tb_in (List.mem_of_getElem? (i := 627) (by decide +kernel)) (by decide +kernel)
theorem tw_37 : Cond.selects "RowCode$Translator" ⟨"RowCode$Translator", "goIf", "(II)V"⟩ ⟨"RowCode$Translator", "goIf", "(II)V"⟩ ∈ mx_tb := mx_tb_in (List.mem_of_getElem? (i := 37) (by decide +kernel)) (by decide +kernel)
set_option maxRecDepth 100000 in
theorem tw_616 : Cond.code ⟨"RowCode$Translator", "compareAndGo", "(III)V"⟩ prog_10_method_16_code 5 none ∈ mx_tb := mx_tb_in (List.mem_of_getElem? (i := 616) rfl) (by decide +kernel)
theorem tw_615 : Cond.instanceMethod ⟨"RowCode$Translator", "compareAndGo", "(III)V"⟩ ∈ mx_tb := mx_tb_in (List.mem_of_getElem? (i := 615) (by decide +kernel)) (by decide +kernel)
theorem tw_35 : Cond.selects "RowCode$Translator" ⟨"RowCode$Translator", "compareAndGo", "(III)V"⟩ ⟨"RowCode$Translator", "compareAndGo", "(III)V"⟩ ∈ mx_tb := mx_tb_in (List.mem_of_getElem? (i := 35) (by decide +kernel)) (by decide +kernel)
set_option maxRecDepth 100000 in
theorem tw_636 : Cond.code ⟨"RowCode$Translator", "goInCase", "(II)V"⟩ prog_10_method_17_code 4 none ∈ mx_tb := mx_tb_in (List.mem_of_getElem? (i := 636) rfl) (by decide +kernel)
theorem tw_635 : Cond.instanceMethod ⟨"RowCode$Translator", "goInCase", "(II)V"⟩ ∈ mx_tb := mx_tb_in (List.mem_of_getElem? (i := 635) (by decide +kernel)) (by decide +kernel)
theorem tw_38 : Cond.selects "RowCode$Translator" ⟨"RowCode$Translator", "goInCase", "(II)V"⟩ ⟨"RowCode$Translator", "goInCase", "(II)V"⟩ ∈ mx_tb := mx_tb_in (List.mem_of_getElem? (i := 38) (by decide +kernel)) (by decide +kernel)
set_option maxRecDepth 100000 in
theorem tw_331 : Cond.code ⟨"RowCode", "forgetWork", "()V"⟩ prog_1_method_12_code 1 none ∈ mx_tb := mx_tb_in (List.mem_of_getElem? (i := 331) rfl) (by decide +kernel)
theorem tw_66 : Cond.initialized "RowCode" ∈ mx_tb := mx_tb_in (List.mem_of_getElem? (i := 66) (by decide +kernel)) (by decide +kernel)
theorem tw_330 : Cond.instanceMethod ⟨"RowCode", "forgetWork", "()V"⟩ ∈ mx_tb := mx_tb_in (List.mem_of_getElem? (i := 330) (by decide +kernel)) (by decide +kernel)
theorem tw_0 : Cond.selects "RowCode" ⟨"RowCode", "forgetWork", "()V"⟩ ⟨"RowCode", "forgetWork", "()V"⟩ ∈ mx_tb := mx_tb_in (List.mem_of_getElem? (i := 0) (by decide +kernel)) (by decide +kernel)
set_option maxRecDepth 100000 in
theorem tw_394 : Cond.code ⟨"RowCode", "isCondition", "(I)Z"⟩ prog_1_method_13_code 1 (some .boolean) ∈ mx_tb := mx_tb_in (List.mem_of_getElem? (i := 394) rfl) (by decide +kernel)
theorem tw_393 : Cond.static ⟨"RowCode", "isCondition", "(I)Z"⟩ ∈ mx_tb := mx_tb_in (List.mem_of_getElem? (i := 393) (by decide +kernel)) (by decide +kernel)
set_option maxRecDepth 100000 in
theorem tw_391 : Cond.code ⟨"RowCode", "goesToLabel", "(I)Z"⟩ prog_1_method_14_code 1 (some .boolean) ∈ mx_tb := mx_tb_in (List.mem_of_getElem? (i := 391) rfl) (by decide +kernel)
theorem tw_390 : Cond.static ⟨"RowCode", "goesToLabel", "(I)Z"⟩ ∈ mx_tb := mx_tb_in (List.mem_of_getElem? (i := 390) (by decide +kernel)) (by decide +kernel)
set_option maxRecDepth 100000 in
theorem tw_424 : Cond.code ⟨"RowCode", "endsWay", "(I)Z"⟩ prog_1_method_15_code 1 (some .boolean) ∈ mx_tb := mx_tb_in (List.mem_of_getElem? (i := 424) rfl) (by decide +kernel)
theorem tw_423 : Cond.static ⟨"RowCode", "endsWay", "(I)Z"⟩ ∈ mx_tb := mx_tb_in (List.mem_of_getElem? (i := 423) (by decide +kernel)) (by decide +kernel)
set_option maxRecDepth 100000 in
theorem tw_922 : Cond.code ⟨"RowCodeModel", "in", "(III)Z"⟩ prog_12_method_5_code 3 (some .boolean) ∈ mx_tb := mx_tb_in (List.mem_of_getElem? (i := 922) rfl) (by decide +kernel)
theorem tw_78 : Cond.initialized "RowCodeModel" ∈ mx_tb := mx_tb_in (List.mem_of_getElem? (i := 78) (by decide +kernel)) (by decide +kernel)
theorem tw_921 : Cond.static ⟨"RowCodeModel", "in", "(III)Z"⟩ ∈ mx_tb := mx_tb_in (List.mem_of_getElem? (i := 921) (by decide +kernel)) (by decide +kernel)
set_option maxRecDepth 100000 in
theorem tw_919 : Cond.code ⟨"RowCodeModel", "isGood", "(II)Z"⟩ prog_12_method_6_code 2 (some .boolean) ∈ mx_tb := mx_tb_in (List.mem_of_getElem? (i := 919) rfl) (by decide +kernel)
theorem tw_918 : Cond.static ⟨"RowCodeModel", "isGood", "(II)Z"⟩ ∈ mx_tb := mx_tb_in (List.mem_of_getElem? (i := 918) (by decide +kernel)) (by decide +kernel)
set_option maxRecDepth 100000 in
theorem tw_926 : Cond.code ⟨"RowCodeModel", "place", "(I)I"⟩ prog_12_method_7_code 3 (some .int) ∈ mx_tb := mx_tb_in (List.mem_of_getElem? (i := 926) rfl) (by decide +kernel)
theorem tw_925 : Cond.instanceMethod ⟨"RowCodeModel", "place", "(I)I"⟩ ∈ mx_tb := mx_tb_in (List.mem_of_getElem? (i := 925) (by decide +kernel)) (by decide +kernel)
theorem tw_55 : Cond.selects "RowCodeModel" ⟨"RowCodeModel", "place", "(I)I"⟩ ⟨"RowCodeModel", "place", "(I)I"⟩ ∈ mx_tb := mx_tb_in (List.mem_of_getElem? (i := 55) (by decide +kernel)) (by decide +kernel)
set_option maxRecDepth 100000 in
theorem tw_916 : Cond.code ⟨"RowCodeModel", "isSaid", "()Z"⟩ prog_12_method_8_code 4 (some .boolean) ∈ mx_tb := mx_tb_in (List.mem_of_getElem? (i := 916) rfl) (by decide +kernel)
theorem tw_915 : Cond.instanceMethod ⟨"RowCodeModel", "isSaid", "()Z"⟩ ∈ mx_tb := mx_tb_in (List.mem_of_getElem? (i := 915) (by decide +kernel)) (by decide +kernel)
theorem tw_54 : Cond.selects "RowCodeModel" ⟨"RowCodeModel", "isSaid", "()Z"⟩ ⟨"RowCodeModel", "isSaid", "()Z"⟩ ∈ mx_tb := mx_tb_in (List.mem_of_getElem? (i := 54) (by decide +kernel)) (by decide +kernel)
set_option maxRecDepth 100000 in
theorem tw_936 : Cond.code ⟨"RowCodeModel", "takes", "(I)I"⟩ prog_12_method_9_code 1 (some .int) ∈ mx_tb := mx_tb_in (List.mem_of_getElem? (i := 936) rfl) (by decide +kernel)
theorem tw_935 : Cond.static ⟨"RowCodeModel", "takes", "(I)I"⟩ ∈ mx_tb := mx_tb_in (List.mem_of_getElem? (i := 935) (by decide +kernel)) (by decide +kernel)
set_option maxRecDepth 100000 in
theorem tw_933 : Cond.code ⟨"RowCodeModel", "gives", "(I)I"⟩ prog_12_method_10_code 1 (some .int) ∈ mx_tb := mx_tb_in (List.mem_of_getElem? (i := 933) rfl) (by decide +kernel)
theorem tw_932 : Cond.static ⟨"RowCodeModel", "gives", "(I)I"⟩ ∈ mx_tb := mx_tb_in (List.mem_of_getElem? (i := 932) (by decide +kernel)) (by decide +kernel)
set_option maxRecDepth 100000 in
theorem tw_940 : Cond.code ⟨"RowCodeModel", "way", "(II)I"⟩ prog_12_method_11_code 5 (some .int) ∈ mx_tb := mx_tb_in (List.mem_of_getElem? (i := 940) rfl) (by decide +kernel)
theorem tw_939 : Cond.instanceMethod ⟨"RowCodeModel", "way", "(II)I"⟩ ∈ mx_tb := mx_tb_in (List.mem_of_getElem? (i := 939) (by decide +kernel)) (by decide +kernel)
theorem tw_57 : Cond.selects "RowCodeModel" ⟨"RowCodeModel", "way", "(II)I"⟩ ⟨"RowCodeModel", "way", "(II)I"⟩ ∈ mx_tb := mx_tb_in (List.mem_of_getElem? (i := 57) (by decide +kernel)) (by decide +kernel)
set_option maxRecDepth 100000 in
theorem tw_944 : Cond.code ⟨"RowCodeModel", "comes", "(II)Z"⟩ prog_12_method_12_code 3 (some .boolean) ∈ mx_tb := mx_tb_in (List.mem_of_getElem? (i := 944) rfl) (by decide +kernel)
theorem tw_943 : Cond.instanceMethod ⟨"RowCodeModel", "comes", "(II)Z"⟩ ∈ mx_tb := mx_tb_in (List.mem_of_getElem? (i := 943) (by decide +kernel)) (by decide +kernel)
theorem tw_58 : Cond.selects "RowCodeModel" ⟨"RowCodeModel", "comes", "(II)Z"⟩ ⟨"RowCodeModel", "comes", "(II)Z"⟩ ∈ mx_tb := mx_tb_in (List.mem_of_getElem? (i := 58) (by decide +kernel)) (by decide +kernel)
set_option maxRecDepth 100000 in
theorem tw_930 : Cond.code ⟨"RowCodeModel", "isEven", "()Z"⟩ prog_12_method_13_code 5 (some .boolean) ∈ mx_tb := mx_tb_in (List.mem_of_getElem? (i := 930) rfl) (by decide +kernel)
theorem tw_929 : Cond.instanceMethod ⟨"RowCodeModel", "isEven", "()Z"⟩ ∈ mx_tb := mx_tb_in (List.mem_of_getElem? (i := 929) (by decide +kernel)) (by decide +kernel)
theorem tw_56 : Cond.selects "RowCodeModel" ⟨"RowCodeModel", "isEven", "()Z"⟩ ⟨"RowCodeModel", "isEven", "()Z"⟩ ∈ mx_tb := mx_tb_in (List.mem_of_getElem? (i := 56) (by decide +kernel)) (by decide +kernel)
set_option maxRecDepth 100000 in
theorem tw_948 : Cond.code ⟨"RowCodeModel", "isSpent", "()Z"⟩ prog_12_method_14_code 6 (some .boolean) ∈ mx_tb := mx_tb_in (List.mem_of_getElem? (i := 948) rfl) (by decide +kernel)
theorem tw_947 : Cond.instanceMethod ⟨"RowCodeModel", "isSpent", "()Z"⟩ ∈ mx_tb := mx_tb_in (List.mem_of_getElem? (i := 947) (by decide +kernel)) (by decide +kernel)
theorem tw_59 : Cond.selects "RowCodeModel" ⟨"RowCodeModel", "isSpent", "()Z"⟩ ⟨"RowCodeModel", "isSpent", "()Z"⟩ ∈ mx_tb := mx_tb_in (List.mem_of_getElem? (i := 59) (by decide +kernel)) (by decide +kernel)
set_option maxRecDepth 100000 in
theorem tw_912 : Cond.code ⟨"RowCodeModel", "build", "()Z"⟩ prog_12_method_15_code 1 (some .boolean) ∈ mx_tb := mx_tb_in (List.mem_of_getElem? (i := 912) rfl) (by decide +kernel)
theorem tw_910 : Cond.instanceMethod ⟨"RowCodeModel", "build", "()Z"⟩ ∈ mx_tb := mx_tb_in (List.mem_of_getElem? (i := 910) (by decide +kernel)) (by decide +kernel)
theorem tw_911 : Cond.selects "RowCodeModel" ⟨"RowCodeModel", "build", "()Z"⟩ ⟨"RowCodeModel", "build", "()Z"⟩ ∈ mx_tb := mx_tb_in (List.mem_of_getElem? (i := 911) (by decide +kernel)) (by decide +kernel)
set_option maxRecDepth 100000 in
theorem tw_957 : Cond.code ⟨"RowCodeModel", "pop", "()I"⟩ prog_12_method_16_code 1 (some .int) ∈ mx_tb := mx_tb_in (List.mem_of_getElem? (i := 957) rfl) (by decide +kernel)
theorem tw_956 : Cond.instanceMethod ⟨"RowCodeModel", "pop", "()I"⟩ ∈ mx_tb := mx_tb_in (List.mem_of_getElem? (i := 956) (by decide +kernel)) (by decide +kernel)
theorem tw_60 : Cond.selects "RowCodeModel" ⟨"RowCodeModel", "pop", "()I"⟩ ⟨"RowCodeModel", "pop", "()I"⟩ ∈ mx_tb := mx_tb_in (List.mem_of_getElem? (i := 60) (by decide +kernel)) (by decide +kernel)
set_option maxRecDepth 100000 in
theorem tw_965 : Cond.code ⟨"RowCodeModel", "push", "(I)V"⟩ prog_12_method_17_code 2 none ∈ mx_tb := mx_tb_in (List.mem_of_getElem? (i := 965) rfl) (by decide +kernel)
theorem tw_964 : Cond.instanceMethod ⟨"RowCodeModel", "push", "(I)V"⟩ ∈ mx_tb := mx_tb_in (List.mem_of_getElem? (i := 964) (by decide +kernel)) (by decide +kernel)
theorem tw_62 : Cond.selects "RowCodeModel" ⟨"RowCodeModel", "push", "(I)V"⟩ ⟨"RowCodeModel", "push", "(I)V"⟩ ∈ mx_tb := mx_tb_in (List.mem_of_getElem? (i := 62) (by decide +kernel)) (by decide +kernel)
set_option maxRecDepth 100000 in
theorem tw_968 : Cond.code ⟨"RowCodeModel", "made", "(III)I"⟩ prog_12_method_18_code 4 (some .int) ∈ mx_tb := mx_tb_in (List.mem_of_getElem? (i := 968) rfl) (by decide +kernel)
theorem tw_967 : Cond.static ⟨"RowCodeModel", "made", "(III)I"⟩ ∈ mx_tb := mx_tb_in (List.mem_of_getElem? (i := 967) (by decide +kernel)) (by decide +kernel)
set_option maxRecDepth 100000 in
theorem tw_971 : Cond.code ⟨"RowCodeModel", "compares", "(III)Z"⟩ prog_12_method_19_code 3 (some .boolean) ∈ mx_tb := mx_tb_in (List.mem_of_getElem? (i := 971) rfl) (by decide +kernel)
theorem tw_970 : Cond.static ⟨"RowCodeModel", "compares", "(III)Z"⟩ ∈ mx_tb := mx_tb_in (List.mem_of_getElem? (i := 970) (by decide +kernel)) (by decide +kernel)
set_option maxRecDepth 100000 in
theorem tw_974 : Cond.code ⟨"RowCodeModel", "wordOf", "(II)I"⟩ prog_12_method_20_code 4 (some .int) ∈ mx_tb := mx_tb_in (List.mem_of_getElem? (i := 974) rfl) (by decide +kernel)
theorem tw_973 : Cond.static ⟨"RowCodeModel", "wordOf", "(II)I"⟩ ∈ mx_tb := mx_tb_in (List.mem_of_getElem? (i := 973) (by decide +kernel)) (by decide +kernel)
set_option maxRecDepth 100000 in
theorem tw_961 : Cond.code ⟨"RowCodeModel", "does", "(II)I"⟩ prog_12_method_21_code 7 (some .int) ∈ mx_tb := mx_tb_in (List.mem_of_getElem? (i := 961) rfl) (by decide +kernel)
theorem tw_960 : Cond.instanceMethod ⟨"RowCodeModel", "does", "(II)I"⟩ ∈ mx_tb := mx_tb_in (List.mem_of_getElem? (i := 960) (by decide +kernel)) (by decide +kernel)
theorem tw_61 : Cond.selects "RowCodeModel" ⟨"RowCodeModel", "does", "(II)I"⟩ ⟨"RowCodeModel", "does", "(II)I"⟩ ∈ mx_tb := mx_tb_in (List.mem_of_getElem? (i := 61) (by decide +kernel)) (by decide +kernel)
set_option maxRecDepth 100000 in
theorem tw_979 : Cond.code ⟨"RowCodeModel", "sets", "()I"⟩ prog_12_method_22_code 6 (some .int) ∈ mx_tb := mx_tb_in (List.mem_of_getElem? (i := 979) rfl) (by decide +kernel)
theorem tw_978 : Cond.instanceMethod ⟨"RowCodeModel", "sets", "()I"⟩ ∈ mx_tb := mx_tb_in (List.mem_of_getElem? (i := 978) (by decide +kernel)) (by decide +kernel)
theorem tw_63 : Cond.selects "RowCodeModel" ⟨"RowCodeModel", "sets", "()I"⟩ ⟨"RowCodeModel", "sets", "()I"⟩ ∈ mx_tb := mx_tb_in (List.mem_of_getElem? (i := 63) (by decide +kernel)) (by decide +kernel)
set_option maxRecDepth 100000 in
theorem tw_983 : Cond.code ⟨"RowCodeModel", "goesOn", "(I)I"⟩ prog_12_method_23_code 5 (some .int) ∈ mx_tb := mx_tb_in (List.mem_of_getElem? (i := 983) rfl) (by decide +kernel)
theorem tw_982 : Cond.instanceMethod ⟨"RowCodeModel", "goesOn", "(I)I"⟩ ∈ mx_tb := mx_tb_in (List.mem_of_getElem? (i := 982) (by decide +kernel)) (by decide +kernel)
theorem tw_64 : Cond.selects "RowCodeModel" ⟨"RowCodeModel", "goesOn", "(I)I"⟩ ⟨"RowCodeModel", "goesOn", "(I)I"⟩ ∈ mx_tb := mx_tb_in (List.mem_of_getElem? (i := 64) (by decide +kernel)) (by decide +kernel)
set_option maxRecDepth 100000 in
theorem tw_oi : Cond.code Lib.objectInit ⟨#[0xb1]⟩ 1 none ∈ mx_tb := mx_tb_in (List.mem_of_getElem? (i := 91) rfl) (by decide +kernel)
theorem tbX0 : ∀ w ∈ u_ws RX0 TX0 0, w ∈ mx_tb := fun w h => mx_tb_in (inX0 w h) ((by decide +kernel : ∀ w ∈ u_ws RX0 TX0 0, (goodWord w || k2_isCode w) = true) w h)
theorem tbX1 : ∀ w ∈ u_ws RX1 TX1 2, w ∈ mx_tb := fun w h => mx_tb_in (inX1 w h) ((by decide +kernel : ∀ w ∈ u_ws RX1 TX1 2, (goodWord w || k2_isCode w) = true) w h)
theorem tbX2 : ∀ w ∈ u_ws RX2 TX2 4, w ∈ mx_tb := fun w h => mx_tb_in (inX2 w h) ((by decide +kernel : ∀ w ∈ u_ws RX2 TX2 4, (goodWord w || k2_isCode w) = true) w h)
theorem tbX3 : ∀ w ∈ u_ws RX3 TX3 7, w ∈ mx_tb := fun w h => mx_tb_in (inX3 w h) ((by decide +kernel : ∀ w ∈ u_ws RX3 TX3 7, (goodWord w || k2_isCode w) = true) w h)
theorem tbX4 : ∀ w ∈ u_ws RX4 TX4 8, w ∈ mx_tb := fun w h => mx_tb_in (inX4 w h) ((by decide +kernel : ∀ w ∈ u_ws RX4 TX4 8, (goodWord w || k2_isCode w) = true) w h)
theorem tbX5 : ∀ w ∈ u_ws RX5 TX5 2, w ∈ mx_tb := fun w h => mx_tb_in (inX5 w h) ((by decide +kernel : ∀ w ∈ u_ws RX5 TX5 2, (goodWord w || k2_isCode w) = true) w h)
theorem tbX6 : ∀ w ∈ u_ws RX6 TX6 2, w ∈ mx_tb := fun w h => mx_tb_in (inX6 w h) ((by decide +kernel : ∀ w ∈ u_ws RX6 TX6 2, (goodWord w || k2_isCode w) = true) w h)
theorem tbX7 : ∀ w ∈ u_ws RX7 TX7 3, w ∈ mx_tb := fun w h => mx_tb_in (inX7 w h) ((by decide +kernel : ∀ w ∈ u_ws RX7 TX7 3, (goodWord w || k2_isCode w) = true) w h)
theorem tbX8 : ∀ w ∈ u_ws RX8 TX8 5, w ∈ mx_tb := fun w h => mx_tb_in (inX8 w h) ((by decide +kernel : ∀ w ∈ u_ws RX8 TX8 5, (goodWord w || k2_isCode w) = true) w h)
theorem tbX9 : ∀ w ∈ u_ws RX9 TX9 8, w ∈ mx_tb := fun w h => mx_tb_in (inX9 w h) ((by decide +kernel : ∀ w ∈ u_ws RX9 TX9 8, (goodWord w || k2_isCode w) = true) w h)
theorem tbX10 : ∀ w ∈ u_ws RX10 TX10 12, w ∈ mx_tb := fun w h => mx_tb_in (inX10 w h) ((by decide +kernel : ∀ w ∈ u_ws RX10 TX10 12, (goodWord w || k2_isCode w) = true) w h)
end
