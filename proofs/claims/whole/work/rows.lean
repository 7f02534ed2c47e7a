section
-- ===== PART A: goes FIRST, ahead of the names: the tables' words, and 'selects' of the private methods out of them =====
/-- a private method of a class that the tables say can be made, by its rows of tables_1 -/
def lw_okq (q : MethodName × Nat) : Prop := (q.1.cls ≠ "java/lang/invoke/MethodHandle" ∧ q.1.cls ≠ "java/lang/invoke/VarHandle") ∧ Cond.instantiable q.1.cls q.2 ∈ tables_1 ∧ Cond.privateMethod q.1 ∈ tables_1 ∧ Cond.instanceMethod q.1 ∈ tables_1
theorem lw_p0 : lw_okq (⟨"RowCode", "forgetWork", "()V"⟩, 8) := ⟨⟨by decide +kernel, by decide +kernel⟩, List.mem_of_getElem? (i := 20) (by decide +kernel), List.mem_of_getElem? (i := 264) (by decide +kernel), List.mem_of_getElem? (i := 265) (by decide +kernel)⟩
theorem lw_p1 : lw_okq (⟨"RowCode$Judge", "argumentsFit", "()Z"⟩, 7) := ⟨⟨by decide +kernel, by decide +kernel⟩, List.mem_of_getElem? (i := 55) (by decide +kernel), List.mem_of_getElem? (i := 293) (by decide +kernel), List.mem_of_getElem? (i := 294) (by decide +kernel)⟩
theorem lw_p2 : lw_okq (⟨"RowCode$Judge", "labelsAreOnce", "()Z"⟩, 7) := ⟨⟨by decide +kernel, by decide +kernel⟩, List.mem_of_getElem? (i := 55) (by decide +kernel), List.mem_of_getElem? (i := 311) (by decide +kernel), List.mem_of_getElem? (i := 312) (by decide +kernel)⟩
theorem lw_p3 : lw_okq (⟨"RowCode$Judge", "goalsAreThere", "()Z"⟩, 7) := ⟨⟨by decide +kernel, by decide +kernel⟩, List.mem_of_getElem? (i := 55) (by decide +kernel), List.mem_of_getElem? (i := 321) (by decide +kernel), List.mem_of_getElem? (i := 322) (by decide +kernel)⟩
theorem lw_p4 : lw_okq (⟨"RowCode$Judge", "waysAgree", "()Z"⟩, 7) := ⟨⟨by decide +kernel, by decide +kernel⟩, List.mem_of_getElem? (i := 55) (by decide +kernel), List.mem_of_getElem? (i := 331) (by decide +kernel), List.mem_of_getElem? (i := 332) (by decide +kernel)⟩
theorem lw_p5 : lw_okq (⟨"RowCode$Judge", "arrives", "(II)Z"⟩, 7) := ⟨⟨by decide +kernel, by decide +kernel⟩, List.mem_of_getElem? (i := 55) (by decide +kernel), List.mem_of_getElem? (i := 336) (by decide +kernel), List.mem_of_getElem? (i := 337) (by decide +kernel)⟩
theorem lw_p6 : lw_okq (⟨"RowCode$Judge", "leavesRightly", "(I)Z"⟩, 7) := ⟨⟨by decide +kernel, by decide +kernel⟩, List.mem_of_getElem? (i := 55) (by decide +kernel), List.mem_of_getElem? (i := 346) (by decide +kernel), List.mem_of_getElem? (i := 347) (by decide +kernel)⟩
theorem lw_p7 : lw_okq (⟨"RowCode$Judge", "following", "(I)I"⟩, 7) := ⟨⟨by decide +kernel, by decide +kernel⟩, List.mem_of_getElem? (i := 55) (by decide +kernel), List.mem_of_getElem? (i := 354) (by decide +kernel), List.mem_of_getElem? (i := 355) (by decide +kernel)⟩
theorem lw_p8 : lw_okq (⟨"RowCode$Judge", "goal", "(I)I"⟩, 7) := ⟨⟨by decide +kernel, by decide +kernel⟩, List.mem_of_getElem? (i := 55) (by decide +kernel), List.mem_of_getElem? (i := 361) (by decide +kernel), List.mem_of_getElem? (i := 362) (by decide +kernel)⟩
theorem lw_p9 : lw_okq (⟨"RowCode$Judge", "roundsSpend", "()Z"⟩, 7) := ⟨⟨by decide +kernel, by decide +kernel⟩, List.mem_of_getElem? (i := 55) (by decide +kernel), List.mem_of_getElem? (i := 365) (by decide +kernel), List.mem_of_getElem? (i := 366) (by decide +kernel)⟩
theorem lw_p10 : lw_okq (⟨"RowCode$Judge", "isFree", "(I)Z"⟩, 7) := ⟨⟨by decide +kernel, by decide +kernel⟩, List.mem_of_getElem? (i := 55) (by decide +kernel), List.mem_of_getElem? (i := 369) (by decide +kernel), List.mem_of_getElem? (i := 370) (by decide +kernel)⟩
theorem lw_p11 : lw_okq (⟨"RowCode$Judge", "countComer", "(I)V"⟩, 7) := ⟨⟨by decide +kernel, by decide +kernel⟩, List.mem_of_getElem? (i := 55) (by decide +kernel), List.mem_of_getElem? (i := 373) (by decide +kernel), List.mem_of_getElem? (i := 374) (by decide +kernel)⟩
theorem lw_p12 : lw_okq (⟨"RowCode$Judge", "loseComer", "(I)V"⟩, 7) := ⟨⟨by decide +kernel, by decide +kernel⟩, List.mem_of_getElem? (i := 55) (by decide +kernel), List.mem_of_getElem? (i := 377) (by decide +kernel), List.mem_of_getElem? (i := 378) (by decide +kernel)⟩
theorem lw_p13 : lw_okq (⟨"RowCode$Improver", "copyReached", "(LRowCode$Code;LRowCode$Judge;)V"⟩, 4) := ⟨⟨by decide +kernel, by decide +kernel⟩, List.mem_of_getElem? (i := 85) (by decide +kernel), List.mem_of_getElem? (i := 389) (by decide +kernel), List.mem_of_getElem? (i := 390) (by decide +kernel)⟩
theorem lw_p14 : lw_okq (⟨"RowCode$Improver", "findPlaces", "()V"⟩, 4) := ⟨⟨by decide +kernel, by decide +kernel⟩, List.mem_of_getElem? (i := 85) (by decide +kernel), List.mem_of_getElem? (i := 402) (by decide +kernel), List.mem_of_getElem? (i := 403) (by decide +kernel)⟩
theorem lw_p15 : lw_okq (⟨"RowCode$Improver", "countUses", "()V"⟩, 4) := ⟨⟨by decide +kernel, by decide +kernel⟩, List.mem_of_getElem? (i := 85) (by decide +kernel), List.mem_of_getElem? (i := 408) (by decide +kernel), List.mem_of_getElem? (i := 409) (by decide +kernel)⟩
def lw_privs_1 : List (MethodName × Nat) := [(⟨"RowCode", "forgetWork", "()V"⟩, 8), (⟨"RowCode$Judge", "argumentsFit", "()Z"⟩, 7), (⟨"RowCode$Judge", "labelsAreOnce", "()Z"⟩, 7), (⟨"RowCode$Judge", "goalsAreThere", "()Z"⟩, 7), (⟨"RowCode$Judge", "waysAgree", "()Z"⟩, 7), (⟨"RowCode$Judge", "arrives", "(II)Z"⟩, 7), (⟨"RowCode$Judge", "leavesRightly", "(I)Z"⟩, 7), (⟨"RowCode$Judge", "following", "(I)I"⟩, 7), (⟨"RowCode$Judge", "goal", "(I)I"⟩, 7), (⟨"RowCode$Judge", "roundsSpend", "()Z"⟩, 7), (⟨"RowCode$Judge", "isFree", "(I)Z"⟩, 7), (⟨"RowCode$Judge", "countComer", "(I)V"⟩, 7), (⟨"RowCode$Judge", "loseComer", "(I)V"⟩, 7), (⟨"RowCode$Improver", "copyReached", "(LRowCode$Code;LRowCode$Judge;)V"⟩, 4), (⟨"RowCode$Improver", "findPlaces", "()V"⟩, 4), (⟨"RowCode$Improver", "countUses", "()V"⟩, 4)]
theorem lw_r1 : ∀ q ∈ lw_privs_1, lw_okq q := List.forall_mem_cons.mpr ⟨lw_p0, List.forall_mem_cons.mpr ⟨lw_p1, List.forall_mem_cons.mpr ⟨lw_p2, List.forall_mem_cons.mpr ⟨lw_p3, List.forall_mem_cons.mpr ⟨lw_p4, List.forall_mem_cons.mpr ⟨lw_p5, List.forall_mem_cons.mpr ⟨lw_p6, List.forall_mem_cons.mpr ⟨lw_p7, List.forall_mem_cons.mpr ⟨lw_p8, List.forall_mem_cons.mpr ⟨lw_p9, List.forall_mem_cons.mpr ⟨lw_p10, List.forall_mem_cons.mpr ⟨lw_p11, List.forall_mem_cons.mpr ⟨lw_p12, List.forall_mem_cons.mpr ⟨lw_p13, List.forall_mem_cons.mpr ⟨lw_p14, List.forall_mem_cons.mpr ⟨lw_p15, fun _ h => absurd h List.not_mem_nil⟩⟩⟩⟩⟩⟩⟩⟩⟩⟩⟩⟩⟩⟩⟩⟩
theorem lw_p16 : lw_okq (⟨"RowCode$Improver", "farthest", "(I)I"⟩, 4) := ⟨⟨by decide +kernel, by decide +kernel⟩, List.mem_of_getElem? (i := 85) (by decide +kernel), List.mem_of_getElem? (i := 413) (by decide +kernel), List.mem_of_getElem? (i := 414) (by decide +kernel)⟩
theorem lw_p17 : lw_okq (⟨"RowCode$Improver", "rewrite", "()V"⟩, 4) := ⟨⟨by decide +kernel, by decide +kernel⟩, List.mem_of_getElem? (i := 85) (by decide +kernel), List.mem_of_getElem? (i := 418) (by decide +kernel), List.mem_of_getElem? (i := 419) (by decide +kernel)⟩
theorem lw_p18 : lw_okq (⟨"RowCode$Improver", "folds", "(II)Z"⟩, 4) := ⟨⟨by decide +kernel, by decide +kernel⟩, List.mem_of_getElem? (i := 85) (by decide +kernel), List.mem_of_getElem? (i := 422) (by decide +kernel), List.mem_of_getElem? (i := 423) (by decide +kernel)⟩
theorem lw_p19 : lw_okq (⟨"RowCode$Improver", "foldsOne", "(I)Z"⟩, 4) := ⟨⟨by decide +kernel, by decide +kernel⟩, List.mem_of_getElem? (i := 85) (by decide +kernel), List.mem_of_getElem? (i := 426) (by decide +kernel), List.mem_of_getElem? (i := 427) (by decide +kernel)⟩
theorem lw_p20 : lw_okq (⟨"RowCode$Improver", "foldsCalculation", "(I)Z"⟩, 4) := ⟨⟨by decide +kernel, by decide +kernel⟩, List.mem_of_getElem? (i := 85) (by decide +kernel), List.mem_of_getElem? (i := 450) (by decide +kernel), List.mem_of_getElem? (i := 451) (by decide +kernel)⟩
theorem lw_p21 : lw_okq (⟨"RowCode$Improver", "foldsComparison", "(I)Z"⟩, 4) := ⟨⟨by decide +kernel, by decide +kernel⟩, List.mem_of_getElem? (i := 85) (by decide +kernel), List.mem_of_getElem? (i := 463) (by decide +kernel), List.mem_of_getElem? (i := 464) (by decide +kernel)⟩
theorem lw_p22 : lw_okq (⟨"RowCode$Improver", "foldsDrop", "()Z"⟩, 4) := ⟨⟨by decide +kernel, by decide +kernel⟩, List.mem_of_getElem? (i := 85) (by decide +kernel), List.mem_of_getElem? (i := 473) (by decide +kernel), List.mem_of_getElem? (i := 474) (by decide +kernel)⟩
theorem lw_p23 : lw_okq (⟨"RowCode$Improver", "foldsCondition", "(II)Z"⟩, 4) := ⟨⟨by decide +kernel, by decide +kernel⟩, List.mem_of_getElem? (i := 85) (by decide +kernel), List.mem_of_getElem? (i := 477) (by decide +kernel), List.mem_of_getElem? (i := 478) (by decide +kernel)⟩
theorem lw_p24 : lw_okq (⟨"RowCode$Improver", "shortenWayTo", "(I)V"⟩, 4) := ⟨⟨by decide +kernel, by decide +kernel⟩, List.mem_of_getElem? (i := 85) (by decide +kernel), List.mem_of_getElem? (i := 484) (by decide +kernel), List.mem_of_getElem? (i := 485) (by decide +kernel)⟩
theorem lw_p25 : lw_okq (⟨"RowCode$Translator", "layRow", "(I)V"⟩, 5) := ⟨⟨by decide +kernel, by decide +kernel⟩, List.mem_of_getElem? (i := 108) (by decide +kernel), List.mem_of_getElem? (i := 495) (by decide +kernel), List.mem_of_getElem? (i := 496) (by decide +kernel)⟩
theorem lw_p26 : lw_okq (⟨"RowCode$Translator", "lay", "(II)V"⟩, 5) := ⟨⟨by decide +kernel, by decide +kernel⟩, List.mem_of_getElem? (i := 108) (by decide +kernel), List.mem_of_getElem? (i := 503) (by decide +kernel), List.mem_of_getElem? (i := 504) (by decide +kernel)⟩
theorem lw_p27 : lw_okq (⟨"RowCode$Translator", "storeLocal", "(I)V"⟩, 5) := ⟨⟨by decide +kernel, by decide +kernel⟩, List.mem_of_getElem? (i := 108) (by decide +kernel), List.mem_of_getElem? (i := 508) (by decide +kernel), List.mem_of_getElem? (i := 509) (by decide +kernel)⟩
theorem lw_p28 : lw_okq (⟨"RowCode$Translator", "settle", "(II)V"⟩, 5) := ⟨⟨by decide +kernel, by decide +kernel⟩, List.mem_of_getElem? (i := 108) (by decide +kernel), List.mem_of_getElem? (i := 514) (by decide +kernel), List.mem_of_getElem? (i := 515) (by decide +kernel)⟩
theorem lw_p29 : lw_okq (⟨"RowCode$Translator", "write", "(II)V"⟩, 5) := ⟨⟨by decide +kernel, by decide +kernel⟩, List.mem_of_getElem? (i := 108) (by decide +kernel), List.mem_of_getElem? (i := 518) (by decide +kernel), List.mem_of_getElem? (i := 519) (by decide +kernel)⟩
theorem lw_p30 : lw_okq (⟨"RowCode$Translator", "toA", "(I)V"⟩, 5) := ⟨⟨by decide +kernel, by decide +kernel⟩, List.mem_of_getElem? (i := 108) (by decide +kernel), List.mem_of_getElem? (i := 524) (by decide +kernel), List.mem_of_getElem? (i := 525) (by decide +kernel)⟩
theorem lw_p31 : lw_okq (⟨"RowCode$Translator", "drop", "(I)V"⟩, 5) := ⟨⟨by decide +kernel, by decide +kernel⟩, List.mem_of_getElem? (i := 108) (by decide +kernel), List.mem_of_getElem? (i := 529) (by decide +kernel), List.mem_of_getElem? (i := 530) (by decide +kernel)⟩
def lw_privs_2 : List (MethodName × Nat) := [(⟨"RowCode$Improver", "farthest", "(I)I"⟩, 4), (⟨"RowCode$Improver", "rewrite", "()V"⟩, 4), (⟨"RowCode$Improver", "folds", "(II)Z"⟩, 4), (⟨"RowCode$Improver", "foldsOne", "(I)Z"⟩, 4), (⟨"RowCode$Improver", "foldsCalculation", "(I)Z"⟩, 4), (⟨"RowCode$Improver", "foldsComparison", "(I)Z"⟩, 4), (⟨"RowCode$Improver", "foldsDrop", "()Z"⟩, 4), (⟨"RowCode$Improver", "foldsCondition", "(II)Z"⟩, 4), (⟨"RowCode$Improver", "shortenWayTo", "(I)V"⟩, 4), (⟨"RowCode$Translator", "layRow", "(I)V"⟩, 5), (⟨"RowCode$Translator", "lay", "(II)V"⟩, 5), (⟨"RowCode$Translator", "storeLocal", "(I)V"⟩, 5), (⟨"RowCode$Translator", "settle", "(II)V"⟩, 5), (⟨"RowCode$Translator", "write", "(II)V"⟩, 5), (⟨"RowCode$Translator", "toA", "(I)V"⟩, 5), (⟨"RowCode$Translator", "drop", "(I)V"⟩, 5)]
theorem lw_r2 : ∀ q ∈ lw_privs_2, lw_okq q := List.forall_mem_cons.mpr ⟨lw_p16, List.forall_mem_cons.mpr ⟨lw_p17, List.forall_mem_cons.mpr ⟨lw_p18, List.forall_mem_cons.mpr ⟨lw_p19, List.forall_mem_cons.mpr ⟨lw_p20, List.forall_mem_cons.mpr ⟨lw_p21, List.forall_mem_cons.mpr ⟨lw_p22, List.forall_mem_cons.mpr ⟨lw_p23, List.forall_mem_cons.mpr ⟨lw_p24, List.forall_mem_cons.mpr ⟨lw_p25, List.forall_mem_cons.mpr ⟨lw_p26, List.forall_mem_cons.mpr ⟨lw_p27, List.forall_mem_cons.mpr ⟨lw_p28, List.forall_mem_cons.mpr ⟨lw_p29, List.forall_mem_cons.mpr ⟨lw_p30, List.forall_mem_cons.mpr ⟨lw_p31, fun _ h => absurd h List.not_mem_nil⟩⟩⟩⟩⟩⟩⟩⟩⟩⟩⟩⟩⟩⟩⟩⟩
theorem lw_p32 : lw_okq (⟨"RowCode$Translator", "changeTop", "(I)V"⟩, 5) := ⟨⟨by decide +kernel, by decide +kernel⟩, List.mem_of_getElem? (i := 108) (by decide +kernel), List.mem_of_getElem? (i := 533) (by decide +kernel), List.mem_of_getElem? (i := 534) (by decide +kernel)⟩
theorem lw_p33 : lw_okq (⟨"RowCode$Translator", "meet", "(Z)Z"⟩, 5) := ⟨⟨by decide +kernel, by decide +kernel⟩, List.mem_of_getElem? (i := 108) (by decide +kernel), List.mem_of_getElem? (i := 537) (by decide +kernel), List.mem_of_getElem? (i := 538) (by decide +kernel)⟩
theorem lw_p34 : lw_okq (⟨"RowCode$Translator", "leaveInA", "()V"⟩, 5) := ⟨⟨by decide +kernel, by decide +kernel⟩, List.mem_of_getElem? (i := 108) (by decide +kernel), List.mem_of_getElem? (i := 544) (by decide +kernel), List.mem_of_getElem? (i := 545) (by decide +kernel)⟩
theorem lw_p35 : lw_okq (⟨"RowCode$Translator", "compareAndGo", "(III)V"⟩, 5) := ⟨⟨by decide +kernel, by decide +kernel⟩, List.mem_of_getElem? (i := 108) (by decide +kernel), List.mem_of_getElem? (i := 549) (by decide +kernel), List.mem_of_getElem? (i := 550) (by decide +kernel)⟩
theorem lw_p36 : lw_okq (⟨"RowCode$Translator", "compareAndKeep", "(I)V"⟩, 5) := ⟨⟨by decide +kernel, by decide +kernel⟩, List.mem_of_getElem? (i := 108) (by decide +kernel), List.mem_of_getElem? (i := 557) (by decide +kernel), List.mem_of_getElem? (i := 558) (by decide +kernel)⟩
theorem lw_p37 : lw_okq (⟨"RowCode$Translator", "goIf", "(II)V"⟩, 5) := ⟨⟨by decide +kernel, by decide +kernel⟩, List.mem_of_getElem? (i := 108) (by decide +kernel), List.mem_of_getElem? (i := 561) (by decide +kernel), List.mem_of_getElem? (i := 562) (by decide +kernel)⟩
theorem lw_p38 : lw_okq (⟨"RowCode$Translator", "goInCase", "(II)V"⟩, 5) := ⟨⟨by decide +kernel, by decide +kernel⟩, List.mem_of_getElem? (i := 108) (by decide +kernel), List.mem_of_getElem? (i := 569) (by decide +kernel), List.mem_of_getElem? (i := 570) (by decide +kernel)⟩
theorem lw_p39 : lw_okq (⟨"RowCode$Translator", "storeByte", "()V"⟩, 5) := ⟨⟨by decide +kernel, by decide +kernel⟩, List.mem_of_getElem? (i := 108) (by decide +kernel), List.mem_of_getElem? (i := 573) (by decide +kernel), List.mem_of_getElem? (i := 574) (by decide +kernel)⟩
theorem lw_p40 : lw_okq (⟨"RowCode$Program", "take", "(II)V"⟩, 3) := ⟨⟨by decide +kernel, by decide +kernel⟩, List.mem_of_getElem? (i := 132) (by decide +kernel), List.mem_of_getElem? (i := 585) (by decide +kernel), List.mem_of_getElem? (i := 586) (by decide +kernel)⟩
theorem lw_p41 : lw_okq (⟨"RowCode$Machine", "move", "(II)V"⟩, 8) := ⟨⟨by decide +kernel, by decide +kernel⟩, List.mem_of_getElem? (i := 163) (by decide +kernel), List.mem_of_getElem? (i := 607) (by decide +kernel), List.mem_of_getElem? (i := 608) (by decide +kernel)⟩
theorem lw_p42 : lw_okq (⟨"RowCode$Machine", "work", "(II)V"⟩, 8) := ⟨⟨by decide +kernel, by decide +kernel⟩, List.mem_of_getElem? (i := 163) (by decide +kernel), List.mem_of_getElem? (i := 620) (by decide +kernel), List.mem_of_getElem? (i := 621) (by decide +kernel)⟩
theorem lw_p43 : lw_okq (⟨"RowCode$Machine", "fetch", "()V"⟩, 8) := ⟨⟨by decide +kernel, by decide +kernel⟩, List.mem_of_getElem? (i := 163) (by decide +kernel), List.mem_of_getElem? (i := 628) (by decide +kernel), List.mem_of_getElem? (i := 629) (by decide +kernel)⟩
theorem lw_p44 : lw_okq (⟨"RowCode$Machine", "reaches", "(J)Z"⟩, 8) := ⟨⟨by decide +kernel, by decide +kernel⟩, List.mem_of_getElem? (i := 163) (by decide +kernel), List.mem_of_getElem? (i := 632) (by decide +kernel), List.mem_of_getElem? (i := 633) (by decide +kernel)⟩
theorem lw_p45 : lw_okq (⟨"RowCode$Machine", "store", "()V"⟩, 8) := ⟨⟨by decide +kernel, by decide +kernel⟩, List.mem_of_getElem? (i := 163) (by decide +kernel), List.mem_of_getElem? (i := 645) (by decide +kernel), List.mem_of_getElem? (i := 646) (by decide +kernel)⟩
theorem lw_p46 : lw_okq (⟨"RowCode$Machine", "combine", "(I)V"⟩, 8) := ⟨⟨by decide +kernel, by decide +kernel⟩, List.mem_of_getElem? (i := 163) (by decide +kernel), List.mem_of_getElem? (i := 653) (by decide +kernel), List.mem_of_getElem? (i := 654) (by decide +kernel)⟩
theorem lw_p47 : lw_okq (⟨"RowCode$Machine", "relateAndKeep", "(I)V"⟩, 8) := ⟨⟨by decide +kernel, by decide +kernel⟩, List.mem_of_getElem? (i := 163) (by decide +kernel), List.mem_of_getElem? (i := 660) (by decide +kernel), List.mem_of_getElem? (i := 661) (by decide +kernel)⟩
def lw_privs_3 : List (MethodName × Nat) := [(⟨"RowCode$Translator", "changeTop", "(I)V"⟩, 5), (⟨"RowCode$Translator", "meet", "(Z)Z"⟩, 5), (⟨"RowCode$Translator", "leaveInA", "()V"⟩, 5), (⟨"RowCode$Translator", "compareAndGo", "(III)V"⟩, 5), (⟨"RowCode$Translator", "compareAndKeep", "(I)V"⟩, 5), (⟨"RowCode$Translator", "goIf", "(II)V"⟩, 5), (⟨"RowCode$Translator", "goInCase", "(II)V"⟩, 5), (⟨"RowCode$Translator", "storeByte", "()V"⟩, 5), (⟨"RowCode$Program", "take", "(II)V"⟩, 3), (⟨"RowCode$Machine", "move", "(II)V"⟩, 8), (⟨"RowCode$Machine", "work", "(II)V"⟩, 8), (⟨"RowCode$Machine", "fetch", "()V"⟩, 8), (⟨"RowCode$Machine", "reaches", "(J)Z"⟩, 8), (⟨"RowCode$Machine", "store", "()V"⟩, 8), (⟨"RowCode$Machine", "combine", "(I)V"⟩, 8), (⟨"RowCode$Machine", "relateAndKeep", "(I)V"⟩, 8)]
theorem lw_r3 : ∀ q ∈ lw_privs_3, lw_okq q := List.forall_mem_cons.mpr ⟨lw_p32, List.forall_mem_cons.mpr ⟨lw_p33, List.forall_mem_cons.mpr ⟨lw_p34, List.forall_mem_cons.mpr ⟨lw_p35, List.forall_mem_cons.mpr ⟨lw_p36, List.forall_mem_cons.mpr ⟨lw_p37, List.forall_mem_cons.mpr ⟨lw_p38, List.forall_mem_cons.mpr ⟨lw_p39, List.forall_mem_cons.mpr ⟨lw_p40, List.forall_mem_cons.mpr ⟨lw_p41, List.forall_mem_cons.mpr ⟨lw_p42, List.forall_mem_cons.mpr ⟨lw_p43, List.forall_mem_cons.mpr ⟨lw_p44, List.forall_mem_cons.mpr ⟨lw_p45, List.forall_mem_cons.mpr ⟨lw_p46, List.forall_mem_cons.mpr ⟨lw_p47, fun _ h => absurd h List.not_mem_nil⟩⟩⟩⟩⟩⟩⟩⟩⟩⟩⟩⟩⟩⟩⟩⟩
theorem lw_p48 : lw_okq (⟨"RowCode$Machine", "fetchByte", "()V"⟩, 8) := ⟨⟨by decide +kernel, by decide +kernel⟩, List.mem_of_getElem? (i := 163) (by decide +kernel), List.mem_of_getElem? (i := 664) (by decide +kernel), List.mem_of_getElem? (i := 665) (by decide +kernel)⟩
theorem lw_p49 : lw_okq (⟨"RowCode$Machine", "byteAddress", "()J"⟩, 8) := ⟨⟨by decide +kernel, by decide +kernel⟩, List.mem_of_getElem? (i := 163) (by decide +kernel), List.mem_of_getElem? (i := 668) (by decide +kernel), List.mem_of_getElem? (i := 669) (by decide +kernel)⟩
theorem lw_p50 : lw_okq (⟨"RowCode$Machine", "storeByte", "(I)V"⟩, 8) := ⟨⟨by decide +kernel, by decide +kernel⟩, List.mem_of_getElem? (i := 163) (by decide +kernel), List.mem_of_getElem? (i := 672) (by decide +kernel), List.mem_of_getElem? (i := 673) (by decide +kernel)⟩
theorem lw_p51 : lw_okq (⟨"RowCode$Machine", "pay", "()V"⟩, 8) := ⟨⟨by decide +kernel, by decide +kernel⟩, List.mem_of_getElem? (i := 163) (by decide +kernel), List.mem_of_getElem? (i := 676) (by decide +kernel), List.mem_of_getElem? (i := 677) (by decide +kernel)⟩
theorem lw_p52 : lw_okq (⟨"RowCode$Machine", "jumps", "(I)Z"⟩, 8) := ⟨⟨by decide +kernel, by decide +kernel⟩, List.mem_of_getElem? (i := 163) (by decide +kernel), List.mem_of_getElem? (i := 680) (by decide +kernel), List.mem_of_getElem? (i := 681) (by decide +kernel)⟩
theorem lw_p53 : lw_okq (⟨"java/lang/Throwable", "fillInStackTrace", "(I)Ljava/lang/Throwable;"⟩, 6) := ⟨⟨by decide +kernel, by decide +kernel⟩, List.mem_of_getElem? (i := 750) (by decide +kernel), List.mem_of_getElem? (i := 748) (by decide +kernel), List.mem_of_getElem? (i := 749) (by decide +kernel)⟩
theorem lw_p54 : lw_okq (⟨"RowCodeModel", "isSaid", "()Z"⟩, 12) := ⟨⟨by decide +kernel, by decide +kernel⟩, List.mem_of_getElem? (i := 789) (by decide +kernel), List.mem_of_getElem? (i := 849) (by decide +kernel), List.mem_of_getElem? (i := 850) (by decide +kernel)⟩
theorem lw_p55 : lw_okq (⟨"RowCodeModel", "place", "(I)I"⟩, 12) := ⟨⟨by decide +kernel, by decide +kernel⟩, List.mem_of_getElem? (i := 789) (by decide +kernel), List.mem_of_getElem? (i := 859) (by decide +kernel), List.mem_of_getElem? (i := 860) (by decide +kernel)⟩
theorem lw_p56 : lw_okq (⟨"RowCodeModel", "isEven", "()Z"⟩, 12) := ⟨⟨by decide +kernel, by decide +kernel⟩, List.mem_of_getElem? (i := 789) (by decide +kernel), List.mem_of_getElem? (i := 863) (by decide +kernel), List.mem_of_getElem? (i := 864) (by decide +kernel)⟩
theorem lw_p57 : lw_okq (⟨"RowCodeModel", "way", "(II)I"⟩, 12) := ⟨⟨by decide +kernel, by decide +kernel⟩, List.mem_of_getElem? (i := 789) (by decide +kernel), List.mem_of_getElem? (i := 873) (by decide +kernel), List.mem_of_getElem? (i := 874) (by decide +kernel)⟩
theorem lw_p58 : lw_okq (⟨"RowCodeModel", "comes", "(II)Z"⟩, 12) := ⟨⟨by decide +kernel, by decide +kernel⟩, List.mem_of_getElem? (i := 789) (by decide +kernel), List.mem_of_getElem? (i := 877) (by decide +kernel), List.mem_of_getElem? (i := 878) (by decide +kernel)⟩
theorem lw_p59 : lw_okq (⟨"RowCodeModel", "isSpent", "()Z"⟩, 12) := ⟨⟨by decide +kernel, by decide +kernel⟩, List.mem_of_getElem? (i := 789) (by decide +kernel), List.mem_of_getElem? (i := 881) (by decide +kernel), List.mem_of_getElem? (i := 882) (by decide +kernel)⟩
theorem lw_p60 : lw_okq (⟨"RowCodeModel", "pop", "()I"⟩, 12) := ⟨⟨by decide +kernel, by decide +kernel⟩, List.mem_of_getElem? (i := 789) (by decide +kernel), List.mem_of_getElem? (i := 890) (by decide +kernel), List.mem_of_getElem? (i := 891) (by decide +kernel)⟩
theorem lw_p61 : lw_okq (⟨"RowCodeModel", "does", "(II)I"⟩, 12) := ⟨⟨by decide +kernel, by decide +kernel⟩, List.mem_of_getElem? (i := 789) (by decide +kernel), List.mem_of_getElem? (i := 894) (by decide +kernel), List.mem_of_getElem? (i := 895) (by decide +kernel)⟩
theorem lw_p62 : lw_okq (⟨"RowCodeModel", "push", "(I)V"⟩, 12) := ⟨⟨by decide +kernel, by decide +kernel⟩, List.mem_of_getElem? (i := 789) (by decide +kernel), List.mem_of_getElem? (i := 898) (by decide +kernel), List.mem_of_getElem? (i := 899) (by decide +kernel)⟩
theorem lw_p63 : lw_okq (⟨"RowCodeModel", "sets", "()I"⟩, 12) := ⟨⟨by decide +kernel, by decide +kernel⟩, List.mem_of_getElem? (i := 789) (by decide +kernel), List.mem_of_getElem? (i := 912) (by decide +kernel), List.mem_of_getElem? (i := 913) (by decide +kernel)⟩
def lw_privs_4 : List (MethodName × Nat) := [(⟨"RowCode$Machine", "fetchByte", "()V"⟩, 8), (⟨"RowCode$Machine", "byteAddress", "()J"⟩, 8), (⟨"RowCode$Machine", "storeByte", "(I)V"⟩, 8), (⟨"RowCode$Machine", "pay", "()V"⟩, 8), (⟨"RowCode$Machine", "jumps", "(I)Z"⟩, 8), (⟨"java/lang/Throwable", "fillInStackTrace", "(I)Ljava/lang/Throwable;"⟩, 6), (⟨"RowCodeModel", "isSaid", "()Z"⟩, 12), (⟨"RowCodeModel", "place", "(I)I"⟩, 12), (⟨"RowCodeModel", "isEven", "()Z"⟩, 12), (⟨"RowCodeModel", "way", "(II)I"⟩, 12), (⟨"RowCodeModel", "comes", "(II)Z"⟩, 12), (⟨"RowCodeModel", "isSpent", "()Z"⟩, 12), (⟨"RowCodeModel", "pop", "()I"⟩, 12), (⟨"RowCodeModel", "does", "(II)I"⟩, 12), (⟨"RowCodeModel", "push", "(I)V"⟩, 12), (⟨"RowCodeModel", "sets", "()I"⟩, 12)]
theorem lw_r4 : ∀ q ∈ lw_privs_4, lw_okq q := List.forall_mem_cons.mpr ⟨lw_p48, List.forall_mem_cons.mpr ⟨lw_p49, List.forall_mem_cons.mpr ⟨lw_p50, List.forall_mem_cons.mpr ⟨lw_p51, List.forall_mem_cons.mpr ⟨lw_p52, List.forall_mem_cons.mpr ⟨lw_p53, List.forall_mem_cons.mpr ⟨lw_p54, List.forall_mem_cons.mpr ⟨lw_p55, List.forall_mem_cons.mpr ⟨lw_p56, List.forall_mem_cons.mpr ⟨lw_p57, List.forall_mem_cons.mpr ⟨lw_p58, List.forall_mem_cons.mpr ⟨lw_p59, List.forall_mem_cons.mpr ⟨lw_p60, List.forall_mem_cons.mpr ⟨lw_p61, List.forall_mem_cons.mpr ⟨lw_p62, List.forall_mem_cons.mpr ⟨lw_p63, fun _ h => absurd h List.not_mem_nil⟩⟩⟩⟩⟩⟩⟩⟩⟩⟩⟩⟩⟩⟩⟩⟩
theorem lw_p64 : lw_okq (⟨"RowCodeModel", "goesOn", "(I)I"⟩, 12) := ⟨⟨by decide +kernel, by decide +kernel⟩, List.mem_of_getElem? (i := 789) (by decide +kernel), List.mem_of_getElem? (i := 916) (by decide +kernel), List.mem_of_getElem? (i := 917) (by decide +kernel)⟩
def lw_privs_5 : List (MethodName × Nat) := [(⟨"RowCodeModel", "goesOn", "(I)I"⟩, 12)]
theorem lw_r5 : ∀ q ∈ lw_privs_5, lw_okq q := List.forall_mem_cons.mpr ⟨lw_p64, fun _ h => absurd h List.not_mem_nil⟩
def lw_privs : List (MethodName × Nat) := lw_privs_1 ++ (lw_privs_2 ++ (lw_privs_3 ++ (lw_privs_4 ++ (lw_privs_5))))
def lw_tbl : List Cond := k2_sels lw_privs ++ tables_1
theorem lw_privs_ok : ∀ q ∈ lw_privs, lw_okq q := by
  show ∀ q ∈ lw_privs_1 ++ (lw_privs_2 ++ (lw_privs_3 ++ (lw_privs_4 ++ (lw_privs_5)))), lw_okq q
  exact List.forall_mem_append.mpr ⟨lw_r1, List.forall_mem_append.mpr ⟨lw_r2, List.forall_mem_append.mpr ⟨lw_r3, List.forall_mem_append.mpr ⟨lw_r4, lw_r5⟩⟩⟩⟩
-- ===== end of PART A; then your names; then what follows =====
end
section
def RX0 : String := "RowCode$Arithmetic"
def TX0 : u_T := fun k => match k with
  | _ => ("", "", "", false)
def tyX0 : Nat → FieldType := fun k => match k with
  | _ => .int
theorem nmX0 : ∀ a, a < 0 → ∀ b, b < 0 → a ≠ b → (TX0 a).2.1 ≠ (TX0 b).2.1 := by decide +kernel
theorem tyX0_ok : ∀ k, k < 0 → parseFieldDescriptor (TX0 k).2.2.1 = some (tyX0 k) := by decide +kernel
theorem inX0 : ∀ w ∈ u_ws RX0 TX0 0, w ∈ lw_tbl := by decide +kernel
def RX1 : String := "RowCode$Code"
def TX1 : u_T := fun k => match k with
  | 0 => ("RowCode$Code", "numbers", "LRowCode$Numbers;", true)
  | _ => ("RowCode$Code", "arguments", "LRowCode$Numbers;", true)
def tyX1 : Nat → FieldType := fun k => match k with
  | 0 => .object "RowCode$Numbers"
  | _ => .object "RowCode$Numbers"
theorem nmX1 : ∀ a, a < 2 → ∀ b, b < 2 → a ≠ b → (TX1 a).2.1 ≠ (TX1 b).2.1 := by decide +kernel
theorem tyX1_ok : ∀ k, k < 2 → parseFieldDescriptor (TX1 k).2.2.1 = some (tyX1 k) := by decide +kernel
theorem inX1 : ∀ w ∈ u_ws RX1 TX1 2, w ∈ lw_tbl := by decide +kernel
def RX2 : String := "RowCode$Improver"
def TX2 : u_T := fun k => match k with
  | 0 => ("RowCode$Improver", "places", "LRowCode$Numbers;", true)
  | 1 => ("RowCode$Improver", "uses", "LRowCode$Numbers;", true)
  | 2 => ("RowCode$Improver", "from", "LRowCode$Code;", false)
  | _ => ("RowCode$Improver", "into", "LRowCode$Code;", false)
def tyX2 : Nat → FieldType := fun k => match k with
  | 0 => .object "RowCode$Numbers"
  | 1 => .object "RowCode$Numbers"
  | 2 => .object "RowCode$Code"
  | _ => .object "RowCode$Code"
theorem nmX2 : ∀ a, a < 4 → ∀ b, b < 4 → a ≠ b → (TX2 a).2.1 ≠ (TX2 b).2.1 := by decide +kernel
theorem tyX2_ok : ∀ k, k < 4 → parseFieldDescriptor (TX2 k).2.2.1 = some (tyX2 k) := by decide +kernel
theorem inX2 : ∀ w ∈ u_ws RX2 TX2 4, w ∈ lw_tbl := by decide +kernel
def RX3 : String := "RowCode$Judge"
def TX3 : u_T := fun k => match k with
  | 0 => ("RowCode$Judge", "code", "LRowCode$Code;", true)
  | 1 => ("RowCode$Judge", "places", "LRowCode$Numbers;", true)
  | 2 => ("RowCode$Judge", "depths", "LRowCode$Numbers;", true)
  | 3 => ("RowCode$Judge", "comers", "LRowCode$Numbers;", true)
  | 4 => ("RowCode$Judge", "waiting", "LRowCode$Numbers;", true)
  | 5 => ("RowCode$Judge", "isJudged", "Z", false)
  | _ => ("RowCode$Judge", "isRight", "Z", false)
def tyX3 : Nat → FieldType := fun k => match k with
  | 0 => .object "RowCode$Code"
  | 1 => .object "RowCode$Numbers"
  | 2 => .object "RowCode$Numbers"
  | 3 => .object "RowCode$Numbers"
  | 4 => .object "RowCode$Numbers"
  | 5 => .boolean
  | _ => .boolean
theorem nmX3 : ∀ a, a < 7 → ∀ b, b < 7 → a ≠ b → (TX3 a).2.1 ≠ (TX3 b).2.1 := by decide +kernel
theorem tyX3_ok : ∀ k, k < 7 → parseFieldDescriptor (TX3 k).2.2.1 = some (tyX3 k) := by decide +kernel
theorem inX3 : ∀ w ∈ u_ws RX3 TX3 7, w ∈ lw_tbl := by decide +kernel
def RX4 : String := "RowCode$Machine"
def TX4 : u_T := fun k => match k with
  | 0 => ("RowCode$Machine", "memory", "LRowCode$Memory;", true)
  | 1 => ("RowCode$Machine", "slots", "LRowCode$Numbers;", true)
  | 2 => ("RowCode$Machine", "a", "I", false)
  | 3 => ("RowCode$Machine", "b", "I", false)
  | 4 => ("RowCode$Machine", "at", "I", false)
  | 5 => ("RowCode$Machine", "state", "I", false)
  | 6 => ("RowCode$Machine", "endValue", "I", false)
  | _ => ("RowCode$Machine", "fuelLeft", "I", false)
def tyX4 : Nat → FieldType := fun k => match k with
  | 0 => .object "RowCode$Memory"
  | 1 => .object "RowCode$Numbers"
  | 2 => .int
  | 3 => .int
  | 4 => .int
  | 5 => .int
  | 6 => .int
  | _ => .int
theorem nmX4 : ∀ a, a < 8 → ∀ b, b < 8 → a ≠ b → (TX4 a).2.1 ≠ (TX4 b).2.1 := by decide +kernel
theorem tyX4_ok : ∀ k, k < 8 → parseFieldDescriptor (TX4 k).2.2.1 = some (tyX4 k) := by decide +kernel
theorem inX4 : ∀ w ∈ u_ws RX4 TX4 8, w ∈ lw_tbl := by decide +kernel
def RX5 : String := "RowCode$Memory"
def TX5 : u_T := fun k => match k with
  | 0 => ("RowCode$Memory", "locals", "[I", true)
  | _ => ("RowCode$Memory", "words", "[I", true)
def tyX5 : Nat → FieldType := fun k => match k with
  | 0 => .array .int
  | _ => .array .int
theorem nmX5 : ∀ a, a < 2 → ∀ b, b < 2 → a ≠ b → (TX5 a).2.1 ≠ (TX5 b).2.1 := by decide +kernel
theorem tyX5_ok : ∀ k, k < 2 → parseFieldDescriptor (TX5 k).2.2.1 = some (tyX5 k) := by decide +kernel
theorem inX5 : ∀ w ∈ u_ws RX5 TX5 2, w ∈ lw_tbl := by decide +kernel
def RX6 : String := "RowCode$Numbers"
def TX6 : u_T := fun k => match k with
  | 0 => ("RowCode$Numbers", "items", "[I", false)
  | _ => ("RowCode$Numbers", "count", "I", false)
def tyX6 : Nat → FieldType := fun k => match k with
  | 0 => .array .int
  | _ => .int
theorem nmX6 : ∀ a, a < 2 → ∀ b, b < 2 → a ≠ b → (TX6 a).2.1 ≠ (TX6 b).2.1 := by decide +kernel
theorem tyX6_ok : ∀ k, k < 2 → parseFieldDescriptor (TX6 k).2.2.1 = some (tyX6 k) := by decide +kernel
theorem inX6 : ∀ w ∈ u_ws RX6 TX6 2, w ∈ lw_tbl := by decide +kernel
def RX7 : String := "RowCode$Program"
def TX7 : u_T := fun k => match k with
  | 0 => ("RowCode$Program", "numbers", "LRowCode$Numbers;", true)
  | 1 => ("RowCode$Program", "arguments", "LRowCode$Numbers;", true)
  | _ => ("RowCode$Program", "places", "LRowCode$Numbers;", true)
def tyX7 : Nat → FieldType := fun k => match k with
  | 0 => .object "RowCode$Numbers"
  | 1 => .object "RowCode$Numbers"
  | _ => .object "RowCode$Numbers"
theorem nmX7 : ∀ a, a < 3 → ∀ b, b < 3 → a ≠ b → (TX7 a).2.1 ≠ (TX7 b).2.1 := by decide +kernel
theorem tyX7_ok : ∀ k, k < 3 → parseFieldDescriptor (TX7 k).2.2.1 = some (tyX7 k) := by decide +kernel
theorem inX7 : ∀ w ∈ u_ws RX7 TX7 3, w ∈ lw_tbl := by decide +kernel
def RX8 : String := "RowCode$Translator"
def TX8 : u_T := fun k => match k with
  | 0 => ("RowCode$Translator", "image", "LRowCode$Numbers;", true)
  | 1 => ("RowCode$Translator", "kinds", "LRowCode$Numbers;", true)
  | 2 => ("RowCode$Translator", "details", "LRowCode$Numbers;", true)
  | 3 => ("RowCode$Translator", "inA", "I", false)
  | _ => ("RowCode$Translator", "inB", "I", false)
def tyX8 : Nat → FieldType := fun k => match k with
  | 0 => .object "RowCode$Numbers"
  | 1 => .object "RowCode$Numbers"
  | 2 => .object "RowCode$Numbers"
  | 3 => .int
  | _ => .int
theorem nmX8 : ∀ a, a < 5 → ∀ b, b < 5 → a ≠ b → (TX8 a).2.1 ≠ (TX8 b).2.1 := by decide +kernel
theorem tyX8_ok : ∀ k, k < 5 → parseFieldDescriptor (TX8 k).2.2.1 = some (tyX8 k) := by decide +kernel
theorem inX8 : ∀ w ∈ u_ws RX8 TX8 5, w ∈ lw_tbl := by decide +kernel
def RX9 : String := "RowCode"
def TX9 : u_T := fun k => match k with
  | 0 => ("RowCode", "code", "LRowCode$Code;", true)
  | 1 => ("RowCode", "judge", "LRowCode$Judge;", true)
  | 2 => ("RowCode", "improver", "LRowCode$Improver;", true)
  | 3 => ("RowCode", "translator", "LRowCode$Translator;", true)
  | 4 => ("RowCode", "program", "LRowCode$Program;", true)
  | 5 => ("RowCode", "memory", "LRowCode$Memory;", true)
  | 6 => ("RowCode", "machine", "LRowCode$Machine;", true)
  | _ => ("RowCode", "isLoaded", "Z", false)
def tyX9 : Nat → FieldType := fun k => match k with
  | 0 => .object "RowCode$Code"
  | 1 => .object "RowCode$Judge"
  | 2 => .object "RowCode$Improver"
  | 3 => .object "RowCode$Translator"
  | 4 => .object "RowCode$Program"
  | 5 => .object "RowCode$Memory"
  | 6 => .object "RowCode$Machine"
  | _ => .boolean
theorem nmX9 : ∀ a, a < 8 → ∀ b, b < 8 → a ≠ b → (TX9 a).2.1 ≠ (TX9 b).2.1 := by decide +kernel
theorem tyX9_ok : ∀ k, k < 8 → parseFieldDescriptor (TX9 k).2.2.1 = some (tyX9 k) := by decide +kernel
theorem inX9 : ∀ w ∈ u_ws RX9 TX9 8, w ∈ lw_tbl := by decide +kernel
def RX10 : String := "RowCodeModel"
def TX10 : u_T := fun k => match k with
  | 0 => ("RowCodeModel", "thrown", "I", false)
  | 1 => ("RowCodeModel", "size", "I", false)
  | 2 => ("RowCodeModel", "numbers", "[I", true)
  | 3 => ("RowCodeModel", "args", "[I", true)
  | 4 => ("RowCodeModel", "locals", "[I", true)
  | 5 => ("RowCodeModel", "words", "[I", true)
  | 6 => ("RowCodeModel", "value", "I", false)
  | 7 => ("RowCodeModel", "fuel", "I", false)
  | 8 => ("RowCodeModel", "heights", "[I", true)
  | 9 => ("RowCodeModel", "gone", "[Z", true)
  | 10 => ("RowCodeModel", "row", "[I", true)
  | _ => ("RowCodeModel", "high", "I", false)
def tyX10 : Nat → FieldType := fun k => match k with
  | 0 => .int
  | 1 => .int
  | 2 => .array .int
  | 3 => .array .int
  | 4 => .array .int
  | 5 => .array .int
  | 6 => .int
  | 7 => .int
  | 8 => .array .int
  | 9 => .array .boolean
  | 10 => .array .int
  | _ => .int
theorem nmX10 : ∀ a, a < 12 → ∀ b, b < 12 → a ≠ b → (TX10 a).2.1 ≠ (TX10 b).2.1 := by decide +kernel
theorem tyX10_ok : ∀ k, k < 12 → parseFieldDescriptor (TX10 k).2.2.1 = some (tyX10 k) := by decide +kernel
theorem inX10 : ∀ w ∈ u_ws RX10 TX10 12, w ∈ lw_tbl := by decide +kernel
abbrev mx_cl : List vw_C := [(RX0, TX0, 0), (RX1, TX1, 2), (RX2, TX2, 4), (RX3, TX3, 7), (RX4, TX4, 8), (RX5, TX5, 2), (RX6, TX6, 2), (RX7, TX7, 3), (RX8, TX8, 5), (RX9, TX9, 8), (RX10, TX10, 12)]
end
section
/-! THE SMALL MACHINE. A heap of cells by their addresses; an instruction is a function of locals, stack and heap; calls are big steps. -/
/-- an array (of booleans, else of ints), or an object by its class's number and its fields -/
abbrev mx_C : Type := (Bool × Nat × (Nat → Int32)) ⊕ (Nat × List Value)
/-- static arrays: where the k-th lies; what lies there -/
abbrev mx_G : Type := (Nat → Nat) × (Nat → Option (Nat × (Nat → Int32)))
/-- size, slots made, cells, static arrays -/
abbrev mx_H : Type := Nat × Nat × (Nat → Option mx_C) × mx_G
abbrev mx_L : Type := List (Nat × Value)
abbrev mx_S : Type := Nat × mx_L × List Value × mx_H
abbrev mx_F : Type := mx_L → List Value → mx_H → Option mx_S
/-- a plain instruction; a call (method, how many values it takes, the receiver's class where it is looked at, the callee's locals); a return -/
abbrev mx_E : Type := mx_F ⊕ ((Nat × Nat × Option (Option Nat) × Nat) ⊕ Option FieldType)
def mx_get (h : mx_H) (a : Nat) : Option mx_C := h.2.2.1 a
def mx_set (h : mx_H) (a : Nat) (c : mx_C) : mx_H := (h.1, h.2.1, fun q => if q = a then some c else h.2.2.1 q, h.2.2.2)
def mx_push (h : mx_H) (n : Nat) (c : mx_C) : mx_H := (h.1 + 1, h.2.1 + n, fun q => if q = h.1 then some c else h.2.2.1 q, h.2.2.2)
def mx_lget (lv : mx_L) (i : Nat) : Option Value := (lv.find? (fun q => q.1 == i)).map (fun q => q.2)
def mx_ins : mx_L → Nat → Value → mx_L
  | [], i, v => [(i, v)]
  | q :: r, i, v => if q.1 = i then (i, v) :: r.filter (fun x => !(x.1 == i)) else q :: mx_ins r i v
def mx_lset (lv : mx_L) (i : Nat) (v : Value) : mx_L := mx_ins (lv.filter (fun q => !(q.1 + 1 == i && q.2.category == 2))) i v
def mx_lset2 (lv : mx_L) (i : Nat) (v : Value) : mx_L := mx_ins (lv.filter (fun q => !(q.1 == i + 1) && !(q.1 + 1 == i && q.2.category == 2))) i v
def mx_rok (ty : FieldType) (v : Value) : Bool := match ty, v with
  | .object _, .ref _ => true
  | .object _, .null => true
  | .array _, .ref _ => true
  | .array _, .null => true
  | .long, .long _ => true
  | .int, .int _ => true
  | .boolean, .int x => decide (narrow .boolean (.int x) = .int x)
  | _, _ => false
def mx_ret : Option FieldType → List Value → mx_H → Option (Option Value × mx_H)
  | none, [], h => some (none, h)
  | some ty, [v], h => if mx_rok ty v = true then some (some v, h) else none
  | _, _, _ => none
def mx_rcv (r : Option (Option Nat)) (as : List Value) (h : mx_H) : Bool := match r, as with
  | none, _ => true
  | some none, .ref _ :: _ => true
  | some (some ci), .ref b :: _ => (match mx_get h b with
    | some (.inr o) => decide (o.1 = ci)
    | _ => false)
  | _, _ => false
def mx_cok (c : Nat × Nat × Option (Option Nat) × Nat) (st : List Value) (h : mx_H) : Bool :=
  decide (c.2.1 ≤ st.length) && (decide (((st.drop c.2.1).map fun v => v.category).sum ≤ 8) && (decide ((lg_sl (st.take c.2.1).reverse).length ≤ c.2.2.2) && mx_rcv c.2.2.1 (st.take c.2.1).reverse h))
def mx_exec (M : Nat → Nat → Option mx_E) : Nat → Nat → Nat → mx_L → List Value → mx_H → Option (Option Value × mx_H)
  | 0, _, _, _, _, _ => none
  | n + 1, mi, pc, lv, st, h => match M mi pc with
    | none => none
    | some (.inl f) => (match f lv st h with
      | none => none
      | some q => mx_exec M n mi q.1 q.2.1 q.2.2.1 q.2.2.2)
    | some (.inr (.inl c)) => if mx_cok c st h = true then
        (match mx_exec M n c.1 0 (lv_args 0 (st.take c.2.1).reverse) [] h with
        | none => none
        | some q => mx_exec M n mi (pc + 3) lv (q.1.toList ++ st.drop c.2.1) q.2) else none
    | some (.inr (.inr ty)) => mx_ret ty st h
theorem mx_exec_up (M : Nat → Nat → Option mx_E) : ∀ (n mi pc : Nat) (lv : mx_L) (st : List Value) (h : mx_H) (r : Option Value × mx_H), mx_exec M n mi pc lv st h = some r → mx_exec M (n + 1) mi pc lv st h = some r := by
  intro n
  induction n with
  | zero => intro mi pc lv st h r e; simp [mx_exec] at e
  | succ n ih =>
    intro mi pc lv st h r e
    rw [mx_exec] at e ⊢
    cases hM : M mi pc with
    | none => rw [hM] at e; cases e
    | some x =>
      rw [hM] at e
      rcases x with f | c | ty
      · cases hq : f lv st h with
        | none => simp only [hq] at e; cases e
        | some q =>
          simp only [hq] at e ⊢
          exact ih _ _ _ _ _ _ e
      · by_cases hk : mx_cok c st h = true
        · simp only [hk, if_true] at e ⊢
          cases hq : mx_exec M n c.1 0 (lv_args 0 (st.take c.2.1).reverse) [] h with
          | none => simp only [hq] at e; cases e
          | some q =>
            simp only [hq] at e
            simp only [ih _ _ _ _ _ _ hq]
            exact ih _ _ _ _ _ _ e
        · simp only [hk] at e
          cases e
      · exact e
theorem mx_exec_le (M : Nat → Nat → Option mx_E) {n k mi pc : Nat} {lv : mx_L} {st : List Value} {h : mx_H} {r : Option Value × mx_H} (hk : n ≤ k) (e : mx_exec M n mi pc lv st h = some r) : mx_exec M k mi pc lv st h = some r := by
  induction hk with
  | refl => exact e
  | step _ ih => exact mx_exec_up M _ _ _ _ _ _ _ ih
/-- what a run comes to, whatever the fuel -/
def mx_to (M : Nat → Nat → Option mx_E) (mi pc : Nat) (lv : mx_L) (st : List Value) (h : mx_H) (r : Option Value × mx_H) : Prop := ∃ n, mx_exec M n mi pc lv st h = some r
theorem mx_to.step {M : Nat → Nat → Option mx_E} {mi pc pc' : Nat} {lv lv' : mx_L} {st st' : List Value} {h h' : mx_H} {r : Option Value × mx_H} {f : mx_F} (hM : M mi pc = some (.inl f)) (hf : f lv st h = some (pc', lv', st', h')) (k : mx_to M mi pc' lv' st' h' r) : mx_to M mi pc lv st h r := by
  obtain ⟨n, e⟩ := k
  exact ⟨n + 1, by rw [mx_exec, hM]; simp only [hf]; exact e⟩
theorem mx_to.call {M : Nat → Nat → Option mx_E} {mi pc : Nat} {lv : mx_L} {st : List Value} {h : mx_H} {r : Option Value × mx_H} {c : Nat × Nat × Option (Option Nat) × Nat} {q : Option Value × mx_H} (hM : M mi pc = some (.inr (.inl c))) (hc : mx_cok c st h = true) (hq : mx_to M c.1 0 (lv_args 0 (st.take c.2.1).reverse) [] h q) (k : mx_to M mi (pc + 3) lv (q.1.toList ++ st.drop c.2.1) q.2 r) : mx_to M mi pc lv st h r := by
  obtain ⟨n1, e1⟩ := hq
  obtain ⟨n2, e2⟩ := k
  refine ⟨max n1 n2 + 1, ?_⟩
  rw [mx_exec, hM]
  simp only [hc, if_true, mx_exec_le M (Nat.le_max_left n1 n2) e1]
  exact mx_exec_le M (Nat.le_max_right n1 n2) e2
theorem mx_to.ret {M : Nat → Nat → Option mx_E} {mi pc : Nat} {lv : mx_L} {st : List Value} {h : mx_H} {r : Option Value × mx_H} {ty : Option FieldType} (hM : M mi pc = some (.inr (.inr ty))) (hr : mx_ret ty st h = some r) : mx_to M mi pc lv st h r := ⟨1, by rw [mx_exec, hM]; exact hr⟩
end
section
/-! WHAT THE SMALL MACHINE MEANS ON THE MACHINE ITSELF -/
def mx_e (cI cZ : ClassId) : mx_C → va_E
  | .inl a => .inl (if a.1 = true then cZ else cI, a.2.1, .inl a.2.2)
  | .inr o => .inr o
abbrev mx_tys (cI cZ : ClassId) : List (ClassId × FieldType) := [(cI, .int), (cZ, .boolean)]
def mx_A (h : mx_H) : Nat → Prop := fun q => (mx_get h q).isSome = true ∨ h.1 ≤ q
/-- the heap holds the cells, which lie in A -/
def mx_R (D : va_G) (cI cZ : ClassId) (A : Nat → Prop) (g : mx_G) (h : mx_H) (H : Heap) : Prop :=
  H.size = h.1 ∧ h.2.2.2 = g ∧ ∀ (a : Nat) (c : mx_C), mx_get h a = some c → va_at D mx_cl (a, mx_e cI cZ c) H ∧ A a
def mx_sts : List (String × String × String) := [("RowCode", "GREATEST", "[I"), ("RowCode", "TAKES", "[I"), ("RowCode", "GIVES", "[I")]
def mx_Z (A : Nat → Prop) (g : mx_G) (U : State) (H : Heap) : Prop :=
  (∀ (k : Nat) (q : String × String × String), mx_sts[k]? = some q → va_Z q.1 q.2.1 q.2.2 (.ref (g.1 k)) A U H) ∧ ∀ (a n : Nat) (f : Nat → Int32), g.2 a = some (n, f) → va_T .int a n (fun j => .int (f j)) A U H
def mx_isn (w : Cond) : Bool := match w with
  | .fieldLinkNest .. => true
  | .methodLinkNest .. => true
  | _ => false
/-- the words that every method's contract asks for, and those on nest mates -/
def mx_tb : List Cond := lw_tbl.filter (fun w => goodWord w || k2_isCode w)
def mx_nst : List Cond := lw_tbl.filter mx_isn
theorem mx_tb_good : ∀ w ∈ mx_tb, w ∈ lw_tbl ∧ ((w.onTables && w.keeps) = true ∨ ∃ ty, w = .arrayClass ty) := by
  intro w hw
  obtain ⟨h1, h2⟩ := List.mem_filter.mp hw
  refine ⟨h1, ?_⟩
  rcases (Bool.or_eq_true _ _).mp h2 with h | h
  · exact good_of_word h
  · cases w <;> first | (simp [k2_isCode] at h; done) | exact Or.inl rfl
theorem mx_tb_in {w : Cond} (h : w ∈ lw_tbl) (hg : (goodWord w || k2_isCode w) = true) : w ∈ mx_tb := List.mem_filter.mpr ⟨h, hg⟩
theorem mx_nst_in {w : Cond} (h : w ∈ lw_tbl) (hg : mx_isn w = true) : w ∈ mx_nst := List.mem_filter.mpr ⟨h, hg⟩
theorem mx_nst_warm {s U : State} (hW : s.WarmedH U.vm) (h : ∀ w ∈ mx_nst, va_Nw w s) : ∀ w ∈ mx_nst, va_Nw w U := by
  intro w hw
  have h1 := h w hw
  have h2 := (List.mem_filter.mp hw).2
  cases w <;> first | (simp [mx_isn] at h2; done) | exact va_Nw.warmF hW h1 | exact va_Nw.warmM hW h1
theorem mx_nst_same {u U : State} (hv : u.vm = U.vm) (h : ∀ w ∈ mx_nst, va_Nw w u) : ∀ w ∈ mx_nst, va_Nw w U := by
  intro w hw
  have h1 := h w hw
  have h2 := (List.mem_filter.mp hw).2
  cases w <;> first | (simp [mx_isn] at h2; done) | exact va_Nw.same rfl hv h1
/-- a frame of a method of class 'own': what holds all along -/
def mx_X (own ynm : String) (cc : ByteArray) (nL : Nat) (ret : Option FieldType) (p : Program) (R : Room) (s : State) (m : MethodId) (args : Array Value) (meth : Method) (c : Code) (D : va_G) (cI cZ : ClassId) (A : Nat → Prop) (g : mx_G) : Prop :=
  p.tables.exec = Jvm.exec ∧ c.code = cc ∧ c.maxLocals = nL ∧ meth.sig.returnType = ret ∧ s.vm.findClass own = some m.cls ∧ (∀ w ∈ mx_tb, w.before args s = true) ∧ meth.locks = false ∧ meth.name = ynm ∧ va_K D mx_cl (mx_tys cI cZ) s ∧ (∀ w ∈ mx_nst, va_Nw w s) ∧ mx_Z A g s s.heap ∧ (∀ q, s.heap.size ≤ q → A q)
/-- a plain instruction does on the machine what it does here -/
def mx_W (own ynm : String) (cc : ByteArray) (nL : Nat) (ret : Option FieldType) (fr lc pc : Nat) (f : mx_F) : Prop :=
  (∀ lv st h q, f lv st h = some q → h.1 ≤ q.2.2.2.1 ∧ h.2.1 ≤ q.2.2.2.2.1 ∧ q.2.2.2.2.2.2 = h.2.2.2) ∧
  ∀ (p : Program) (l : Launch) (e : Env) (R : Room) (s : State) (m : MethodId) (args : Array Value) (below : List Frame) (meth : Method) (c : Code) (D : va_G) (cI cZ : ClassId) (A : Nat → Prop) (g : mx_G) (Q : State → Prop), fr ≤ R.frames → lc ≤ R.locals → mx_X own ynm cc nL ret p R s m args meth c D cI cZ A g →
  ∀ (lv : mx_L) (st : List Value) (h : mx_H) (q : mx_S), f lv st h = some q → ∀ (H : Heap) (locs : List Loc) (ls : Array Slot) (cells slots : Nat), mx_R D cI cZ A g h H → va_S A s.heap H locs → lv_has ls nL lv →
  cells + (q.2.2.2.1 - h.1) ≤ R.cells → slots + (q.2.2.2.2.1 - h.2.1) ≤ R.slots →
  (∀ (H' : Heap) (locs' : List Loc) (ls' : Array Slot), mx_R D cI cZ A g q.2.2.2 H' → va_S A s.heap H' locs' → lv_has ls' nL q.2.1 → W p l e R s m args below meth c H' locs' (cells + (q.2.2.2.1 - h.1)) (slots + (q.2.2.2.2.1 - h.2.1)) Q (F0 m q.1 ls' q.2.2.1)) →
  W p l e R s m args below meth c H locs cells slots Q (F0 m pc ls st)
theorem mx_lget_at {ls : Array Slot} {nL : Nat} {lv : mx_L} {i : Nat} {v : Value} (h : lv_has ls nL lv) (hi : mx_lget lv i = some v) : ls[i]? = some (.val v) := by
  unfold mx_lget at hi
  cases hq : lv.find? (fun q => q.1 == i) with
  | none => rw [hq] at hi; cases hi
  | some q =>
    rw [hq] at hi
    have h1 : q ∈ lv := List.mem_of_find?_eq_some hq
    have h2 : q.1 = i := by have := List.find?_some hq; simpa using this
    have h3 : q.2 = v := by simpa using hi
    rw [← h2, ← h3]
    exact h.2.2 q h1
theorem mx_ins_mem : ∀ (l : mx_L) (i : Nat) (v : Value) (q : Nat × Value), q ∈ mx_ins l i v → q = (i, v) ∨ (q ∈ l ∧ ¬ q.1 = i) := by
  intro l
  induction l with
  | nil => intro i v q h; exact Or.inl (by simpa [mx_ins] using h)
  | cons x r ih =>
    intro i v q h
    unfold mx_ins at h
    by_cases hx : x.1 = i
    · rw [if_pos hx] at h
      rcases List.mem_cons.mp h with h | h
      · exact Or.inl h
      · obtain ⟨h1, h2⟩ := List.mem_filter.mp h
        exact Or.inr ⟨List.mem_cons_of_mem _ h1, by simpa using h2⟩
    · rw [if_neg hx] at h
      rcases List.mem_cons.mp h with h | h
      · exact Or.inr ⟨h ▸ List.mem_cons_self, h ▸ hx⟩
      · rcases ih i v q h with h | ⟨h1, h2⟩
        · exact Or.inl h
        · exact Or.inr ⟨List.mem_cons_of_mem _ h1, h2⟩
theorem mx_lset_has {ls : Array Slot} {nL : Nat} {lv : mx_L} {i : Nat} {v : Value} (h : lv_has ls nL ((i, v) :: lv.filter (fun q => !(q.1 == i) && !(q.1 + 1 == i && q.2.category == 2)))) : lv_has ls nL (mx_lset lv i v) := by
  refine ⟨h.1, h.2.1, fun q hq => h.2.2 q ?_⟩
  rcases mx_ins_mem _ _ _ _ hq with rfl | ⟨h1, h2⟩
  · exact List.mem_cons_self
  · obtain ⟨h3, h4⟩ := List.mem_filter.mp h1
    exact List.mem_cons_of_mem _ (List.mem_filter.mpr ⟨h3, by simp only [Bool.and_eq_true]; exact ⟨by simpa using h2, h4⟩⟩)
theorem mx_lset2_has {ls : Array Slot} {nL : Nat} {lv : mx_L} {i : Nat} {v : Value} (h : lv_has ls nL ((i, v) :: lv.filter (fun q => !(q.1 == i) && (!(q.1 == i + 1) && !(q.1 + 1 == i && q.2.category == 2))))) : lv_has ls nL (mx_lset2 lv i v) := by
  refine ⟨h.1, h.2.1, fun q hq => h.2.2 q ?_⟩
  rcases mx_ins_mem _ _ _ _ hq with rfl | ⟨h1, h2⟩
  · exact List.mem_cons_self
  · obtain ⟨h3, h4⟩ := List.mem_filter.mp h1
    exact List.mem_cons_of_mem _ (List.mem_filter.mpr ⟨h3, by simp only [Bool.and_eq_true] at h4 ⊢; exact ⟨by simpa using h2, h4⟩⟩)
end
section
/-! THE INSTRUCTIONS: what each does here, and that the machine does the same -/
theorem mx_W.of {own ynm : String} {cc : ByteArray} {nL : Nat} {ret : Option FieldType} {fr lc pc : Nat} {f : mx_F} (hm : ∀ lv st h q, f lv st h = some q → q.2.2.2 = h)
    (k : ∀ (p : Program) (l : Launch) (e : Env) (R : Room) (s : State) (m : MethodId) (args : Array Value) (below : List Frame) (meth : Method) (c : Code) (D : va_G) (cI cZ : ClassId) (A : Nat → Prop) (g : mx_G) (Q : State → Prop), fr ≤ R.frames → lc ≤ R.locals → mx_X own ynm cc nL ret p R s m args meth c D cI cZ A g →
      ∀ (lv : mx_L) (st : List Value) (h : mx_H) (q : mx_S), f lv st h = some q → ∀ (H : Heap) (locs : List Loc) (ls : Array Slot) (cells slots : Nat), mx_R D cI cZ A g h H → va_S A s.heap H locs → lv_has ls nL lv →
      (∀ (ls' : Array Slot), lv_has ls' nL q.2.1 → W p l e R s m args below meth c H locs cells slots Q (F0 m q.1 ls' q.2.2.1)) → W p l e R s m args below meth c H locs cells slots Q (F0 m pc ls st)) : mx_W own ynm cc nL ret fr lc pc f := by
  refine ⟨fun lv st h q hq => ?_, ?_⟩
  · rw [hm lv st h q hq]
    exact ⟨Nat.le_refl _, Nat.le_refl _, rfl⟩
  · intro p l e R s m args below meth c D cI cZ A g Q hfr hlc X lv st h q hq H locs ls cells slots hR hS hl _ _ kk
    have e1 := hm lv st h q hq
    refine k p l e R s m args below meth c D cI cZ A g Q hfr hlc X lv st h q hq H locs ls cells slots hR hS hl (fun ls' hl' => ?_)
    have h1 := kk H locs ls' (by rw [e1]; exact hR) hS hl'
    rw [e1, Nat.sub_self, Nat.sub_self, Nat.add_zero, Nat.add_zero] at h1
    exact h1
section SX
variable {own ynm : String} {cc : ByteArray} {nL : Nat} {ret : Option FieldType} {fr lc pc : Nat}
def sx_const (v : Value) (n : Nat) : mx_F := fun lv st h => some (n, lv, v :: st, h)
theorem sn_iconst {k : Int} {v : Int32} (hd : decode cc pc = .ok (.iconst k, 1)) (hv : Int32.ofInt k = v) : mx_W own ynm cc nL ret fr lc pc (sx_const (.int v) (pc + 1)) := by
  refine mx_W.of (fun lv st h q hq => by cases hq; rfl) ?_
  intro p l e R s m args below meth c D cI cZ A g Q hfr hlc X lv st h q hq H locs ls cells slots hR hS hl kk
  cases hq
  exact lv_iconst X.1 X.2.1 hd hv (kk ls hl)
theorem sn_bipush {k : Int} {v : Int32} (hd : decode cc pc = .ok (.bipush k, 2)) (hv : (Int8.ofInt k).toInt32 = v) : mx_W own ynm cc nL ret fr lc pc (sx_const (.int v) (pc + 2)) := by
  refine mx_W.of (fun lv st h q hq => by cases hq; rfl) ?_
  intro p l e R s m args below meth c D cI cZ A g Q hfr hlc X lv st h q hq H locs ls cells slots hR hS hl kk
  cases hq
  exact lv_bipush X.1 X.2.1 hd hv (kk ls hl)
theorem sn_sipush {k : Int} {v : Int32} (hd : decode cc pc = .ok (.sipush k, 3)) (hv : (Int16.ofInt k).toInt32 = v) : mx_W own ynm cc nL ret fr lc pc (sx_const (.int v) (pc + 3)) := by
  refine mx_W.of (fun lv st h q hq => by cases hq; rfl) ?_
  intro p l e R s m args below meth c D cI cZ A g Q hfr hlc X lv st h q hq H locs ls cells slots hR hS hl kk
  cases hq
  exact lv_sipush X.1 X.2.1 hd hv (kk ls hl)
theorem sn_ldc {k : Nat} {v : Int32} (hd : decode cc pc = .ok (.ldc k, 2)) (hv : Jvm.Cond.constant own k v ∈ mx_tb) : mx_W own ynm cc nL ret fr lc pc (sx_const (.int v) (pc + 2)) := by
  refine mx_W.of (fun lv st h q hq => by cases hq; rfl) ?_
  intro p l e R s m args below meth c D cI cZ A g Q hfr hlc X lv st h q hq H locs ls cells slots hR hS hl kk
  cases hq
  exact lv_ldc X.1 X.2.1 X.2.2.2.2.1 (X.2.2.2.2.2.1 _ hv) hd (kk ls hl)
theorem sn_lconst {k : Fin 2} {v : Int64} (hd : decode cc pc = .ok (.lconst k, 1)) (hv : Int64.ofNat (k : Nat) = v) : mx_W own ynm cc nL ret fr lc pc (sx_const (.long v) (pc + 1)) := by
  refine mx_W.of (fun lv st h q hq => by cases hq; rfl) ?_
  intro p l e R s m args below meth c D cI cZ A g Q hfr hlc X lv st h q hq H locs ls cells slots hR hS hl kk
  cases hq
  exact lv_lconst X.1 X.2.1 hd hv (kk ls hl)
theorem sn_ldc2 {k : Nat} {v : Int64} (hd : decode cc pc = .ok (.ldc2_w k, 3)) (hv : Jvm.Cond.constantLong own k v ∈ mx_tb) : mx_W own ynm cc nL ret fr lc pc (sx_const (.long v) (pc + 3)) := by
  refine mx_W.of (fun lv st h q hq => by cases hq; rfl) ?_
  intro p l e R s m args below meth c D cI cZ A g Q hfr hlc X lv st h q hq H locs ls cells slots hR hS hl kk
  cases hq
  exact lv_ldc2 X.1 X.2.1 X.2.2.2.2.1 (X.2.2.2.2.2.1 _ hv) hd (kk ls hl)
def sx_iload (i n : Nat) : mx_F := fun lv st h => match mx_lget lv i with
  | some (.int x) => some (n, lv, .int x :: st, h)
  | _ => none
theorem sn_iload_n {k : Fin 4} (hd : decode cc pc = .ok (.iload_n k, 1)) : mx_W own ynm cc nL ret fr lc pc (sx_iload k (pc + 1)) := by
  refine mx_W.of (fun lv st h q hq => by unfold sx_iload at hq; split at hq <;> cases hq; rfl) ?_
  intro p l e R s m args below meth c D cI cZ A g Q hfr hlc X lv st h q hq H locs ls cells slots hR hS hl kk
  unfold sx_iload at hq
  split at hq
  · rename_i x hx
    cases hq
    exact lv_iload_n X.1 X.2.1 hd rfl (mx_lget_at hl hx) (kk ls hl)
  · cases hq
theorem sn_iload {k : Nat} (hd : decode cc pc = .ok (.iload k, 2)) : mx_W own ynm cc nL ret fr lc pc (sx_iload k (pc + 2)) := by
  refine mx_W.of (fun lv st h q hq => by unfold sx_iload at hq; split at hq <;> cases hq; rfl) ?_
  intro p l e R s m args below meth c D cI cZ A g Q hfr hlc X lv st h q hq H locs ls cells slots hR hS hl kk
  unfold sx_iload at hq
  split at hq
  · rename_i x hx
    cases hq
    exact lv_iload X.1 X.2.1 hd (mx_lget_at hl hx) (kk ls hl)
  · cases hq
def sx_aload (i n : Nat) : mx_F := fun lv st h => match mx_lget lv i with
  | some (.ref x) => some (n, lv, .ref x :: st, h)
  | _ => none
theorem sn_aload_n {k : Fin 4} (hd : decode cc pc = .ok (.aload_n k, 1)) : mx_W own ynm cc nL ret fr lc pc (sx_aload k (pc + 1)) := by
  refine mx_W.of (fun lv st h q hq => by unfold sx_aload at hq; split at hq <;> cases hq; rfl) ?_
  intro p l e R s m args below meth c D cI cZ A g Q hfr hlc X lv st h q hq H locs ls cells slots hR hS hl kk
  unfold sx_aload at hq
  split at hq
  · rename_i x hx
    cases hq
    exact lv_aload_n X.1 X.2.1 hd rfl (mx_lget_at hl hx) (kk ls hl)
  · cases hq
theorem sn_aload {k : Nat} (hd : decode cc pc = .ok (.aload k, 2)) : mx_W own ynm cc nL ret fr lc pc (sx_aload k (pc + 2)) := by
  refine mx_W.of (fun lv st h q hq => by unfold sx_aload at hq; split at hq <;> cases hq; rfl) ?_
  intro p l e R s m args below meth c D cI cZ A g Q hfr hlc X lv st h q hq H locs ls cells slots hR hS hl kk
  unfold sx_aload at hq
  split at hq
  · rename_i x hx
    cases hq
    exact lv_aload X.1 X.2.1 hd (mx_lget_at hl hx) (kk ls hl)
  · cases hq
def sx_lload (i n : Nat) : mx_F := fun lv st h => match mx_lget lv i with
  | some (.long x) => some (n, lv, .long x :: st, h)
  | _ => none
theorem sn_lload_n {k : Fin 4} (hd : decode cc pc = .ok (.lload_n k, 1)) : mx_W own ynm cc nL ret fr lc pc (sx_lload k (pc + 1)) := by
  refine mx_W.of (fun lv st h q hq => by unfold sx_lload at hq; split at hq <;> cases hq; rfl) ?_
  intro p l e R s m args below meth c D cI cZ A g Q hfr hlc X lv st h q hq H locs ls cells slots hR hS hl kk
  unfold sx_lload at hq
  split at hq
  · rename_i x hx
    cases hq
    exact lv_lload_n X.1 X.2.1 hd rfl (mx_lget_at hl hx) (kk ls hl)
  · cases hq
theorem sn_lload {k : Nat} (hd : decode cc pc = .ok (.lload k, 2)) : mx_W own ynm cc nL ret fr lc pc (sx_lload k (pc + 2)) := by
  refine mx_W.of (fun lv st h q hq => by unfold sx_lload at hq; split at hq <;> cases hq; rfl) ?_
  intro p l e R s m args below meth c D cI cZ A g Q hfr hlc X lv st h q hq H locs ls cells slots hR hS hl kk
  unfold sx_lload at hq
  split at hq
  · rename_i x hx
    cases hq
    exact lv_lload X.1 X.2.1 hd (mx_lget_at hl hx) (kk ls hl)
  · cases hq
def sx_istore (i n : Nat) : mx_F := fun lv st h => match st with
  | .int x :: r => some (n, mx_lset lv i (.int x), r, h)
  | _ => none
theorem sn_istore_n {k : Fin 4} (hd : decode cc pc = .ok (.istore_n k, 1)) (hn : (k : Nat) < nL) : mx_W own ynm cc nL ret fr lc pc (sx_istore k (pc + 1)) := by
  refine mx_W.of (fun lv st h q hq => by unfold sx_istore at hq; split at hq <;> cases hq; rfl) ?_
  intro p l e R s m args below meth c D cI cZ A g Q hfr hlc X lv st h q hq H locs ls cells slots hR hS hl kk
  unfold sx_istore at hq
  split at hq
  · cases hq
    exact lv_istore_n X.1 X.2.1 hd rfl hl hn rfl (fun ls2 hl2 => kk ls2 (mx_lset_has hl2))
  · cases hq
theorem sn_istore {k : Nat} (hd : decode cc pc = .ok (.istore k, 2)) (hn : k < nL) : mx_W own ynm cc nL ret fr lc pc (sx_istore k (pc + 2)) := by
  refine mx_W.of (fun lv st h q hq => by unfold sx_istore at hq; split at hq <;> cases hq; rfl) ?_
  intro p l e R s m args below meth c D cI cZ A g Q hfr hlc X lv st h q hq H locs ls cells slots hR hS hl kk
  unfold sx_istore at hq
  split at hq
  · cases hq
    exact lv_istore X.1 X.2.1 hd hl hn rfl (fun ls2 hl2 => kk ls2 (mx_lset_has hl2))
  · cases hq
def sx_astore (i n : Nat) : mx_F := fun lv st h => match st with
  | .ref x :: r => some (n, mx_lset lv i (.ref x), r, h)
  | _ => none
theorem sn_astore_n {k : Fin 4} (hd : decode cc pc = .ok (.astore_n k, 1)) (hn : (k : Nat) < nL) : mx_W own ynm cc nL ret fr lc pc (sx_astore k (pc + 1)) := by
  refine mx_W.of (fun lv st h q hq => by unfold sx_astore at hq; split at hq <;> cases hq; rfl) ?_
  intro p l e R s m args below meth c D cI cZ A g Q hfr hlc X lv st h q hq H locs ls cells slots hR hS hl kk
  unfold sx_astore at hq
  split at hq
  · cases hq
    exact lv_astore_n X.1 X.2.1 hd rfl hl hn rfl (fun ls2 hl2 => kk ls2 (mx_lset_has hl2))
  · cases hq
theorem sn_astore {k : Nat} (hd : decode cc pc = .ok (.astore k, 2)) (hn : k < nL) : mx_W own ynm cc nL ret fr lc pc (sx_astore k (pc + 2)) := by
  refine mx_W.of (fun lv st h q hq => by unfold sx_astore at hq; split at hq <;> cases hq; rfl) ?_
  intro p l e R s m args below meth c D cI cZ A g Q hfr hlc X lv st h q hq H locs ls cells slots hR hS hl kk
  unfold sx_astore at hq
  split at hq
  · cases hq
    exact lv_astore X.1 X.2.1 hd hl hn rfl (fun ls2 hl2 => kk ls2 (mx_lset_has hl2))
  · cases hq
def sx_lstore (i n : Nat) : mx_F := fun lv st h => match st with
  | .long x :: r => some (n, mx_lset2 lv i (.long x), r, h)
  | _ => none
theorem sn_lstore_n {k : Fin 4} (hd : decode cc pc = .ok (.lstore_n k, 1)) (hn : (k : Nat) + 1 < nL) : mx_W own ynm cc nL ret fr lc pc (sx_lstore k (pc + 1)) := by
  refine mx_W.of (fun lv st h q hq => by unfold sx_lstore at hq; split at hq <;> cases hq; rfl) ?_
  intro p l e R s m args below meth c D cI cZ A g Q hfr hlc X lv st h q hq H locs ls cells slots hR hS hl kk
  unfold sx_lstore at hq
  split at hq
  · cases hq
    exact lv_lstore_n X.1 X.2.1 hd rfl hl hn rfl (fun ls2 hl2 => kk ls2 (mx_lset2_has hl2))
  · cases hq
theorem sn_lstore {k : Nat} (hd : decode cc pc = .ok (.lstore k, 2)) (hn : k + 1 < nL) : mx_W own ynm cc nL ret fr lc pc (sx_lstore k (pc + 2)) := by
  refine mx_W.of (fun lv st h q hq => by unfold sx_lstore at hq; split at hq <;> cases hq; rfl) ?_
  intro p l e R s m args below meth c D cI cZ A g Q hfr hlc X lv st h q hq H locs ls cells slots hR hS hl kk
  unfold sx_lstore at hq
  split at hq
  · cases hq
    exact lv_lstore X.1 X.2.1 hd hl hn rfl (fun ls2 hl2 => kk ls2 (mx_lset2_has hl2))
  · cases hq
def sx_iinc (i : Nat) (d : Int32) (n : Nat) : mx_F := fun lv st h => match mx_lget lv i with
  | some (.int x) => some (n, mx_lset lv i (.int (x + d)), st, h)
  | _ => none
theorem mx_lget_pos {lv : mx_L} {i : Nat} {v : Value} (h : mx_lget lv i = some v) : ∃ k : Nat, lv[k]? = some (i, v) := by
  unfold mx_lget at h
  cases hq : lv.find? (fun q => q.1 == i) with
  | none => rw [hq] at h; cases h
  | some q =>
    rw [hq] at h
    have h1 : q ∈ lv := List.mem_of_find?_eq_some hq
    have h2 : q.1 = i := by have := List.find?_some hq; simpa using this
    have h3 : q.2 = v := by simpa using h
    obtain ⟨k, hk⟩ := List.getElem?_of_mem h1
    exact ⟨k, by rw [hk, ← h2, ← h3]⟩
theorem sn_iinc {k : Nat} {d : Int} {v : Int32} (hd : decode cc pc = .ok (.iinc k d, 3)) (hv : Int32.ofInt d = v) (hn : k < nL) : mx_W own ynm cc nL ret fr lc pc (sx_iinc k v (pc + 3)) := by
  refine mx_W.of (fun lv st h q hq => by unfold sx_iinc at hq; split at hq <;> cases hq; rfl) ?_
  intro p l e R s m args below meth c D cI cZ A g Q hfr hlc X lv st h q hq H locs ls cells slots hR hS hl kk
  unfold sx_iinc at hq
  split at hq
  · rename_i x hx
    cases hq
    obtain ⟨j, hj⟩ := mx_lget_pos hx
    exact lv_iinc X.1 X.2.1 hd hl hj (by rw [hv]) hn rfl (fun ls2 hl2 => kk ls2 (mx_lset_has hl2))
  · cases hq
def sx_bin (g : Int32 → Int32 → Int32) (n : Nat) : mx_F := fun lv st h => match st with
  | .int y :: .int x :: r => some (n, lv, .int (g x y) :: r, h)
  | _ => none
def sx_div (g : Int32 → Int32 → Int32) (n : Nat) : mx_F := fun lv st h => match st with
  | .int y :: .int x :: r => if y = 0 then none else some (n, lv, .int (g x y) :: r, h)
  | _ => none
theorem sn_iadd (hd : decode cc pc = .ok (.iadd, 1)) : mx_W own ynm cc nL ret fr lc pc (sx_bin (fun x y => x + y) (pc + 1)) := by
  refine mx_W.of (fun lv st h q hq => by unfold sx_bin at hq; split at hq <;> cases hq; rfl) ?_
  intro p l e R s m args below meth c D cI cZ A g Q hfr hlc X lv st h q hq H locs ls cells slots hR hS hl kk
  unfold sx_bin at hq
  split at hq
  · cases hq
    exact lv_iadd X.1 X.2.1 hd (kk ls hl)
  · cases hq
theorem sn_isub (hd : decode cc pc = .ok (.isub, 1)) : mx_W own ynm cc nL ret fr lc pc (sx_bin (fun x y => x - y) (pc + 1)) := by
  refine mx_W.of (fun lv st h q hq => by unfold sx_bin at hq; split at hq <;> cases hq; rfl) ?_
  intro p l e R s m args below meth c D cI cZ A g Q hfr hlc X lv st h q hq H locs ls cells slots hR hS hl kk
  unfold sx_bin at hq
  split at hq
  · cases hq
    exact lv_isub X.1 X.2.1 hd (kk ls hl)
  · cases hq
theorem sn_imul (hd : decode cc pc = .ok (.imul, 1)) : mx_W own ynm cc nL ret fr lc pc (sx_bin (fun x y => x * y) (pc + 1)) := by
  refine mx_W.of (fun lv st h q hq => by unfold sx_bin at hq; split at hq <;> cases hq; rfl) ?_
  intro p l e R s m args below meth c D cI cZ A g Q hfr hlc X lv st h q hq H locs ls cells slots hR hS hl kk
  unfold sx_bin at hq
  split at hq
  · cases hq
    exact lv_imul X.1 X.2.1 hd (kk ls hl)
  · cases hq
theorem sn_iand (hd : decode cc pc = .ok (.iand, 1)) : mx_W own ynm cc nL ret fr lc pc (sx_bin (fun x y => x &&& y) (pc + 1)) := by
  refine mx_W.of (fun lv st h q hq => by unfold sx_bin at hq; split at hq <;> cases hq; rfl) ?_
  intro p l e R s m args below meth c D cI cZ A g Q hfr hlc X lv st h q hq H locs ls cells slots hR hS hl kk
  unfold sx_bin at hq
  split at hq
  · cases hq
    exact lv_iand X.1 X.2.1 hd (kk ls hl)
  · cases hq
theorem sn_ior (hd : decode cc pc = .ok (.ior, 1)) : mx_W own ynm cc nL ret fr lc pc (sx_bin (fun x y => x ||| y) (pc + 1)) := by
  refine mx_W.of (fun lv st h q hq => by unfold sx_bin at hq; split at hq <;> cases hq; rfl) ?_
  intro p l e R s m args below meth c D cI cZ A g Q hfr hlc X lv st h q hq H locs ls cells slots hR hS hl kk
  unfold sx_bin at hq
  split at hq
  · cases hq
    exact lv_ior X.1 X.2.1 hd (kk ls hl)
  · cases hq
theorem sn_ixor (hd : decode cc pc = .ok (.ixor, 1)) : mx_W own ynm cc nL ret fr lc pc (sx_bin (fun x y => x ^^^ y) (pc + 1)) := by
  refine mx_W.of (fun lv st h q hq => by unfold sx_bin at hq; split at hq <;> cases hq; rfl) ?_
  intro p l e R s m args below meth c D cI cZ A g Q hfr hlc X lv st h q hq H locs ls cells slots hR hS hl kk
  unfold sx_bin at hq
  split at hq
  · cases hq
    exact lv_ixor X.1 X.2.1 hd (kk ls hl)
  · cases hq
theorem sn_ishl (hd : decode cc pc = .ok (.ishl, 1)) : mx_W own ynm cc nL ret fr lc pc (sx_bin (fun x y => x <<< (y &&& 31)) (pc + 1)) := by
  refine mx_W.of (fun lv st h q hq => by unfold sx_bin at hq; split at hq <;> cases hq; rfl) ?_
  intro p l e R s m args below meth c D cI cZ A g Q hfr hlc X lv st h q hq H locs ls cells slots hR hS hl kk
  unfold sx_bin at hq
  split at hq
  · cases hq
    exact lv_ishl X.1 X.2.1 hd (kk ls hl)
  · cases hq
theorem sn_ishr (hd : decode cc pc = .ok (.ishr, 1)) : mx_W own ynm cc nL ret fr lc pc (sx_bin (fun x y => x >>> (y &&& 31)) (pc + 1)) := by
  refine mx_W.of (fun lv st h q hq => by unfold sx_bin at hq; split at hq <;> cases hq; rfl) ?_
  intro p l e R s m args below meth c D cI cZ A g Q hfr hlc X lv st h q hq H locs ls cells slots hR hS hl kk
  unfold sx_bin at hq
  split at hq
  · cases hq
    exact lv_ishr X.1 X.2.1 hd (kk ls hl)
  · cases hq
theorem sn_iushr (hd : decode cc pc = .ok (.iushr, 1)) : mx_W own ynm cc nL ret fr lc pc (sx_bin (fun x y => (x.toUInt32 >>> (y.toUInt32 &&& Int32.toUInt32 31)).toInt32) (pc + 1)) := by
  refine mx_W.of (fun lv st h q hq => by unfold sx_bin at hq; split at hq <;> cases hq; rfl) ?_
  intro p l e R s m args below meth c D cI cZ A g Q hfr hlc X lv st h q hq H locs ls cells slots hR hS hl kk
  unfold sx_bin at hq
  split at hq
  · cases hq
    exact lv_iushr X.1 X.2.1 hd rfl (kk ls hl)
  · cases hq
theorem sn_idiv (hd : decode cc pc = .ok (.idiv, 1)) : mx_W own ynm cc nL ret fr lc pc (sx_div (fun x y => x / y) (pc + 1)) := by
  refine mx_W.of (fun lv st h q hq => by unfold sx_div at hq; split at hq; (split at hq <;> cases hq; rfl); cases hq) ?_
  intro p l e R s m args below meth c D cI cZ A g Q hfr hlc X lv st h q hq H locs ls cells slots hR hS hl kk
  unfold sx_div at hq
  split at hq
  · split at hq
    · cases hq
    · rename_i hne
      cases hq
      exact lv_idiv X.1 X.2.1 hd hne (kk ls hl)
  · cases hq
theorem sn_irem (hd : decode cc pc = .ok (.irem, 1)) : mx_W own ynm cc nL ret fr lc pc (sx_div (fun x y => x - x / y * y) (pc + 1)) := by
  refine mx_W.of (fun lv st h q hq => by unfold sx_div at hq; split at hq; (split at hq <;> cases hq; rfl); cases hq) ?_
  intro p l e R s m args below meth c D cI cZ A g Q hfr hlc X lv st h q hq H locs ls cells slots hR hS hl kk
  unfold sx_div at hq
  split at hq
  · split at hq
    · cases hq
    · rename_i hne
      cases hq
      exact lv_irem X.1 X.2.1 hd hne (kk ls hl)
  · cases hq
def sx_ineg (n : Nat) : mx_F := fun lv st h => match st with
  | .int x :: r => some (n, lv, .int (-x) :: r, h)
  | _ => none
def sx_i2l (n : Nat) : mx_F := fun lv st h => match st with
  | .int x :: r => some (n, lv, .long x.toInt64 :: r, h)
  | _ => none
def sx_l2i (n : Nat) : mx_F := fun lv st h => match st with
  | .long x :: r => some (n, lv, .int x.toInt32 :: r, h)
  | _ => none
def sx_ladd (n : Nat) : mx_F := fun lv st h => match st with
  | .long y :: .long x :: r => some (n, lv, .long (x + y) :: r, h)
  | _ => none
def sx_lcmp (n : Nat) : mx_F := fun lv st h => match st with
  | .long y :: .long x :: r => some (n, lv, .int (lg_cmp x y) :: r, h)
  | _ => none
theorem sn_ineg (hd : decode cc pc = .ok (.ineg, 1)) : mx_W own ynm cc nL ret fr lc pc (sx_ineg (pc + 1)) := by
  refine mx_W.of (fun lv st h q hq => by unfold sx_ineg at hq; split at hq <;> cases hq; rfl) ?_
  intro p l e R s m args below meth c D cI cZ A g Q hfr hlc X lv st h q hq H locs ls cells slots hR hS hl kk
  unfold sx_ineg at hq
  split at hq
  · cases hq
    exact lv_ineg X.1 X.2.1 hd (kk ls hl)
  · cases hq
theorem sn_i2l (hd : decode cc pc = .ok (.i2l, 1)) : mx_W own ynm cc nL ret fr lc pc (sx_i2l (pc + 1)) := by
  refine mx_W.of (fun lv st h q hq => by unfold sx_i2l at hq; split at hq <;> cases hq; rfl) ?_
  intro p l e R s m args below meth c D cI cZ A g Q hfr hlc X lv st h q hq H locs ls cells slots hR hS hl kk
  unfold sx_i2l at hq
  split at hq
  · cases hq
    exact lv_i2l X.1 X.2.1 hd rfl (kk ls hl)
  · cases hq
theorem sn_l2i (hd : decode cc pc = .ok (.l2i, 1)) : mx_W own ynm cc nL ret fr lc pc (sx_l2i (pc + 1)) := by
  refine mx_W.of (fun lv st h q hq => by unfold sx_l2i at hq; split at hq <;> cases hq; rfl) ?_
  intro p l e R s m args below meth c D cI cZ A g Q hfr hlc X lv st h q hq H locs ls cells slots hR hS hl kk
  unfold sx_l2i at hq
  split at hq
  · cases hq
    exact lv_l2i X.1 X.2.1 hd rfl (kk ls hl)
  · cases hq
theorem sn_ladd (hd : decode cc pc = .ok (.ladd, 1)) : mx_W own ynm cc nL ret fr lc pc (sx_ladd (pc + 1)) := by
  refine mx_W.of (fun lv st h q hq => by unfold sx_ladd at hq; split at hq <;> cases hq; rfl) ?_
  intro p l e R s m args below meth c D cI cZ A g Q hfr hlc X lv st h q hq H locs ls cells slots hR hS hl kk
  unfold sx_ladd at hq
  split at hq
  · cases hq
    exact lv_ladd X.1 X.2.1 hd (kk ls hl)
  · cases hq
theorem sn_lcmp (hd : decode cc pc = .ok (.lcmp, 1)) : mx_W own ynm cc nL ret fr lc pc (sx_lcmp (pc + 1)) := by
  refine mx_W.of (fun lv st h q hq => by unfold sx_lcmp at hq; split at hq <;> cases hq; rfl) ?_
  intro p l e R s m args below meth c D cI cZ A g Q hfr hlc X lv st h q hq H locs ls cells slots hR hS hl kk
  unfold sx_lcmp at hq
  split at hq
  · cases hq
    exact W.lcmp X.1 X.2.1 hd (kk ls hl)
  · cases hq
def sx_if (g : Int32 → Bool) (t n : Nat) : mx_F := fun lv st h => match st with
  | .int x :: r => some (if g x = true then t else n, lv, r, h)
  | _ => none
def sx_icmp (g : Int32 → Int32 → Bool) (t n : Nat) : mx_F := fun lv st h => match st with
  | .int y :: .int x :: r => some (if g x y = true then t else n, lv, r, h)
  | _ => none
theorem sn_if_eq {off : Int} {t : Nat} (hd : decode cc pc = .ok (.ifCond .eq off, 3)) (ht : (pc : Int) + off = (t : Int)) : mx_W own ynm cc nL ret fr lc pc (sx_if (fun x => decide (x = 0)) t (pc + 3)) := by
  refine mx_W.of (fun lv st h q hq => by unfold sx_if at hq; split at hq <;> cases hq; rfl) ?_
  intro p l e R s m args below meth c D cI cZ A g Q hfr hlc X lv st h q hq H locs ls cells slots hR hS hl kk
  unfold sx_if at hq
  split at hq
  · cases hq
    refine lv_if_eq X.1 X.2.1 hd ht (fun hc => ?_) (fun hc => ?_)
    · have k1 := kk ls hl
      rw [if_pos (decide_eq_true hc)] at k1
      exact k1
    · have k1 := kk ls hl
      rw [if_neg (by rw [decide_eq_true_iff]; first | exact hc | exact fun z => z hc)] at k1
      exact k1
  · cases hq
theorem sn_icmp_eq {off : Int} {t : Nat} (hd : decode cc pc = .ok (.if_icmp .eq off, 3)) (ht : (pc : Int) + off = (t : Int)) : mx_W own ynm cc nL ret fr lc pc (sx_icmp (fun x y => decide (x = y)) t (pc + 3)) := by
  refine mx_W.of (fun lv st h q hq => by unfold sx_icmp at hq; split at hq <;> cases hq; rfl) ?_
  intro p l e R s m args below meth c D cI cZ A g Q hfr hlc X lv st h q hq H locs ls cells slots hR hS hl kk
  unfold sx_icmp at hq
  split at hq
  · cases hq
    refine lv_icmp_eq X.1 X.2.1 hd ht (fun hc => ?_) (fun hc => ?_)
    · have k1 := kk ls hl
      rw [if_pos (decide_eq_true hc)] at k1
      exact k1
    · have k1 := kk ls hl
      rw [if_neg (by rw [decide_eq_true_iff]; first | exact hc | exact fun z => z hc)] at k1
      exact k1
  · cases hq
theorem sn_if_ne {off : Int} {t : Nat} (hd : decode cc pc = .ok (.ifCond .ne off, 3)) (ht : (pc : Int) + off = (t : Int)) : mx_W own ynm cc nL ret fr lc pc (sx_if (fun x => decide (¬ x = 0)) t (pc + 3)) := by
  refine mx_W.of (fun lv st h q hq => by unfold sx_if at hq; split at hq <;> cases hq; rfl) ?_
  intro p l e R s m args below meth c D cI cZ A g Q hfr hlc X lv st h q hq H locs ls cells slots hR hS hl kk
  unfold sx_if at hq
  split at hq
  · cases hq
    refine lv_if_ne X.1 X.2.1 hd ht (fun hc => ?_) (fun hc => ?_)
    · have k1 := kk ls hl
      rw [if_pos (decide_eq_true hc)] at k1
      exact k1
    · have k1 := kk ls hl
      rw [if_neg (by rw [decide_eq_true_iff]; first | exact hc | exact fun z => z hc)] at k1
      exact k1
  · cases hq
theorem sn_icmp_ne {off : Int} {t : Nat} (hd : decode cc pc = .ok (.if_icmp .ne off, 3)) (ht : (pc : Int) + off = (t : Int)) : mx_W own ynm cc nL ret fr lc pc (sx_icmp (fun x y => decide (¬ x = y)) t (pc + 3)) := by
  refine mx_W.of (fun lv st h q hq => by unfold sx_icmp at hq; split at hq <;> cases hq; rfl) ?_
  intro p l e R s m args below meth c D cI cZ A g Q hfr hlc X lv st h q hq H locs ls cells slots hR hS hl kk
  unfold sx_icmp at hq
  split at hq
  · cases hq
    refine lv_icmp_ne X.1 X.2.1 hd ht (fun hc => ?_) (fun hc => ?_)
    · have k1 := kk ls hl
      rw [if_pos (decide_eq_true hc)] at k1
      exact k1
    · have k1 := kk ls hl
      rw [if_neg (by rw [decide_eq_true_iff]; first | exact hc | exact fun z => z hc)] at k1
      exact k1
  · cases hq
theorem sn_if_lt {off : Int} {t : Nat} (hd : decode cc pc = .ok (.ifCond .lt off, 3)) (ht : (pc : Int) + off = (t : Int)) : mx_W own ynm cc nL ret fr lc pc (sx_if (fun x => decide (x < 0)) t (pc + 3)) := by
  refine mx_W.of (fun lv st h q hq => by unfold sx_if at hq; split at hq <;> cases hq; rfl) ?_
  intro p l e R s m args below meth c D cI cZ A g Q hfr hlc X lv st h q hq H locs ls cells slots hR hS hl kk
  unfold sx_if at hq
  split at hq
  · cases hq
    refine lv_if_lt X.1 X.2.1 hd ht (fun hc => ?_) (fun hc => ?_)
    · have k1 := kk ls hl
      rw [if_pos (decide_eq_true hc)] at k1
      exact k1
    · have k1 := kk ls hl
      rw [if_neg (by rw [decide_eq_true_iff]; first | exact hc | exact fun z => z hc)] at k1
      exact k1
  · cases hq
theorem sn_icmp_lt {off : Int} {t : Nat} (hd : decode cc pc = .ok (.if_icmp .lt off, 3)) (ht : (pc : Int) + off = (t : Int)) : mx_W own ynm cc nL ret fr lc pc (sx_icmp (fun x y => decide (x < y)) t (pc + 3)) := by
  refine mx_W.of (fun lv st h q hq => by unfold sx_icmp at hq; split at hq <;> cases hq; rfl) ?_
  intro p l e R s m args below meth c D cI cZ A g Q hfr hlc X lv st h q hq H locs ls cells slots hR hS hl kk
  unfold sx_icmp at hq
  split at hq
  · cases hq
    refine lv_icmp_lt X.1 X.2.1 hd ht (fun hc => ?_) (fun hc => ?_)
    · have k1 := kk ls hl
      rw [if_pos (decide_eq_true hc)] at k1
      exact k1
    · have k1 := kk ls hl
      rw [if_neg (by rw [decide_eq_true_iff]; first | exact hc | exact fun z => z hc)] at k1
      exact k1
  · cases hq
theorem sn_if_ge {off : Int} {t : Nat} (hd : decode cc pc = .ok (.ifCond .ge off, 3)) (ht : (pc : Int) + off = (t : Int)) : mx_W own ynm cc nL ret fr lc pc (sx_if (fun x => decide (0 ≤ x)) t (pc + 3)) := by
  refine mx_W.of (fun lv st h q hq => by unfold sx_if at hq; split at hq <;> cases hq; rfl) ?_
  intro p l e R s m args below meth c D cI cZ A g Q hfr hlc X lv st h q hq H locs ls cells slots hR hS hl kk
  unfold sx_if at hq
  split at hq
  · cases hq
    refine lv_if_ge X.1 X.2.1 hd ht (fun hc => ?_) (fun hc => ?_)
    · have k1 := kk ls hl
      rw [if_pos (decide_eq_true hc)] at k1
      exact k1
    · have k1 := kk ls hl
      rw [if_neg (by rw [decide_eq_true_iff]; first | exact hc | exact fun z => z hc)] at k1
      exact k1
  · cases hq
theorem sn_icmp_ge {off : Int} {t : Nat} (hd : decode cc pc = .ok (.if_icmp .ge off, 3)) (ht : (pc : Int) + off = (t : Int)) : mx_W own ynm cc nL ret fr lc pc (sx_icmp (fun x y => decide (y ≤ x)) t (pc + 3)) := by
  refine mx_W.of (fun lv st h q hq => by unfold sx_icmp at hq; split at hq <;> cases hq; rfl) ?_
  intro p l e R s m args below meth c D cI cZ A g Q hfr hlc X lv st h q hq H locs ls cells slots hR hS hl kk
  unfold sx_icmp at hq
  split at hq
  · cases hq
    refine lv_icmp_ge X.1 X.2.1 hd ht (fun hc => ?_) (fun hc => ?_)
    · have k1 := kk ls hl
      rw [if_pos (decide_eq_true hc)] at k1
      exact k1
    · have k1 := kk ls hl
      rw [if_neg (by rw [decide_eq_true_iff]; first | exact hc | exact fun z => z hc)] at k1
      exact k1
  · cases hq
theorem sn_if_gt {off : Int} {t : Nat} (hd : decode cc pc = .ok (.ifCond .gt off, 3)) (ht : (pc : Int) + off = (t : Int)) : mx_W own ynm cc nL ret fr lc pc (sx_if (fun x => decide (0 < x)) t (pc + 3)) := by
  refine mx_W.of (fun lv st h q hq => by unfold sx_if at hq; split at hq <;> cases hq; rfl) ?_
  intro p l e R s m args below meth c D cI cZ A g Q hfr hlc X lv st h q hq H locs ls cells slots hR hS hl kk
  unfold sx_if at hq
  split at hq
  · cases hq
    refine lv_if_gt X.1 X.2.1 hd ht (fun hc => ?_) (fun hc => ?_)
    · have k1 := kk ls hl
      rw [if_pos (decide_eq_true hc)] at k1
      exact k1
    · have k1 := kk ls hl
      rw [if_neg (by rw [decide_eq_true_iff]; first | exact hc | exact fun z => z hc)] at k1
      exact k1
  · cases hq
theorem sn_icmp_gt {off : Int} {t : Nat} (hd : decode cc pc = .ok (.if_icmp .gt off, 3)) (ht : (pc : Int) + off = (t : Int)) : mx_W own ynm cc nL ret fr lc pc (sx_icmp (fun x y => decide (y < x)) t (pc + 3)) := by
  refine mx_W.of (fun lv st h q hq => by unfold sx_icmp at hq; split at hq <;> cases hq; rfl) ?_
  intro p l e R s m args below meth c D cI cZ A g Q hfr hlc X lv st h q hq H locs ls cells slots hR hS hl kk
  unfold sx_icmp at hq
  split at hq
  · cases hq
    refine lv_icmp_gt X.1 X.2.1 hd ht (fun hc => ?_) (fun hc => ?_)
    · have k1 := kk ls hl
      rw [if_pos (decide_eq_true hc)] at k1
      exact k1
    · have k1 := kk ls hl
      rw [if_neg (by rw [decide_eq_true_iff]; first | exact hc | exact fun z => z hc)] at k1
      exact k1
  · cases hq
theorem sn_if_le {off : Int} {t : Nat} (hd : decode cc pc = .ok (.ifCond .le off, 3)) (ht : (pc : Int) + off = (t : Int)) : mx_W own ynm cc nL ret fr lc pc (sx_if (fun x => decide (x ≤ 0)) t (pc + 3)) := by
  refine mx_W.of (fun lv st h q hq => by unfold sx_if at hq; split at hq <;> cases hq; rfl) ?_
  intro p l e R s m args below meth c D cI cZ A g Q hfr hlc X lv st h q hq H locs ls cells slots hR hS hl kk
  unfold sx_if at hq
  split at hq
  · cases hq
    refine lv_if_le X.1 X.2.1 hd ht (fun hc => ?_) (fun hc => ?_)
    · have k1 := kk ls hl
      rw [if_pos (decide_eq_true hc)] at k1
      exact k1
    · have k1 := kk ls hl
      rw [if_neg (by rw [decide_eq_true_iff]; first | exact hc | exact fun z => z hc)] at k1
      exact k1
  · cases hq
theorem sn_icmp_le {off : Int} {t : Nat} (hd : decode cc pc = .ok (.if_icmp .le off, 3)) (ht : (pc : Int) + off = (t : Int)) : mx_W own ynm cc nL ret fr lc pc (sx_icmp (fun x y => decide (x ≤ y)) t (pc + 3)) := by
  refine mx_W.of (fun lv st h q hq => by unfold sx_icmp at hq; split at hq <;> cases hq; rfl) ?_
  intro p l e R s m args below meth c D cI cZ A g Q hfr hlc X lv st h q hq H locs ls cells slots hR hS hl kk
  unfold sx_icmp at hq
  split at hq
  · cases hq
    refine lv_icmp_le X.1 X.2.1 hd ht (fun hc => ?_) (fun hc => ?_)
    · have k1 := kk ls hl
      rw [if_pos (decide_eq_true hc)] at k1
      exact k1
    · have k1 := kk ls hl
      rw [if_neg (by rw [decide_eq_true_iff]; first | exact hc | exact fun z => z hc)] at k1
      exact k1
  · cases hq
def sx_goto (t : Nat) : mx_F := fun lv st h => some (t, lv, st, h)
theorem sn_goto {off : Int} {t : Nat} (hd : decode cc pc = .ok (.goto off, 3)) (ht : (pc : Int) + off = (t : Int)) : mx_W own ynm cc nL ret fr lc pc (sx_goto t) := by
  refine mx_W.of (fun lv st h q hq => by cases hq; rfl) ?_
  intro p l e R s m args below meth c D cI cZ A g Q hfr hlc X lv st h q hq H locs ls cells slots hR hS hl kk
  cases hq
  exact lv_goto X.1 X.2.1 hd ht (kk ls hl)
def sx_table (dt : Nat) (lo hi : Int) (ts : List Nat) : mx_F := fun lv st h => match st with
  | .int x :: r => if x.toInt < lo ∨ hi < x.toInt then some (dt, lv, r, h) else (match ts[(x.toInt - lo).toNat]? with
    | some t => some (t, lv, r, h)
    | none => none)
  | _ => none
theorem sn_table {df lo hi : Int} {offs : Array Int} {len dt : Nat} {ts : List Nat} (hd : decode cc pc = .ok (.tableswitch df lo hi offs, len)) (hdt : (pc : Int) + df = (dt : Int)) (hts : offs.toList.map (fun x => (pc : Int) + x) = ts.map (fun (t : Nat) => (t : Int))) : mx_W own ynm cc nL ret fr lc pc (sx_table dt lo hi ts) := by
  refine mx_W.of (fun lv st h q hq => by unfold sx_table at hq; split at hq; (split at hq; (cases hq; rfl); (split at hq <;> cases hq; rfl)); cases hq) ?_
  intro p l e R s m args below meth c D cI cZ A g Q hfr hlc X lv st h q hq H locs ls cells slots hR hS hl kk
  unfold sx_table at hq
  split at hq
  · rename_i x r
    split at hq
    · rename_i hc
      cases hq
      exact lv_tableOut X.1 X.2.1 hd hc hdt (kk ls hl)
    · rename_i hc
      split at hq
      · rename_i t ht
        cases hq
        have e1 : (offs.toList.map (fun x => (pc : Int) + x))[(x.toInt - lo).toNat]? = some (t : Int) := by rw [hts, List.getElem?_map, ht]; rfl
        rw [List.getElem?_map] at e1
        cases ho : offs.toList[(x.toInt - lo).toNat]? with
        | none => rw [ho] at e1; cases e1
        | some off =>
          rw [ho] at e1
          exact lv_tableIn X.1 X.2.1 hd (fun z => hc (Or.inl z)) (fun z => hc (Or.inr z)) (by rw [← Array.getElem?_toList]; exact ho) (Option.some.inj e1) (kk ls hl)
      · cases hq
  · cases hq
def sx_dup (n : Nat) : mx_F := fun lv st h => match st with
  | v :: r => if v.category = 1 then some (n, lv, v :: v :: r, h) else none
  | _ => none
def sx_pop (n : Nat) : mx_F := fun lv st h => match st with
  | v :: r => if v.category = 1 then some (n, lv, r, h) else none
  | _ => none
theorem sn_dup (hd : decode cc pc = .ok (.dup, 1)) : mx_W own ynm cc nL ret fr lc pc (sx_dup (pc + 1)) := by
  refine mx_W.of (fun lv st h q hq => by unfold sx_dup at hq; split at hq; (split at hq <;> cases hq; rfl); cases hq) ?_
  intro p l e R s m args below meth c D cI cZ A g Q hfr hlc X lv st h q hq H locs ls cells slots hR hS hl kk
  unfold sx_dup at hq
  split at hq
  · split at hq
    · rename_i hc
      cases hq
      exact lv_dup X.1 X.2.1 hd hc (kk ls hl)
    · cases hq
  · cases hq
theorem sn_pop (hd : decode cc pc = .ok (.pop, 1)) : mx_W own ynm cc nL ret fr lc pc (sx_pop (pc + 1)) := by
  refine mx_W.of (fun lv st h q hq => by unfold sx_pop at hq; split at hq; (split at hq <;> cases hq; rfl); cases hq) ?_
  intro p l e R s m args below meth c D cI cZ A g Q hfr hlc X lv st h q hq H locs ls cells slots hR hS hl kk
  unfold sx_pop at hq
  split at hq
  · split at hq
    · rename_i hc
      cases hq
      exact lv_pop X.1 X.2.1 hd hc (kk ls hl)
    · cases hq
  · cases hq
end SX
end
section
/-! FIELDS, ARRAYS, NEW CELLS -/
theorem mx_P1 {D : va_G} {q : Nat × va_E} {H : Heap} (h : va_at D mx_cl q H) : va_P D mx_cl [q] H := by
  intro k x hx
  cases k with
  | zero => cases hx; exact h
  | succ k => simp at hx
theorem mx_get_set (h : mx_H) (a : Nat) (c : mx_C) (q : Nat) : mx_get (mx_set h a c) q = if q = a then some c else mx_get h q := rfl
theorem mx_get_push (h : mx_H) (n : Nat) (c : mx_C) (q : Nat) : mx_get (mx_push h n c) q = if q = h.1 then some c else mx_get h q := rfl
theorem mx_R.set {D : va_G} {cI cZ : ClassId} {A : Nat → Prop} {g : mx_G} {h : mx_H} {H H' : Heap} {a : Nat} {c c' : mx_C} (hR : mx_R D cI cZ A g h H) (hg : mx_get h a = some c) (he : va_at D mx_cl (a, mx_e cI cZ c') H') (hz : H'.size = H.size) (ho : ∀ q : Nat, q ≠ a → H'[q]? = H[q]?) : mx_R D cI cZ A g (mx_set h a c') H' := by
  refine ⟨hz.trans hR.1, hR.2.1, fun q x hx => ?_⟩
  rw [mx_get_set] at hx
  by_cases hq : q = a
  · rw [if_pos hq] at hx
    cases hx
    subst hq
    exact ⟨he, (hR.2.2 q c hg).2⟩
  · rw [if_neg hq] at hx
    obtain ⟨h1, h2⟩ := hR.2.2 q x hx
    exact ⟨h1.kept (ho q hq), h2⟩
theorem mx_R.push {D : va_G} {cI cZ : ClassId} {A : Nat → Prop} {g : mx_G} {h : mx_H} {H H' : Heap} {n : Nat} {c' : mx_C} (hR : mx_R D cI cZ A g h H) (he : va_at D mx_cl (h.1, mx_e cI cZ c') H') (hz : H'.size = h.1 + 1) (ho : ∀ q : Nat, q < h.1 → H'[q]? = H[q]?) (hA : A h.1) : mx_R D cI cZ A g (mx_push h n c') H' := by
  refine ⟨hz, hR.2.1, fun q x hx => ?_⟩
  rw [mx_get_push] at hx
  by_cases hq : q = h.1
  · rw [if_pos hq] at hx
    cases hx
    subst hq
    exact ⟨he, hA⟩
  · rw [if_neg hq] at hx
    obtain ⟨h1, h2⟩ := hR.2.2 q x hx
    exact ⟨h1.kept (ho q (by have := h1.lt; rw [hR.1] at this; exact this)), h2⟩
theorem mx_S.push {A : Nat → Prop} {H0 H H' : Heap} {locs : List Loc} {n : Nat} (hS : va_S A H0 H locs) (hz0 : H.size = n) (hz : H'.size = n + 1) (ho : ∀ q : Nat, q < n → H'[q]? = H[q]?) : va_S A H0 H' locs :=
  ⟨Nat.le_trans hS.1 (by omega), fun q h1 h2 => (ho q (by have := hS.1; omega)).trans (hS.2.1 q h1 h2), hS.2.2⟩
section SH
variable {own ynm : String} {cc : ByteArray} {nL : Nat} {ret : Option FieldType} {fr lc pc : Nat}
def sx_getf (ci k n : Nat) : mx_F := fun lv st h => match st with
  | .ref a :: r => (match mx_get h a with
    | some (.inr o) => if o.1 = ci then (match o.2[k]? with
      | some v => some (n, lv, v :: r, h)
      | none => none) else none
    | _ => none)
  | _ => none
theorem sx_getf_spec {ci k n : Nat} {lv : mx_L} {st : List Value} {h : mx_H} {q : mx_S} (hq : sx_getf ci k n lv st h = some q) : ∃ (a : Nat) (r : List Value) (fs : List Value) (v : Value), st = .ref a :: r ∧ mx_get h a = some (.inr (ci, fs)) ∧ fs[k]? = some v ∧ q = (n, lv, v :: r, h) := by
  unfold sx_getf at hq
  split at hq
  · rename_i a r
    split at hq
    · rename_i o ho
      split at hq
      · rename_i hc
        split at hq
        · rename_i v hv
          cases hq
          exact ⟨a, r, o.2, v, rfl, by rw [ho, ← hc], hv, rfl⟩
        · cases hq
      · cases hq
    · cases hq
  · cases hq
theorem sn_getf {ci k idx N : Nat} {C : String} {T : u_T} (hd : decode cc pc = .ok (.getfield idx, 3)) (hc : mx_cl[ci]? = some (C, T, N)) (hin : ∀ w ∈ u_ws C T N, w ∈ mx_tb) (hk : k < N) (hw : Cond.fieldLink own idx (T k).1 (T k).2.1 (T k).2.2.1 ∈ mx_tb) : mx_W own ynm cc nL ret fr lc pc (sx_getf ci k (pc + 3)) := by
  refine mx_W.of (fun lv st h q hq => ?_) ?_
  · obtain ⟨a, r, fs, v, -, -, -, rfl⟩ := sx_getf_spec hq
    rfl
  · intro p l e R s m args below meth c D cI cZ A g Q hfr hlc X lv st h q hq H locs ls cells slots hR hS hl kk
    obtain ⟨a, r, fs, v, rfl, hg, hv, rfl⟩ := sx_getf_spec hq
    obtain ⟨hx, hb, hml, hr, hown, hts, -, -, hK, -⟩ := X
    exact va_get (D := D) (ci := ci) hx hb hts hin hown hK (mx_P1 (hR.2.2 a _ hg).1) 0 rfl hc k hk (hts _ hw) (fun _ h9 => h9) hv hd (kk ls hl)
theorem sn_getfN {ci k idx N : Nat} {C host : String} {T : u_T} (hd : decode cc pc = .ok (.getfield idx, 3)) (hc : mx_cl[ci]? = some (C, T, N)) (hin : ∀ w ∈ u_ws C T N, w ∈ mx_tb) (hk : k < N) (hw : Cond.fieldLinkNest own idx (T k).1 (T k).2.1 (T k).2.2.1 host ∈ mx_nst) : mx_W own ynm cc nL ret fr lc pc (sx_getf ci k (pc + 3)) := by
  refine mx_W.of (fun lv st h q hq => ?_) ?_
  · obtain ⟨a, r, fs, v, -, -, -, rfl⟩ := sx_getf_spec hq
    rfl
  · intro p l e R s m args below meth c D cI cZ A g Q hfr hlc X lv st h q hq H locs ls cells slots hR hS hl kk
    obtain ⟨a, r, fs, v, rfl, hg, hv, rfl⟩ := sx_getf_spec hq
    obtain ⟨hx, hb, hml, hr, hown, hts, -, -, hK, hN, -⟩ := X
    exact va_getN (D := D) (ci := ci) hx hb hts hin hown hK (mx_P1 (hR.2.2 a _ hg).1) 0 rfl hc k hk (va_Nw.use rfl (hN _ hw)) (fun _ h9 => h9) hv hd (kk ls hl)
def sx_putf (ci k : Nat) (ty : FieldType) (n : Nat) : mx_F := fun lv st h => match st with
  | v :: .ref a :: r => (match mx_get h a with
    | some (.inr o) => if o.1 = ci ∧ k < o.2.length ∧ narrow ty v = v ∧ fits ty v = true then some (n, lv, r, mx_set h a (.inr (ci, o.2.set k v))) else none
    | _ => none)
  | _ => none
theorem sx_putf_spec {ci k n : Nat} {ty : FieldType} {lv : mx_L} {st : List Value} {h : mx_H} {q : mx_S} (hq : sx_putf ci k ty n lv st h = some q) : ∃ (a : Nat) (r : List Value) (fs : List Value) (v : Value), st = v :: .ref a :: r ∧ mx_get h a = some (.inr (ci, fs)) ∧ k < fs.length ∧ narrow ty v = v ∧ fits ty v = true ∧ q = (n, lv, r, mx_set h a (.inr (ci, fs.set k v))) := by
  unfold sx_putf at hq
  split at hq
  · rename_i v a r
    split at hq
    · rename_i o ho
      split at hq
      · rename_i hc
        cases hq
        exact ⟨a, r, o.2, v, rfl, by rw [ho, ← hc.1], hc.2.1, hc.2.2.1, hc.2.2.2, rfl⟩
      · cases hq
    · cases hq
  · cases hq
theorem sn_putf {ci k idx N : Nat} {C : String} {T : u_T} {ty : FieldType} (ty0 : Nat → FieldType) (hd : decode cc pc = .ok (.putfield idx, 3)) (hc : mx_cl[ci]? = some (C, T, N)) (hin : ∀ w ∈ u_ws C T N, w ∈ mx_tb) (hty : ∀ k, k < N → parseFieldDescriptor (T k).2.2.1 = some (ty0 k)) (hnm : ∀ a, a < N → ∀ b, b < N → a ≠ b → (T a).2.1 ≠ (T b).2.1) (hk : k < N) (hw : Cond.fieldLink own idx (T k).1 (T k).2.1 (T k).2.2.1 ∈ mx_tb) (hfin : (T k).2.2.2 = false ∨ ((T k).2.2.2 = true ∧ ynm = "<init>" ∧ (T k).1 = own)) (hpt : ty0 k = ty) : mx_W own ynm cc nL ret fr lc pc (sx_putf ci k ty (pc + 3)) := by
  refine ⟨fun lv st h q hq => ?_, ?_⟩
  · obtain ⟨a, r, fs, v, -, -, -, -, -, rfl⟩ := sx_putf_spec hq
    exact ⟨Nat.le_refl _, Nat.le_refl _, rfl⟩
  · intro p l e R s m args below meth c D cI cZ A g Q hfr hlc X lv st h q hq H locs ls cells slots hR hS hl hcs hss kk
    obtain ⟨a, r, fs, v, rfl, hg, hlen, hn, hfit, rfl⟩ := sx_putf_spec hq
    obtain ⟨hx, hb, hml, hr, hown, hts, -, hname, hK, -⟩ := X
    have hap := va_apart (own := own) hts hin ty0 hty hnm hK hc
    obtain ⟨⟨r0, hr0, cell, q1, q2, q3, q4⟩, hAa⟩ := hR.2.2 a _ hg
    cases Option.some.inj (hr0.symm.trans hc)
    obtain ⟨hSl, hfc, kC, hkC, hkind⟩ := hK.1 ci _ hc
    obtain ⟨cf, kf, fi, f, hi, hsl⟩ := hSl k hk
    have hst := (u_facts hfc hkC (u_lays hts hin hk) hi).1
    have hparse : parseFieldDescriptor (T k).2.2.1 = some ty := by rw [← hpt]; exact hty k hk
    have fin : ∀ H' : Heap, H'[a]? = some (cell.setSlot f.slot v) → H'.size = H.size → (∀ q, q ≠ a → H'[q]? = H[q]?) → W p l e R s m args below meth c H' (locs ++ [⟨a, f.slot⟩]) cells slots Q (F0 m (pc + 3) ls r) := by
      intro H' e1 e2 e3
      have h1 := kk H' (locs ++ [⟨a, f.slot⟩]) ls (mx_R.set (c' := .inr (ci, fs.set k v)) hR hg ⟨_, hc, t_OB.to (V := updV (vp_V fs) k v) ⟨_, e1, q2, q3, by rw [hsl]; exact t_set q4 hap hk v⟩ (fun j _ => vp_updV_set hlen v j)⟩ e2 e3) (hS.put e2 e3 hAa) hl
      simp only [mx_set, Nat.sub_self, Nat.add_zero] at h1
      exact h1
    rcases hfin with hf | ⟨hf, hyn, hdecl⟩
    · have hlay := hts _ (hin _ (u_in_lay hk))
      unfold u_lay at hlay
      rw [if_neg (by rw [hf]; decide)] at hlay
      have h6 := u_store hfc hkC hkind hlay hi hparse hn hfit
      exact W.putK hx hb (f := f) ⟨hown, hts _ hw, ⟨_, _, _, hi⟩, hst⟩ (by rw [q2]; exact h6) q1 q3 (by rw [hsl]; exact k2_hasslot (q4 k hk)) rfl rfl hd fin
    · have hlay := hts _ (hin _ (u_in_lay hk))
      unfold u_lay at hlay
      rw [if_pos hf] at hlay
      have hcf : m.cls = cf := by
        obtain ⟨_, _, c1, _, _, _, -, -, h1, -, -, -, h2, -⟩ := Cond.laysFinal_spec hlay
        have h3 : c1 = cf := congrArg (fun x => x.1) (Option.some.inj (h1.symm.trans hi))
        rw [hdecl] at h2
        exact (Option.some.inj (hown.symm.trans h2)).trans h3
      have h6 := u_fits hfc hkC hkind (Or.inr hlay) hi hparse hn hfit
      exact W.putFinK hx hb hown (hts _ hw) hi hst hcf (hname.trans hyn) (by rw [q2]; exact h6) q1 q3 (by rw [hsl]; exact k2_hasslot (q4 k hk)) rfl rfl hd fin
def sx_gets (k n : Nat) : mx_F := fun lv st h => some (n, lv, .ref (h.2.2.2.1 k) :: st, h)
theorem sn_getsN {k idx : Nat} {q0 : String × String × String} {host : String} (hd : decode cc pc = .ok (.getstatic idx, 3)) (hq0 : mx_sts[k]? = some q0) (hw : Cond.fieldLinkNest own idx q0.1 q0.2.1 q0.2.2 host ∈ mx_nst) : mx_W own ynm cc nL ret fr lc pc (sx_gets k (pc + 3)) := by
  refine mx_W.of (fun lv st h q hq => by cases hq; rfl) ?_
  intro p l e R s m args below meth c D cI cZ A g Q hfr hlc X lv st h q hq H locs ls cells slots hR hS hl kk
  cases hq
  obtain ⟨hx, hb, hml, hr, hown, hts, -, hname, hK, hN, hZ, -⟩ := X
  have k1 := kk ls hl
  rw [hR.2.1] at k1
  exact va_getsN hx hb (hZ.1 k q0 hq0) hS hown (va_Nw.use rfl (hN _ hw)) (fun _ h9 => h9) hd k1
def mx_rd (t : Bool) (i : Int32) (a : Nat) (h : mx_H) : Option Int32 := match mx_get h a with
  | some (.inl x) => if x.1 = t ∧ ¬ (i < 0 ∨ x.2.1 ≤ i.toNatClampNeg) then some (x.2.2 i.toNatClampNeg) else none
  | some (.inr _) => none
  | none => (match h.2.2.2.2 a with
    | some x => if t = false ∧ ¬ (i < 0 ∨ x.1 ≤ i.toNatClampNeg) then some (x.2 i.toNatClampNeg) else none
    | none => none)
def sx_ald (t : Bool) (n : Nat) : mx_F := fun lv st h => match st with
  | .int i :: .ref a :: r => (match mx_rd t i a h with
    | some v => some (n, lv, .int v :: r, h)
    | none => none)
  | _ => none
theorem sx_ald_spec {t : Bool} {n : Nat} {lv : mx_L} {st : List Value} {h : mx_H} {q : mx_S} (hq : sx_ald t n lv st h = some q) : ∃ (a : Nat) (i v : Int32) (r : List Value), st = .int i :: .ref a :: r ∧ mx_rd t i a h = some v ∧ q = (n, lv, .int v :: r, h) := by
  unfold sx_ald at hq
  split at hq
  · rename_i i a r
    split at hq
    · rename_i v hv
      cases hq
      exact ⟨a, i, v, r, rfl, hv, rfl⟩
    · cases hq
  · cases hq
theorem mx_rd_spec {t : Bool} {i v : Int32} {a : Nat} {h : mx_H} (hv : mx_rd t i a h = some v) : (∃ (n : Nat) (f : Nat → Int32), mx_get h a = some (.inl (t, n, f)) ∧ ¬ (i < 0 ∨ n ≤ i.toNatClampNeg) ∧ v = f i.toNatClampNeg) ∨ (t = false ∧ ∃ (n : Nat) (f : Nat → Int32), h.2.2.2.2 a = some (n, f) ∧ ¬ (i < 0 ∨ n ≤ i.toNatClampNeg) ∧ v = f i.toNatClampNeg) := by
  unfold mx_rd at hv
  split at hv
  · rename_i x hx
    split at hv
    · rename_i hc
      cases hv
      exact Or.inl ⟨x.2.1, x.2.2, by rw [hx, ← hc.1], hc.2, rfl⟩
    · cases hv
  · cases hv
  · split at hv
    · rename_i x hx
      split at hv
      · rename_i hc
        cases hv
        exact Or.inr ⟨hc.1, x.1, x.2, hx, hc.2, rfl⟩
      · cases hv
    · cases hv
theorem sn_iald (hd : decode cc pc = .ok (.iaload, 1)) : mx_W own ynm cc nL ret fr lc pc (sx_ald false (pc + 1)) := by
  refine mx_W.of (fun lv st h q hq => ?_) ?_
  · obtain ⟨a, i, v, r, -, -, rfl⟩ := sx_ald_spec hq
    rfl
  · intro p l e R s m args below meth c D cI cZ A g Q hfr hlc X lv st h q hq H locs ls cells slots hR hS hl kk
    obtain ⟨a, i, v, r, rfl, hv, rfl⟩ := sx_ald_spec hq
    obtain ⟨hx, hb, hml, hr, hown, hts, -, hname, hK, hN, hZ, -⟩ := X
    rcases mx_rd_spec hv with ⟨n, f, hg, hin, rfl⟩ | ⟨-, n, f, hg, hin, rfl⟩
    · exact va_iald (D := D) hx hb hK (mx_P1 (hR.2.2 a _ hg).1) 0 0 rfl rfl hin hd (kk ls hl)
    · rw [hR.2.1] at hg
      exact va_ti hx hb (hZ.2 a n f hg) hS hin rfl hd (kk ls hl)
theorem sn_zald (hd : decode cc pc = .ok (.baload, 1)) : mx_W own ynm cc nL ret fr lc pc (sx_ald true (pc + 1)) := by
  refine mx_W.of (fun lv st h q hq => ?_) ?_
  · obtain ⟨a, i, v, r, -, -, rfl⟩ := sx_ald_spec hq
    rfl
  · intro p l e R s m args below meth c D cI cZ A g Q hfr hlc X lv st h q hq H locs ls cells slots hR hS hl kk
    obtain ⟨a, i, v, r, rfl, hv, rfl⟩ := sx_ald_spec hq
    obtain ⟨hx, hb, hml, hr, hown, hts, -, hname, hK, hN, hZ, -⟩ := X
    rcases mx_rd_spec hv with ⟨n, f, hg, hin, rfl⟩ | ⟨h0, -⟩
    · exact va_zald (D := D) hx hb hK (mx_P1 (hR.2.2 a _ hg).1) 0 1 rfl rfl hin hd (kk ls hl)
    · cases h0
def mx_len (a : Nat) (h : mx_H) : Option Nat := match mx_get h a with
  | some (.inl x) => some x.2.1
  | some (.inr _) => none
  | none => (match h.2.2.2.2 a with
    | some x => some x.1
    | none => none)
def sx_alen (n : Nat) : mx_F := fun lv st h => match st with
  | .ref a :: r => (match mx_len a h with
    | some k => some (n, lv, .int (Int32.ofNat k) :: r, h)
    | none => none)
  | _ => none
theorem sn_alen (hd : decode cc pc = .ok (.arraylength, 1)) : mx_W own ynm cc nL ret fr lc pc (sx_alen (pc + 1)) := by
  have sp : ∀ lv st h q, sx_alen (pc + 1) lv st h = some q → ∃ (a k : Nat) (r : List Value), st = .ref a :: r ∧ mx_len a h = some k ∧ q = (pc + 1, lv, .int (Int32.ofNat k) :: r, h) := by
    intro lv st h q hq
    unfold sx_alen at hq
    split at hq
    · rename_i a r
      split at hq
      · rename_i k hk
        cases hq
        exact ⟨a, k, r, rfl, hk, rfl⟩
      · cases hq
    · cases hq
  refine mx_W.of (fun lv st h q hq => ?_) ?_
  · obtain ⟨a, k, r, -, -, rfl⟩ := sp _ _ _ _ hq
    rfl
  · intro p l e R s m args below meth c D cI cZ A g Q hfr hlc X lv st h q hq H locs ls cells slots hR hS hl kk
    obtain ⟨a, k, r, rfl, hk, rfl⟩ := sp _ _ _ _ hq
    obtain ⟨hx, hb, hml, hr, hown, hts, -, hname, hK, hN, hZ, -⟩ := X
    unfold mx_len at hk
    split at hk
    · rename_i x hg
      cases hk
      obtain ⟨t, n, f⟩ := x
      cases t
      · exact va_alen (D := D) hx hb hK (mx_P1 (hR.2.2 a _ hg).1) 0 0 rfl rfl rfl hd (kk ls hl)
      · exact va_alen (D := D) hx hb hK (mx_P1 (hR.2.2 a _ hg).1) 0 1 rfl rfl rfl hd (kk ls hl)
    · cases hk
    · split at hk
      · rename_i x hg
        cases hk
        rw [hR.2.1] at hg
        exact va_tlen hx hb (hZ.2 a x.1 x.2 hg) hS rfl hd (kk ls hl)
      · cases hk
def sx_ast (t : Bool) (n : Nat) : mx_F := fun lv st h => match st with
  | .int v :: .int i :: .ref a :: r => (match mx_get h a with
    | some (.inl x) => if x.1 = t ∧ ¬ (i < 0 ∨ x.2.1 ≤ i.toNatClampNeg) then some (n, lv, r, mx_set h a (.inl (t, x.2.1, upd x.2.2 i.toNatClampNeg (if t = true then vp_nar .boolean v else v)))) else none
    | _ => none)
  | _ => none
theorem sx_ast_spec {t : Bool} {n : Nat} {lv : mx_L} {st : List Value} {h : mx_H} {q : mx_S} (hq : sx_ast t n lv st h = some q) : ∃ (a : Nat) (i v : Int32) (r : List Value) (k : Nat) (f : Nat → Int32), st = .int v :: .int i :: .ref a :: r ∧ mx_get h a = some (.inl (t, k, f)) ∧ ¬ (i < 0 ∨ k ≤ i.toNatClampNeg) ∧ q = (n, lv, r, mx_set h a (.inl (t, k, upd f i.toNatClampNeg (if t = true then vp_nar .boolean v else v)))) := by
  unfold sx_ast at hq
  split at hq
  · rename_i v i a r
    split at hq
    · rename_i x hx
      split at hq
      · rename_i hc
        cases hq
        exact ⟨a, i, v, r, x.2.1, x.2.2, rfl, by rw [hx, ← hc.1], hc.2, rfl⟩
      · cases hq
    · cases hq
  · cases hq
theorem mx_arr_upd (cA : ClassId) (n k : Nat) (f : Nat → Int32) (v : Int32) : (vp_cell cA (n, .inl f)).setSlot k (.int v) = vp_cell cA (n, .inl (upd f k v)) := by
  rw [vp_cell_i, vp_cell_i, arrV_store]
  congr 2
  funext q
  unfold updV upd
  split <;> rfl
theorem sn_iast (hd : decode cc pc = .ok (.iastore, 1)) : mx_W own ynm cc nL ret fr lc pc (sx_ast false (pc + 1)) := by
  refine ⟨fun lv st h q hq => ?_, ?_⟩
  · obtain ⟨a, i, v, r, k, f, -, -, -, rfl⟩ := sx_ast_spec hq
    exact ⟨Nat.le_refl _, Nat.le_refl _, rfl⟩
  · intro p l e R s m args below meth c D cI cZ A g Q hfr hlc X lv st h q hq H locs ls cells slots hR hS hl hcs hss kk
    obtain ⟨a, i, v, r, k, f, rfl, hg, hin, rfl⟩ := sx_ast_spec hq
    obtain ⟨hx, hb, hml, hr, hown, hts, -, hname, hK, hN, hZ, -⟩ := X
    obtain ⟨hat, hAa⟩ := hR.2.2 a _ hg
    refine W.iast hx hb hat ((hK.2 0 _ rfl).1 k (fun j => .int (f j))) (fun q => by cases q) (by show ¬ (i < 0 ∨ (arrV _ _ _).slots.size ≤ _); rw [arrV_size]; exact hin) rfl rfl hd fun H1 e1 e2 e3 => ?_
    have h1 := kk H1 (locs ++ [⟨a, i.toNatClampNeg⟩]) ls (mx_R.set (c' := .inl (false, k, upd f i.toNatClampNeg v)) hR hg (by show H1[a]? = _; rw [e1]; exact congrArg some (mx_arr_upd _ _ _ _ _)) e2 e3) (hS.put e2 e3 hAa) hl
    simp only [mx_set, Nat.sub_self, Nat.add_zero] at h1
    exact h1
theorem sn_zast (hd : decode cc pc = .ok (.bastore, 1)) : mx_W own ynm cc nL ret fr lc pc (sx_ast true (pc + 1)) := by
  refine ⟨fun lv st h q hq => ?_, ?_⟩
  · obtain ⟨a, i, v, r, k, f, -, -, -, rfl⟩ := sx_ast_spec hq
    exact ⟨Nat.le_refl _, Nat.le_refl _, rfl⟩
  · intro p l e R s m args below meth c D cI cZ A g Q hfr hlc X lv st h q hq H locs ls cells slots hR hS hl hcs hss kk
    obtain ⟨a, i, v, r, k, f, rfl, hg, hin, rfl⟩ := sx_ast_spec hq
    obtain ⟨hx, hb, hml, hr, hown, hts, -, hname, hK, hN, hZ, -⟩ := X
    obtain ⟨hat, hAa⟩ := hR.2.2 a _ hg
    refine W.zast hx hb hat ((hK.2 1 _ rfl).1 k (fun j => .int (f j))) (fun q => by cases q) (by show ¬ (i < 0 ∨ (arrV _ _ _).slots.size ≤ _); rw [arrV_size]; exact hin) rfl rfl hd fun H1 e1 e2 e3 => ?_
    have h1 := kk H1 (locs ++ [⟨a, i.toNatClampNeg⟩]) ls (mx_R.set (c' := .inl (true, k, upd f i.toNatClampNeg (vp_nar .boolean v))) hR hg (by show H1[a]? = _; rw [e1]; exact congrArg some (mx_arr_upd _ _ _ _ _)) e2 e3) (hS.put e2 e3 hAa) hl
    simp only [mx_set, Nat.sub_self, Nat.add_zero] at h1
    exact h1
def sx_new (ci : Nat) (fs : List Value) (n : Nat) : mx_F := fun lv st h => some (n, lv, .ref h.1 :: st, mx_push h fs.length (.inr (ci, fs)))
theorem sn_new {ci idx N : Nat} {C : String} {T : u_T} {fs : List Value} (ty0 : Nat → FieldType) (hd : decode cc pc = .ok (.new idx, 3)) (hc : mx_cl[ci]? = some (C, T, N)) (hin : ∀ w ∈ u_ws C T N, w ∈ mx_tb) (hty : ∀ k, k < N → parseFieldDescriptor (T k).2.2.1 = some (ty0 k)) (hw : Cond.classLink own idx C ∈ mx_tb) (hw2 : Cond.instantiable C N ∈ mx_tb) (hw3 : Cond.initialized C ∈ mx_tb) (hlen : fs.length = N) (hfs : ∀ j, j < N → defaultValue (ty0 j) = vp_V fs j) : mx_W own ynm cc nL ret fr lc pc (sx_new ci fs (pc + 3)) := by
  refine ⟨fun lv st h q hq => ?_, ?_⟩
  · cases hq
    exact ⟨Nat.le_succ _, Nat.le_add_right _ _, rfl⟩
  · intro p l e R s m args below meth c D cI cZ A g Q hfr hlc X lv st h q hq H locs ls cells slots hR hS hl hcs hss kk
    cases hq
    obtain ⟨hx, hb, hml, hr, hown, hts, -, hname, hK, hN, hZ, hA⟩ := X
    subst hlen
    have e0 : h.1 + 1 - h.1 = 1 := by omega
    have e9 : h.2.1 + fs.length - h.2.1 = fs.length := by omega
    simp only [mx_push, e0, e9] at hcs hss kk
    have hKn := hK.1 ci _ hc
    refine W.newcK hx hb hown (hts _ hw) (hts _ hw2) (hts _ hw3) rfl hd hcs hss hKn.2.1 hR.1 fun H1 kC hkC e1 z1 o1 => ?_
    exact kk H1 locs ls (mx_R.push (n := fs.length) (c' := .inr (ci, fs)) hR ⟨_, hc, (u_born ty0 hts hin hKn hkC e1 hty).to hfs⟩ z1 o1 (hA _ (by rw [← hR.1]; exact hS.1))) (mx_S.push hS hR.1 z1 o1) hl
def sx_newa (t : Bool) (n : Nat) : mx_F := fun lv st h => match st with
  | .int k :: r => if ¬ k < 0 ∧ k.toNatClampNeg * 4 ≤ 536870912 then some (n, lv, .ref h.1 :: r, mx_push h k.toNatClampNeg (.inl (t, k.toNatClampNeg, fun _ => 0))) else none
  | _ => none
theorem sn_newi (hd : decode cc pc = .ok (.newarray .int, 2)) (hw : Cond.arrayClass .int ∈ mx_tb) : mx_W own ynm cc nL ret fr lc pc (sx_newa false (pc + 2)) := by
  refine ⟨fun lv st h q hq => ?_, ?_⟩
  · unfold sx_newa at hq
    split at hq
    · split at hq
      · cases hq
        exact ⟨Nat.le_succ _, Nat.le_add_right _ _, rfl⟩
      · cases hq
    · cases hq
  · intro p l e R s m args below meth c D cI cZ A g Q hfr hlc X lv st h q hq H locs ls cells slots hR hS hl hcs hss kk
    unfold sx_newa at hq
    split at hq
    · rename_i k r
      split at hq
      · rename_i hk
        cases hq
        obtain ⟨hx, hb, hml, hr, hown, hts, -, hname, hK, hN, hZ, hA⟩ := X
        have e0 : h.1 + 1 - h.1 = 1 := by omega
        have e9 : h.2.1 + k.toNatClampNeg - h.2.1 = k.toNatClampNeg := by omega
        simp only [mx_push, e0, e9] at hcs hss kk
        refine va_newaK hx hb (atype := .int) (hts _ hw) rfl hd rfl hk.1 rfl hk.2 hcs hss hR.1 fun H1 cA e1 z1 o1 hAr hNm => ?_
        have hcA : cA = cI := Option.some.inj (hNm.symm.trans (hK.2 0 _ rfl).2)
        subst hcA
        exact kk H1 locs ls (mx_R.push (n := k.toNatClampNeg) (c' := .inl (false, k.toNatClampNeg, fun _ => 0)) hR e1 z1 o1 (hA _ (by rw [← hR.1]; exact hS.1))) (mx_S.push hS hR.1 z1 o1) hl
      · cases hq
    · cases hq
theorem sn_newz (hd : decode cc pc = .ok (.newarray .boolean, 2)) (hw : Cond.arrayClass .boolean ∈ mx_tb) : mx_W own ynm cc nL ret fr lc pc (sx_newa true (pc + 2)) := by
  refine ⟨fun lv st h q hq => ?_, ?_⟩
  · unfold sx_newa at hq
    split at hq
    · split at hq
      · cases hq
        exact ⟨Nat.le_succ _, Nat.le_add_right _ _, rfl⟩
      · cases hq
    · cases hq
  · intro p l e R s m args below meth c D cI cZ A g Q hfr hlc X lv st h q hq H locs ls cells slots hR hS hl hcs hss kk
    unfold sx_newa at hq
    split at hq
    · rename_i k r
      split at hq
      · rename_i hk
        cases hq
        obtain ⟨hx, hb, hml, hr, hown, hts, -, hname, hK, hN, hZ, hA⟩ := X
        have e0 : h.1 + 1 - h.1 = 1 := by omega
        have e9 : h.2.1 + k.toNatClampNeg - h.2.1 = k.toNatClampNeg := by omega
        simp only [mx_push, e0, e9] at hcs hss kk
        refine va_newaK hx hb (atype := .boolean) (hts _ hw) rfl hd rfl hk.1 rfl (by show k.toNatClampNeg * 1 ≤ _; omega) hcs hss hR.1 fun H1 cA e1 z1 o1 hAr hNm => ?_
        have hcA : cA = cZ := Option.some.inj (hNm.symm.trans (hK.2 1 _ rfl).2)
        subst hcA
        exact kk H1 locs ls (mx_R.push (n := k.toNatClampNeg) (c' := .inl (true, k.toNatClampNeg, fun _ => 0)) hR e1 z1 o1 (hA _ (by rw [← hR.1]; exact hS.1))) (mx_S.push hS hR.1 z1 o1) hl
      · cases hq
    · cases hq
def sx_obj (n : Nat) : mx_F := fun lv st h => match st with
  | .ref _ :: r => if (r.map fun v => v.category).sum ≤ 8 then some (n, lv, r, h) else none
  | _ => none
theorem sn_obj {idx : Nat} (hd : decode cc pc = .ok (.invokespecial idx, 3)) (hw : Cond.methodLink own idx Lib.objectInit ∈ mx_tb) (hw2 : Cond.instanceMethod Lib.objectInit ∈ mx_tb) (hw3 : Cond.code Lib.objectInit ⟨#[0xb1]⟩ 1 none ∈ mx_tb) (h1 : 1 ≤ fr) (h2 : 20 ≤ lc) : mx_W own ynm cc nL ret fr lc pc (sx_obj (pc + 3)) := by
  refine mx_W.of (fun lv st h q hq => ?_) ?_
  · unfold sx_obj at hq
    split at hq
    · split at hq <;> cases hq
      rfl
    · cases hq
  · intro p l e R s m args below meth c D cI cZ A g Q hfr hlc X lv st h q hq H locs ls cells slots hR hS hl kk
    unfold sx_obj at hq
    split at hq
    · rename_i a r
      split at hq
      · rename_i hc
        cases hq
        obtain ⟨hx, hb, hml, hr, hown, hts, -⟩ := X
        exact W.objInit hx hb hown (hts _ hw) (hts _ hw2) (hts _ hw3) rfl (by rw [hml]; exact hl.1) rfl hd (Nat.le_trans h1 hfr) (by show 2 * 0 + _ + 12 ≤ _; omega) (kk ls hl)
      · cases hq
    · cases hq
end SH
end
section
/-! METHODS: a table's run gives the method's contract -/
/-- a method: its name, code, locals, what it answers; frames and locals' room below it -/
abbrev mx_I : Type := MethodName × ByteArray × Nat × Option FieldType × Nat × Nat
def mx_retd (cc : ByteArray) (pc : Nat) : Option FieldType → Prop
  | none => decode cc pc = .ok (.return_, 1)
  | some .int => decode cc pc = .ok (.ireturn, 1)
  | some .boolean => decode cc pc = .ok (.ireturn, 1)
  | some .long => decode cc pc = .ok (.lreturn, 1)
  | some (.object _) => decode cc pc = .ok (.areturn, 1)
  | some (.array _) => decode cc pc = .ok (.areturn, 1)
  | _ => False
def mx_link (own : String) (idx : Nat) (y : MethodName) : Prop := Cond.methodLink own idx y ∈ mx_tb ∨ ∃ host, Cond.methodLinkNest own idx y host ∈ mx_nst
def mx_call (i j : mx_I) (pc : Nat) (c : Nat × Nat × Option (Option Nat) × Nat) : Prop :=
  j.2.2.2.2.1 + 1 ≤ i.2.2.2.2.1 ∧ 8 + (j.2.2.1 + 11) + j.2.2.2.2.2 ≤ i.2.2.2.2.2 ∧ c.2.2.2 = j.2.2.1 ∧ Cond.code j.1 j.2.1 j.2.2.1 j.2.2.2.1 ∈ mx_tb ∧ Cond.initialized j.1.cls ∈ mx_tb ∧ (j.1.cls ≠ "java/lang/invoke/MethodHandle" ∧ j.1.cls ≠ "java/lang/invoke/VarHandle") ∧ ∃ n idx : Nat, (parseMethodDescriptor j.1.desc).map (fun d => d.parameters.length) = some n ∧ mx_link i.1.cls idx j.1 ∧
  ((c.2.1 = n + 1 ∧ (∃ (ci N : Nat) (T : u_T), c.2.2.1 = some (some ci) ∧ mx_cl[ci]? = some (j.1.cls, T, N)) ∧ decode i.2.1 pc = .ok (.invokevirtual idx, 3) ∧ Cond.instanceMethod j.1 ∈ mx_tb ∧ Cond.selects j.1.cls j.1 j.1 ∈ mx_tb) ∨
   (c.2.1 = n ∧ decode i.2.1 pc = .ok (.invokestatic idx, 3) ∧ Cond.static j.1 ∈ mx_tb) ∨
   (c.2.1 = n + 1 ∧ c.2.2.1 = some none ∧ decode i.2.1 pc = .ok (.invokespecial idx, 3) ∧ j.1.name = "<init>" ∧ j.2.2.2.1 = none ∧ Cond.instanceMethod j.1 ∈ mx_tb))
def mx_ok (I : Nat → Option mx_I) (i : mx_I) (pc : Nat) : mx_E → Prop
  | .inl f => mx_W i.1.cls i.1.name i.2.1 i.2.2.1 i.2.2.2.1 i.2.2.2.2.1 i.2.2.2.2.2 pc f
  | .inr (.inl c) => ∃ j, I c.1 = some j ∧ mx_call i j pc c
  | .inr (.inr ty) => i.2.2.2.1 = ty ∧ mx_retd i.2.1 pc ty
def mx_Pre (D : va_G) (cI cZ : ClassId) (av : List Value) (h : mx_H) : Array Value → State → Prop :=
  va_Pc av (fun U => mx_R D cI cZ (fun _ => True) h.2.2.2 h U.heap ∧ va_K D mx_cl (mx_tys cI cZ) U ∧ (∀ w ∈ mx_nst, va_Nw w U) ∧ mx_Z (mx_A h) h.2.2.2 U U.heap)
def mx_Post (D : va_G) (cI cZ : ClassId) (h : mx_H) (v : Option Value) (hf : mx_H) : Array Value → State → Outcome → State → Prop := fun _ st oc t =>
  oc = .returned v ∧ mx_R D cI cZ (mx_A h) h.2.2.2 hf t.heap ∧ va_F (mx_A h) st t
def mx_rm (j : mx_I) (h hf : mx_H) : Room := { frames := j.2.2.2.2.1, cells := hf.1 - h.1, slots := hf.2.1 - h.2.1, locals := j.2.2.2.2.2 }
def mx_ws (j : mx_I) : List Cond := Cond.code j.1 j.2.1 j.2.2.1 j.2.2.2.1 :: mx_tb
def mx_Met (M : Nat → Nat → Option mx_E) (l : Launch) (D : va_G) (cI cZ : ClassId) (mi : Nat) (j : mx_I) : Prop :=
  ∀ (n : Nat) (av : List Value) (h : mx_H) (v : Option Value) (hf : mx_H), mx_exec M n mi 0 (lv_args 0 av) [] h = some (v, hf) → (lg_sl av).length ≤ j.2.2.1 →
    Met l j.1 (mx_ws j) (mx_rm j h hf) (mx_Pre D cI cZ av h) (mx_Post D cI cZ h v hf) (hf.1 - h.1) (hf.2.1 - h.2.1) (mx_A h)
def mx_mono (M : Nat → Nat → Option mx_E) : Prop := ∀ (mi pc : Nat) (f : mx_F), M mi pc = some (.inl f) → ∀ lv st h q, f lv st h = some q → h.1 ≤ q.2.2.2.1 ∧ h.2.1 ≤ q.2.2.2.2.1 ∧ q.2.2.2.2.2.2 = h.2.2.2
theorem mx_exec_mono {M : Nat → Nat → Option mx_E} (hM : mx_mono M) : ∀ (n mi pc : Nat) (lv : mx_L) (st : List Value) (h : mx_H) (r : Option Value × mx_H), mx_exec M n mi pc lv st h = some r → h.1 ≤ r.2.1 ∧ h.2.1 ≤ r.2.2.1 ∧ r.2.2.2.2 = h.2.2.2 := by
  intro n
  induction n with
  | zero => intro mi pc lv st h r e; simp [mx_exec] at e
  | succ n ih =>
    intro mi pc lv st h r e
    rw [mx_exec] at e
    cases hE : M mi pc with
    | none => rw [hE] at e; cases e
    | some x =>
      rw [hE] at e
      rcases x with f | c | ty
      · cases hq : f lv st h with
        | none => simp only [hq] at e; cases e
        | some q =>
          simp only [hq] at e
          obtain ⟨a1, a2, a3⟩ := hM mi pc f hE lv st h q hq
          obtain ⟨b1, b2, b3⟩ := ih _ _ _ _ _ _ e
          exact ⟨Nat.le_trans a1 b1, Nat.le_trans a2 b2, b3.trans a3⟩
      · by_cases hk : mx_cok c st h = true
        · simp only [hk, if_true] at e
          cases hq : mx_exec M n c.1 0 (lv_args 0 (st.take c.2.1).reverse) [] h with
          | none => simp only [hq] at e; cases e
          | some q =>
            simp only [hq] at e
            obtain ⟨a1, a2, a3⟩ := ih _ _ _ _ _ _ hq
            obtain ⟨b1, b2, b3⟩ := ih _ _ _ _ _ _ e
            exact ⟨Nat.le_trans a1 b1, Nat.le_trans a2 b2, b3.trans a3⟩
        · simp only [hk] at e
          cases e
      · simp only at e
        unfold mx_ret at e
        split at e
        · cases e; exact ⟨Nat.le_refl _, Nat.le_refl _, rfl⟩
        · split at e
          · cases e; exact ⟨Nat.le_refl _, Nat.le_refl _, rfl⟩
          · cases e
        · cases e
theorem mx_R.weak {D : va_G} {cI cZ : ClassId} {A B : Nat → Prop} {g : mx_G} {h : mx_H} {H : Heap} (hR : mx_R D cI cZ A g h H) (hB : ∀ q, A q → B q) : mx_R D cI cZ B g h H := ⟨hR.1, hR.2.1, fun a c hc => ⟨(hR.2.2 a c hc).1, hB a (hR.2.2 a c hc).2⟩⟩
theorem mx_R.self {D : va_G} {cI cZ : ClassId} {A : Nat → Prop} {g : mx_G} {h : mx_H} {H : Heap} (hR : mx_R D cI cZ A g h H) : mx_R D cI cZ (mx_A h) g h H := ⟨hR.1, hR.2.1, fun a c hc => ⟨(hR.2.2 a c hc).1, Or.inl (by rw [hc]; rfl)⟩⟩
theorem mx_Z.keep {A : Nat → Prop} {g : mx_G} {s : State} {H : Heap} {locs : List Loc} (hZ : mx_Z A g s s.heap) (hS : va_S A s.heap H locs) : mx_Z A g s H :=
  ⟨fun k q hk => (hZ.1 k q hk).kept hS.2.1, fun a n f hf => (hZ.2 a n f hf).kept hS.2.1⟩
theorem mx_Z.move {A : Nat → Prop} {g : mx_G} {s U : State} {H : Heap} (hv : s.vm.Alike U.vm) (hZ : mx_Z A g s H) : mx_Z A g U H :=
  ⟨fun k q hk => va_Z.moved hv (hZ.1 k q hk), fun a n f hf => va_T.moved hv (hZ.2 a n f hf)⟩
theorem mx_Z.less {A B : Nat → Prop} {g : mx_G} {s : State} {H : Heap} (hZ : mx_Z A g s H) (hB : ∀ q, B q → A q) : mx_Z B g s H :=
  ⟨fun k q hk => (hZ.1 k q hk).narrow hB, fun a n f hf => (hZ.2 a n f hf).narrow hB⟩
theorem mx_Pre.blind {D : va_G} {cI cZ : ClassId} {av : List Value} {h : mx_H} : FrameBlind (mx_Pre D cI cZ av h) := by
  intro a U g mk q
  obtain ⟨q0, qR, qK, qN, qZ⟩ := q
  exact ⟨q0, qR, va_K.moved (u := U) (U := U.calling g mk a) (Vm.Alike.refl U.vm) qK, mx_nst_same (u := U) (U := U.calling g mk a) rfl qN, mx_Z.move (s := U) (U := U.calling g mk a) (Vm.Alike.refl U.vm) qZ⟩
theorem mx_go {p : Program} {l : Launch} {e : Env} {R : Room} {s : State} {m : MethodId} {args : Array Value} {below : List Frame} {meth : Method} {c : Code} {H : Heap} {locs : List Loc} {cells slots mc ms pc : Nat} {Q : State → Prop} {ls : Array Slot} {st0 rest : List Value} {D : va_G} {cI cZ : ClassId} {A : Nat → Prop} {h hf : mx_H} {v : Option Value} {a : Array Value}
    (hr : va_Run p l e R s m args below meth c H locs cells slots mc ms (F0 m pc ls st0) rest (mx_Post D cI cZ h v hf a) (mx_A h)) (hS : va_S A s.heap H locs) (hA : ∀ q, mx_A h q → A q)
    (kk : ∀ (H1 : Heap) (locs1 : List Loc), mx_R D cI cZ A h.2.2.2 hf H1 → va_S A s.heap H1 locs1 → W p l e R s m args below meth c H1 locs1 (cells + mc) (slots + ms) Q (F0 m (pc + 3) ls (v.toList ++ rest))) : W p l e R s m args below meth c H locs cells slots Q (F0 m pc ls st0) := by
  intro T hT X
  obtain ⟨v1, st1, t, T', L, h0, X', hL, e1, e2, ⟨hv, hR1, hz, hk⟩, st⟩ := hr T hT X
  cases hv
  rw [h0] at hz hk
  have hS1 : va_S A s.heap T'.heap (locs ++ L) := by
    refine ⟨Nat.le_trans hS.1 (by rw [e1]; exact hz), fun q h1 h2 => ?_, fun q hq => ?_⟩
    · rw [e1, hk q (Nat.lt_of_lt_of_le h1 hS.1) (fun z => h2 (hA q z))]
      exact hS.2.1 q h1 h2
    · rcases List.mem_append.mp hq with h | h
      · exact hS.2.2 q h
      · exact hA _ (hL q h)
  obtain ⟨t2, a1, b1⟩ := kk T'.heap (locs ++ L) (by rw [e1]; exact hR1.weak hA) hS1 T' rfl X'
  exact ⟨t2, st t2 a1, b1⟩
end
section
theorem mx_rcv_spec {o : Option Nat} {av : List Value} {h : mx_H} (hk : mx_rcv (some o) av h = true) : ∃ (b : Nat) (As : List Value), av = .ref b :: As ∧ ∀ ci, o = some ci → ∃ fs, mx_get h b = some (.inr (ci, fs)) := by
  unfold mx_rcv at hk
  split at hk
  · rename_i heq; cases heq
  · rename_i heq
    cases heq
    exact ⟨_, _, rfl, fun ci h => by cases h⟩
  · rename_i ci b r heq
    cases heq
    refine ⟨b, r, rfl, fun ci' h' => ?_⟩
    cases h'
    split at hk
    · rename_i o ho
      have h1 : o.1 = ci := by simpa using hk
      exact ⟨o.2, by rw [ho, ← h1]⟩
    · cases hk
  · cases hk
theorem mx_take_rev {st : List Value} {k : Nat} {b : Nat} {As : List Value} (h : (st.take k).reverse = .ref b :: As) : st = As.reverse ++ .ref b :: st.drop k := by
  have h1 : st.take k = As.reverse ++ [.ref b] := by
    have := congrArg List.reverse h
    rw [List.reverse_reverse, List.reverse_cons] at this
    exact this
  calc st = st.take k ++ st.drop k := (List.take_append_drop k st).symm
    _ = As.reverse ++ .ref b :: st.drop k := by rw [h1, List.append_assoc]; rfl
set_option maxHeartbeats 1000000 in
theorem mx_do_call {p : Program} {l : Launch} {e : Env} {R : Room} {s : State} {m : MethodId} {args : Array Value} {below : List Frame} {meth : Method} {c : Code} {H : Heap} {locs : List Loc} {cells slots pc : Nat} {Q : State → Prop} {ls : Array Slot} {st : List Value} {lv : mx_L} {D : va_G} {cI cZ : ClassId} {A : Nat → Prop} {g : mx_G} {h hf : mx_H} {v : Option Value} {i j : mx_I} {cl : Nat × Nat × Option (Option Nat) × Nat}
    (X : mx_X i.1.cls i.1.name i.2.1 i.2.2.1 i.2.2.2.1 p R s m args meth c D cI cZ A g) (hfr : i.2.2.2.2.1 ≤ R.frames) (hlc : i.2.2.2.2.2 ≤ R.locals) (hcall : mx_call i j pc cl) (hok : mx_cok cl st h = true)
    (hM : Met l j.1 (mx_ws j) (mx_rm j h hf) (mx_Pre D cI cZ (st.take cl.2.1).reverse h) (mx_Post D cI cZ h v hf) (hf.1 - h.1) (hf.2.1 - h.2.1) (mx_A h))
    (hR : mx_R D cI cZ A g h H) (hS : va_S A s.heap H locs) (hl : lv_has ls i.2.2.1 lv) (hcells : cells + (hf.1 - h.1) ≤ R.cells) (hslots : slots + (hf.2.1 - h.2.1) ≤ R.slots)
    (kk : ∀ (H1 : Heap) (locs1 : List Loc), mx_R D cI cZ A g hf H1 → va_S A s.heap H1 locs1 → W p l e R s m args below meth c H1 locs1 (cells + (hf.1 - h.1)) (slots + (hf.2.1 - h.2.1)) Q (F0 m (pc + 3) ls (v.toList ++ st.drop cl.2.1))) : W p l e R s m args below meth c H locs cells slots Q (F0 m pc ls st) := by
  obtain ⟨hx, hb, hml, hr, hown, hts, hlk, hname, hK, hN, hZ, hA⟩ := X
  obtain ⟨c1, c2, c3, c4, c5, c6, n, idx, c7, c8, kind⟩ := hcall
  have hAA : ∀ q, mx_A h q → A q := by
    rintro q (h1 | h1)
    · obtain ⟨x, hc⟩ := Option.isSome_iff_exists.mp h1
      exact (hR.2.2 q x hc).2
    · exact hA q (Nat.le_trans (by rw [← hR.1]; exact hS.1) h1)
  have hgood : GoodIn mx_tb (mx_ws j) := by
    intro w hw
    rcases List.mem_cons.mp hw with rfl | hw
    · exact ⟨c4, (mx_tb_good _ c4).2⟩
    · exact ⟨hw, (mx_tb_good w hw).2⟩
  have hgeq : h.2.2.2 = g := hR.2.1
  have hpre : ∀ U : State, U.heap = H → s.WarmedH U.vm → mx_Pre D cI cZ (st.take cl.2.1).reverse h (st.take cl.2.1).reverse.toArray U := by
    intro U hU hW
    refine ⟨rfl, ?_, va_K.moved hW.alike hK, mx_nst_warm hW hN, ?_⟩
    · rw [hU, hgeq]; exact hR.weak (fun _ _ => trivial)
    · rw [hU, hgeq]; exact ((hZ.keep hS).move hW.alike).less hAA
  unfold mx_cok at hok
  simp only [Bool.and_eq_true, decide_eq_true_eq] at hok
  obtain ⟨k1, k2, k3, k4⟩ := hok
  have hlen : ((st.take cl.2.1).reverse).length = cl.2.1 := by rw [List.length_reverse, List.length_take]; omega
  have kk' : ∀ (H1 : Heap) (locs1 : List Loc), mx_R D cI cZ A h.2.2.2 hf H1 → va_S A s.heap H1 locs1 → W p l e R s m args below meth c H1 locs1 (cells + (hf.1 - h.1)) (slots + (hf.2.1 - h.2.1)) Q (F0 m (pc + 3) ls (v.toList ++ st.drop cl.2.1)) := by
    rw [hgeq]; exact kk
  have hrm : (mx_rm j h hf).frames + 1 ≤ R.frames ∧ 8 + (j.2.2.1 + 11) + (mx_rm j h hf).locals ≤ R.locals := ⟨Nat.le_trans c1 hfr, Nat.le_trans c2 hlc⟩
  rcases kind with ⟨e1, ⟨ci, N, T, hci, hcl⟩, hd, hi, hs⟩ | ⟨e1, hd, hs⟩ | ⟨e1, e2, hd, hnm, hret, hi⟩
  · rw [hci] at k4
    obtain ⟨b, As, hav, hfs⟩ := mx_rcv_spec k4
    obtain ⟨fs, hget⟩ := hfs ci rfl
    have hst := mx_take_rev hav
    rw [hav] at hM hpre hlen
    have hn : As.length = n := by simp at hlen; omega
    rcases c8 with hlk | ⟨host, hlk⟩
    · exact mx_go (va_runV (C := j.1.cls) (As := As) (rest := st.drop cl.2.1) (b := b) ⟨hx, hb, hml, hown, hts⟩ hM ⟨callB_of n hts hgood rfl rfl rfl (hts _ c5) (hts _ hlk) ⟨c6.1, c6.2, c7⟩ hrm, hts _ hi, hts _ hs⟩ ⟨mx_Pre.blind, va_recv hK (mx_P1 (hR.2.2 b _ hget).1) (q0 := 0) hcl rfl, hpre⟩ rfl hn hl.1 hst (by show 2 * 0 + _ ≤ 8; omega) hd ⟨hcells, hslots⟩) hS hAA kk'
    · exact mx_go (va_runVN (C := j.1.cls) (As := As) (rest := st.drop cl.2.1) (b := b) ⟨hx, hb, hml, hown, hts⟩ hM ⟨va_cnB n hts hgood rfl rfl rfl (hN _ hlk) (hts _ c5) ⟨c6.1, c6.2, c7⟩ hrm, hts _ hi, hts _ hs⟩ ⟨mx_Pre.blind, va_recv hK (mx_P1 (hR.2.2 b _ hget).1) (q0 := 0) hcl rfl, hpre⟩ rfl hn hl.1 hst (by show 2 * 0 + _ ≤ 8; omega) hd ⟨hcells, hslots⟩) hS hAA kk'
  · have hst : st = ((st.take cl.2.1).reverse).reverse ++ st.drop cl.2.1 := by rw [List.reverse_reverse, List.take_append_drop]
    rcases c8 with hlk | ⟨host, hlk⟩
    · exact mx_go (va_runS (As := (st.take cl.2.1).reverse) (rest := st.drop cl.2.1) ⟨hx, hb, hml, hown, hts⟩ hM ⟨callB_of n hts hgood rfl rfl rfl (hts _ c5) (hts _ hlk) ⟨c6.1, c6.2, c7⟩ hrm, hts _ hs⟩ ⟨mx_Pre.blind, hpre⟩ rfl (by rw [hlen, e1]) hl.1 hst (by show 2 * 0 + _ ≤ 8; omega) hd ⟨hcells, hslots⟩) hS hAA kk'
    · exact mx_go (va_runSN (As := (st.take cl.2.1).reverse) (rest := st.drop cl.2.1) ⟨hx, hb, hml, hown, hts⟩ hM ⟨va_cnB n hts hgood rfl rfl rfl (hN _ hlk) (hts _ c5) ⟨c6.1, c6.2, c7⟩ hrm, hts _ hs, trivial⟩ ⟨mx_Pre.blind, hpre⟩ rfl (by rw [hlen, e1]) hl.1 hst (by show 2 * 0 + _ ≤ 8; omega) hd ⟨hcells, hslots⟩) hS hAA kk'
  · rw [e2] at k4
    obtain ⟨b, As, hav, -⟩ := mx_rcv_spec k4
    have hst := mx_take_rev hav
    rw [hav] at hM hpre hlen
    have hn : As.length = n := by simp at hlen; omega
    rcases c8 with hlk | ⟨host, hlk⟩
    · have cb := callB_of (ws := mx_ws j) (rm := mx_rm j h hf) n hts hgood rfl rfl rfl (hts _ c5) (hts _ hlk) ⟨c6.1, c6.2, c7⟩ hrm
      rw [hret] at cb
      exact mx_go (va_runI (As := As) (rest := st.drop cl.2.1) (b := b) ⟨hx, hb, hml, hown, hts⟩ hM ⟨cb, hnm, hts _ hi⟩ ⟨mx_Pre.blind, hpre⟩ rfl hn hl.1 hst (by show 2 * 0 + _ ≤ 8; omega) hd ⟨hcells, hslots⟩) hS hAA kk'
    · have cb := va_cnB (ws := mx_ws j) (rm := mx_rm j h hf) (R := R) n hts hgood rfl rfl rfl (hN _ hlk) (hts _ c5) ⟨c6.1, c6.2, c7⟩ hrm
      rw [hret] at cb
      exact mx_go (va_runIN (As := As) (rest := st.drop cl.2.1) (b := b) ⟨hx, hb, hml, hown, hts⟩ hM ⟨cb, hnm, hts _ hi⟩ ⟨mx_Pre.blind, hpre⟩ rfl hn hl.1 hst (by show 2 * 0 + _ ≤ 8; omega) hd ⟨hcells, hslots⟩) hS hAA kk'
end
section
/-- a method whose every entry is sound has its contract, if those that it calls have theirs -/
theorem mx_method {M : Nat → Nat → Option mx_E} {I : Nat → Option mx_I} (hmono : mx_mono M) {l : Launch} {D : va_G} {cI cZ : ClassId} {mi : Nat} {i : mx_I} (hpl : plainName i.1.cls = true) (hok : ∀ (pc : Nat) (en : mx_E), M mi pc = some en → mx_ok I i pc en)
    (hrec : ∀ (mj : Nat) (j : mx_I), I mj = some j → j.2.2.2.2.1 < i.2.2.2.2.1 → mx_Met M l D cI cZ mj j) : mx_Met M l D cI cZ mi i := by
  intro n0 av h0 v hf hex0 hav
  refine Met.ofW (cc := i.2.1) (maxL := i.2.2.1) (ret := i.2.2.2.1) hpl rfl ?_
  intro p e s m args below meth c s₁ B hml hv
  obtain ⟨rfl, hR0, hK, hN, hZ⟩ := hv
  have hx := B.exec
  have hb := B.bytes
  have hr := B.returns
  have hts0 := atoms_spec (ws := mx_ws i) B.pre
  have hts : ∀ w ∈ mx_tb, w.before av.toArray s = true := fun w hw => hts0 w (List.mem_cons_of_mem _ hw)
  have hown : s.vm.findClass i.1.cls = some m.cls := findClass_of_methodNamed B.named
  have hlocks := B.notSynchronized
  have hin : meth.name = i.1.name := (name_of_methodNamed B.named B.method).1
  have hA : ∀ q, s.heap.size ≤ q → mx_A h0 q := fun q hq => Or.inr (by rw [← hR0.1]; exact hq)
  have X : mx_X i.1.cls i.1.name i.2.1 i.2.2.1 i.2.2.2.1 p (headSpec (mx_ws i) (mx_rm i h0 hf)).room s m av.toArray meth c D cI cZ (mx_A h0) h0.2.2.2 := ⟨hx, hb, hml, hr, hown, hts, hlocks, hin, hK, hN, hZ, hA⟩
  have run : ∀ (n pc : Nat) (lv : mx_L) (st : List Value) (h : mx_H), mx_exec M n mi pc lv st h = some (v, hf) → ∀ (H : Heap) (locs : List Loc) (ls : Array Slot), mx_R D cI cZ (mx_A h0) h0.2.2.2 h H → va_S (mx_A h0) s.heap H locs → lv_has ls i.2.2.1 lv → h0.1 ≤ h.1 → h0.2.1 ≤ h.2.1 →
      W p l e (headSpec (mx_ws i) (mx_rm i h0 hf)).room s m av.toArray below meth c H locs (h.1 - h0.1) (h.2.1 - h0.2.1) (MQ below (mx_Post D cI cZ h0 v hf) av.toArray s (hf.1 - h0.1) (hf.2.1 - h0.2.1) (mx_A h0)) (F0 m pc ls st) := by
    intro n
    induction n with
    | zero => intro pc lv st h hex; simp [mx_exec] at hex
    | succ n ih =>
      intro pc lv st h hex H locs ls hR hS hl hz1 hz2
      have hmn := mx_exec_mono hmono _ _ _ _ _ _ _ hex
      rw [mx_exec] at hex
      cases hE : M mi pc with
      | none => rw [hE] at hex; cases hex
      | some x =>
        rw [hE] at hex
        have hent := hok pc x hE
        rcases x with f | cl | ty
        · cases hq : f lv st h with
          | none => simp only [hq] at hex; cases hex
          | some q =>
            simp only [hq] at hex
            have m1 := hent.1 lv st h q hq
            have m2 := mx_exec_mono hmono _ _ _ _ _ _ _ hex
            dsimp only at m2
            have ea : h.1 - h0.1 + (q.2.2.2.1 - h.1) = q.2.2.2.1 - h0.1 := by omega
            have eb : h.2.1 - h0.2.1 + (q.2.2.2.2.1 - h.2.1) = q.2.2.2.2.1 - h0.2.1 := by omega
            refine hent.2 p l e _ s m av.toArray below meth c D cI cZ (mx_A h0) h0.2.2.2 _ (Nat.le_refl _) (Nat.le_refl _) X lv st h q hq H locs ls _ _ hR hS hl ?_ ?_ ?_
            · rw [ea]; show _ ≤ hf.1 - h0.1; omega
            · rw [eb]; show _ ≤ hf.2.1 - h0.2.1; omega
            · intro H' locs' ls' hR' hS' hl'
              rw [ea, eb]
              exact ih _ _ _ _ hex H' locs' ls' hR' hS' hl' (by omega) (by omega)
        · obtain ⟨j, hj, hcall⟩ := hent
          by_cases hk : mx_cok cl st h = true
          · simp only [hk, if_true] at hex
            cases hq : mx_exec M n cl.1 0 (lv_args 0 (st.take cl.2.1).reverse) [] h with
            | none => simp only [hq] at hex; cases hex
            | some q =>
              simp only [hq] at hex
              have m1 := mx_exec_mono hmono _ _ _ _ _ _ _ hq
              have m2 := mx_exec_mono hmono _ _ _ _ _ _ _ hex
              dsimp only at m2
              have ea : h.1 - h0.1 + (q.2.1 - h.1) = q.2.1 - h0.1 := by omega
              have eb : h.2.1 - h0.2.1 + (q.2.2.1 - h.2.1) = q.2.2.1 - h0.2.1 := by omega
              have hk2 := hk
              unfold mx_cok at hk2
              simp only [Bool.and_eq_true, decide_eq_true_eq] at hk2
              have hMj := hrec cl.1 j hj (by have := hcall.1; omega) n (st.take cl.2.1).reverse h q.1 q.2 hq (by rw [← hcall.2.2.1]; exact hk2.2.2.1)
              refine mx_do_call X (Nat.le_refl _) (Nat.le_refl _) hcall hk hMj hR hS hl ?_ ?_ ?_
              · rw [ea]; show _ ≤ hf.1 - h0.1; omega
              · rw [eb]; show _ ≤ hf.2.1 - h0.2.1; omega
              · intro H1 locs1 hR1 hS1
                rw [ea, eb]
                exact ih _ _ _ _ hex H1 locs1 ls hR1 hS1 hl (by omega) (by omega)
          · simp only [hk] at hex
            cases hex
        · obtain ⟨hty, hdec⟩ := hent
          simp only at hex
          have hr' : meth.sig.returnType = ty := hr.trans hty
          cases ty with
          | none =>
            unfold mx_ret at hex
            split at hex
            · cases hex
              exact W.vret hx hb hr' (fun t ht hW => ⟨rfl, by rw [ht]; exact hR, hS.F ht⟩) hS.2.2 hdec
            · rename_i heq; cases heq
            · cases hex
          | some ty =>
            have h9 : ∃ w, st = [w] ∧ mx_rok ty w = true ∧ v = some w ∧ hf = h := by
              unfold mx_ret at hex
              split at hex
              · rename_i heq; cases heq
              · rename_i ty' w heq
                cases heq
                split at hex
                · rename_i hk
                  cases hex
                  exact ⟨w, rfl, hk, rfl, rfl⟩
                · cases hex
              · cases hex
            obtain ⟨w, rfl, hrok, rfl, rfl⟩ := h9
            have hpost : ∀ t : State, t.heap = H → s.WarmedH t.vm → mx_Post D cI cZ h0 (some w) hf av.toArray s (.returned (some w)) t := fun t ht hW => ⟨rfl, by rw [ht]; exact hR, hS.F ht⟩
            unfold mx_rok at hrok
            split at hrok
            · exact W.aret hx hb hr' (Or.inl ⟨_, rfl⟩) (Or.inr ⟨_, rfl⟩) hpost hS.2.2 hdec
            · exact W.aret hx hb hr' (Or.inl ⟨_, rfl⟩) (Or.inl rfl) hpost hS.2.2 hdec
            · exact W.aret hx hb hr' (Or.inr ⟨_, rfl⟩) (Or.inr ⟨_, rfl⟩) hpost hS.2.2 hdec
            · exact W.aret hx hb hr' (Or.inr ⟨_, rfl⟩) (Or.inl rfl) hpost hS.2.2 hdec
            · exact W.lret hx hb hr' hpost hS.2.2 hdec
            · exact W.iret hx hb hr' hpost hS.2.2 hdec
            · exact W.zret hx hb hr' (by simpa using hrok) hpost hS.2.2 hdec
            · cases hrok
  have hl := lv_entry av (n := i.2.2.1) hav
  rw [lg_entry_eq]
  have h1 := run n0 0 (lv_args 0 av) [] h0 hex0 s.heap [] _ hR0.self va_S.rf hl (Nat.le_refl _) (Nat.le_refl _)
  rw [Nat.sub_self, Nat.sub_self] at h1
  exact h1
/-- all methods at once, by the frames that they need -/
theorem mx_sound {M : Nat → Nat → Option mx_E} {I : Nat → Option mx_I} (hmono : mx_mono M) {l : Launch} {D : va_G} {cI cZ : ClassId}
    (hok : ∀ (mi : Nat) (i : mx_I), I mi = some i → (plainName i.1.cls = true ∧ ∀ (pc : Nat) (en : mx_E), M mi pc = some en → mx_ok I i pc en) ∨ mx_Met M l D cI cZ mi i) : ∀ (mi : Nat) (i : mx_I), I mi = some i → mx_Met M l D cI cZ mi i := by
  have hd : ∀ (d mi : Nat) (i : mx_I), I mi = some i → i.2.2.2.2.1 < d → mx_Met M l D cI cZ mi i := by
    intro d
    induction d with
    | zero => intro mi i _ h; omega
    | succ d ih =>
      intro mi i hi hlt
      rcases hok mi i hi with ⟨h1, h2⟩ | h1
      · exact mx_method hmono h1 h2 (fun mj j hj hjl => ih mj j hj (by omega))
      · exact h1
  exact fun mi i hi => hd _ mi i hi (Nat.lt_succ_self _)
end
section
/-! System.arraycopy of ints -/
section SC
variable {p : Program} {l : Launch} {e : Env} {R : Room} {s : State} {m : MethodId} {args : Array Value} {below : List Frame} {meth : Method} {c : Code} {H : Heap} {locs : List Loc} {cells slots : Nat} {Q : State → Prop}
theorem mx_nn {z : Int32} (hz : ¬ z < 0) : z.toInt = (z.toNatClampNeg : Int) := by
  have h1 : (0 : Int) ≤ z.toInt := by simpa using Int32.le_iff_toInt_le.mp (Int32.not_lt.mp hz)
  show z.toInt = ((z.toInt.toNat : Nat) : Int)
  omega
theorem mx_Wcopy {cc : ByteArray} {pc : Nat} {ls : Array Slot} {rest : List Value} (hexec : p.tables.exec = Jvm.exec) (hb : c.code = cc) (hml : c.maxLocals = ls.size) {own : String} {idx : Nat} (hown : s.vm.findClass own = some m.cls) (hlink : (Cond.methodLink own idx arraycopyName).before args s = true) (hnat : (Cond.native arraycopyName).before args s = true) (hstat : (Cond.static arraycopyName).before args s = true) (hini : (Cond.initialized "java/lang/System").before args s = true)
    {cA : ClassId} (hArr : ArrOfT s cA .int) {a0 a n0 n1 : Nat} {f g : Nat → Int32} (h0 : H[a0]? = some (vp_cell cA (n0, .inl f))) (h9 : H[a]? = some (vp_cell cA (n1, .inl g))) {sp dp n : Int32} (h1 : ¬ sp < 0) (h2 : ¬ dp < 0) (h3 : ¬ n < 0) (h4 : sp.toNatClampNeg + n.toNatClampNeg ≤ n0) (h5 : dp.toNatClampNeg + n.toNatClampNeg ≤ n1)
    (hfr : 1 ≤ R.frames) (hlo : (rest.map fun v => v.category).sum + (nativeFrameWords "java/lang/System" "arraycopy" 5 + 11) ≤ R.locals) (hdg : decode cc pc = .ok (.invokestatic idx, 3))
    (kk : ∀ (H1 : Heap) (L : List Loc), (∀ q ∈ L, q.base = a) → H1[a]? = some (vp_cell cA (n1, .inl (va_cpy f g sp.toNatClampNeg dp.toNatClampNeg n.toNatClampNeg))) → H1.size = H.size → (∀ q : Nat, q ≠ a → H1[q]? = H[q]?) → W p l e R s m args below meth c H1 (locs ++ L) cells slots Q (F0 m (pc + 3) ls rest)) : W p l e R s m args below meth c H locs cells slots Q (F0 m pc ls (.int n :: .int dp :: .ref a :: .int sp :: .ref a0 :: rest)) := by
  intro T hT X
  obtain ⟨-, k0, hk0, cm0, hkk0⟩ := hArr n0 (fun j => .int (f j))
  obtain ⟨-, k1, hk1, cm1, hkk1⟩ := hArr n1 (fun j => .int (g j))
  have z0 : (vp_cell cA (n0, .inl f)).slots.size = n0 := arrV_size _ _ _
  have z1 : (vp_cell cA (n1, .inl g)).slots.size = n1 := arrV_size _ _ _
  obtain ⟨vm', X', step⟩ := X.arraycopy hexec hown hlink hnat hstat hini (src := a0) (dst := a) (cs := vp_cell cA (n0, .inl f)) (cd := vp_cell cA (n1, .inl g)) (srcPos := sp) (destPos := dp) (n := n) (by rw [hT]; exact h0) (by rw [hT]; exact h9)
    (fun _ h => by cases h) (fun _ h => by cases h) (fun h => by cases h) (fun h => by cases h) hk0 hk1 hkk0 hkk1 (by simp [refKind]) h1 h2 h3
    (by rw [mx_nn h1, mx_nn h3, z0]; omega) (by rw [mx_nn h2, mx_nn h3, z1]; omega)
    (fun vm₁ _ j hj => by
      have e1 : (vp_cell cA (n0, .inl f)).slots.getD (sp.toNatClampNeg + j) .null = .int (f (sp.toNatClampNeg + j)) := by
        rw [Array.getD_eq_getD_getElem?, show (vp_cell cA (n0, .inl f)).slots[sp.toNatClampNeg + j]? = some (.int (f (sp.toNatClampNeg + j))) from arrV_read _ _ (by omega)]
        rfl
      rw [e1]
      exact ⟨rfl, trivial⟩)
    (g := F0 m pc ls (.int n :: .int dp :: .ref a :: .int sp :: .ref a0 :: rest)) rfl (by rw [hml]) (rest := rest) rfl (by rw [hb]; exact hdg) hfr (by show 2 * 0 + _ + _ ≤ _; omega)
  have e1 : copied (vp_cell cA (n0, .inl f)) (vp_cell cA (n1, .inl g)) sp dp n = vp_cell cA (n1, .inl (va_cpy f g sp.toNatClampNeg dp.toNatClampNeg n.toNatClampNeg)) := va_copied (fun z => .int z) cA cA f g h4
  rw [e1] at X' step
  have hl : a < H.size := (Array.getElem?_eq_some_iff.mp h9).1
  have hheap : ((T.setVm vm').setCell a (vp_cell cA (n1, .inl (va_cpy f g sp.toNatClampNeg dp.toNatClampNeg n.toNatClampNeg)))).heap = H.setIfInBounds a (vp_cell cA (n1, .inl (va_cpy f g sp.toNatClampNeg dp.toNatClampNeg n.toNatClampNeg))) := by rw [← hT]; rfl
  obtain ⟨t, a1, b1⟩ := kk _ _ (fun q hq => by obtain ⟨z, -, hz⟩ := List.mem_map.mp hq; rw [← hz]) (by simp [Array.getElem?_setIfInBounds, hl]) (by simp) (fun q hq => by simp [Array.getElem?_setIfInBounds, Ne.symm hq]) _ hheap X'
  exact ⟨t, step t a1, b1⟩
end SC
def sx_copy (n : Nat) : mx_F := fun lv st h => match st with
  | .int k :: .int dp :: .ref b :: .int sp :: .ref a :: r => (match mx_get h a, mx_get h b with
    | some (.inl x), some (.inl y) => if x.1 = false ∧ y.1 = false ∧ ¬ sp < 0 ∧ ¬ dp < 0 ∧ ¬ k < 0 ∧ sp.toNatClampNeg + k.toNatClampNeg ≤ x.2.1 ∧ dp.toNatClampNeg + k.toNatClampNeg ≤ y.2.1 ∧ (r.map fun v => v.category).sum ≤ 8 then
        some (n, lv, r, mx_set h b (.inl (false, y.2.1, va_cpy x.2.2 y.2.2 sp.toNatClampNeg dp.toNatClampNeg k.toNatClampNeg))) else none
    | _, _ => none)
  | _ => none
theorem sx_copy_spec {n : Nat} {lv : mx_L} {st : List Value} {h : mx_H} {q : mx_S} (hq : sx_copy n lv st h = some q) : ∃ (k dp sp : Int32) (a b n0 n1 : Nat) (f g : Nat → Int32) (r : List Value), st = .int k :: .int dp :: .ref b :: .int sp :: .ref a :: r ∧ mx_get h a = some (.inl (false, n0, f)) ∧ mx_get h b = some (.inl (false, n1, g)) ∧ ¬ sp < 0 ∧ ¬ dp < 0 ∧ ¬ k < 0 ∧ sp.toNatClampNeg + k.toNatClampNeg ≤ n0 ∧ dp.toNatClampNeg + k.toNatClampNeg ≤ n1 ∧ (r.map fun v => v.category).sum ≤ 8 ∧ q = (n, lv, r, mx_set h b (.inl (false, n1, va_cpy f g sp.toNatClampNeg dp.toNatClampNeg k.toNatClampNeg))) := by
  unfold sx_copy at hq
  split at hq
  · rename_i k dp b sp a r
    split at hq
    · rename_i x y hx hy
      split at hq
      · rename_i hc
        cases hq
        exact ⟨k, dp, sp, a, b, x.2.1, y.2.1, x.2.2, y.2.2, r, rfl, by rw [hx, ← hc.1], by rw [hy, ← hc.2.1], hc.2.2.1, hc.2.2.2.1, hc.2.2.2.2.1, hc.2.2.2.2.2.1, hc.2.2.2.2.2.2.1, hc.2.2.2.2.2.2.2, rfl⟩
      · cases hq
    · cases hq
  · cases hq
theorem sn_copy {own ynm : String} {cc : ByteArray} {nL : Nat} {ret : Option FieldType} {fr lc pc idx : Nat} (hd : decode cc pc = .ok (.invokestatic idx, 3)) (hw : Cond.methodLink own idx arraycopyName ∈ mx_tb) (hw2 : Cond.native arraycopyName ∈ mx_tb) (hw3 : Cond.static arraycopyName ∈ mx_tb) (hw4 : Cond.initialized "java/lang/System" ∈ mx_tb) (h1 : 1 ≤ fr) (h2 : 8 + (nativeFrameWords "java/lang/System" "arraycopy" 5 + 11) ≤ lc) : mx_W own ynm cc nL ret fr lc pc (sx_copy (pc + 3)) := by
  refine ⟨fun lv st h q hq => ?_, ?_⟩
  · obtain ⟨k, dp, sp, a, b, n0, n1, f, g, r, -, -, -, -, -, -, -, -, -, rfl⟩ := sx_copy_spec hq
    exact ⟨Nat.le_refl _, Nat.le_refl _, rfl⟩
  · intro p l e R s m args below meth c D cI cZ A g0 Q hfr hlc X lv st h q hq H locs ls cells slots hR hS hl hcs hss kk
    obtain ⟨k, dp, sp, a, b, n0, n1, f, g, r, rfl, hga, hgb, c1, c2, c3, c4, c5, c6, rfl⟩ := sx_copy_spec hq
    obtain ⟨hx, hb, hml, hr, hown, hts, -, hname, hK, hN, hZ, hA⟩ := X
    obtain ⟨hat, -⟩ := hR.2.2 a _ hga
    obtain ⟨hbt, hAb⟩ := hR.2.2 b _ hgb
    refine mx_Wcopy hx hb (by rw [hml]; exact hl.1.symm) hown (hts _ hw) (hts _ hw2) (hts _ hw3) (hts _ hw4) (hK.2 0 _ rfl).1 hat hbt c1 c2 c3 c4 c5 (Nat.le_trans h1 hfr) (by omega) hd fun H1 L hL e1 e2 e3 => ?_
    have h1 := kk H1 (locs ++ L) ls (mx_R.set (c' := .inl (false, n1, va_cpy f g sp.toNatClampNeg dp.toNatClampNeg k.toNatClampNeg)) hR hgb e1 e2 e3) ⟨Nat.le_trans hS.1 (by rw [e2]; exact Nat.le_refl _), fun q g1 g2 => (e3 q (fun z => g2 (by rw [z]; exact hAb))).trans (hS.2.1 q g1 g2), fun q hq => (List.mem_append.mp hq).elim (hS.2.2 q) (fun z => by rw [hL q z]; exact hAb)⟩ hl
    simp only [mx_set, Nat.sub_self, Nat.add_zero] at h1
    exact h1
/-! Math.min of ints -/
def sx_min (n : Nat) : mx_F := fun lv st h => match st with
  | .int y :: .int x :: r => if (r.map fun v => v.category).sum ≤ 8 then some (n, lv, .int (if y < x then y else x) :: r, h) else none
  | _ => none
theorem sn_min {own ynm : String} {cc : ByteArray} {nL : Nat} {ret : Option FieldType} {fr lc pc idx : Nat} (hd : decode cc pc = .ok (.invokestatic idx, 3)) (hw : Cond.methodLink own idx Lib.Math.min.name ∈ mx_tb) (hw2 : Cond.static Lib.Math.min.name ∈ mx_tb) (hw3 : Cond.initialized "java/lang/Math" ∈ mx_tb) (hw4 : Cond.code Lib.Math.min.name Lib.Math.min.code 2 (some .int) ∈ mx_tb) (h1 : 1 ≤ fr) (h2 : 21 ≤ lc) : mx_W own ynm cc nL ret fr lc pc (sx_min (pc + 3)) := by
  have sp : ∀ lv st h q, sx_min (pc + 3) lv st h = some q → ∃ (x y : Int32) (r : List Value), st = .int y :: .int x :: r ∧ (r.map fun v => v.category).sum ≤ 8 ∧ q = (pc + 3, lv, .int (if y < x then y else x) :: r, h) := by
    intro lv st h q hq
    unfold sx_min at hq
    split at hq
    · rename_i y x r
      split at hq
      · rename_i hc
        cases hq
        exact ⟨x, y, r, rfl, hc, rfl⟩
      · cases hq
    · cases hq
  refine ⟨fun lv st h q hq => ?_, ?_⟩
  · obtain ⟨x, y, r, -, -, rfl⟩ := sp _ _ _ _ hq
    exact ⟨Nat.le_refl _, Nat.le_refl _, rfl⟩
  · intro p l e R s m args below meth c D cI cZ A g0 Q hfr hlc X lv st h q hq H locs ls cells slots hR hS hl hcs hss kk
    obtain ⟨x, y, r, rfl, hc, rfl⟩ := sp _ _ _ _ hq
    obtain ⟨hx, hb, hml, hr, hown, hts, -⟩ := X
    have k1 := kk H locs ls hR hS hl
    simp only [Nat.sub_self, Nat.add_zero] at hcs hss k1
    exact va_mmin hx hb (by rw [hml]; exact hl.1.symm) hown (hts _ hw) (hts _ hw2) (hts _ hw3) (hts _ hw4) (Nat.le_trans h1 hfr) (by omega) hcs hss hd k1
end
section
/-! THE WORDS, by their places (printed by wip/tables.py) -/
theorem tw_111 : Cond.arrayClass .int ∈ mx_tb := mx_tb_in (List.mem_of_getElem? (i := 111) (by decide +kernel)) (by decide +kernel)
theorem tw_253 : Cond.methodLink "java/util/Arrays" 304 ⟨"java/lang/Math", "min", "(II)I"⟩ ∈ mx_tb := mx_tb_in (List.mem_of_getElem? (i := 253) (by decide +kernel)) (by decide +kernel)
theorem tw_254 : Cond.static ⟨"java/lang/Math", "min", "(II)I"⟩ ∈ mx_tb := mx_tb_in (List.mem_of_getElem? (i := 254) (by decide +kernel)) (by decide +kernel)
theorem tw_76 : Cond.initialized "java/lang/Math" ∈ mx_tb := mx_tb_in (List.mem_of_getElem? (i := 76) (by decide +kernel)) (by decide +kernel)
set_option maxRecDepth 100000 in
theorem tw_255 : Cond.code ⟨"java/lang/Math", "min", "(II)I"⟩ prog_15_method_69_code 2 (some .int) ∈ mx_tb := mx_tb_in (List.mem_of_getElem? (i := 255) rfl) (by decide +kernel)
theorem tw_256 : Cond.methodLink "java/util/Arrays" 150 ⟨"java/lang/System", "arraycopy", "(Ljava/lang/Object;ILjava/lang/Object;II)V"⟩ ∈ mx_tb := mx_tb_in (List.mem_of_getElem? (i := 256) (by decide +kernel)) (by decide +kernel)
theorem tw_258 : Cond.native ⟨"java/lang/System", "arraycopy", "(Ljava/lang/Object;ILjava/lang/Object;II)V"⟩ ∈ mx_tb := mx_tb_in (List.mem_of_getElem? (i := 258) (by decide +kernel)) (by decide +kernel)
theorem tw_257 : Cond.static ⟨"java/lang/System", "arraycopy", "(Ljava/lang/Object;ILjava/lang/Object;II)V"⟩ ∈ mx_tb := mx_tb_in (List.mem_of_getElem? (i := 257) (by decide +kernel)) (by decide +kernel)
theorem tw_77 : Cond.initialized "java/lang/System" ∈ mx_tb := mx_tb_in (List.mem_of_getElem? (i := 77) (by decide +kernel)) (by decide +kernel)
theorem tw_103 : Cond.methodLink "RowCode$Numbers" 3 ⟨"java/lang/Object", "<init>", "()V"⟩ ∈ mx_tb := mx_tb_in (List.mem_of_getElem? (i := 103) (by decide +kernel)) (by decide +kernel)
theorem tw_90 : Cond.instanceMethod ⟨"java/lang/Object", "<init>", "()V"⟩ ∈ mx_tb := mx_tb_in (List.mem_of_getElem? (i := 90) (by decide +kernel)) (by decide +kernel)
theorem tw_104 : Cond.fieldLink "RowCode$Numbers" 9 "RowCode$Numbers" "items" "[I" ∈ mx_tb := mx_tb_in (List.mem_of_getElem? (i := 104) (by decide +kernel)) (by decide +kernel)
theorem tw_105 : Cond.fieldLink "RowCode$Numbers" 15 "RowCode$Numbers" "count" "I" ∈ mx_tb := mx_tb_in (List.mem_of_getElem? (i := 105) (by decide +kernel)) (by decide +kernel)
theorem tw_243 : Cond.methodLink "RowCode$Numbers" 19 ⟨"java/util/Arrays", "copyOf", "([II)[I"⟩ ∈ mx_tb := mx_tb_in (List.mem_of_getElem? (i := 243) (by decide +kernel)) (by decide +kernel)
theorem tw_239 : Cond.methodLink "RowCode$Numbers" 25 ⟨"RowCode$Numbers", "append", "(I)V"⟩ ∈ mx_tb := mx_tb_in (List.mem_of_getElem? (i := 239) (by decide +kernel)) (by decide +kernel)
theorem tw_534 : Cond.methodLink "RowCode$Arithmetic" 7 ⟨"RowCode$Arithmetic", "holds", "(III)Z"⟩ ∈ mx_tb := mx_tb_in (List.mem_of_getElem? (i := 534) (by decide +kernel)) (by decide +kernel)
theorem tw_219 : Cond.methodLink "RowCode$Memory" 3 ⟨"java/lang/Object", "<init>", "()V"⟩ ∈ mx_tb := mx_tb_in (List.mem_of_getElem? (i := 219) (by decide +kernel)) (by decide +kernel)
theorem tw_220 : Cond.fieldLink "RowCode$Memory" 9 "RowCode$Memory" "locals" "[I" ∈ mx_tb := mx_tb_in (List.mem_of_getElem? (i := 220) (by decide +kernel)) (by decide +kernel)
theorem tw_221 : Cond.fieldLink "RowCode$Memory" 15 "RowCode$Memory" "words" "[I" ∈ mx_tb := mx_tb_in (List.mem_of_getElem? (i := 221) (by decide +kernel)) (by decide +kernel)
theorem tw_703 : Jvm.Cond.constantLong "RowCode$Memory" 18 (64) ∈ mx_tb := mx_tb_in (List.mem_of_getElem? (i := 703) (by decide +kernel)) (by decide +kernel)
theorem tw_679 : Cond.methodLink "RowCode$Memory" 20 ⟨"RowCode$Memory", "hasLocal", "(I)Z"⟩ ∈ mx_tb := mx_tb_in (List.mem_of_getElem? (i := 679) (by decide +kernel)) (by decide +kernel)
theorem tw_708 : Cond.methodLink "RowCode$Memory" 24 ⟨"RowCode$Memory", "hasWord", "(J)Z"⟩ ∈ mx_tb := mx_tb_in (List.mem_of_getElem? (i := 708) (by decide +kernel)) (by decide +kernel)
theorem tw_97 : Cond.methodLink "RowCode$Code" 1 ⟨"java/lang/Object", "<init>", "()V"⟩ ∈ mx_tb := mx_tb_in (List.mem_of_getElem? (i := 97) (by decide +kernel)) (by decide +kernel)
theorem tw_98 : Cond.classLink "RowCode$Code" 7 "RowCode$Numbers" ∈ mx_tb := mx_tb_in (List.mem_of_getElem? (i := 98) (by decide +kernel)) (by decide +kernel)
theorem tw_99 : Cond.instantiable "RowCode$Numbers" 2 ∈ mx_tb := mx_tb_in (List.mem_of_getElem? (i := 99) (by decide +kernel)) (by decide +kernel)
theorem tw_68 : Cond.initialized "RowCode$Numbers" ∈ mx_tb := mx_tb_in (List.mem_of_getElem? (i := 68) (by decide +kernel)) (by decide +kernel)
theorem tw_100 : Cond.methodLinkNest "RowCode$Code" 9 ⟨"RowCode$Numbers", "<init>", "()V"⟩ "RowCode" ∈ mx_nst := mx_nst_in (List.mem_of_getElem? (i := 100) (by decide +kernel)) rfl
theorem tw_112 : Cond.fieldLink "RowCode$Code" 10 "RowCode$Code" "numbers" "LRowCode$Numbers;" ∈ mx_tb := mx_tb_in (List.mem_of_getElem? (i := 112) (by decide +kernel)) (by decide +kernel)
theorem tw_113 : Cond.fieldLink "RowCode$Code" 16 "RowCode$Code" "arguments" "LRowCode$Numbers;" ∈ mx_tb := mx_tb_in (List.mem_of_getElem? (i := 113) (by decide +kernel)) (by decide +kernel)
theorem tw_319 : Cond.methodLink "RowCode$Code" 19 ⟨"RowCode$Numbers", "size", "()I"⟩ ∈ mx_tb := mx_tb_in (List.mem_of_getElem? (i := 319) (by decide +kernel)) (by decide +kernel)
theorem tw_365 : Cond.methodLink "RowCode$Code" 23 ⟨"RowCode$Numbers", "at", "(I)I"⟩ ∈ mx_tb := mx_tb_in (List.mem_of_getElem? (i := 365) (by decide +kernel)) (by decide +kernel)
theorem tw_327 : Cond.methodLink "RowCode$Code" 27 ⟨"RowCode$Numbers", "append", "(I)V"⟩ ∈ mx_tb := mx_tb_in (List.mem_of_getElem? (i := 327) (by decide +kernel)) (by decide +kernel)
theorem tw_344 : Cond.methodLink "RowCode$Code" 31 ⟨"RowCode$Numbers", "cutTo", "(I)V"⟩ ∈ mx_tb := mx_tb_in (List.mem_of_getElem? (i := 344) (by decide +kernel)) (by decide +kernel)
theorem tw_510 : Cond.methodLink "RowCode$Code" 34 ⟨"RowCode$Numbers", "takeLast", "()I"⟩ ∈ mx_tb := mx_tb_in (List.mem_of_getElem? (i := 510) (by decide +kernel)) (by decide +kernel)
theorem tw_201 : Cond.methodLink "RowCode$Program" 3 ⟨"java/lang/Object", "<init>", "()V"⟩ ∈ mx_tb := mx_tb_in (List.mem_of_getElem? (i := 201) (by decide +kernel)) (by decide +kernel)
theorem tw_202 : Cond.classLink "RowCode$Program" 9 "RowCode$Numbers" ∈ mx_tb := mx_tb_in (List.mem_of_getElem? (i := 202) (by decide +kernel)) (by decide +kernel)
theorem tw_203 : Cond.methodLinkNest "RowCode$Program" 11 ⟨"RowCode$Numbers", "<init>", "()V"⟩ "RowCode" ∈ mx_nst := mx_nst_in (List.mem_of_getElem? (i := 203) (by decide +kernel)) rfl
theorem tw_204 : Cond.fieldLink "RowCode$Program" 12 "RowCode$Program" "numbers" "LRowCode$Numbers;" ∈ mx_tb := mx_tb_in (List.mem_of_getElem? (i := 204) (by decide +kernel)) (by decide +kernel)
theorem tw_205 : Cond.fieldLink "RowCode$Program" 18 "RowCode$Program" "arguments" "LRowCode$Numbers;" ∈ mx_tb := mx_tb_in (List.mem_of_getElem? (i := 205) (by decide +kernel)) (by decide +kernel)
theorem tw_206 : Cond.fieldLink "RowCode$Program" 21 "RowCode$Program" "places" "LRowCode$Numbers;" ∈ mx_tb := mx_tb_in (List.mem_of_getElem? (i := 206) (by decide +kernel)) (by decide +kernel)
theorem tw_645 : Cond.methodLink "RowCode$Program" 24 ⟨"RowCode$Numbers", "cutTo", "(I)V"⟩ ∈ mx_tb := mx_tb_in (List.mem_of_getElem? (i := 645) (by decide +kernel)) (by decide +kernel)
theorem tw_646 : Cond.methodLink "RowCode$Program" 28 ⟨"RowCode$Numbers", "refill", "(II)V"⟩ ∈ mx_tb := mx_tb_in (List.mem_of_getElem? (i := 646) (by decide +kernel)) (by decide +kernel)
theorem tw_647 : Cond.methodLink "RowCode$Program" 32 ⟨"RowCode$Numbers", "size", "()I"⟩ ∈ mx_tb := mx_tb_in (List.mem_of_getElem? (i := 647) (by decide +kernel)) (by decide +kernel)
theorem tw_648 : Cond.methodLink "RowCode$Program" 36 ⟨"RowCode$Numbers", "at", "(I)I"⟩ ∈ mx_tb := mx_tb_in (List.mem_of_getElem? (i := 648) (by decide +kernel)) (by decide +kernel)
theorem tw_649 : Cond.methodLink "RowCode$Program" 40 ⟨"RowCode$Program", "take", "(II)V"⟩ ∈ mx_tb := mx_tb_in (List.mem_of_getElem? (i := 649) (by decide +kernel)) (by decide +kernel)
theorem tw_653 : Cond.methodLink "RowCode$Program" 43 ⟨"RowCode$Numbers", "change", "(II)V"⟩ ∈ mx_tb := mx_tb_in (List.mem_of_getElem? (i := 653) (by decide +kernel)) (by decide +kernel)
theorem tw_654 : Cond.methodLink "RowCode$Program" 46 ⟨"RowCode$Numbers", "append", "(I)V"⟩ ∈ mx_tb := mx_tb_in (List.mem_of_getElem? (i := 654) (by decide +kernel)) (by decide +kernel)
theorem tw_232 : Cond.methodLink "RowCode$Machine" 3 ⟨"java/lang/Object", "<init>", "()V"⟩ ∈ mx_tb := mx_tb_in (List.mem_of_getElem? (i := 232) (by decide +kernel)) (by decide +kernel)
theorem tw_233 : Cond.classLink "RowCode$Machine" 9 "RowCode$Numbers" ∈ mx_tb := mx_tb_in (List.mem_of_getElem? (i := 233) (by decide +kernel)) (by decide +kernel)
theorem tw_234 : Cond.methodLinkNest "RowCode$Machine" 11 ⟨"RowCode$Numbers", "<init>", "()V"⟩ "RowCode" ∈ mx_nst := mx_nst_in (List.mem_of_getElem? (i := 234) (by decide +kernel)) rfl
theorem tw_260 : Cond.fieldLink "RowCode$Machine" 12 "RowCode$Machine" "slots" "LRowCode$Numbers;" ∈ mx_tb := mx_tb_in (List.mem_of_getElem? (i := 260) (by decide +kernel)) (by decide +kernel)
theorem tw_259 : Cond.fieldLink "RowCode$Machine" 18 "RowCode$Machine" "memory" "LRowCode$Memory;" ∈ mx_tb := mx_tb_in (List.mem_of_getElem? (i := 259) (by decide +kernel)) (by decide +kernel)
theorem tw_235 : Cond.methodLink "RowCode$Machine" 22 ⟨"RowCode$Numbers", "refill", "(II)V"⟩ ∈ mx_tb := mx_tb_in (List.mem_of_getElem? (i := 235) (by decide +kernel)) (by decide +kernel)
theorem tw_263 : Cond.fieldLink "RowCode$Machine" 26 "RowCode$Machine" "at" "I" ∈ mx_tb := mx_tb_in (List.mem_of_getElem? (i := 263) (by decide +kernel)) (by decide +kernel)
theorem tw_265 : Cond.fieldLink "RowCode$Machine" 30 "RowCode$Machine" "endValue" "I" ∈ mx_tb := mx_tb_in (List.mem_of_getElem? (i := 265) (by decide +kernel)) (by decide +kernel)
theorem tw_267 : Cond.fieldLink "RowCode$Machine" 33 "RowCode$Machine" "fuelLeft" "I" ∈ mx_tb := mx_tb_in (List.mem_of_getElem? (i := 267) (by decide +kernel)) (by decide +kernel)
theorem tw_264 : Cond.fieldLink "RowCode$Machine" 36 "RowCode$Machine" "state" "I" ∈ mx_tb := mx_tb_in (List.mem_of_getElem? (i := 264) (by decide +kernel)) (by decide +kernel)
theorem tw_659 : Cond.methodLink "RowCode$Machine" 39 ⟨"RowCode$Program", "size", "()I"⟩ ∈ mx_tb := mx_tb_in (List.mem_of_getElem? (i := 659) (by decide +kernel)) (by decide +kernel)
theorem tw_663 : Cond.methodLink "RowCode$Machine" 45 ⟨"RowCode$Program", "numberAt", "(I)I"⟩ ∈ mx_tb := mx_tb_in (List.mem_of_getElem? (i := 663) (by decide +kernel)) (by decide +kernel)
theorem tw_667 : Cond.methodLink "RowCode$Machine" 49 ⟨"RowCode$Program", "argumentAt", "(I)I"⟩ ∈ mx_tb := mx_tb_in (List.mem_of_getElem? (i := 667) (by decide +kernel)) (by decide +kernel)
theorem tw_671 : Cond.methodLink "RowCode$Machine" 52 ⟨"RowCode$Machine", "move", "(II)V"⟩ ∈ mx_tb := mx_tb_in (List.mem_of_getElem? (i := 671) (by decide +kernel)) (by decide +kernel)
theorem tw_684 : Cond.methodLink "RowCode$Machine" 55 ⟨"RowCode$Machine", "work", "(II)V"⟩ ∈ mx_tb := mx_tb_in (List.mem_of_getElem? (i := 684) (by decide +kernel)) (by decide +kernel)
theorem tw_744 : Cond.methodLink "RowCode$Machine" 58 ⟨"RowCode$Machine", "jumps", "(I)Z"⟩ ∈ mx_tb := mx_tb_in (List.mem_of_getElem? (i := 744) (by decide +kernel)) (by decide +kernel)
theorem tw_261 : Cond.fieldLink "RowCode$Machine" 62 "RowCode$Machine" "a" "I" ∈ mx_tb := mx_tb_in (List.mem_of_getElem? (i := 261) (by decide +kernel)) (by decide +kernel)
theorem tw_262 : Cond.fieldLink "RowCode$Machine" 65 "RowCode$Machine" "b" "I" ∈ mx_tb := mx_tb_in (List.mem_of_getElem? (i := 262) (by decide +kernel)) (by decide +kernel)
theorem tw_675 : Cond.methodLink "RowCode$Machine" 68 ⟨"RowCode$Memory", "localAt", "(I)I"⟩ ∈ mx_tb := mx_tb_in (List.mem_of_getElem? (i := 675) (by decide +kernel)) (by decide +kernel)
theorem tw_682 : Cond.methodLink "RowCode$Machine" 73 ⟨"RowCode$Numbers", "at", "(I)I"⟩ ∈ mx_tb := mx_tb_in (List.mem_of_getElem? (i := 682) (by decide +kernel)) (by decide +kernel)
theorem tw_683 : Cond.methodLink "RowCode$Machine" 75 ⟨"RowCode$Numbers", "change", "(II)V"⟩ ∈ mx_tb := mx_tb_in (List.mem_of_getElem? (i := 683) (by decide +kernel)) (by decide +kernel)
theorem tw_748 : Cond.methodLink "RowCode$Machine" 78 ⟨"RowCode$Arithmetic", "holds", "(III)Z"⟩ ∈ mx_tb := mx_tb_in (List.mem_of_getElem? (i := 748) (by decide +kernel)) (by decide +kernel)
theorem tw_688 : Cond.methodLink "RowCode$Machine" 84 ⟨"RowCode$Memory", "changeLocal", "(II)V"⟩ ∈ mx_tb := mx_tb_in (List.mem_of_getElem? (i := 688) (by decide +kernel)) (by decide +kernel)
theorem tw_692 : Cond.methodLink "RowCode$Machine" 87 ⟨"RowCode$Machine", "fetch", "()V"⟩ ∈ mx_tb := mx_tb_in (List.mem_of_getElem? (i := 692) (by decide +kernel)) (by decide +kernel)
theorem tw_709 : Cond.methodLink "RowCode$Machine" 90 ⟨"RowCode$Machine", "store", "()V"⟩ ∈ mx_tb := mx_tb_in (List.mem_of_getElem? (i := 709) (by decide +kernel)) (by decide +kernel)
theorem tw_717 : Cond.methodLink "RowCode$Machine" 93 ⟨"RowCode$Machine", "combine", "(I)V"⟩ ∈ mx_tb := mx_tb_in (List.mem_of_getElem? (i := 717) (by decide +kernel)) (by decide +kernel)
theorem tw_723 : Cond.methodLink "RowCode$Machine" 97 ⟨"RowCode$Arithmetic", "compare", "(III)I"⟩ ∈ mx_tb := mx_tb_in (List.mem_of_getElem? (i := 723) (by decide +kernel)) (by decide +kernel)
theorem tw_724 : Cond.methodLink "RowCode$Machine" 101 ⟨"RowCode$Machine", "relateAndKeep", "(I)V"⟩ ∈ mx_tb := mx_tb_in (List.mem_of_getElem? (i := 724) (by decide +kernel)) (by decide +kernel)
theorem tw_728 : Cond.methodLink "RowCode$Machine" 104 ⟨"RowCode$Machine", "fetchByte", "()V"⟩ ∈ mx_tb := mx_tb_in (List.mem_of_getElem? (i := 728) (by decide +kernel)) (by decide +kernel)
theorem tw_736 : Cond.methodLink "RowCode$Machine" 107 ⟨"RowCode$Machine", "storeByte", "(I)V"⟩ ∈ mx_tb := mx_tb_in (List.mem_of_getElem? (i := 736) (by decide +kernel)) (by decide +kernel)
theorem tw_740 : Cond.methodLink "RowCode$Machine" 110 ⟨"RowCode$Machine", "pay", "()V"⟩ ∈ mx_tb := mx_tb_in (List.mem_of_getElem? (i := 740) (by decide +kernel)) (by decide +kernel)
theorem tw_700 : Cond.methodLink "RowCode$Machine" 113 ⟨"RowCode$Memory", "hasWord", "(J)Z"⟩ ∈ mx_tb := mx_tb_in (List.mem_of_getElem? (i := 700) (by decide +kernel)) (by decide +kernel)
theorem tw_696 : Cond.methodLink "RowCode$Machine" 117 ⟨"RowCode$Machine", "reaches", "(J)Z"⟩ ∈ mx_tb := mx_tb_in (List.mem_of_getElem? (i := 696) (by decide +kernel)) (by decide +kernel)
theorem tw_704 : Cond.methodLink "RowCode$Machine" 120 ⟨"RowCode$Memory", "wordAt", "(I)I"⟩ ∈ mx_tb := mx_tb_in (List.mem_of_getElem? (i := 704) (by decide +kernel)) (by decide +kernel)
theorem tw_713 : Cond.methodLink "RowCode$Machine" 123 ⟨"RowCode$Memory", "changeWord", "(II)V"⟩ ∈ mx_tb := mx_tb_in (List.mem_of_getElem? (i := 713) (by decide +kernel)) (by decide +kernel)
theorem tw_721 : Cond.methodLink "RowCode$Machine" 126 ⟨"RowCode$Arithmetic", "divides", "(I)Z"⟩ ∈ mx_tb := mx_tb_in (List.mem_of_getElem? (i := 721) (by decide +kernel)) (by decide +kernel)
theorem tw_722 : Cond.methodLink "RowCode$Machine" 129 ⟨"RowCode$Arithmetic", "calculate", "(III)I"⟩ ∈ mx_tb := mx_tb_in (List.mem_of_getElem? (i := 722) (by decide +kernel)) (by decide +kernel)
theorem tw_732 : Cond.methodLink "RowCode$Machine" 132 ⟨"RowCode$Machine", "byteAddress", "()J"⟩ ∈ mx_tb := mx_tb_in (List.mem_of_getElem? (i := 732) (by decide +kernel)) (by decide +kernel)
theorem tw_124 : Cond.methodLink "RowCode$Judge" 3 ⟨"java/lang/Object", "<init>", "()V"⟩ ∈ mx_tb := mx_tb_in (List.mem_of_getElem? (i := 124) (by decide +kernel)) (by decide +kernel)
theorem tw_125 : Cond.classLink "RowCode$Judge" 9 "RowCode$Numbers" ∈ mx_tb := mx_tb_in (List.mem_of_getElem? (i := 125) (by decide +kernel)) (by decide +kernel)
theorem tw_126 : Cond.methodLinkNest "RowCode$Judge" 11 ⟨"RowCode$Numbers", "<init>", "()V"⟩ "RowCode" ∈ mx_nst := mx_nst_in (List.mem_of_getElem? (i := 126) (by decide +kernel)) rfl
theorem tw_128 : Cond.fieldLink "RowCode$Judge" 12 "RowCode$Judge" "places" "LRowCode$Numbers;" ∈ mx_tb := mx_tb_in (List.mem_of_getElem? (i := 128) (by decide +kernel)) (by decide +kernel)
theorem tw_129 : Cond.fieldLink "RowCode$Judge" 18 "RowCode$Judge" "depths" "LRowCode$Numbers;" ∈ mx_tb := mx_tb_in (List.mem_of_getElem? (i := 129) (by decide +kernel)) (by decide +kernel)
theorem tw_130 : Cond.fieldLink "RowCode$Judge" 21 "RowCode$Judge" "comers" "LRowCode$Numbers;" ∈ mx_tb := mx_tb_in (List.mem_of_getElem? (i := 130) (by decide +kernel)) (by decide +kernel)
theorem tw_131 : Cond.fieldLink "RowCode$Judge" 24 "RowCode$Judge" "waiting" "LRowCode$Numbers;" ∈ mx_tb := mx_tb_in (List.mem_of_getElem? (i := 131) (by decide +kernel)) (by decide +kernel)
theorem tw_127 : Cond.fieldLink "RowCode$Judge" 27 "RowCode$Judge" "code" "LRowCode$Code;" ∈ mx_tb := mx_tb_in (List.mem_of_getElem? (i := 127) (by decide +kernel)) (by decide +kernel)
theorem tw_132 : Cond.fieldLink "RowCode$Judge" 31 "RowCode$Judge" "isJudged" "Z" ∈ mx_tb := mx_tb_in (List.mem_of_getElem? (i := 132) (by decide +kernel)) (by decide +kernel)
theorem tw_356 : Cond.methodLink "RowCode$Judge" 35 ⟨"RowCode$Code", "size", "()I"⟩ ∈ mx_tb := mx_tb_in (List.mem_of_getElem? (i := 356) (by decide +kernel)) (by decide +kernel)
theorem tw_357 : Cond.methodLink "RowCode$Judge" 41 ⟨"RowCode$Judge", "argumentsFit", "()Z"⟩ ∈ mx_tb := mx_tb_in (List.mem_of_getElem? (i := 357) (by decide +kernel)) (by decide +kernel)
theorem tw_375 : Cond.methodLink "RowCode$Judge" 45 ⟨"RowCode$Judge", "labelsAreOnce", "()Z"⟩ ∈ mx_tb := mx_tb_in (List.mem_of_getElem? (i := 375) (by decide +kernel)) (by decide +kernel)
theorem tw_385 : Cond.methodLink "RowCode$Judge" 48 ⟨"RowCode$Judge", "goalsAreThere", "()Z"⟩ ∈ mx_tb := mx_tb_in (List.mem_of_getElem? (i := 385) (by decide +kernel)) (by decide +kernel)
theorem tw_395 : Cond.methodLink "RowCode$Judge" 51 ⟨"RowCode$Judge", "waysAgree", "()Z"⟩ ∈ mx_tb := mx_tb_in (List.mem_of_getElem? (i := 395) (by decide +kernel)) (by decide +kernel)
theorem tw_429 : Cond.methodLink "RowCode$Judge" 54 ⟨"RowCode$Judge", "roundsSpend", "()Z"⟩ ∈ mx_tb := mx_tb_in (List.mem_of_getElem? (i := 429) (by decide +kernel)) (by decide +kernel)
theorem tw_133 : Cond.fieldLink "RowCode$Judge" 57 "RowCode$Judge" "isRight" "Z" ∈ mx_tb := mx_tb_in (List.mem_of_getElem? (i := 133) (by decide +kernel)) (by decide +kernel)
theorem tw_380 : Cond.methodLink "RowCode$Judge" 60 ⟨"RowCode$Numbers", "at", "(I)I"⟩ ∈ mx_tb := mx_tb_in (List.mem_of_getElem? (i := 380) (by decide +kernel)) (by decide +kernel)
theorem tw_361 : Cond.methodLink "RowCode$Judge" 64 ⟨"RowCode$Code", "numberAt", "(I)I"⟩ ∈ mx_tb := mx_tb_in (List.mem_of_getElem? (i := 361) (by decide +kernel)) (by decide +kernel)
theorem tw_369 : Cond.fieldLinkNest "RowCode$Judge" 67 "RowCode" "GREATEST" "[I" "RowCode" ∈ mx_nst := mx_nst_in (List.mem_of_getElem? (i := 369) (by decide +kernel)) rfl
theorem tw_371 : Cond.methodLink "RowCode$Judge" 71 ⟨"RowCode$Code", "argumentAt", "(I)I"⟩ ∈ mx_tb := mx_tb_in (List.mem_of_getElem? (i := 371) (by decide +kernel)) (by decide +kernel)
theorem tw_379 : Cond.methodLink "RowCode$Judge" 74 ⟨"RowCode$Numbers", "refill", "(II)V"⟩ ∈ mx_tb := mx_tb_in (List.mem_of_getElem? (i := 379) (by decide +kernel)) (by decide +kernel)
theorem tw_381 : Cond.methodLink "RowCode$Judge" 78 ⟨"RowCode$Numbers", "change", "(II)V"⟩ ∈ mx_tb := mx_tb_in (List.mem_of_getElem? (i := 381) (by decide +kernel)) (by decide +kernel)
theorem tw_389 : Cond.methodLinkNest "RowCode$Judge" 81 ⟨"RowCode", "goesToLabel", "(I)Z"⟩ "RowCode" ∈ mx_nst := mx_nst_in (List.mem_of_getElem? (i := 389) (by decide +kernel)) rfl
theorem tw_422 : Cond.methodLinkNest "RowCode$Judge" 85 ⟨"RowCode", "endsWay", "(I)Z"⟩ "RowCode" ∈ mx_nst := mx_nst_in (List.mem_of_getElem? (i := 422) (by decide +kernel)) rfl
theorem tw_399 : Cond.methodLink "RowCode$Judge" 88 ⟨"RowCode$Numbers", "cutTo", "(I)V"⟩ ∈ mx_tb := mx_tb_in (List.mem_of_getElem? (i := 399) (by decide +kernel)) (by decide +kernel)
theorem tw_400 : Cond.methodLink "RowCode$Judge" 92 ⟨"RowCode$Judge", "arrives", "(II)Z"⟩ ∈ mx_tb := mx_tb_in (List.mem_of_getElem? (i := 400) (by decide +kernel)) (by decide +kernel)
theorem tw_404 : Cond.methodLink "RowCode$Judge" 96 ⟨"RowCode$Numbers", "size", "()I"⟩ ∈ mx_tb := mx_tb_in (List.mem_of_getElem? (i := 404) (by decide +kernel)) (by decide +kernel)
theorem tw_406 : Cond.methodLink "RowCode$Judge" 97 ⟨"RowCode$Numbers", "takeLast", "()I"⟩ ∈ mx_tb := mx_tb_in (List.mem_of_getElem? (i := 406) (by decide +kernel)) (by decide +kernel)
theorem tw_410 : Cond.methodLink "RowCode$Judge" 100 ⟨"RowCode$Judge", "leavesRightly", "(I)Z"⟩ ∈ mx_tb := mx_tb_in (List.mem_of_getElem? (i := 410) (by decide +kernel)) (by decide +kernel)
theorem tw_414 : Cond.fieldLinkNest "RowCode$Judge" 103 "RowCode" "TAKES" "[I" "RowCode" ∈ mx_nst := mx_nst_in (List.mem_of_getElem? (i := 414) (by decide +kernel)) rfl
theorem tw_416 : Cond.fieldLinkNest "RowCode$Judge" 106 "RowCode" "GIVES" "[I" "RowCode" ∈ mx_nst := mx_nst_in (List.mem_of_getElem? (i := 416) (by decide +kernel)) rfl
theorem tw_418 : Cond.methodLink "RowCode$Judge" 109 ⟨"RowCode$Judge", "following", "(I)I"⟩ ∈ mx_tb := mx_tb_in (List.mem_of_getElem? (i := 418) (by decide +kernel)) (by decide +kernel)
theorem tw_425 : Cond.methodLink "RowCode$Judge" 112 ⟨"RowCode$Judge", "goal", "(I)I"⟩ ∈ mx_tb := mx_tb_in (List.mem_of_getElem? (i := 425) (by decide +kernel)) (by decide +kernel)
theorem tw_405 : Cond.methodLink "RowCode$Judge" 115 ⟨"RowCode$Numbers", "append", "(I)V"⟩ ∈ mx_tb := mx_tb_in (List.mem_of_getElem? (i := 405) (by decide +kernel)) (by decide +kernel)
theorem tw_433 : Cond.methodLink "RowCode$Judge" 118 ⟨"RowCode$Judge", "isFree", "(I)Z"⟩ ∈ mx_tb := mx_tb_in (List.mem_of_getElem? (i := 433) (by decide +kernel)) (by decide +kernel)
theorem tw_437 : Cond.methodLink "RowCode$Judge" 121 ⟨"RowCode$Judge", "countComer", "(I)V"⟩ ∈ mx_tb := mx_tb_in (List.mem_of_getElem? (i := 437) (by decide +kernel)) (by decide +kernel)
theorem tw_441 : Cond.methodLink "RowCode$Judge" 124 ⟨"RowCode$Judge", "loseComer", "(I)V"⟩ ∈ mx_tb := mx_tb_in (List.mem_of_getElem? (i := 441) (by decide +kernel)) (by decide +kernel)
theorem tw_154 : Cond.methodLink "RowCode$Improver" 3 ⟨"java/lang/Object", "<init>", "()V"⟩ ∈ mx_tb := mx_tb_in (List.mem_of_getElem? (i := 154) (by decide +kernel)) (by decide +kernel)
theorem tw_155 : Cond.classLink "RowCode$Improver" 9 "RowCode$Numbers" ∈ mx_tb := mx_tb_in (List.mem_of_getElem? (i := 155) (by decide +kernel)) (by decide +kernel)
theorem tw_156 : Cond.methodLinkNest "RowCode$Improver" 11 ⟨"RowCode$Numbers", "<init>", "()V"⟩ "RowCode" ∈ mx_nst := mx_nst_in (List.mem_of_getElem? (i := 156) (by decide +kernel)) rfl
theorem tw_159 : Cond.fieldLink "RowCode$Improver" 12 "RowCode$Improver" "places" "LRowCode$Numbers;" ∈ mx_tb := mx_tb_in (List.mem_of_getElem? (i := 159) (by decide +kernel)) (by decide +kernel)
theorem tw_160 : Cond.fieldLink "RowCode$Improver" 18 "RowCode$Improver" "uses" "LRowCode$Numbers;" ∈ mx_tb := mx_tb_in (List.mem_of_getElem? (i := 160) (by decide +kernel)) (by decide +kernel)
theorem tw_157 : Cond.classLink "RowCode$Improver" 21 "RowCode$Code" ∈ mx_tb := mx_tb_in (List.mem_of_getElem? (i := 157) (by decide +kernel)) (by decide +kernel)
theorem tw_93 : Cond.instantiable "RowCode$Code" 2 ∈ mx_tb := mx_tb_in (List.mem_of_getElem? (i := 93) (by decide +kernel)) (by decide +kernel)
theorem tw_67 : Cond.initialized "RowCode$Code" ∈ mx_tb := mx_tb_in (List.mem_of_getElem? (i := 67) (by decide +kernel)) (by decide +kernel)
theorem tw_158 : Cond.methodLinkNest "RowCode$Improver" 23 ⟨"RowCode$Code", "<init>", "()V"⟩ "RowCode" ∈ mx_nst := mx_nst_in (List.mem_of_getElem? (i := 158) (by decide +kernel)) rfl
theorem tw_161 : Cond.fieldLink "RowCode$Improver" 24 "RowCode$Improver" "from" "LRowCode$Code;" ∈ mx_tb := mx_tb_in (List.mem_of_getElem? (i := 161) (by decide +kernel)) (by decide +kernel)
theorem tw_162 : Cond.fieldLink "RowCode$Improver" 28 "RowCode$Improver" "into" "LRowCode$Code;" ∈ mx_tb := mx_tb_in (List.mem_of_getElem? (i := 162) (by decide +kernel)) (by decide +kernel)
theorem tw_453 : Cond.methodLink "RowCode$Improver" 31 ⟨"RowCode$Improver", "copyReached", "(LRowCode$Code;LRowCode$Judge;)V"⟩ ∈ mx_tb := mx_tb_in (List.mem_of_getElem? (i := 453) (by decide +kernel)) (by decide +kernel)
theorem tw_466 : Cond.methodLink "RowCode$Improver" 35 ⟨"RowCode$Improver", "findPlaces", "()V"⟩ ∈ mx_tb := mx_tb_in (List.mem_of_getElem? (i := 466) (by decide +kernel)) (by decide +kernel)
theorem tw_472 : Cond.methodLink "RowCode$Improver" 38 ⟨"RowCode$Improver", "countUses", "()V"⟩ ∈ mx_tb := mx_tb_in (List.mem_of_getElem? (i := 472) (by decide +kernel)) (by decide +kernel)
theorem tw_482 : Cond.methodLink "RowCode$Improver" 41 ⟨"RowCode$Improver", "rewrite", "()V"⟩ ∈ mx_tb := mx_tb_in (List.mem_of_getElem? (i := 482) (by decide +kernel)) (by decide +kernel)
theorem tw_457 : Cond.methodLink "RowCode$Improver" 44 ⟨"RowCode$Code", "cutTo", "(I)V"⟩ ∈ mx_tb := mx_tb_in (List.mem_of_getElem? (i := 457) (by decide +kernel)) (by decide +kernel)
theorem tw_458 : Cond.methodLink "RowCode$Improver" 48 ⟨"RowCode$Code", "size", "()I"⟩ ∈ mx_tb := mx_tb_in (List.mem_of_getElem? (i := 458) (by decide +kernel)) (by decide +kernel)
theorem tw_459 : Cond.methodLink "RowCode$Improver" 52 ⟨"RowCode$Code", "numberAt", "(I)I"⟩ ∈ mx_tb := mx_tb_in (List.mem_of_getElem? (i := 459) (by decide +kernel)) (by decide +kernel)
theorem tw_460 : Cond.methodLink "RowCode$Improver" 56 ⟨"RowCode$Judge", "isReached", "(I)Z"⟩ ∈ mx_tb := mx_tb_in (List.mem_of_getElem? (i := 460) (by decide +kernel)) (by decide +kernel)
theorem tw_464 : Cond.methodLink "RowCode$Improver" 62 ⟨"RowCode$Code", "argumentAt", "(I)I"⟩ ∈ mx_tb := mx_tb_in (List.mem_of_getElem? (i := 464) (by decide +kernel)) (by decide +kernel)
theorem tw_465 : Cond.methodLink "RowCode$Improver" 65 ⟨"RowCode$Code", "append", "(II)V"⟩ ∈ mx_tb := mx_tb_in (List.mem_of_getElem? (i := 465) (by decide +kernel)) (by decide +kernel)
theorem tw_470 : Cond.methodLink "RowCode$Improver" 69 ⟨"RowCode$Numbers", "refill", "(II)V"⟩ ∈ mx_tb := mx_tb_in (List.mem_of_getElem? (i := 470) (by decide +kernel)) (by decide +kernel)
theorem tw_471 : Cond.methodLink "RowCode$Improver" 72 ⟨"RowCode$Numbers", "change", "(II)V"⟩ ∈ mx_tb := mx_tb_in (List.mem_of_getElem? (i := 471) (by decide +kernel)) (by decide +kernel)
theorem tw_476 : Cond.methodLinkNest "RowCode$Improver" 75 ⟨"RowCode", "goesToLabel", "(I)Z"⟩ "RowCode" ∈ mx_nst := mx_nst_in (List.mem_of_getElem? (i := 476) (by decide +kernel)) rfl
theorem tw_477 : Cond.methodLink "RowCode$Improver" 78 ⟨"RowCode$Improver", "farthest", "(I)I"⟩ ∈ mx_tb := mx_tb_in (List.mem_of_getElem? (i := 477) (by decide +kernel)) (by decide +kernel)
theorem tw_481 : Cond.methodLink "RowCode$Improver" 81 ⟨"RowCode$Numbers", "at", "(I)I"⟩ ∈ mx_tb := mx_tb_in (List.mem_of_getElem? (i := 481) (by decide +kernel)) (by decide +kernel)
theorem tw_486 : Cond.methodLink "RowCode$Improver" 84 ⟨"RowCode$Improver", "folds", "(II)Z"⟩ ∈ mx_tb := mx_tb_in (List.mem_of_getElem? (i := 486) (by decide +kernel)) (by decide +kernel)
theorem tw_494 : Cond.methodLink "RowCode$Improver" 88 ⟨"RowCode$Code", "lastNumber", "(I)I"⟩ ∈ mx_tb := mx_tb_in (List.mem_of_getElem? (i := 494) (by decide +kernel)) (by decide +kernel)
theorem tw_553 : Cond.methodLinkNest "RowCode$Improver" 91 ⟨"RowCode", "endsWay", "(I)Z"⟩ "RowCode" ∈ mx_nst := mx_nst_in (List.mem_of_getElem? (i := 553) (by decide +kernel)) rfl
theorem tw_490 : Cond.methodLink "RowCode$Improver" 94 ⟨"RowCode$Improver", "foldsOne", "(I)Z"⟩ ∈ mx_tb := mx_tb_in (List.mem_of_getElem? (i := 490) (by decide +kernel)) (by decide +kernel)
theorem tw_514 : Cond.methodLink "RowCode$Improver" 97 ⟨"RowCode$Improver", "foldsCalculation", "(I)Z"⟩ ∈ mx_tb := mx_tb_in (List.mem_of_getElem? (i := 514) (by decide +kernel)) (by decide +kernel)
theorem tw_527 : Cond.methodLink "RowCode$Improver" 100 ⟨"RowCode$Improver", "foldsComparison", "(I)Z"⟩ ∈ mx_tb := mx_tb_in (List.mem_of_getElem? (i := 527) (by decide +kernel)) (by decide +kernel)
theorem tw_537 : Cond.methodLink "RowCode$Improver" 103 ⟨"RowCode$Improver", "foldsDrop", "()Z"⟩ ∈ mx_tb := mx_tb_in (List.mem_of_getElem? (i := 537) (by decide +kernel)) (by decide +kernel)
theorem tw_541 : Cond.methodLink "RowCode$Improver" 107 ⟨"RowCode$Improver", "foldsCondition", "(II)Z"⟩ ∈ mx_tb := mx_tb_in (List.mem_of_getElem? (i := 541) (by decide +kernel)) (by decide +kernel)
theorem tw_548 : Cond.methodLink "RowCode$Improver" 110 ⟨"RowCode$Improver", "shortenWayTo", "(I)V"⟩ ∈ mx_tb := mx_tb_in (List.mem_of_getElem? (i := 548) (by decide +kernel)) (by decide +kernel)
theorem tw_498 : Cond.methodLink "RowCode$Improver" 113 ⟨"RowCode$Code", "lastArgument", "(I)I"⟩ ∈ mx_tb := mx_tb_in (List.mem_of_getElem? (i := 498) (by decide +kernel)) (by decide +kernel)
theorem tw_502 : Cond.methodLink "RowCode$Improver" 116 ⟨"RowCode$Code", "replaceLast", "(III)V"⟩ ∈ mx_tb := mx_tb_in (List.mem_of_getElem? (i := 502) (by decide +kernel)) (by decide +kernel)
theorem tw_506 : Cond.methodLink "RowCode$Improver" 120 ⟨"RowCode$Code", "cutLast", "()V"⟩ ∈ mx_tb := mx_tb_in (List.mem_of_getElem? (i := 506) (by decide +kernel)) (by decide +kernel)
theorem tw_511 : Cond.methodLink "RowCode$Improver" 123 ⟨"RowCode$Arithmetic", "opposite", "(I)I"⟩ ∈ mx_tb := mx_tb_in (List.mem_of_getElem? (i := 511) (by decide +kernel)) (by decide +kernel)
theorem tw_518 : Cond.methodLink "RowCode$Improver" 128 ⟨"RowCode$Arithmetic", "leavesAlone", "(II)Z"⟩ ∈ mx_tb := mx_tb_in (List.mem_of_getElem? (i := 518) (by decide +kernel)) (by decide +kernel)
theorem tw_521 : Cond.methodLink "RowCode$Improver" 131 ⟨"RowCode$Arithmetic", "divides", "(I)Z"⟩ ∈ mx_tb := mx_tb_in (List.mem_of_getElem? (i := 521) (by decide +kernel)) (by decide +kernel)
theorem tw_524 : Cond.methodLink "RowCode$Improver" 134 ⟨"RowCode$Arithmetic", "calculate", "(III)I"⟩ ∈ mx_tb := mx_tb_in (List.mem_of_getElem? (i := 524) (by decide +kernel)) (by decide +kernel)
theorem tw_531 : Cond.methodLink "RowCode$Improver" 138 ⟨"RowCode$Arithmetic", "compare", "(III)I"⟩ ∈ mx_tb := mx_tb_in (List.mem_of_getElem? (i := 531) (by decide +kernel)) (by decide +kernel)
theorem tw_545 : Cond.methodLink "RowCode$Improver" 141 ⟨"RowCode$Improver", "otherCondition", "(I)I"⟩ ∈ mx_tb := mx_tb_in (List.mem_of_getElem? (i := 545) (by decide +kernel)) (by decide +kernel)
theorem tw_552 : Cond.methodLinkNest "RowCode$Improver" 144 ⟨"RowCode", "isCondition", "(I)Z"⟩ "RowCode" ∈ mx_nst := mx_nst_in (List.mem_of_getElem? (i := 552) (by decide +kernel)) rfl
theorem tw_177 : Cond.methodLink "RowCode$Translator" 3 ⟨"java/lang/Object", "<init>", "()V"⟩ ∈ mx_tb := mx_tb_in (List.mem_of_getElem? (i := 177) (by decide +kernel)) (by decide +kernel)
theorem tw_178 : Cond.classLink "RowCode$Translator" 9 "RowCode$Numbers" ∈ mx_tb := mx_tb_in (List.mem_of_getElem? (i := 178) (by decide +kernel)) (by decide +kernel)
theorem tw_179 : Cond.methodLinkNest "RowCode$Translator" 11 ⟨"RowCode$Numbers", "<init>", "()V"⟩ "RowCode" ∈ mx_nst := mx_nst_in (List.mem_of_getElem? (i := 179) (by decide +kernel)) rfl
theorem tw_180 : Cond.fieldLink "RowCode$Translator" 12 "RowCode$Translator" "image" "LRowCode$Numbers;" ∈ mx_tb := mx_tb_in (List.mem_of_getElem? (i := 180) (by decide +kernel)) (by decide +kernel)
theorem tw_181 : Cond.fieldLink "RowCode$Translator" 18 "RowCode$Translator" "kinds" "LRowCode$Numbers;" ∈ mx_tb := mx_tb_in (List.mem_of_getElem? (i := 181) (by decide +kernel)) (by decide +kernel)
theorem tw_182 : Cond.fieldLink "RowCode$Translator" 21 "RowCode$Translator" "details" "LRowCode$Numbers;" ∈ mx_tb := mx_tb_in (List.mem_of_getElem? (i := 182) (by decide +kernel)) (by decide +kernel)
theorem tw_558 : Cond.methodLink "RowCode$Translator" 24 ⟨"RowCode$Numbers", "cutTo", "(I)V"⟩ ∈ mx_tb := mx_tb_in (List.mem_of_getElem? (i := 558) (by decide +kernel)) (by decide +kernel)
theorem tw_559 : Cond.methodLink "RowCode$Translator" 28 ⟨"RowCode$Translator", "layRow", "(I)V"⟩ ∈ mx_tb := mx_tb_in (List.mem_of_getElem? (i := 559) (by decide +kernel)) (by decide +kernel)
theorem tw_564 : Cond.methodLink "RowCode$Translator" 31 ⟨"RowCode$Code", "size", "()I"⟩ ∈ mx_tb := mx_tb_in (List.mem_of_getElem? (i := 564) (by decide +kernel)) (by decide +kernel)
theorem tw_565 : Cond.methodLink "RowCode$Translator" 37 ⟨"RowCode$Code", "numberAt", "(I)I"⟩ ∈ mx_tb := mx_tb_in (List.mem_of_getElem? (i := 565) (by decide +kernel)) (by decide +kernel)
theorem tw_566 : Cond.methodLink "RowCode$Translator" 41 ⟨"RowCode$Code", "argumentAt", "(I)I"⟩ ∈ mx_tb := mx_tb_in (List.mem_of_getElem? (i := 566) (by decide +kernel)) (by decide +kernel)
theorem tw_567 : Cond.methodLink "RowCode$Translator" 44 ⟨"RowCode$Translator", "lay", "(II)V"⟩ ∈ mx_tb := mx_tb_in (List.mem_of_getElem? (i := 567) (by decide +kernel)) (by decide +kernel)
theorem tw_572 : Cond.methodLink "RowCode$Translator" 48 ⟨"RowCode$Translator", "storeLocal", "(I)V"⟩ ∈ mx_tb := mx_tb_in (List.mem_of_getElem? (i := 572) (by decide +kernel)) (by decide +kernel)
theorem tw_597 : Cond.methodLink "RowCode$Translator" 51 ⟨"RowCode$Translator", "changeTop", "(I)V"⟩ ∈ mx_tb := mx_tb_in (List.mem_of_getElem? (i := 597) (by decide +kernel)) (by decide +kernel)
theorem tw_601 : Cond.methodLink "RowCode$Translator" 54 ⟨"RowCode$Translator", "meet", "(Z)Z"⟩ ∈ mx_tb := mx_tb_in (List.mem_of_getElem? (i := 601) (by decide +kernel)) (by decide +kernel)
theorem tw_582 : Cond.methodLink "RowCode$Translator" 58 ⟨"RowCode$Translator", "write", "(II)V"⟩ ∈ mx_tb := mx_tb_in (List.mem_of_getElem? (i := 582) (by decide +kernel)) (by decide +kernel)
theorem tw_593 : Cond.methodLink "RowCode$Translator" 61 ⟨"RowCode$Translator", "drop", "(I)V"⟩ ∈ mx_tb := mx_tb_in (List.mem_of_getElem? (i := 593) (by decide +kernel)) (by decide +kernel)
theorem tw_605 : Cond.methodLink "RowCode$Translator" 64 ⟨"RowCode$Arithmetic", "commutes", "(I)Z"⟩ ∈ mx_tb := mx_tb_in (List.mem_of_getElem? (i := 605) (by decide +kernel)) (by decide +kernel)
theorem tw_608 : Cond.methodLink "RowCode$Translator" 70 ⟨"RowCode$Translator", "leaveInA", "()V"⟩ ∈ mx_tb := mx_tb_in (List.mem_of_getElem? (i := 608) (by decide +kernel)) (by decide +kernel)
theorem tw_612 : Cond.methodLinkNest "RowCode$Translator" 73 ⟨"RowCode", "isCondition", "(I)Z"⟩ "RowCode" ∈ mx_nst := mx_nst_in (List.mem_of_getElem? (i := 612) (by decide +kernel)) rfl
theorem tw_613 : Cond.methodLink "RowCode$Translator" 76 ⟨"RowCode$Translator", "compareAndGo", "(III)V"⟩ ∈ mx_tb := mx_tb_in (List.mem_of_getElem? (i := 613) (by decide +kernel)) (by decide +kernel)
theorem tw_617 : Cond.methodLink "RowCode$Translator" 80 ⟨"RowCode$Arithmetic", "mirrored", "(I)I"⟩ ∈ mx_tb := mx_tb_in (List.mem_of_getElem? (i := 617) (by decide +kernel)) (by decide +kernel)
theorem tw_621 : Cond.methodLink "RowCode$Translator" 83 ⟨"RowCode$Translator", "compareAndKeep", "(I)V"⟩ ∈ mx_tb := mx_tb_in (List.mem_of_getElem? (i := 621) (by decide +kernel)) (by decide +kernel)
theorem tw_576 : Cond.methodLink "RowCode$Translator" 86 ⟨"RowCode$Numbers", "size", "()I"⟩ ∈ mx_tb := mx_tb_in (List.mem_of_getElem? (i := 576) (by decide +kernel)) (by decide +kernel)
theorem tw_578 : Cond.methodLink "RowCode$Translator" 87 ⟨"RowCode$Translator", "settle", "(II)V"⟩ ∈ mx_tb := mx_tb_in (List.mem_of_getElem? (i := 578) (by decide +kernel)) (by decide +kernel)
theorem tw_625 : Cond.methodLink "RowCode$Translator" 90 ⟨"RowCode$Translator", "goIf", "(II)V"⟩ ∈ mx_tb := mx_tb_in (List.mem_of_getElem? (i := 625) (by decide +kernel)) (by decide +kernel)
theorem tw_629 : Cond.methodLink "RowCode$Translator" 93 ⟨"RowCode$Judge", "depthAtLabel", "(I)I"⟩ ∈ mx_tb := mx_tb_in (List.mem_of_getElem? (i := 629) (by decide +kernel)) (by decide +kernel)
theorem tw_588 : Cond.methodLink "RowCode$Translator" 98 ⟨"RowCode$Translator", "toA", "(I)V"⟩ ∈ mx_tb := mx_tb_in (List.mem_of_getElem? (i := 588) (by decide +kernel)) (by decide +kernel)
theorem tw_633 : Cond.methodLink "RowCode$Translator" 101 ⟨"RowCode$Translator", "goInCase", "(II)V"⟩ ∈ mx_tb := mx_tb_in (List.mem_of_getElem? (i := 633) (by decide +kernel)) (by decide +kernel)
theorem tw_637 : Cond.methodLink "RowCode$Translator" 104 ⟨"RowCode$Translator", "storeByte", "()V"⟩ ∈ mx_tb := mx_tb_in (List.mem_of_getElem? (i := 637) (by decide +kernel)) (by decide +kernel)
theorem tw_586 : Jvm.Cond.constant "RowCode$Translator" 107 (-8388608) ∈ mx_tb := mx_tb_in (List.mem_of_getElem? (i := 586) (by decide +kernel)) (by decide +kernel)
theorem tw_587 : Jvm.Cond.constant "RowCode$Translator" 108 (8388608) ∈ mx_tb := mx_tb_in (List.mem_of_getElem? (i := 587) (by decide +kernel)) (by decide +kernel)
theorem tw_571 : Cond.methodLink "RowCode$Translator" 109 ⟨"RowCode$Numbers", "append", "(I)V"⟩ ∈ mx_tb := mx_tb_in (List.mem_of_getElem? (i := 571) (by decide +kernel)) (by decide +kernel)
theorem tw_563 : Cond.methodLink "RowCode$Translator" 112 ⟨"RowCode$Numbers", "refill", "(II)V"⟩ ∈ mx_tb := mx_tb_in (List.mem_of_getElem? (i := 563) (by decide +kernel)) (by decide +kernel)
theorem tw_183 : Cond.fieldLink "RowCode$Translator" 115 "RowCode$Translator" "inA" "I" ∈ mx_tb := mx_tb_in (List.mem_of_getElem? (i := 183) (by decide +kernel)) (by decide +kernel)
theorem tw_184 : Cond.fieldLink "RowCode$Translator" 119 "RowCode$Translator" "inB" "I" ∈ mx_tb := mx_tb_in (List.mem_of_getElem? (i := 184) (by decide +kernel)) (by decide +kernel)
theorem tw_592 : Cond.methodLink "RowCode$Translator" 122 ⟨"RowCode$Numbers", "change", "(II)V"⟩ ∈ mx_tb := mx_tb_in (List.mem_of_getElem? (i := 592) (by decide +kernel)) (by decide +kernel)
theorem tw_577 : Cond.methodLink "RowCode$Translator" 125 ⟨"RowCode$Numbers", "at", "(I)I"⟩ ∈ mx_tb := mx_tb_in (List.mem_of_getElem? (i := 577) (by decide +kernel)) (by decide +kernel)
theorem tw_620 : Cond.methodLink "RowCode$Translator" 128 ⟨"RowCode$Arithmetic", "opposite", "(I)I"⟩ ∈ mx_tb := mx_tb_in (List.mem_of_getElem? (i := 620) (by decide +kernel)) (by decide +kernel)
theorem tw_89 : Cond.methodLink "RowCode" 1 ⟨"java/lang/Object", "<init>", "()V"⟩ ∈ mx_tb := mx_tb_in (List.mem_of_getElem? (i := 89) (by decide +kernel)) (by decide +kernel)
theorem tw_92 : Cond.classLink "RowCode" 7 "RowCode$Code" ∈ mx_tb := mx_tb_in (List.mem_of_getElem? (i := 92) (by decide +kernel)) (by decide +kernel)
theorem tw_94 : Cond.methodLinkNest "RowCode" 9 ⟨"RowCode$Code", "<init>", "()V"⟩ "RowCode" ∈ mx_nst := mx_nst_in (List.mem_of_getElem? (i := 94) (by decide +kernel)) rfl
theorem tw_286 : Cond.fieldLink "RowCode" 10 "RowCode" "code" "LRowCode$Code;" ∈ mx_tb := mx_tb_in (List.mem_of_getElem? (i := 286) (by decide +kernel)) (by decide +kernel)
theorem tw_119 : Cond.classLink "RowCode" 16 "RowCode$Judge" ∈ mx_tb := mx_tb_in (List.mem_of_getElem? (i := 119) (by decide +kernel)) (by decide +kernel)
theorem tw_120 : Cond.instantiable "RowCode$Judge" 7 ∈ mx_tb := mx_tb_in (List.mem_of_getElem? (i := 120) (by decide +kernel)) (by decide +kernel)
theorem tw_69 : Cond.initialized "RowCode$Judge" ∈ mx_tb := mx_tb_in (List.mem_of_getElem? (i := 69) (by decide +kernel)) (by decide +kernel)
theorem tw_121 : Cond.methodLink "RowCode" 18 ⟨"RowCode$Judge", "<init>", "(LRowCode$Code;)V"⟩ ∈ mx_tb := mx_tb_in (List.mem_of_getElem? (i := 121) (by decide +kernel)) (by decide +kernel)
theorem tw_287 : Cond.fieldLink "RowCode" 21 "RowCode" "judge" "LRowCode$Judge;" ∈ mx_tb := mx_tb_in (List.mem_of_getElem? (i := 287) (by decide +kernel)) (by decide +kernel)
theorem tw_149 : Cond.classLink "RowCode" 25 "RowCode$Improver" ∈ mx_tb := mx_tb_in (List.mem_of_getElem? (i := 149) (by decide +kernel)) (by decide +kernel)
theorem tw_150 : Cond.instantiable "RowCode$Improver" 4 ∈ mx_tb := mx_tb_in (List.mem_of_getElem? (i := 150) (by decide +kernel)) (by decide +kernel)
theorem tw_70 : Cond.initialized "RowCode$Improver" ∈ mx_tb := mx_tb_in (List.mem_of_getElem? (i := 70) (by decide +kernel)) (by decide +kernel)
theorem tw_151 : Cond.methodLinkNest "RowCode" 27 ⟨"RowCode$Improver", "<init>", "()V"⟩ "RowCode" ∈ mx_nst := mx_nst_in (List.mem_of_getElem? (i := 151) (by decide +kernel)) rfl
theorem tw_288 : Cond.fieldLink "RowCode" 28 "RowCode" "improver" "LRowCode$Improver;" ∈ mx_tb := mx_tb_in (List.mem_of_getElem? (i := 288) (by decide +kernel)) (by decide +kernel)
theorem tw_172 : Cond.classLink "RowCode" 32 "RowCode$Translator" ∈ mx_tb := mx_tb_in (List.mem_of_getElem? (i := 172) (by decide +kernel)) (by decide +kernel)
theorem tw_173 : Cond.instantiable "RowCode$Translator" 5 ∈ mx_tb := mx_tb_in (List.mem_of_getElem? (i := 173) (by decide +kernel)) (by decide +kernel)
theorem tw_71 : Cond.initialized "RowCode$Translator" ∈ mx_tb := mx_tb_in (List.mem_of_getElem? (i := 71) (by decide +kernel)) (by decide +kernel)
theorem tw_174 : Cond.methodLinkNest "RowCode" 34 ⟨"RowCode$Translator", "<init>", "()V"⟩ "RowCode" ∈ mx_nst := mx_nst_in (List.mem_of_getElem? (i := 174) (by decide +kernel)) rfl
theorem tw_289 : Cond.fieldLink "RowCode" 35 "RowCode" "translator" "LRowCode$Translator;" ∈ mx_tb := mx_tb_in (List.mem_of_getElem? (i := 289) (by decide +kernel)) (by decide +kernel)
theorem tw_196 : Cond.classLink "RowCode" 39 "RowCode$Program" ∈ mx_tb := mx_tb_in (List.mem_of_getElem? (i := 196) (by decide +kernel)) (by decide +kernel)
theorem tw_197 : Cond.instantiable "RowCode$Program" 3 ∈ mx_tb := mx_tb_in (List.mem_of_getElem? (i := 197) (by decide +kernel)) (by decide +kernel)
theorem tw_72 : Cond.initialized "RowCode$Program" ∈ mx_tb := mx_tb_in (List.mem_of_getElem? (i := 72) (by decide +kernel)) (by decide +kernel)
theorem tw_198 : Cond.methodLinkNest "RowCode" 41 ⟨"RowCode$Program", "<init>", "()V"⟩ "RowCode" ∈ mx_nst := mx_nst_in (List.mem_of_getElem? (i := 198) (by decide +kernel)) rfl
theorem tw_290 : Cond.fieldLink "RowCode" 42 "RowCode" "program" "LRowCode$Program;" ∈ mx_tb := mx_tb_in (List.mem_of_getElem? (i := 290) (by decide +kernel)) (by decide +kernel)
theorem tw_214 : Cond.classLink "RowCode" 46 "RowCode$Memory" ∈ mx_tb := mx_tb_in (List.mem_of_getElem? (i := 214) (by decide +kernel)) (by decide +kernel)
theorem tw_215 : Cond.instantiable "RowCode$Memory" 2 ∈ mx_tb := mx_tb_in (List.mem_of_getElem? (i := 215) (by decide +kernel)) (by decide +kernel)
theorem tw_73 : Cond.initialized "RowCode$Memory" ∈ mx_tb := mx_tb_in (List.mem_of_getElem? (i := 73) (by decide +kernel)) (by decide +kernel)
theorem tw_216 : Cond.methodLinkNest "RowCode" 48 ⟨"RowCode$Memory", "<init>", "()V"⟩ "RowCode" ∈ mx_nst := mx_nst_in (List.mem_of_getElem? (i := 216) (by decide +kernel)) rfl
theorem tw_291 : Cond.fieldLink "RowCode" 49 "RowCode" "memory" "LRowCode$Memory;" ∈ mx_tb := mx_tb_in (List.mem_of_getElem? (i := 291) (by decide +kernel)) (by decide +kernel)
theorem tw_227 : Cond.classLink "RowCode" 53 "RowCode$Machine" ∈ mx_tb := mx_tb_in (List.mem_of_getElem? (i := 227) (by decide +kernel)) (by decide +kernel)
theorem tw_228 : Cond.instantiable "RowCode$Machine" 8 ∈ mx_tb := mx_tb_in (List.mem_of_getElem? (i := 228) (by decide +kernel)) (by decide +kernel)
theorem tw_74 : Cond.initialized "RowCode$Machine" ∈ mx_tb := mx_tb_in (List.mem_of_getElem? (i := 74) (by decide +kernel)) (by decide +kernel)
theorem tw_229 : Cond.methodLink "RowCode" 55 ⟨"RowCode$Machine", "<init>", "(LRowCode$Memory;)V"⟩ ∈ mx_tb := mx_tb_in (List.mem_of_getElem? (i := 229) (by decide +kernel)) (by decide +kernel)
theorem tw_292 : Cond.fieldLink "RowCode" 58 "RowCode" "machine" "LRowCode$Machine;" ∈ mx_tb := mx_tb_in (List.mem_of_getElem? (i := 292) (by decide +kernel)) (by decide +kernel)
theorem tw_315 : Cond.methodLink "RowCode" 62 ⟨"RowCode$Code", "size", "()I"⟩ ∈ mx_tb := mx_tb_in (List.mem_of_getElem? (i := 315) (by decide +kernel)) (by decide +kernel)
theorem tw_323 : Cond.methodLink "RowCode" 66 ⟨"RowCode$Code", "append", "(II)V"⟩ ∈ mx_tb := mx_tb_in (List.mem_of_getElem? (i := 323) (by decide +kernel)) (by decide +kernel)
theorem tw_328 : Cond.methodLink "RowCode" 70 ⟨"RowCode", "forgetWork", "()V"⟩ ∈ mx_tb := mx_tb_in (List.mem_of_getElem? (i := 328) (by decide +kernel)) (by decide +kernel)
theorem tw_340 : Cond.methodLink "RowCode" 73 ⟨"RowCode$Code", "cutTo", "(I)V"⟩ ∈ mx_tb := mx_tb_in (List.mem_of_getElem? (i := 340) (by decide +kernel)) (by decide +kernel)
theorem tw_352 : Cond.methodLink "RowCode" 77 ⟨"RowCode$Judge", "findsRight", "()Z"⟩ ∈ mx_tb := mx_tb_in (List.mem_of_getElem? (i := 352) (by decide +kernel)) (by decide +kernel)
theorem tw_293 : Cond.fieldLink "RowCode" 81 "RowCode" "isLoaded" "Z" ∈ mx_tb := mx_tb_in (List.mem_of_getElem? (i := 293) (by decide +kernel)) (by decide +kernel)
theorem tw_449 : Cond.methodLink "RowCode" 85 ⟨"RowCode$Improver", "improve", "(LRowCode$Code;LRowCode$Judge;)LRowCode$Code;"⟩ ∈ mx_tb := mx_tb_in (List.mem_of_getElem? (i := 449) (by decide +kernel)) (by decide +kernel)
theorem tw_554 : Cond.methodLink "RowCode" 89 ⟨"RowCode$Translator", "translate", "(LRowCode$Code;LRowCode$Judge;)LRowCode$Numbers;"⟩ ∈ mx_tb := mx_tb_in (List.mem_of_getElem? (i := 554) (by decide +kernel)) (by decide +kernel)
theorem tw_641 : Cond.methodLink "RowCode" 93 ⟨"RowCode$Program", "load", "(LRowCode$Numbers;)V"⟩ ∈ mx_tb := mx_tb_in (List.mem_of_getElem? (i := 641) (by decide +kernel)) (by decide +kernel)
theorem tw_655 : Cond.methodLink "RowCode" 97 ⟨"RowCode$Machine", "execute", "(LRowCode$Program;I)I"⟩ ∈ mx_tb := mx_tb_in (List.mem_of_getElem? (i := 655) (by decide +kernel)) (by decide +kernel)
theorem tw_266 : Cond.fieldLinkNest "RowCode" 101 "RowCode$Machine" "endValue" "I" "RowCode" ∈ mx_nst := mx_nst_in (List.mem_of_getElem? (i := 266) (by decide +kernel)) rfl
theorem tw_268 : Cond.fieldLinkNest "RowCode" 105 "RowCode$Machine" "fuelLeft" "I" "RowCode" ∈ mx_nst := mx_nst_in (List.mem_of_getElem? (i := 268) (by decide +kernel)) rfl
theorem tw_761 : Cond.methodLink "RowCode" 108 ⟨"RowCode$Memory", "localAt", "(I)I"⟩ ∈ mx_tb := mx_tb_in (List.mem_of_getElem? (i := 761) (by decide +kernel)) (by decide +kernel)
theorem tw_762 : Cond.methodLink "RowCode" 112 ⟨"RowCode$Memory", "changeLocal", "(II)V"⟩ ∈ mx_tb := mx_tb_in (List.mem_of_getElem? (i := 762) (by decide +kernel)) (by decide +kernel)
theorem tw_767 : Cond.methodLink "RowCode" 126 ⟨"RowCode$Memory", "wordAt", "(I)I"⟩ ∈ mx_tb := mx_tb_in (List.mem_of_getElem? (i := 767) (by decide +kernel)) (by decide +kernel)
theorem tw_768 : Cond.methodLink "RowCode" 129 ⟨"RowCode$Memory", "changeWord", "(II)V"⟩ ∈ mx_tb := mx_tb_in (List.mem_of_getElem? (i := 768) (by decide +kernel)) (by decide +kernel)
theorem tw_332 : Cond.methodLink "RowCode" 138 ⟨"RowCode$Judge", "forgetJudgement", "()V"⟩ ∈ mx_tb := mx_tb_in (List.mem_of_getElem? (i := 332) (by decide +kernel)) (by decide +kernel)
theorem tw_392 : Cond.methodLink "RowCode" 141 ⟨"RowCode", "isCondition", "(I)Z"⟩ ∈ mx_tb := mx_tb_in (List.mem_of_getElem? (i := 392) (by decide +kernel)) (by decide +kernel)
theorem tw_858 : Cond.methodLink "RowCodeModel" 1 ⟨"java/lang/Object", "<init>", "()V"⟩ ∈ mx_tb := mx_tb_in (List.mem_of_getElem? (i := 858) (by decide +kernel)) (by decide +kernel)
theorem tw_861 : Cond.fieldLink "RowCodeModel" 7 "RowCodeModel" "numbers" "[I" ∈ mx_tb := mx_tb_in (List.mem_of_getElem? (i := 861) (by decide +kernel)) (by decide +kernel)
theorem tw_862 : Cond.fieldLink "RowCodeModel" 13 "RowCodeModel" "args" "[I" ∈ mx_tb := mx_tb_in (List.mem_of_getElem? (i := 862) (by decide +kernel)) (by decide +kernel)
theorem tw_863 : Cond.fieldLink "RowCodeModel" 16 "RowCodeModel" "locals" "[I" ∈ mx_tb := mx_tb_in (List.mem_of_getElem? (i := 863) (by decide +kernel)) (by decide +kernel)
theorem tw_864 : Cond.fieldLink "RowCodeModel" 19 "RowCodeModel" "words" "[I" ∈ mx_tb := mx_tb_in (List.mem_of_getElem? (i := 864) (by decide +kernel)) (by decide +kernel)
theorem tw_867 : Cond.fieldLink "RowCodeModel" 22 "RowCodeModel" "heights" "[I" ∈ mx_tb := mx_tb_in (List.mem_of_getElem? (i := 867) (by decide +kernel)) (by decide +kernel)
theorem tw_896 : Cond.arrayClass .boolean ∈ mx_tb := mx_tb_in (List.mem_of_getElem? (i := 896) (by decide +kernel)) (by decide +kernel)
theorem tw_868 : Cond.fieldLink "RowCodeModel" 25 "RowCodeModel" "gone" "[Z" ∈ mx_tb := mx_tb_in (List.mem_of_getElem? (i := 868) (by decide +kernel)) (by decide +kernel)
theorem tw_869 : Cond.fieldLink "RowCodeModel" 29 "RowCodeModel" "row" "[I" ∈ mx_tb := mx_tb_in (List.mem_of_getElem? (i := 869) (by decide +kernel)) (by decide +kernel)
theorem tw_859 : Cond.fieldLink "RowCodeModel" 32 "RowCodeModel" "thrown" "I" ∈ mx_tb := mx_tb_in (List.mem_of_getElem? (i := 859) (by decide +kernel)) (by decide +kernel)
theorem tw_860 : Cond.fieldLink "RowCodeModel" 36 "RowCodeModel" "size" "I" ∈ mx_tb := mx_tb_in (List.mem_of_getElem? (i := 860) (by decide +kernel)) (by decide +kernel)
theorem tw_920 : Cond.methodLink "RowCodeModel" 39 ⟨"RowCodeModel", "in", "(III)Z"⟩ ∈ mx_tb := mx_tb_in (List.mem_of_getElem? (i := 920) (by decide +kernel)) (by decide +kernel)
theorem tw_917 : Cond.methodLink "RowCodeModel" 43 ⟨"RowCodeModel", "isGood", "(II)Z"⟩ ∈ mx_tb := mx_tb_in (List.mem_of_getElem? (i := 917) (by decide +kernel)) (by decide +kernel)
theorem tw_923 : Cond.methodLink "RowCodeModel" 47 ⟨"RowCodeModel", "place", "(I)I"⟩ ∈ mx_tb := mx_tb_in (List.mem_of_getElem? (i := 923) (by decide +kernel)) (by decide +kernel)
theorem tw_931 : Cond.methodLink "RowCodeModel" 51 ⟨"RowCodeModel", "gives", "(I)I"⟩ ∈ mx_tb := mx_tb_in (List.mem_of_getElem? (i := 931) (by decide +kernel)) (by decide +kernel)
theorem tw_934 : Cond.methodLink "RowCodeModel" 54 ⟨"RowCodeModel", "takes", "(I)I"⟩ ∈ mx_tb := mx_tb_in (List.mem_of_getElem? (i := 934) (by decide +kernel)) (by decide +kernel)
theorem tw_937 : Cond.methodLink "RowCodeModel" 57 ⟨"RowCodeModel", "way", "(II)I"⟩ ∈ mx_tb := mx_tb_in (List.mem_of_getElem? (i := 937) (by decide +kernel)) (by decide +kernel)
theorem tw_941 : Cond.methodLink "RowCodeModel" 61 ⟨"RowCodeModel", "comes", "(II)Z"⟩ ∈ mx_tb := mx_tb_in (List.mem_of_getElem? (i := 941) (by decide +kernel)) (by decide +kernel)
theorem tw_913 : Cond.methodLink "RowCodeModel" 64 ⟨"RowCodeModel", "isSaid", "()Z"⟩ ∈ mx_tb := mx_tb_in (List.mem_of_getElem? (i := 913) (by decide +kernel)) (by decide +kernel)
theorem tw_927 : Cond.methodLink "RowCodeModel" 68 ⟨"RowCodeModel", "isEven", "()Z"⟩ ∈ mx_tb := mx_tb_in (List.mem_of_getElem? (i := 927) (by decide +kernel)) (by decide +kernel)
theorem tw_945 : Cond.methodLink "RowCodeModel" 71 ⟨"RowCodeModel", "isSpent", "()Z"⟩ ∈ mx_tb := mx_tb_in (List.mem_of_getElem? (i := 945) (by decide +kernel)) (by decide +kernel)
theorem tw_870 : Cond.fieldLink "RowCodeModel" 74 "RowCodeModel" "high" "I" ∈ mx_tb := mx_tb_in (List.mem_of_getElem? (i := 870) (by decide +kernel)) (by decide +kernel)
theorem tw_975 : Jvm.Cond.constantLong "RowCodeModel" 77 (63) ∈ mx_tb := mx_tb_in (List.mem_of_getElem? (i := 975) (by decide +kernel)) (by decide +kernel)
theorem tw_962 : Cond.methodLink "RowCodeModel" 79 ⟨"RowCodeModel", "push", "(I)V"⟩ ∈ mx_tb := mx_tb_in (List.mem_of_getElem? (i := 962) (by decide +kernel)) (by decide +kernel)
theorem tw_954 : Cond.methodLink "RowCodeModel" 83 ⟨"RowCodeModel", "pop", "()I"⟩ ∈ mx_tb := mx_tb_in (List.mem_of_getElem? (i := 954) (by decide +kernel)) (by decide +kernel)
theorem tw_966 : Cond.methodLink "RowCodeModel" 87 ⟨"RowCodeModel", "made", "(III)I"⟩ ∈ mx_tb := mx_tb_in (List.mem_of_getElem? (i := 966) (by decide +kernel)) (by decide +kernel)
theorem tw_969 : Cond.methodLink "RowCodeModel" 91 ⟨"RowCodeModel", "compares", "(III)Z"⟩ ∈ mx_tb := mx_tb_in (List.mem_of_getElem? (i := 969) (by decide +kernel)) (by decide +kernel)
theorem tw_972 : Cond.methodLink "RowCodeModel" 94 ⟨"RowCodeModel", "wordOf", "(II)I"⟩ ∈ mx_tb := mx_tb_in (List.mem_of_getElem? (i := 972) (by decide +kernel)) (by decide +kernel)
theorem tw_976 : Cond.methodLink "RowCodeModel" 97 ⟨"RowCodeModel", "sets", "()I"⟩ ∈ mx_tb := mx_tb_in (List.mem_of_getElem? (i := 976) (by decide +kernel)) (by decide +kernel)
theorem tw_953 : Cond.methodLink "RowCodeModel" 100 ⟨"RowCodeModel", "build", "()Z"⟩ ∈ mx_tb := mx_tb_in (List.mem_of_getElem? (i := 953) (by decide +kernel)) (by decide +kernel)
theorem tw_866 : Cond.fieldLink "RowCodeModel" 103 "RowCodeModel" "fuel" "I" ∈ mx_tb := mx_tb_in (List.mem_of_getElem? (i := 866) (by decide +kernel)) (by decide +kernel)
theorem tw_865 : Cond.fieldLink "RowCodeModel" 106 "RowCodeModel" "value" "I" ∈ mx_tb := mx_tb_in (List.mem_of_getElem? (i := 865) (by decide +kernel)) (by decide +kernel)
theorem tw_958 : Cond.methodLink "RowCodeModel" 109 ⟨"RowCodeModel", "does", "(II)I"⟩ ∈ mx_tb := mx_tb_in (List.mem_of_getElem? (i := 958) (by decide +kernel)) (by decide +kernel)
theorem tw_980 : Cond.methodLink "RowCodeModel" 112 ⟨"RowCodeModel", "goesOn", "(I)I"⟩ ∈ mx_tb := mx_tb_in (List.mem_of_getElem? (i := 980) (by decide +kernel)) (by decide +kernel)
set_option maxRecDepth 100000 in
theorem tw_245 : Cond.code ⟨"java/util/Arrays", "copyOf", "([II)[I"⟩ prog_20_method_123_code 3 (some (.array .int)) ∈ mx_tb := mx_tb_in (List.mem_of_getElem? (i := 245) rfl) (by decide +kernel)
theorem tw_75 : Cond.initialized "java/util/Arrays" ∈ mx_tb := mx_tb_in (List.mem_of_getElem? (i := 75) (by decide +kernel)) (by decide +kernel)
theorem tw_244 : Cond.static ⟨"java/util/Arrays", "copyOf", "([II)[I"⟩ ∈ mx_tb := mx_tb_in (List.mem_of_getElem? (i := 244) (by decide +kernel)) (by decide +kernel)
set_option maxRecDepth 100000 in
theorem tw_102 : Cond.code ⟨"RowCode$Numbers", "<init>", "()V"⟩ prog_8_method_1_code 1 none ∈ mx_tb := mx_tb_in (List.mem_of_getElem? (i := 102) rfl) (by decide +kernel)
theorem tw_101 : Cond.instanceMethod ⟨"RowCode$Numbers", "<init>", "()V"⟩ ∈ mx_tb := mx_tb_in (List.mem_of_getElem? (i := 101) (by decide +kernel)) (by decide +kernel)
set_option maxRecDepth 100000 in
theorem tw_322 : Cond.code ⟨"RowCode$Numbers", "size", "()I"⟩ prog_8_method_2_code 1 (some .int) ∈ mx_tb := mx_tb_in (List.mem_of_getElem? (i := 322) rfl) (by decide +kernel)
theorem tw_320 : Cond.instanceMethod ⟨"RowCode$Numbers", "size", "()I"⟩ ∈ mx_tb := mx_tb_in (List.mem_of_getElem? (i := 320) (by decide +kernel)) (by decide +kernel)
theorem tw_321 : Cond.selects "RowCode$Numbers" ⟨"RowCode$Numbers", "size", "()I"⟩ ⟨"RowCode$Numbers", "size", "()I"⟩ ∈ mx_tb := mx_tb_in (List.mem_of_getElem? (i := 321) (by decide +kernel)) (by decide +kernel)
set_option maxRecDepth 100000 in
theorem tw_368 : Cond.code ⟨"RowCode$Numbers", "at", "(I)I"⟩ prog_8_method_3_code 2 (some .int) ∈ mx_tb := mx_tb_in (List.mem_of_getElem? (i := 368) rfl) (by decide +kernel)
theorem tw_366 : Cond.instanceMethod ⟨"RowCode$Numbers", "at", "(I)I"⟩ ∈ mx_tb := mx_tb_in (List.mem_of_getElem? (i := 366) (by decide +kernel)) (by decide +kernel)
theorem tw_367 : Cond.selects "RowCode$Numbers" ⟨"RowCode$Numbers", "at", "(I)I"⟩ ⟨"RowCode$Numbers", "at", "(I)I"⟩ ∈ mx_tb := mx_tb_in (List.mem_of_getElem? (i := 367) (by decide +kernel)) (by decide +kernel)
set_option maxRecDepth 100000 in
theorem tw_384 : Cond.code ⟨"RowCode$Numbers", "change", "(II)V"⟩ prog_8_method_4_code 3 none ∈ mx_tb := mx_tb_in (List.mem_of_getElem? (i := 384) rfl) (by decide +kernel)
theorem tw_382 : Cond.instanceMethod ⟨"RowCode$Numbers", "change", "(II)V"⟩ ∈ mx_tb := mx_tb_in (List.mem_of_getElem? (i := 382) (by decide +kernel)) (by decide +kernel)
theorem tw_383 : Cond.selects "RowCode$Numbers" ⟨"RowCode$Numbers", "change", "(II)V"⟩ ⟨"RowCode$Numbers", "change", "(II)V"⟩ ∈ mx_tb := mx_tb_in (List.mem_of_getElem? (i := 383) (by decide +kernel)) (by decide +kernel)
set_option maxRecDepth 100000 in
theorem tw_242 : Cond.code ⟨"RowCode$Numbers", "append", "(I)V"⟩ prog_8_method_5_code 2 none ∈ mx_tb := mx_tb_in (List.mem_of_getElem? (i := 242) rfl) (by decide +kernel)
theorem tw_240 : Cond.instanceMethod ⟨"RowCode$Numbers", "append", "(I)V"⟩ ∈ mx_tb := mx_tb_in (List.mem_of_getElem? (i := 240) (by decide +kernel)) (by decide +kernel)
theorem tw_241 : Cond.selects "RowCode$Numbers" ⟨"RowCode$Numbers", "append", "(I)V"⟩ ⟨"RowCode$Numbers", "append", "(I)V"⟩ ∈ mx_tb := mx_tb_in (List.mem_of_getElem? (i := 241) (by decide +kernel)) (by decide +kernel)
set_option maxRecDepth 100000 in
theorem tw_409 : Cond.code ⟨"RowCode$Numbers", "takeLast", "()I"⟩ prog_8_method_6_code 1 (some .int) ∈ mx_tb := mx_tb_in (List.mem_of_getElem? (i := 409) rfl) (by decide +kernel)
theorem tw_407 : Cond.instanceMethod ⟨"RowCode$Numbers", "takeLast", "()I"⟩ ∈ mx_tb := mx_tb_in (List.mem_of_getElem? (i := 407) (by decide +kernel)) (by decide +kernel)
theorem tw_408 : Cond.selects "RowCode$Numbers" ⟨"RowCode$Numbers", "takeLast", "()I"⟩ ⟨"RowCode$Numbers", "takeLast", "()I"⟩ ∈ mx_tb := mx_tb_in (List.mem_of_getElem? (i := 408) (by decide +kernel)) (by decide +kernel)
set_option maxRecDepth 100000 in
theorem tw_347 : Cond.code ⟨"RowCode$Numbers", "cutTo", "(I)V"⟩ prog_8_method_7_code 2 none ∈ mx_tb := mx_tb_in (List.mem_of_getElem? (i := 347) rfl) (by decide +kernel)
theorem tw_345 : Cond.instanceMethod ⟨"RowCode$Numbers", "cutTo", "(I)V"⟩ ∈ mx_tb := mx_tb_in (List.mem_of_getElem? (i := 345) (by decide +kernel)) (by decide +kernel)
theorem tw_346 : Cond.selects "RowCode$Numbers" ⟨"RowCode$Numbers", "cutTo", "(I)V"⟩ ⟨"RowCode$Numbers", "cutTo", "(I)V"⟩ ∈ mx_tb := mx_tb_in (List.mem_of_getElem? (i := 346) (by decide +kernel)) (by decide +kernel)
set_option maxRecDepth 100000 in
theorem tw_238 : Cond.code ⟨"RowCode$Numbers", "refill", "(II)V"⟩ prog_8_method_8_code 4 none ∈ mx_tb := mx_tb_in (List.mem_of_getElem? (i := 238) rfl) (by decide +kernel)
theorem tw_236 : Cond.instanceMethod ⟨"RowCode$Numbers", "refill", "(II)V"⟩ ∈ mx_tb := mx_tb_in (List.mem_of_getElem? (i := 236) (by decide +kernel)) (by decide +kernel)
theorem tw_237 : Cond.selects "RowCode$Numbers" ⟨"RowCode$Numbers", "refill", "(II)V"⟩ ⟨"RowCode$Numbers", "refill", "(II)V"⟩ ∈ mx_tb := mx_tb_in (List.mem_of_getElem? (i := 237) (by decide +kernel)) (by decide +kernel)
set_option maxRecDepth 100000 in
theorem tw_523 : Cond.code ⟨"RowCode$Arithmetic", "divides", "(I)Z"⟩ prog_2_method_2_code 1 (some .boolean) ∈ mx_tb := mx_tb_in (List.mem_of_getElem? (i := 523) rfl) (by decide +kernel)
theorem tw_79 : Cond.initialized "RowCode$Arithmetic" ∈ mx_tb := mx_tb_in (List.mem_of_getElem? (i := 79) (by decide +kernel)) (by decide +kernel)
theorem tw_522 : Cond.static ⟨"RowCode$Arithmetic", "divides", "(I)Z"⟩ ∈ mx_tb := mx_tb_in (List.mem_of_getElem? (i := 522) (by decide +kernel)) (by decide +kernel)
set_option maxRecDepth 100000 in
theorem tw_526 : Cond.code ⟨"RowCode$Arithmetic", "calculate", "(III)I"⟩ prog_2_method_3_code 3 (some .int) ∈ mx_tb := mx_tb_in (List.mem_of_getElem? (i := 526) rfl) (by decide +kernel)
theorem tw_525 : Cond.static ⟨"RowCode$Arithmetic", "calculate", "(III)I"⟩ ∈ mx_tb := mx_tb_in (List.mem_of_getElem? (i := 525) (by decide +kernel)) (by decide +kernel)
set_option maxRecDepth 100000 in
theorem tw_607 : Cond.code ⟨"RowCode$Arithmetic", "commutes", "(I)Z"⟩ prog_2_method_4_code 1 (some .boolean) ∈ mx_tb := mx_tb_in (List.mem_of_getElem? (i := 607) rfl) (by decide +kernel)
theorem tw_606 : Cond.static ⟨"RowCode$Arithmetic", "commutes", "(I)Z"⟩ ∈ mx_tb := mx_tb_in (List.mem_of_getElem? (i := 606) (by decide +kernel)) (by decide +kernel)
set_option maxRecDepth 100000 in
theorem tw_520 : Cond.code ⟨"RowCode$Arithmetic", "leavesAlone", "(II)Z"⟩ prog_2_method_5_code 2 (some .boolean) ∈ mx_tb := mx_tb_in (List.mem_of_getElem? (i := 520) rfl) (by decide +kernel)
theorem tw_519 : Cond.static ⟨"RowCode$Arithmetic", "leavesAlone", "(II)Z"⟩ ∈ mx_tb := mx_tb_in (List.mem_of_getElem? (i := 519) (by decide +kernel)) (by decide +kernel)
set_option maxRecDepth 100000 in
theorem tw_536 : Cond.code ⟨"RowCode$Arithmetic", "holds", "(III)Z"⟩ prog_2_method_6_code 3 (some .boolean) ∈ mx_tb := mx_tb_in (List.mem_of_getElem? (i := 536) rfl) (by decide +kernel)
theorem tw_535 : Cond.static ⟨"RowCode$Arithmetic", "holds", "(III)Z"⟩ ∈ mx_tb := mx_tb_in (List.mem_of_getElem? (i := 535) (by decide +kernel)) (by decide +kernel)
set_option maxRecDepth 100000 in
theorem tw_533 : Cond.code ⟨"RowCode$Arithmetic", "compare", "(III)I"⟩ prog_2_method_7_code 3 (some .int) ∈ mx_tb := mx_tb_in (List.mem_of_getElem? (i := 533) rfl) (by decide +kernel)
theorem tw_532 : Cond.static ⟨"RowCode$Arithmetic", "compare", "(III)I"⟩ ∈ mx_tb := mx_tb_in (List.mem_of_getElem? (i := 532) (by decide +kernel)) (by decide +kernel)
set_option maxRecDepth 100000 in
theorem tw_513 : Cond.code ⟨"RowCode$Arithmetic", "opposite", "(I)I"⟩ prog_2_method_8_code 1 (some .int) ∈ mx_tb := mx_tb_in (List.mem_of_getElem? (i := 513) rfl) (by decide +kernel)
theorem tw_512 : Cond.static ⟨"RowCode$Arithmetic", "opposite", "(I)I"⟩ ∈ mx_tb := mx_tb_in (List.mem_of_getElem? (i := 512) (by decide +kernel)) (by decide +kernel)
set_option maxRecDepth 100000 in
theorem tw_619 : Cond.code ⟨"RowCode$Arithmetic", "mirrored", "(I)I"⟩ prog_2_method_9_code 1 (some .int) ∈ mx_tb := mx_tb_in (List.mem_of_getElem? (i := 619) rfl) (by decide +kernel)
theorem tw_618 : Cond.static ⟨"RowCode$Arithmetic", "mirrored", "(I)I"⟩ ∈ mx_tb := mx_tb_in (List.mem_of_getElem? (i := 618) (by decide +kernel)) (by decide +kernel)
set_option maxRecDepth 100000 in
theorem tw_218 : Cond.code ⟨"RowCode$Memory", "<init>", "()V"⟩ prog_7_method_1_code 1 none ∈ mx_tb := mx_tb_in (List.mem_of_getElem? (i := 218) rfl) (by decide +kernel)
theorem tw_217 : Cond.instanceMethod ⟨"RowCode$Memory", "<init>", "()V"⟩ ∈ mx_tb := mx_tb_in (List.mem_of_getElem? (i := 217) (by decide +kernel)) (by decide +kernel)
set_option maxRecDepth 100000 in
theorem tw_681 : Cond.code ⟨"RowCode$Memory", "hasLocal", "(I)Z"⟩ prog_7_method_2_code 1 (some .boolean) ∈ mx_tb := mx_tb_in (List.mem_of_getElem? (i := 681) rfl) (by decide +kernel)
theorem tw_680 : Cond.static ⟨"RowCode$Memory", "hasLocal", "(I)Z"⟩ ∈ mx_tb := mx_tb_in (List.mem_of_getElem? (i := 680) (by decide +kernel)) (by decide +kernel)
set_option maxRecDepth 100000 in
theorem tw_702 : Cond.code ⟨"RowCode$Memory", "hasWord", "(J)Z"⟩ prog_7_method_3_code 2 (some .boolean) ∈ mx_tb := mx_tb_in (List.mem_of_getElem? (i := 702) rfl) (by decide +kernel)
theorem tw_701 : Cond.static ⟨"RowCode$Memory", "hasWord", "(J)Z"⟩ ∈ mx_tb := mx_tb_in (List.mem_of_getElem? (i := 701) (by decide +kernel)) (by decide +kernel)
set_option maxRecDepth 100000 in
theorem tw_678 : Cond.code ⟨"RowCode$Memory", "localAt", "(I)I"⟩ prog_7_method_4_code 2 (some .int) ∈ mx_tb := mx_tb_in (List.mem_of_getElem? (i := 678) rfl) (by decide +kernel)
theorem tw_676 : Cond.instanceMethod ⟨"RowCode$Memory", "localAt", "(I)I"⟩ ∈ mx_tb := mx_tb_in (List.mem_of_getElem? (i := 676) (by decide +kernel)) (by decide +kernel)
theorem tw_677 : Cond.selects "RowCode$Memory" ⟨"RowCode$Memory", "localAt", "(I)I"⟩ ⟨"RowCode$Memory", "localAt", "(I)I"⟩ ∈ mx_tb := mx_tb_in (List.mem_of_getElem? (i := 677) (by decide +kernel)) (by decide +kernel)
set_option maxRecDepth 100000 in
theorem tw_691 : Cond.code ⟨"RowCode$Memory", "changeLocal", "(II)V"⟩ prog_7_method_5_code 3 none ∈ mx_tb := mx_tb_in (List.mem_of_getElem? (i := 691) rfl) (by decide +kernel)
theorem tw_689 : Cond.instanceMethod ⟨"RowCode$Memory", "changeLocal", "(II)V"⟩ ∈ mx_tb := mx_tb_in (List.mem_of_getElem? (i := 689) (by decide +kernel)) (by decide +kernel)
theorem tw_690 : Cond.selects "RowCode$Memory" ⟨"RowCode$Memory", "changeLocal", "(II)V"⟩ ⟨"RowCode$Memory", "changeLocal", "(II)V"⟩ ∈ mx_tb := mx_tb_in (List.mem_of_getElem? (i := 690) (by decide +kernel)) (by decide +kernel)
set_option maxRecDepth 100000 in
theorem tw_707 : Cond.code ⟨"RowCode$Memory", "wordAt", "(I)I"⟩ prog_7_method_6_code 2 (some .int) ∈ mx_tb := mx_tb_in (List.mem_of_getElem? (i := 707) rfl) (by decide +kernel)
theorem tw_705 : Cond.instanceMethod ⟨"RowCode$Memory", "wordAt", "(I)I"⟩ ∈ mx_tb := mx_tb_in (List.mem_of_getElem? (i := 705) (by decide +kernel)) (by decide +kernel)
theorem tw_706 : Cond.selects "RowCode$Memory" ⟨"RowCode$Memory", "wordAt", "(I)I"⟩ ⟨"RowCode$Memory", "wordAt", "(I)I"⟩ ∈ mx_tb := mx_tb_in (List.mem_of_getElem? (i := 706) (by decide +kernel)) (by decide +kernel)
set_option maxRecDepth 100000 in
theorem tw_716 : Cond.code ⟨"RowCode$Memory", "changeWord", "(II)V"⟩ prog_7_method_7_code 3 none ∈ mx_tb := mx_tb_in (List.mem_of_getElem? (i := 716) rfl) (by decide +kernel)
theorem tw_714 : Cond.instanceMethod ⟨"RowCode$Memory", "changeWord", "(II)V"⟩ ∈ mx_tb := mx_tb_in (List.mem_of_getElem? (i := 714) (by decide +kernel)) (by decide +kernel)
theorem tw_715 : Cond.selects "RowCode$Memory" ⟨"RowCode$Memory", "changeWord", "(II)V"⟩ ⟨"RowCode$Memory", "changeWord", "(II)V"⟩ ∈ mx_tb := mx_tb_in (List.mem_of_getElem? (i := 715) (by decide +kernel)) (by decide +kernel)
set_option maxRecDepth 100000 in
theorem tw_96 : Cond.code ⟨"RowCode$Code", "<init>", "()V"⟩ prog_3_method_1_code 1 none ∈ mx_tb := mx_tb_in (List.mem_of_getElem? (i := 96) rfl) (by decide +kernel)
theorem tw_95 : Cond.instanceMethod ⟨"RowCode$Code", "<init>", "()V"⟩ ∈ mx_tb := mx_tb_in (List.mem_of_getElem? (i := 95) (by decide +kernel)) (by decide +kernel)
set_option maxRecDepth 100000 in
theorem tw_318 : Cond.code ⟨"RowCode$Code", "size", "()I"⟩ prog_3_method_2_code 1 (some .int) ∈ mx_tb := mx_tb_in (List.mem_of_getElem? (i := 318) rfl) (by decide +kernel)
theorem tw_316 : Cond.instanceMethod ⟨"RowCode$Code", "size", "()I"⟩ ∈ mx_tb := mx_tb_in (List.mem_of_getElem? (i := 316) (by decide +kernel)) (by decide +kernel)
theorem tw_317 : Cond.selects "RowCode$Code" ⟨"RowCode$Code", "size", "()I"⟩ ⟨"RowCode$Code", "size", "()I"⟩ ∈ mx_tb := mx_tb_in (List.mem_of_getElem? (i := 317) (by decide +kernel)) (by decide +kernel)
set_option maxRecDepth 100000 in
theorem tw_364 : Cond.code ⟨"RowCode$Code", "numberAt", "(I)I"⟩ prog_3_method_3_code 2 (some .int) ∈ mx_tb := mx_tb_in (List.mem_of_getElem? (i := 364) rfl) (by decide +kernel)
theorem tw_362 : Cond.instanceMethod ⟨"RowCode$Code", "numberAt", "(I)I"⟩ ∈ mx_tb := mx_tb_in (List.mem_of_getElem? (i := 362) (by decide +kernel)) (by decide +kernel)
theorem tw_363 : Cond.selects "RowCode$Code" ⟨"RowCode$Code", "numberAt", "(I)I"⟩ ⟨"RowCode$Code", "numberAt", "(I)I"⟩ ∈ mx_tb := mx_tb_in (List.mem_of_getElem? (i := 363) (by decide +kernel)) (by decide +kernel)
set_option maxRecDepth 100000 in
theorem tw_374 : Cond.code ⟨"RowCode$Code", "argumentAt", "(I)I"⟩ prog_3_method_4_code 2 (some .int) ∈ mx_tb := mx_tb_in (List.mem_of_getElem? (i := 374) rfl) (by decide +kernel)
theorem tw_372 : Cond.instanceMethod ⟨"RowCode$Code", "argumentAt", "(I)I"⟩ ∈ mx_tb := mx_tb_in (List.mem_of_getElem? (i := 372) (by decide +kernel)) (by decide +kernel)
theorem tw_373 : Cond.selects "RowCode$Code" ⟨"RowCode$Code", "argumentAt", "(I)I"⟩ ⟨"RowCode$Code", "argumentAt", "(I)I"⟩ ∈ mx_tb := mx_tb_in (List.mem_of_getElem? (i := 373) (by decide +kernel)) (by decide +kernel)
set_option maxRecDepth 100000 in
theorem tw_326 : Cond.code ⟨"RowCode$Code", "append", "(II)V"⟩ prog_3_method_5_code 3 none ∈ mx_tb := mx_tb_in (List.mem_of_getElem? (i := 326) rfl) (by decide +kernel)
theorem tw_324 : Cond.instanceMethod ⟨"RowCode$Code", "append", "(II)V"⟩ ∈ mx_tb := mx_tb_in (List.mem_of_getElem? (i := 324) (by decide +kernel)) (by decide +kernel)
theorem tw_325 : Cond.selects "RowCode$Code" ⟨"RowCode$Code", "append", "(II)V"⟩ ⟨"RowCode$Code", "append", "(II)V"⟩ ∈ mx_tb := mx_tb_in (List.mem_of_getElem? (i := 325) (by decide +kernel)) (by decide +kernel)
set_option maxRecDepth 100000 in
theorem tw_343 : Cond.code ⟨"RowCode$Code", "cutTo", "(I)V"⟩ prog_3_method_6_code 2 none ∈ mx_tb := mx_tb_in (List.mem_of_getElem? (i := 343) rfl) (by decide +kernel)
theorem tw_341 : Cond.instanceMethod ⟨"RowCode$Code", "cutTo", "(I)V"⟩ ∈ mx_tb := mx_tb_in (List.mem_of_getElem? (i := 341) (by decide +kernel)) (by decide +kernel)
theorem tw_342 : Cond.selects "RowCode$Code" ⟨"RowCode$Code", "cutTo", "(I)V"⟩ ⟨"RowCode$Code", "cutTo", "(I)V"⟩ ∈ mx_tb := mx_tb_in (List.mem_of_getElem? (i := 342) (by decide +kernel)) (by decide +kernel)
set_option maxRecDepth 100000 in
theorem tw_497 : Cond.code ⟨"RowCode$Code", "lastNumber", "(I)I"⟩ prog_3_method_7_code 2 (some .int) ∈ mx_tb := mx_tb_in (List.mem_of_getElem? (i := 497) rfl) (by decide +kernel)
theorem tw_495 : Cond.instanceMethod ⟨"RowCode$Code", "lastNumber", "(I)I"⟩ ∈ mx_tb := mx_tb_in (List.mem_of_getElem? (i := 495) (by decide +kernel)) (by decide +kernel)
theorem tw_496 : Cond.selects "RowCode$Code" ⟨"RowCode$Code", "lastNumber", "(I)I"⟩ ⟨"RowCode$Code", "lastNumber", "(I)I"⟩ ∈ mx_tb := mx_tb_in (List.mem_of_getElem? (i := 496) (by decide +kernel)) (by decide +kernel)
set_option maxRecDepth 100000 in
theorem tw_501 : Cond.code ⟨"RowCode$Code", "lastArgument", "(I)I"⟩ prog_3_method_8_code 2 (some .int) ∈ mx_tb := mx_tb_in (List.mem_of_getElem? (i := 501) rfl) (by decide +kernel)
theorem tw_499 : Cond.instanceMethod ⟨"RowCode$Code", "lastArgument", "(I)I"⟩ ∈ mx_tb := mx_tb_in (List.mem_of_getElem? (i := 499) (by decide +kernel)) (by decide +kernel)
theorem tw_500 : Cond.selects "RowCode$Code" ⟨"RowCode$Code", "lastArgument", "(I)I"⟩ ⟨"RowCode$Code", "lastArgument", "(I)I"⟩ ∈ mx_tb := mx_tb_in (List.mem_of_getElem? (i := 500) (by decide +kernel)) (by decide +kernel)
set_option maxRecDepth 100000 in
theorem tw_509 : Cond.code ⟨"RowCode$Code", "cutLast", "()V"⟩ prog_3_method_9_code 1 none ∈ mx_tb := mx_tb_in (List.mem_of_getElem? (i := 509) rfl) (by decide +kernel)
theorem tw_507 : Cond.instanceMethod ⟨"RowCode$Code", "cutLast", "()V"⟩ ∈ mx_tb := mx_tb_in (List.mem_of_getElem? (i := 507) (by decide +kernel)) (by decide +kernel)
theorem tw_508 : Cond.selects "RowCode$Code" ⟨"RowCode$Code", "cutLast", "()V"⟩ ⟨"RowCode$Code", "cutLast", "()V"⟩ ∈ mx_tb := mx_tb_in (List.mem_of_getElem? (i := 508) (by decide +kernel)) (by decide +kernel)
set_option maxRecDepth 100000 in
theorem tw_505 : Cond.code ⟨"RowCode$Code", "replaceLast", "(III)V"⟩ prog_3_method_10_code 4 none ∈ mx_tb := mx_tb_in (List.mem_of_getElem? (i := 505) rfl) (by decide +kernel)
theorem tw_503 : Cond.instanceMethod ⟨"RowCode$Code", "replaceLast", "(III)V"⟩ ∈ mx_tb := mx_tb_in (List.mem_of_getElem? (i := 503) (by decide +kernel)) (by decide +kernel)
theorem tw_504 : Cond.selects "RowCode$Code" ⟨"RowCode$Code", "replaceLast", "(III)V"⟩ ⟨"RowCode$Code", "replaceLast", "(III)V"⟩ ∈ mx_tb := mx_tb_in (List.mem_of_getElem? (i := 504) (by decide +kernel)) (by decide +kernel)
set_option maxRecDepth 100000 in
theorem tw_200 : Cond.code ⟨"RowCode$Program", "<init>", "()V"⟩ prog_9_method_1_code 1 none ∈ mx_tb := mx_tb_in (List.mem_of_getElem? (i := 200) rfl) (by decide +kernel)
theorem tw_199 : Cond.instanceMethod ⟨"RowCode$Program", "<init>", "()V"⟩ ∈ mx_tb := mx_tb_in (List.mem_of_getElem? (i := 199) (by decide +kernel)) (by decide +kernel)
set_option maxRecDepth 100000 in
theorem tw_644 : Cond.code ⟨"RowCode$Program", "load", "(LRowCode$Numbers;)V"⟩ prog_9_method_2_code 5 none ∈ mx_tb := mx_tb_in (List.mem_of_getElem? (i := 644) rfl) (by decide +kernel)
theorem tw_642 : Cond.instanceMethod ⟨"RowCode$Program", "load", "(LRowCode$Numbers;)V"⟩ ∈ mx_tb := mx_tb_in (List.mem_of_getElem? (i := 642) (by decide +kernel)) (by decide +kernel)
theorem tw_643 : Cond.selects "RowCode$Program" ⟨"RowCode$Program", "load", "(LRowCode$Numbers;)V"⟩ ⟨"RowCode$Program", "load", "(LRowCode$Numbers;)V"⟩ ∈ mx_tb := mx_tb_in (List.mem_of_getElem? (i := 643) (by decide +kernel)) (by decide +kernel)
set_option maxRecDepth 100000 in
theorem tw_652 : Cond.code ⟨"RowCode$Program", "take", "(II)V"⟩ prog_9_method_3_code 3 none ∈ mx_tb := mx_tb_in (List.mem_of_getElem? (i := 652) rfl) (by decide +kernel)
theorem tw_651 : Cond.instanceMethod ⟨"RowCode$Program", "take", "(II)V"⟩ ∈ mx_tb := mx_tb_in (List.mem_of_getElem? (i := 651) (by decide +kernel)) (by decide +kernel)
theorem tw_40 : Cond.selects "RowCode$Program" ⟨"RowCode$Program", "take", "(II)V"⟩ ⟨"RowCode$Program", "take", "(II)V"⟩ ∈ mx_tb := mx_tb_in (List.mem_of_getElem? (i := 40) (by decide +kernel)) (by decide +kernel)
set_option maxRecDepth 100000 in
theorem tw_662 : Cond.code ⟨"RowCode$Program", "size", "()I"⟩ prog_9_method_4_code 1 (some .int) ∈ mx_tb := mx_tb_in (List.mem_of_getElem? (i := 662) rfl) (by decide +kernel)
theorem tw_660 : Cond.instanceMethod ⟨"RowCode$Program", "size", "()I"⟩ ∈ mx_tb := mx_tb_in (List.mem_of_getElem? (i := 660) (by decide +kernel)) (by decide +kernel)
theorem tw_661 : Cond.selects "RowCode$Program" ⟨"RowCode$Program", "size", "()I"⟩ ⟨"RowCode$Program", "size", "()I"⟩ ∈ mx_tb := mx_tb_in (List.mem_of_getElem? (i := 661) (by decide +kernel)) (by decide +kernel)
set_option maxRecDepth 100000 in
theorem tw_666 : Cond.code ⟨"RowCode$Program", "numberAt", "(I)I"⟩ prog_9_method_5_code 2 (some .int) ∈ mx_tb := mx_tb_in (List.mem_of_getElem? (i := 666) rfl) (by decide +kernel)
theorem tw_664 : Cond.instanceMethod ⟨"RowCode$Program", "numberAt", "(I)I"⟩ ∈ mx_tb := mx_tb_in (List.mem_of_getElem? (i := 664) (by decide +kernel)) (by decide +kernel)
theorem tw_665 : Cond.selects "RowCode$Program" ⟨"RowCode$Program", "numberAt", "(I)I"⟩ ⟨"RowCode$Program", "numberAt", "(I)I"⟩ ∈ mx_tb := mx_tb_in (List.mem_of_getElem? (i := 665) (by decide +kernel)) (by decide +kernel)
set_option maxRecDepth 100000 in
theorem tw_670 : Cond.code ⟨"RowCode$Program", "argumentAt", "(I)I"⟩ prog_9_method_6_code 2 (some .int) ∈ mx_tb := mx_tb_in (List.mem_of_getElem? (i := 670) rfl) (by decide +kernel)
theorem tw_668 : Cond.instanceMethod ⟨"RowCode$Program", "argumentAt", "(I)I"⟩ ∈ mx_tb := mx_tb_in (List.mem_of_getElem? (i := 668) (by decide +kernel)) (by decide +kernel)
theorem tw_669 : Cond.selects "RowCode$Program" ⟨"RowCode$Program", "argumentAt", "(I)I"⟩ ⟨"RowCode$Program", "argumentAt", "(I)I"⟩ ∈ mx_tb := mx_tb_in (List.mem_of_getElem? (i := 669) (by decide +kernel)) (by decide +kernel)
set_option maxRecDepth 100000 in
theorem tw_231 : Cond.code ⟨"RowCode$Machine", "<init>", "(LRowCode$Memory;)V"⟩ prog_6_method_1_code 2 none ∈ mx_tb := mx_tb_in (List.mem_of_getElem? (i := 231) rfl) (by decide +kernel)
theorem tw_230 : Cond.instanceMethod ⟨"RowCode$Machine", "<init>", "(LRowCode$Memory;)V"⟩ ∈ mx_tb := mx_tb_in (List.mem_of_getElem? (i := 230) (by decide +kernel)) (by decide +kernel)
set_option maxRecDepth 100000 in
theorem tw_658 : Cond.code ⟨"RowCode$Machine", "execute", "(LRowCode$Program;I)I"⟩ prog_6_method_2_code 7 (some .int) ∈ mx_tb := mx_tb_in (List.mem_of_getElem? (i := 658) rfl) (by decide +kernel)
theorem tw_656 : Cond.instanceMethod ⟨"RowCode$Machine", "execute", "(LRowCode$Program;I)I"⟩ ∈ mx_tb := mx_tb_in (List.mem_of_getElem? (i := 656) (by decide +kernel)) (by decide +kernel)
theorem tw_657 : Cond.selects "RowCode$Machine" ⟨"RowCode$Machine", "execute", "(LRowCode$Program;I)I"⟩ ⟨"RowCode$Machine", "execute", "(LRowCode$Program;I)I"⟩ ∈ mx_tb := mx_tb_in (List.mem_of_getElem? (i := 657) (by decide +kernel)) (by decide +kernel)
set_option maxRecDepth 100000 in
theorem tw_674 : Cond.code ⟨"RowCode$Machine", "move", "(II)V"⟩ prog_6_method_3_code 4 none ∈ mx_tb := mx_tb_in (List.mem_of_getElem? (i := 674) rfl) (by decide +kernel)
theorem tw_673 : Cond.instanceMethod ⟨"RowCode$Machine", "move", "(II)V"⟩ ∈ mx_tb := mx_tb_in (List.mem_of_getElem? (i := 673) (by decide +kernel)) (by decide +kernel)
theorem tw_41 : Cond.selects "RowCode$Machine" ⟨"RowCode$Machine", "move", "(II)V"⟩ ⟨"RowCode$Machine", "move", "(II)V"⟩ ∈ mx_tb := mx_tb_in (List.mem_of_getElem? (i := 41) (by decide +kernel)) (by decide +kernel)
set_option maxRecDepth 100000 in
theorem tw_747 : Cond.code ⟨"RowCode$Machine", "jumps", "(I)Z"⟩ prog_6_method_4_code 2 (some .boolean) ∈ mx_tb := mx_tb_in (List.mem_of_getElem? (i := 747) rfl) (by decide +kernel)
theorem tw_746 : Cond.instanceMethod ⟨"RowCode$Machine", "jumps", "(I)Z"⟩ ∈ mx_tb := mx_tb_in (List.mem_of_getElem? (i := 746) (by decide +kernel)) (by decide +kernel)
theorem tw_52 : Cond.selects "RowCode$Machine" ⟨"RowCode$Machine", "jumps", "(I)Z"⟩ ⟨"RowCode$Machine", "jumps", "(I)Z"⟩ ∈ mx_tb := mx_tb_in (List.mem_of_getElem? (i := 52) (by decide +kernel)) (by decide +kernel)
set_option maxRecDepth 100000 in
theorem tw_687 : Cond.code ⟨"RowCode$Machine", "work", "(II)V"⟩ prog_6_method_5_code 3 none ∈ mx_tb := mx_tb_in (List.mem_of_getElem? (i := 687) rfl) (by decide +kernel)
theorem tw_686 : Cond.instanceMethod ⟨"RowCode$Machine", "work", "(II)V"⟩ ∈ mx_tb := mx_tb_in (List.mem_of_getElem? (i := 686) (by decide +kernel)) (by decide +kernel)
theorem tw_42 : Cond.selects "RowCode$Machine" ⟨"RowCode$Machine", "work", "(II)V"⟩ ⟨"RowCode$Machine", "work", "(II)V"⟩ ∈ mx_tb := mx_tb_in (List.mem_of_getElem? (i := 42) (by decide +kernel)) (by decide +kernel)
set_option maxRecDepth 100000 in
theorem tw_699 : Cond.code ⟨"RowCode$Machine", "reaches", "(J)Z"⟩ prog_6_method_6_code 4 (some .boolean) ∈ mx_tb := mx_tb_in (List.mem_of_getElem? (i := 699) rfl) (by decide +kernel)
theorem tw_698 : Cond.instanceMethod ⟨"RowCode$Machine", "reaches", "(J)Z"⟩ ∈ mx_tb := mx_tb_in (List.mem_of_getElem? (i := 698) (by decide +kernel)) (by decide +kernel)
theorem tw_44 : Cond.selects "RowCode$Machine" ⟨"RowCode$Machine", "reaches", "(J)Z"⟩ ⟨"RowCode$Machine", "reaches", "(J)Z"⟩ ∈ mx_tb := mx_tb_in (List.mem_of_getElem? (i := 44) (by decide +kernel)) (by decide +kernel)
set_option maxRecDepth 100000 in
theorem tw_695 : Cond.code ⟨"RowCode$Machine", "fetch", "()V"⟩ prog_6_method_7_code 1 none ∈ mx_tb := mx_tb_in (List.mem_of_getElem? (i := 695) rfl) (by decide +kernel)
theorem tw_694 : Cond.instanceMethod ⟨"RowCode$Machine", "fetch", "()V"⟩ ∈ mx_tb := mx_tb_in (List.mem_of_getElem? (i := 694) (by decide +kernel)) (by decide +kernel)
theorem tw_43 : Cond.selects "RowCode$Machine" ⟨"RowCode$Machine", "fetch", "()V"⟩ ⟨"RowCode$Machine", "fetch", "()V"⟩ ∈ mx_tb := mx_tb_in (List.mem_of_getElem? (i := 43) (by decide +kernel)) (by decide +kernel)
set_option maxRecDepth 100000 in
theorem tw_712 : Cond.code ⟨"RowCode$Machine", "store", "()V"⟩ prog_6_method_8_code 1 none ∈ mx_tb := mx_tb_in (List.mem_of_getElem? (i := 712) rfl) (by decide +kernel)
theorem tw_711 : Cond.instanceMethod ⟨"RowCode$Machine", "store", "()V"⟩ ∈ mx_tb := mx_tb_in (List.mem_of_getElem? (i := 711) (by decide +kernel)) (by decide +kernel)
theorem tw_45 : Cond.selects "RowCode$Machine" ⟨"RowCode$Machine", "store", "()V"⟩ ⟨"RowCode$Machine", "store", "()V"⟩ ∈ mx_tb := mx_tb_in (List.mem_of_getElem? (i := 45) (by decide +kernel)) (by decide +kernel)
set_option maxRecDepth 100000 in
theorem tw_720 : Cond.code ⟨"RowCode$Machine", "combine", "(I)V"⟩ prog_6_method_9_code 2 none ∈ mx_tb := mx_tb_in (List.mem_of_getElem? (i := 720) rfl) (by decide +kernel)
theorem tw_719 : Cond.instanceMethod ⟨"RowCode$Machine", "combine", "(I)V"⟩ ∈ mx_tb := mx_tb_in (List.mem_of_getElem? (i := 719) (by decide +kernel)) (by decide +kernel)
theorem tw_46 : Cond.selects "RowCode$Machine" ⟨"RowCode$Machine", "combine", "(I)V"⟩ ⟨"RowCode$Machine", "combine", "(I)V"⟩ ∈ mx_tb := mx_tb_in (List.mem_of_getElem? (i := 46) (by decide +kernel)) (by decide +kernel)
set_option maxRecDepth 100000 in
theorem tw_727 : Cond.code ⟨"RowCode$Machine", "relateAndKeep", "(I)V"⟩ prog_6_method_10_code 3 none ∈ mx_tb := mx_tb_in (List.mem_of_getElem? (i := 727) rfl) (by decide +kernel)
theorem tw_726 : Cond.instanceMethod ⟨"RowCode$Machine", "relateAndKeep", "(I)V"⟩ ∈ mx_tb := mx_tb_in (List.mem_of_getElem? (i := 726) (by decide +kernel)) (by decide +kernel)
theorem tw_47 : Cond.selects "RowCode$Machine" ⟨"RowCode$Machine", "relateAndKeep", "(I)V"⟩ ⟨"RowCode$Machine", "relateAndKeep", "(I)V"⟩ ∈ mx_tb := mx_tb_in (List.mem_of_getElem? (i := 47) (by decide +kernel)) (by decide +kernel)
set_option maxRecDepth 100000 in
theorem tw_735 : Cond.code ⟨"RowCode$Machine", "byteAddress", "()J"⟩ prog_6_method_11_code 1 (some .long) ∈ mx_tb := mx_tb_in (List.mem_of_getElem? (i := 735) rfl) (by decide +kernel)
theorem tw_734 : Cond.instanceMethod ⟨"RowCode$Machine", "byteAddress", "()J"⟩ ∈ mx_tb := mx_tb_in (List.mem_of_getElem? (i := 734) (by decide +kernel)) (by decide +kernel)
theorem tw_49 : Cond.selects "RowCode$Machine" ⟨"RowCode$Machine", "byteAddress", "()J"⟩ ⟨"RowCode$Machine", "byteAddress", "()J"⟩ ∈ mx_tb := mx_tb_in (List.mem_of_getElem? (i := 49) (by decide +kernel)) (by decide +kernel)
set_option maxRecDepth 100000 in
theorem tw_731 : Cond.code ⟨"RowCode$Machine", "fetchByte", "()V"⟩ prog_6_method_12_code 2 none ∈ mx_tb := mx_tb_in (List.mem_of_getElem? (i := 731) rfl) (by decide +kernel)
theorem tw_730 : Cond.instanceMethod ⟨"RowCode$Machine", "fetchByte", "()V"⟩ ∈ mx_tb := mx_tb_in (List.mem_of_getElem? (i := 730) (by decide +kernel)) (by decide +kernel)
theorem tw_48 : Cond.selects "RowCode$Machine" ⟨"RowCode$Machine", "fetchByte", "()V"⟩ ⟨"RowCode$Machine", "fetchByte", "()V"⟩ ∈ mx_tb := mx_tb_in (List.mem_of_getElem? (i := 48) (by decide +kernel)) (by decide +kernel)
set_option maxRecDepth 100000 in
theorem tw_739 : Cond.code ⟨"RowCode$Machine", "storeByte", "(I)V"⟩ prog_6_method_13_code 5 none ∈ mx_tb := mx_tb_in (List.mem_of_getElem? (i := 739) rfl) (by decide +kernel)
theorem tw_738 : Cond.instanceMethod ⟨"RowCode$Machine", "storeByte", "(I)V"⟩ ∈ mx_tb := mx_tb_in (List.mem_of_getElem? (i := 738) (by decide +kernel)) (by decide +kernel)
theorem tw_50 : Cond.selects "RowCode$Machine" ⟨"RowCode$Machine", "storeByte", "(I)V"⟩ ⟨"RowCode$Machine", "storeByte", "(I)V"⟩ ∈ mx_tb := mx_tb_in (List.mem_of_getElem? (i := 50) (by decide +kernel)) (by decide +kernel)
set_option maxRecDepth 100000 in
theorem tw_743 : Cond.code ⟨"RowCode$Machine", "pay", "()V"⟩ prog_6_method_14_code 1 none ∈ mx_tb := mx_tb_in (List.mem_of_getElem? (i := 743) rfl) (by decide +kernel)
theorem tw_742 : Cond.instanceMethod ⟨"RowCode$Machine", "pay", "()V"⟩ ∈ mx_tb := mx_tb_in (List.mem_of_getElem? (i := 742) (by decide +kernel)) (by decide +kernel)
theorem tw_51 : Cond.selects "RowCode$Machine" ⟨"RowCode$Machine", "pay", "()V"⟩ ⟨"RowCode$Machine", "pay", "()V"⟩ ∈ mx_tb := mx_tb_in (List.mem_of_getElem? (i := 51) (by decide +kernel)) (by decide +kernel)
set_option maxRecDepth 100000 in
theorem tw_123 : Cond.code ⟨"RowCode$Judge", "<init>", "(LRowCode$Code;)V"⟩ prog_5_method_1_code 2 none ∈ mx_tb := mx_tb_in (List.mem_of_getElem? (i := 123) rfl) (by decide +kernel)
theorem tw_122 : Cond.instanceMethod ⟨"RowCode$Judge", "<init>", "(LRowCode$Code;)V"⟩ ∈ mx_tb := mx_tb_in (List.mem_of_getElem? (i := 122) (by decide +kernel)) (by decide +kernel)
set_option maxRecDepth 100000 in
theorem tw_335 : Cond.code ⟨"RowCode$Judge", "forgetJudgement", "()V"⟩ prog_5_method_2_code 1 none ∈ mx_tb := mx_tb_in (List.mem_of_getElem? (i := 335) rfl) (by decide +kernel)
theorem tw_333 : Cond.instanceMethod ⟨"RowCode$Judge", "forgetJudgement", "()V"⟩ ∈ mx_tb := mx_tb_in (List.mem_of_getElem? (i := 333) (by decide +kernel)) (by decide +kernel)
theorem tw_334 : Cond.selects "RowCode$Judge" ⟨"RowCode$Judge", "forgetJudgement", "()V"⟩ ⟨"RowCode$Judge", "forgetJudgement", "()V"⟩ ∈ mx_tb := mx_tb_in (List.mem_of_getElem? (i := 334) (by decide +kernel)) (by decide +kernel)
set_option maxRecDepth 100000 in
theorem tw_355 : Cond.code ⟨"RowCode$Judge", "findsRight", "()Z"⟩ prog_5_method_3_code 1 (some .boolean) ∈ mx_tb := mx_tb_in (List.mem_of_getElem? (i := 355) rfl) (by decide +kernel)
theorem tw_353 : Cond.instanceMethod ⟨"RowCode$Judge", "findsRight", "()Z"⟩ ∈ mx_tb := mx_tb_in (List.mem_of_getElem? (i := 353) (by decide +kernel)) (by decide +kernel)
theorem tw_354 : Cond.selects "RowCode$Judge" ⟨"RowCode$Judge", "findsRight", "()Z"⟩ ⟨"RowCode$Judge", "findsRight", "()Z"⟩ ∈ mx_tb := mx_tb_in (List.mem_of_getElem? (i := 354) (by decide +kernel)) (by decide +kernel)
set_option maxRecDepth 100000 in
theorem tw_463 : Cond.code ⟨"RowCode$Judge", "isReached", "(I)Z"⟩ prog_5_method_4_code 2 (some .boolean) ∈ mx_tb := mx_tb_in (List.mem_of_getElem? (i := 463) rfl) (by decide +kernel)
theorem tw_461 : Cond.instanceMethod ⟨"RowCode$Judge", "isReached", "(I)Z"⟩ ∈ mx_tb := mx_tb_in (List.mem_of_getElem? (i := 461) (by decide +kernel)) (by decide +kernel)
theorem tw_462 : Cond.selects "RowCode$Judge" ⟨"RowCode$Judge", "isReached", "(I)Z"⟩ ⟨"RowCode$Judge", "isReached", "(I)Z"⟩ ∈ mx_tb := mx_tb_in (List.mem_of_getElem? (i := 462) (by decide +kernel)) (by decide +kernel)
set_option maxRecDepth 100000 in
theorem tw_632 : Cond.code ⟨"RowCode$Judge", "depthAtLabel", "(I)I"⟩ prog_5_method_5_code 2 (some .int) ∈ mx_tb := mx_tb_in (List.mem_of_getElem? (i := 632) rfl) (by decide +kernel)
theorem tw_630 : Cond.instanceMethod ⟨"RowCode$Judge", "depthAtLabel", "(I)I"⟩ ∈ mx_tb := mx_tb_in (List.mem_of_getElem? (i := 630) (by decide +kernel)) (by decide +kernel)
theorem tw_631 : Cond.selects "RowCode$Judge" ⟨"RowCode$Judge", "depthAtLabel", "(I)I"⟩ ⟨"RowCode$Judge", "depthAtLabel", "(I)I"⟩ ∈ mx_tb := mx_tb_in (List.mem_of_getElem? (i := 631) (by decide +kernel)) (by decide +kernel)
set_option maxRecDepth 100000 in
theorem tw_360 : Cond.code ⟨"RowCode$Judge", "argumentsFit", "()Z"⟩ prog_5_method_6_code 5 (some .boolean) ∈ mx_tb := mx_tb_in (List.mem_of_getElem? (i := 360) rfl) (by decide +kernel)
theorem tw_359 : Cond.instanceMethod ⟨"RowCode$Judge", "argumentsFit", "()Z"⟩ ∈ mx_tb := mx_tb_in (List.mem_of_getElem? (i := 359) (by decide +kernel)) (by decide +kernel)
theorem tw_1 : Cond.selects "RowCode$Judge" ⟨"RowCode$Judge", "argumentsFit", "()Z"⟩ ⟨"RowCode$Judge", "argumentsFit", "()Z"⟩ ∈ mx_tb := mx_tb_in (List.mem_of_getElem? (i := 1) (by decide +kernel)) (by decide +kernel)
set_option maxRecDepth 100000 in
theorem tw_378 : Cond.code ⟨"RowCode$Judge", "labelsAreOnce", "()Z"⟩ prog_5_method_7_code 3 (some .boolean) ∈ mx_tb := mx_tb_in (List.mem_of_getElem? (i := 378) rfl) (by decide +kernel)
theorem tw_377 : Cond.instanceMethod ⟨"RowCode$Judge", "labelsAreOnce", "()Z"⟩ ∈ mx_tb := mx_tb_in (List.mem_of_getElem? (i := 377) (by decide +kernel)) (by decide +kernel)
theorem tw_2 : Cond.selects "RowCode$Judge" ⟨"RowCode$Judge", "labelsAreOnce", "()Z"⟩ ⟨"RowCode$Judge", "labelsAreOnce", "()Z"⟩ ∈ mx_tb := mx_tb_in (List.mem_of_getElem? (i := 2) (by decide +kernel)) (by decide +kernel)
set_option maxRecDepth 100000 in
theorem tw_388 : Cond.code ⟨"RowCode$Judge", "goalsAreThere", "()Z"⟩ prog_5_method_8_code 3 (some .boolean) ∈ mx_tb := mx_tb_in (List.mem_of_getElem? (i := 388) rfl) (by decide +kernel)
theorem tw_387 : Cond.instanceMethod ⟨"RowCode$Judge", "goalsAreThere", "()Z"⟩ ∈ mx_tb := mx_tb_in (List.mem_of_getElem? (i := 387) (by decide +kernel)) (by decide +kernel)
theorem tw_3 : Cond.selects "RowCode$Judge" ⟨"RowCode$Judge", "goalsAreThere", "()Z"⟩ ⟨"RowCode$Judge", "goalsAreThere", "()Z"⟩ ∈ mx_tb := mx_tb_in (List.mem_of_getElem? (i := 3) (by decide +kernel)) (by decide +kernel)
set_option maxRecDepth 100000 in
theorem tw_421 : Cond.code ⟨"RowCode$Judge", "following", "(I)I"⟩ prog_5_method_9_code 3 (some .int) ∈ mx_tb := mx_tb_in (List.mem_of_getElem? (i := 421) rfl) (by decide +kernel)
theorem tw_420 : Cond.instanceMethod ⟨"RowCode$Judge", "following", "(I)I"⟩ ∈ mx_tb := mx_tb_in (List.mem_of_getElem? (i := 420) (by decide +kernel)) (by decide +kernel)
theorem tw_7 : Cond.selects "RowCode$Judge" ⟨"RowCode$Judge", "following", "(I)I"⟩ ⟨"RowCode$Judge", "following", "(I)I"⟩ ∈ mx_tb := mx_tb_in (List.mem_of_getElem? (i := 7) (by decide +kernel)) (by decide +kernel)
set_option maxRecDepth 100000 in
theorem tw_428 : Cond.code ⟨"RowCode$Judge", "goal", "(I)I"⟩ prog_5_method_10_code 3 (some .int) ∈ mx_tb := mx_tb_in (List.mem_of_getElem? (i := 428) rfl) (by decide +kernel)
theorem tw_427 : Cond.instanceMethod ⟨"RowCode$Judge", "goal", "(I)I"⟩ ∈ mx_tb := mx_tb_in (List.mem_of_getElem? (i := 427) (by decide +kernel)) (by decide +kernel)
theorem tw_8 : Cond.selects "RowCode$Judge" ⟨"RowCode$Judge", "goal", "(I)I"⟩ ⟨"RowCode$Judge", "goal", "(I)I"⟩ ∈ mx_tb := mx_tb_in (List.mem_of_getElem? (i := 8) (by decide +kernel)) (by decide +kernel)
set_option maxRecDepth 100000 in
theorem tw_398 : Cond.code ⟨"RowCode$Judge", "waysAgree", "()Z"⟩ prog_5_method_11_code 2 (some .boolean) ∈ mx_tb := mx_tb_in (List.mem_of_getElem? (i := 398) rfl) (by decide +kernel)
theorem tw_397 : Cond.instanceMethod ⟨"RowCode$Judge", "waysAgree", "()Z"⟩ ∈ mx_tb := mx_tb_in (List.mem_of_getElem? (i := 397) (by decide +kernel)) (by decide +kernel)
theorem tw_4 : Cond.selects "RowCode$Judge" ⟨"RowCode$Judge", "waysAgree", "()Z"⟩ ⟨"RowCode$Judge", "waysAgree", "()Z"⟩ ∈ mx_tb := mx_tb_in (List.mem_of_getElem? (i := 4) (by decide +kernel)) (by decide +kernel)
set_option maxRecDepth 100000 in
theorem tw_413 : Cond.code ⟨"RowCode$Judge", "leavesRightly", "(I)Z"⟩ prog_5_method_12_code 7 (some .boolean) ∈ mx_tb := mx_tb_in (List.mem_of_getElem? (i := 413) rfl) (by decide +kernel)
theorem tw_412 : Cond.instanceMethod ⟨"RowCode$Judge", "leavesRightly", "(I)Z"⟩ ∈ mx_tb := mx_tb_in (List.mem_of_getElem? (i := 412) (by decide +kernel)) (by decide +kernel)
theorem tw_6 : Cond.selects "RowCode$Judge" ⟨"RowCode$Judge", "leavesRightly", "(I)Z"⟩ ⟨"RowCode$Judge", "leavesRightly", "(I)Z"⟩ ∈ mx_tb := mx_tb_in (List.mem_of_getElem? (i := 6) (by decide +kernel)) (by decide +kernel)
set_option maxRecDepth 100000 in
theorem tw_403 : Cond.code ⟨"RowCode$Judge", "arrives", "(II)Z"⟩ prog_5_method_13_code 3 (some .boolean) ∈ mx_tb := mx_tb_in (List.mem_of_getElem? (i := 403) rfl) (by decide +kernel)
theorem tw_402 : Cond.instanceMethod ⟨"RowCode$Judge", "arrives", "(II)Z"⟩ ∈ mx_tb := mx_tb_in (List.mem_of_getElem? (i := 402) (by decide +kernel)) (by decide +kernel)
theorem tw_5 : Cond.selects "RowCode$Judge" ⟨"RowCode$Judge", "arrives", "(II)Z"⟩ ⟨"RowCode$Judge", "arrives", "(II)Z"⟩ ∈ mx_tb := mx_tb_in (List.mem_of_getElem? (i := 5) (by decide +kernel)) (by decide +kernel)
set_option maxRecDepth 100000 in
theorem tw_432 : Cond.code ⟨"RowCode$Judge", "roundsSpend", "()Z"⟩ prog_5_method_14_code 4 (some .boolean) ∈ mx_tb := mx_tb_in (List.mem_of_getElem? (i := 432) rfl) (by decide +kernel)
theorem tw_431 : Cond.instanceMethod ⟨"RowCode$Judge", "roundsSpend", "()Z"⟩ ∈ mx_tb := mx_tb_in (List.mem_of_getElem? (i := 431) (by decide +kernel)) (by decide +kernel)
theorem tw_9 : Cond.selects "RowCode$Judge" ⟨"RowCode$Judge", "roundsSpend", "()Z"⟩ ⟨"RowCode$Judge", "roundsSpend", "()Z"⟩ ∈ mx_tb := mx_tb_in (List.mem_of_getElem? (i := 9) (by decide +kernel)) (by decide +kernel)
set_option maxRecDepth 100000 in
theorem tw_436 : Cond.code ⟨"RowCode$Judge", "isFree", "(I)Z"⟩ prog_5_method_15_code 2 (some .boolean) ∈ mx_tb := mx_tb_in (List.mem_of_getElem? (i := 436) rfl) (by decide +kernel)
theorem tw_435 : Cond.instanceMethod ⟨"RowCode$Judge", "isFree", "(I)Z"⟩ ∈ mx_tb := mx_tb_in (List.mem_of_getElem? (i := 435) (by decide +kernel)) (by decide +kernel)
theorem tw_10 : Cond.selects "RowCode$Judge" ⟨"RowCode$Judge", "isFree", "(I)Z"⟩ ⟨"RowCode$Judge", "isFree", "(I)Z"⟩ ∈ mx_tb := mx_tb_in (List.mem_of_getElem? (i := 10) (by decide +kernel)) (by decide +kernel)
set_option maxRecDepth 100000 in
theorem tw_440 : Cond.code ⟨"RowCode$Judge", "countComer", "(I)V"⟩ prog_5_method_16_code 2 none ∈ mx_tb := mx_tb_in (List.mem_of_getElem? (i := 440) rfl) (by decide +kernel)
theorem tw_439 : Cond.instanceMethod ⟨"RowCode$Judge", "countComer", "(I)V"⟩ ∈ mx_tb := mx_tb_in (List.mem_of_getElem? (i := 439) (by decide +kernel)) (by decide +kernel)
theorem tw_11 : Cond.selects "RowCode$Judge" ⟨"RowCode$Judge", "countComer", "(I)V"⟩ ⟨"RowCode$Judge", "countComer", "(I)V"⟩ ∈ mx_tb := mx_tb_in (List.mem_of_getElem? (i := 11) (by decide +kernel)) (by decide +kernel)
set_option maxRecDepth 100000 in
theorem tw_444 : Cond.code ⟨"RowCode$Judge", "loseComer", "(I)V"⟩ prog_5_method_17_code 2 none ∈ mx_tb := mx_tb_in (List.mem_of_getElem? (i := 444) rfl) (by decide +kernel)
theorem tw_443 : Cond.instanceMethod ⟨"RowCode$Judge", "loseComer", "(I)V"⟩ ∈ mx_tb := mx_tb_in (List.mem_of_getElem? (i := 443) (by decide +kernel)) (by decide +kernel)
theorem tw_12 : Cond.selects "RowCode$Judge" ⟨"RowCode$Judge", "loseComer", "(I)V"⟩ ⟨"RowCode$Judge", "loseComer", "(I)V"⟩ ∈ mx_tb := mx_tb_in (List.mem_of_getElem? (i := 12) (by decide +kernel)) (by decide +kernel)
set_option maxRecDepth 100000 in
theorem tw_153 : Cond.code ⟨"RowCode$Improver", "<init>", "()V"⟩ prog_4_method_1_code 1 none ∈ mx_tb := mx_tb_in (List.mem_of_getElem? (i := 153) rfl) (by decide +kernel)
theorem tw_152 : Cond.instanceMethod ⟨"RowCode$Improver", "<init>", "()V"⟩ ∈ mx_tb := mx_tb_in (List.mem_of_getElem? (i := 152) (by decide +kernel)) (by decide +kernel)
set_option maxRecDepth 100000 in
theorem tw_452 : Cond.code ⟨"RowCode$Improver", "improve", "(LRowCode$Code;LRowCode$Judge;)LRowCode$Code;"⟩ prog_4_method_2_code 5 (some (.object "RowCode$Code")) ∈ mx_tb := mx_tb_in (List.mem_of_getElem? (i := 452) rfl) (by decide +kernel)
theorem tw_450 : Cond.instanceMethod ⟨"RowCode$Improver", "improve", "(LRowCode$Code;LRowCode$Judge;)LRowCode$Code;"⟩ ∈ mx_tb := mx_tb_in (List.mem_of_getElem? (i := 450) (by decide +kernel)) (by decide +kernel)
theorem tw_451 : Cond.selects "RowCode$Improver" ⟨"RowCode$Improver", "improve", "(LRowCode$Code;LRowCode$Judge;)LRowCode$Code;"⟩ ⟨"RowCode$Improver", "improve", "(LRowCode$Code;LRowCode$Judge;)LRowCode$Code;"⟩ ∈ mx_tb := mx_tb_in (List.mem_of_getElem? (i := 451) (by decide +kernel)) (by decide +kernel)
set_option maxRecDepth 100000 in
theorem tw_456 : Cond.code ⟨"RowCode$Improver", "copyReached", "(LRowCode$Code;LRowCode$Judge;)V"⟩ prog_4_method_3_code 5 none ∈ mx_tb := mx_tb_in (List.mem_of_getElem? (i := 456) rfl) (by decide +kernel)
theorem tw_455 : Cond.instanceMethod ⟨"RowCode$Improver", "copyReached", "(LRowCode$Code;LRowCode$Judge;)V"⟩ ∈ mx_tb := mx_tb_in (List.mem_of_getElem? (i := 455) (by decide +kernel)) (by decide +kernel)
theorem tw_13 : Cond.selects "RowCode$Improver" ⟨"RowCode$Improver", "copyReached", "(LRowCode$Code;LRowCode$Judge;)V"⟩ ⟨"RowCode$Improver", "copyReached", "(LRowCode$Code;LRowCode$Judge;)V"⟩ ∈ mx_tb := mx_tb_in (List.mem_of_getElem? (i := 13) (by decide +kernel)) (by decide +kernel)
set_option maxRecDepth 100000 in
theorem tw_469 : Cond.code ⟨"RowCode$Improver", "findPlaces", "()V"⟩ prog_4_method_4_code 2 none ∈ mx_tb := mx_tb_in (List.mem_of_getElem? (i := 469) rfl) (by decide +kernel)
theorem tw_468 : Cond.instanceMethod ⟨"RowCode$Improver", "findPlaces", "()V"⟩ ∈ mx_tb := mx_tb_in (List.mem_of_getElem? (i := 468) (by decide +kernel)) (by decide +kernel)
theorem tw_14 : Cond.selects "RowCode$Improver" ⟨"RowCode$Improver", "findPlaces", "()V"⟩ ⟨"RowCode$Improver", "findPlaces", "()V"⟩ ∈ mx_tb := mx_tb_in (List.mem_of_getElem? (i := 14) (by decide +kernel)) (by decide +kernel)
set_option maxRecDepth 100000 in
theorem tw_475 : Cond.code ⟨"RowCode$Improver", "countUses", "()V"⟩ prog_4_method_5_code 3 none ∈ mx_tb := mx_tb_in (List.mem_of_getElem? (i := 475) rfl) (by decide +kernel)
theorem tw_474 : Cond.instanceMethod ⟨"RowCode$Improver", "countUses", "()V"⟩ ∈ mx_tb := mx_tb_in (List.mem_of_getElem? (i := 474) (by decide +kernel)) (by decide +kernel)
theorem tw_15 : Cond.selects "RowCode$Improver" ⟨"RowCode$Improver", "countUses", "()V"⟩ ⟨"RowCode$Improver", "countUses", "()V"⟩ ∈ mx_tb := mx_tb_in (List.mem_of_getElem? (i := 15) (by decide +kernel)) (by decide +kernel)
set_option maxRecDepth 100000 in
theorem tw_480 : Cond.code ⟨"RowCode$Improver", "farthest", "(I)I"⟩ prog_4_method_6_code 6 (some .int) ∈ mx_tb := mx_tb_in (List.mem_of_getElem? (i := 480) rfl) (by decide +kernel)
theorem tw_479 : Cond.instanceMethod ⟨"RowCode$Improver", "farthest", "(I)I"⟩ ∈ mx_tb := mx_tb_in (List.mem_of_getElem? (i := 479) (by decide +kernel)) (by decide +kernel)
theorem tw_16 : Cond.selects "RowCode$Improver" ⟨"RowCode$Improver", "farthest", "(I)I"⟩ ⟨"RowCode$Improver", "farthest", "(I)I"⟩ ∈ mx_tb := mx_tb_in (List.mem_of_getElem? (i := 16) (by decide +kernel)) (by decide +kernel)
set_option maxRecDepth 100000 in
theorem tw_485 : Cond.code ⟨"RowCode$Improver", "rewrite", "()V"⟩ prog_4_method_7_code 6 none ∈ mx_tb := mx_tb_in (List.mem_of_getElem? (i := 485) rfl) (by decide +kernel)
theorem tw_484 : Cond.instanceMethod ⟨"RowCode$Improver", "rewrite", "()V"⟩ ∈ mx_tb := mx_tb_in (List.mem_of_getElem? (i := 484) (by decide +kernel)) (by decide +kernel)
theorem tw_17 : Cond.selects "RowCode$Improver" ⟨"RowCode$Improver", "rewrite", "()V"⟩ ⟨"RowCode$Improver", "rewrite", "()V"⟩ ∈ mx_tb := mx_tb_in (List.mem_of_getElem? (i := 17) (by decide +kernel)) (by decide +kernel)
set_option maxRecDepth 100000 in
theorem tw_489 : Cond.code ⟨"RowCode$Improver", "folds", "(II)Z"⟩ prog_4_method_8_code 3 (some .boolean) ∈ mx_tb := mx_tb_in (List.mem_of_getElem? (i := 489) rfl) (by decide +kernel)
theorem tw_488 : Cond.instanceMethod ⟨"RowCode$Improver", "folds", "(II)Z"⟩ ∈ mx_tb := mx_tb_in (List.mem_of_getElem? (i := 488) (by decide +kernel)) (by decide +kernel)
theorem tw_18 : Cond.selects "RowCode$Improver" ⟨"RowCode$Improver", "folds", "(II)Z"⟩ ⟨"RowCode$Improver", "folds", "(II)Z"⟩ ∈ mx_tb := mx_tb_in (List.mem_of_getElem? (i := 18) (by decide +kernel)) (by decide +kernel)
set_option maxRecDepth 100000 in
theorem tw_493 : Cond.code ⟨"RowCode$Improver", "foldsOne", "(I)Z"⟩ prog_4_method_9_code 4 (some .boolean) ∈ mx_tb := mx_tb_in (List.mem_of_getElem? (i := 493) rfl) (by decide +kernel)
theorem tw_492 : Cond.instanceMethod ⟨"RowCode$Improver", "foldsOne", "(I)Z"⟩ ∈ mx_tb := mx_tb_in (List.mem_of_getElem? (i := 492) (by decide +kernel)) (by decide +kernel)
theorem tw_19 : Cond.selects "RowCode$Improver" ⟨"RowCode$Improver", "foldsOne", "(I)Z"⟩ ⟨"RowCode$Improver", "foldsOne", "(I)Z"⟩ ∈ mx_tb := mx_tb_in (List.mem_of_getElem? (i := 19) (by decide +kernel)) (by decide +kernel)
set_option maxRecDepth 100000 in
theorem tw_517 : Cond.code ⟨"RowCode$Improver", "foldsCalculation", "(I)Z"⟩ prog_4_method_10_code 3 (some .boolean) ∈ mx_tb := mx_tb_in (List.mem_of_getElem? (i := 517) rfl) (by decide +kernel)
theorem tw_516 : Cond.instanceMethod ⟨"RowCode$Improver", "foldsCalculation", "(I)Z"⟩ ∈ mx_tb := mx_tb_in (List.mem_of_getElem? (i := 516) (by decide +kernel)) (by decide +kernel)
theorem tw_20 : Cond.selects "RowCode$Improver" ⟨"RowCode$Improver", "foldsCalculation", "(I)Z"⟩ ⟨"RowCode$Improver", "foldsCalculation", "(I)Z"⟩ ∈ mx_tb := mx_tb_in (List.mem_of_getElem? (i := 20) (by decide +kernel)) (by decide +kernel)
set_option maxRecDepth 100000 in
theorem tw_530 : Cond.code ⟨"RowCode$Improver", "foldsComparison", "(I)Z"⟩ prog_4_method_11_code 4 (some .boolean) ∈ mx_tb := mx_tb_in (List.mem_of_getElem? (i := 530) rfl) (by decide +kernel)
theorem tw_529 : Cond.instanceMethod ⟨"RowCode$Improver", "foldsComparison", "(I)Z"⟩ ∈ mx_tb := mx_tb_in (List.mem_of_getElem? (i := 529) (by decide +kernel)) (by decide +kernel)
theorem tw_21 : Cond.selects "RowCode$Improver" ⟨"RowCode$Improver", "foldsComparison", "(I)Z"⟩ ⟨"RowCode$Improver", "foldsComparison", "(I)Z"⟩ ∈ mx_tb := mx_tb_in (List.mem_of_getElem? (i := 21) (by decide +kernel)) (by decide +kernel)
set_option maxRecDepth 100000 in
theorem tw_540 : Cond.code ⟨"RowCode$Improver", "foldsDrop", "()Z"⟩ prog_4_method_12_code 2 (some .boolean) ∈ mx_tb := mx_tb_in (List.mem_of_getElem? (i := 540) rfl) (by decide +kernel)
theorem tw_539 : Cond.instanceMethod ⟨"RowCode$Improver", "foldsDrop", "()Z"⟩ ∈ mx_tb := mx_tb_in (List.mem_of_getElem? (i := 539) (by decide +kernel)) (by decide +kernel)
theorem tw_22 : Cond.selects "RowCode$Improver" ⟨"RowCode$Improver", "foldsDrop", "()Z"⟩ ⟨"RowCode$Improver", "foldsDrop", "()Z"⟩ ∈ mx_tb := mx_tb_in (List.mem_of_getElem? (i := 22) (by decide +kernel)) (by decide +kernel)
set_option maxRecDepth 100000 in
theorem tw_544 : Cond.code ⟨"RowCode$Improver", "foldsCondition", "(II)Z"⟩ prog_4_method_13_code 4 (some .boolean) ∈ mx_tb := mx_tb_in (List.mem_of_getElem? (i := 544) rfl) (by decide +kernel)
theorem tw_543 : Cond.instanceMethod ⟨"RowCode$Improver", "foldsCondition", "(II)Z"⟩ ∈ mx_tb := mx_tb_in (List.mem_of_getElem? (i := 543) (by decide +kernel)) (by decide +kernel)
theorem tw_23 : Cond.selects "RowCode$Improver" ⟨"RowCode$Improver", "foldsCondition", "(II)Z"⟩ ⟨"RowCode$Improver", "foldsCondition", "(II)Z"⟩ ∈ mx_tb := mx_tb_in (List.mem_of_getElem? (i := 23) (by decide +kernel)) (by decide +kernel)
set_option maxRecDepth 100000 in
theorem tw_547 : Cond.code ⟨"RowCode$Improver", "otherCondition", "(I)I"⟩ prog_4_method_14_code 1 (some .int) ∈ mx_tb := mx_tb_in (List.mem_of_getElem? (i := 547) rfl) (by decide +kernel)
theorem tw_546 : Cond.static ⟨"RowCode$Improver", "otherCondition", "(I)I"⟩ ∈ mx_tb := mx_tb_in (List.mem_of_getElem? (i := 546) (by decide +kernel)) (by decide +kernel)
set_option maxRecDepth 100000 in
theorem tw_551 : Cond.code ⟨"RowCode$Improver", "shortenWayTo", "(I)V"⟩ prog_4_method_15_code 5 none ∈ mx_tb := mx_tb_in (List.mem_of_getElem? (i := 551) rfl) (by decide +kernel)
theorem tw_550 : Cond.instanceMethod ⟨"RowCode$Improver", "shortenWayTo", "(I)V"⟩ ∈ mx_tb := mx_tb_in (List.mem_of_getElem? (i := 550) (by decide +kernel)) (by decide +kernel)
theorem tw_24 : Cond.selects "RowCode$Improver" ⟨"RowCode$Improver", "shortenWayTo", "(I)V"⟩ ⟨"RowCode$Improver", "shortenWayTo", "(I)V"⟩ ∈ mx_tb := mx_tb_in (List.mem_of_getElem? (i := 24) (by decide +kernel)) (by decide +kernel)
set_option maxRecDepth 100000 in
theorem tw_176 : Cond.code ⟨"RowCode$Translator", "<init>", "()V"⟩ prog_10_method_1_code 1 none ∈ mx_tb := mx_tb_in (List.mem_of_getElem? (i := 176) rfl) (by decide +kernel)
theorem tw_175 : Cond.instanceMethod ⟨"RowCode$Translator", "<init>", "()V"⟩ ∈ mx_tb := mx_tb_in (List.mem_of_getElem? (i := 175) (by decide +kernel)) (by decide +kernel)
set_option maxRecDepth 100000 in
theorem tw_557 : Cond.code ⟨"RowCode$Translator", "translate", "(LRowCode$Code;LRowCode$Judge;)LRowCode$Numbers;"⟩ prog_10_method_2_code 6 (some (.object "RowCode$Numbers")) ∈ mx_tb := mx_tb_in (List.mem_of_getElem? (i := 557) rfl) (by decide +kernel)
theorem tw_555 : Cond.instanceMethod ⟨"RowCode$Translator", "translate", "(LRowCode$Code;LRowCode$Judge;)LRowCode$Numbers;"⟩ ∈ mx_tb := mx_tb_in (List.mem_of_getElem? (i := 555) (by decide +kernel)) (by decide +kernel)
theorem tw_556 : Cond.selects "RowCode$Translator" ⟨"RowCode$Translator", "translate", "(LRowCode$Code;LRowCode$Judge;)LRowCode$Numbers;"⟩ ⟨"RowCode$Translator", "translate", "(LRowCode$Code;LRowCode$Judge;)LRowCode$Numbers;"⟩ ∈ mx_tb := mx_tb_in (List.mem_of_getElem? (i := 556) (by decide +kernel)) (by decide +kernel)
set_option maxRecDepth 100000 in
theorem tw_585 : Cond.code ⟨"RowCode$Translator", "write", "(II)V"⟩ prog_10_method_3_code 3 none ∈ mx_tb := mx_tb_in (List.mem_of_getElem? (i := 585) rfl) (by decide +kernel)
theorem tw_584 : Cond.instanceMethod ⟨"RowCode$Translator", "write", "(II)V"⟩ ∈ mx_tb := mx_tb_in (List.mem_of_getElem? (i := 584) (by decide +kernel)) (by decide +kernel)
theorem tw_29 : Cond.selects "RowCode$Translator" ⟨"RowCode$Translator", "write", "(II)V"⟩ ⟨"RowCode$Translator", "write", "(II)V"⟩ ∈ mx_tb := mx_tb_in (List.mem_of_getElem? (i := 29) (by decide +kernel)) (by decide +kernel)
set_option maxRecDepth 100000 in
theorem tw_562 : Cond.code ⟨"RowCode$Translator", "layRow", "(I)V"⟩ prog_10_method_4_code 2 none ∈ mx_tb := mx_tb_in (List.mem_of_getElem? (i := 562) rfl) (by decide +kernel)
theorem tw_561 : Cond.instanceMethod ⟨"RowCode$Translator", "layRow", "(I)V"⟩ ∈ mx_tb := mx_tb_in (List.mem_of_getElem? (i := 561) (by decide +kernel)) (by decide +kernel)
theorem tw_25 : Cond.selects "RowCode$Translator" ⟨"RowCode$Translator", "layRow", "(I)V"⟩ ⟨"RowCode$Translator", "layRow", "(I)V"⟩ ∈ mx_tb := mx_tb_in (List.mem_of_getElem? (i := 25) (by decide +kernel)) (by decide +kernel)
set_option maxRecDepth 100000 in
theorem tw_570 : Cond.code ⟨"RowCode$Translator", "lay", "(II)V"⟩ prog_10_method_5_code 3 none ∈ mx_tb := mx_tb_in (List.mem_of_getElem? (i := 570) rfl) (by decide +kernel)
theorem tw_569 : Cond.instanceMethod ⟨"RowCode$Translator", "lay", "(II)V"⟩ ∈ mx_tb := mx_tb_in (List.mem_of_getElem? (i := 569) (by decide +kernel)) (by decide +kernel)
theorem tw_26 : Cond.selects "RowCode$Translator" ⟨"RowCode$Translator", "lay", "(II)V"⟩ ⟨"RowCode$Translator", "lay", "(II)V"⟩ ∈ mx_tb := mx_tb_in (List.mem_of_getElem? (i := 26) (by decide +kernel)) (by decide +kernel)
set_option maxRecDepth 100000 in
theorem tw_596 : Cond.code ⟨"RowCode$Translator", "drop", "(I)V"⟩ prog_10_method_6_code 2 none ∈ mx_tb := mx_tb_in (List.mem_of_getElem? (i := 596) rfl) (by decide +kernel)
theorem tw_595 : Cond.instanceMethod ⟨"RowCode$Translator", "drop", "(I)V"⟩ ∈ mx_tb := mx_tb_in (List.mem_of_getElem? (i := 595) (by decide +kernel)) (by decide +kernel)
theorem tw_31 : Cond.selects "RowCode$Translator" ⟨"RowCode$Translator", "drop", "(I)V"⟩ ⟨"RowCode$Translator", "drop", "(I)V"⟩ ∈ mx_tb := mx_tb_in (List.mem_of_getElem? (i := 31) (by decide +kernel)) (by decide +kernel)
set_option maxRecDepth 100000 in
theorem tw_611 : Cond.code ⟨"RowCode$Translator", "leaveInA", "()V"⟩ prog_10_method_7_code 1 none ∈ mx_tb := mx_tb_in (List.mem_of_getElem? (i := 611) rfl) (by decide +kernel)
theorem tw_610 : Cond.instanceMethod ⟨"RowCode$Translator", "leaveInA", "()V"⟩ ∈ mx_tb := mx_tb_in (List.mem_of_getElem? (i := 610) (by decide +kernel)) (by decide +kernel)
theorem tw_34 : Cond.selects "RowCode$Translator" ⟨"RowCode$Translator", "leaveInA", "()V"⟩ ⟨"RowCode$Translator", "leaveInA", "()V"⟩ ∈ mx_tb := mx_tb_in (List.mem_of_getElem? (i := 34) (by decide +kernel)) (by decide +kernel)
set_option maxRecDepth 100000 in
theorem tw_591 : Cond.code ⟨"RowCode$Translator", "toA", "(I)V"⟩ prog_10_method_8_code 3 none ∈ mx_tb := mx_tb_in (List.mem_of_getElem? (i := 591) rfl) (by decide +kernel)
theorem tw_590 : Cond.instanceMethod ⟨"RowCode$Translator", "toA", "(I)V"⟩ ∈ mx_tb := mx_tb_in (List.mem_of_getElem? (i := 590) (by decide +kernel)) (by decide +kernel)
theorem tw_30 : Cond.selects "RowCode$Translator" ⟨"RowCode$Translator", "toA", "(I)V"⟩ ⟨"RowCode$Translator", "toA", "(I)V"⟩ ∈ mx_tb := mx_tb_in (List.mem_of_getElem? (i := 30) (by decide +kernel)) (by decide +kernel)
set_option maxRecDepth 100000 in
theorem tw_581 : Cond.code ⟨"RowCode$Translator", "settle", "(II)V"⟩ prog_10_method_9_code 4 none ∈ mx_tb := mx_tb_in (List.mem_of_getElem? (i := 581) rfl) (by decide +kernel)
theorem tw_580 : Cond.instanceMethod ⟨"RowCode$Translator", "settle", "(II)V"⟩ ∈ mx_tb := mx_tb_in (List.mem_of_getElem? (i := 580) (by decide +kernel)) (by decide +kernel)
theorem tw_28 : Cond.selects "RowCode$Translator" ⟨"RowCode$Translator", "settle", "(II)V"⟩ ⟨"RowCode$Translator", "settle", "(II)V"⟩ ∈ mx_tb := mx_tb_in (List.mem_of_getElem? (i := 28) (by decide +kernel)) (by decide +kernel)
set_option maxRecDepth 100000 in
theorem tw_604 : Cond.code ⟨"RowCode$Translator", "meet", "(Z)Z"⟩ prog_10_method_10_code 4 (some .boolean) ∈ mx_tb := mx_tb_in (List.mem_of_getElem? (i := 604) rfl) (by decide +kernel)
theorem tw_603 : Cond.instanceMethod ⟨"RowCode$Translator", "meet", "(Z)Z"⟩ ∈ mx_tb := mx_tb_in (List.mem_of_getElem? (i := 603) (by decide +kernel)) (by decide +kernel)
theorem tw_33 : Cond.selects "RowCode$Translator" ⟨"RowCode$Translator", "meet", "(Z)Z"⟩ ⟨"RowCode$Translator", "meet", "(Z)Z"⟩ ∈ mx_tb := mx_tb_in (List.mem_of_getElem? (i := 33) (by decide +kernel)) (by decide +kernel)
set_option maxRecDepth 100000 in
theorem tw_600 : Cond.code ⟨"RowCode$Translator", "changeTop", "(I)V"⟩ prog_10_method_11_code 2 none ∈ mx_tb := mx_tb_in (List.mem_of_getElem? (i := 600) rfl) (by decide +kernel)
theorem tw_599 : Cond.instanceMethod ⟨"RowCode$Translator", "changeTop", "(I)V"⟩ ∈ mx_tb := mx_tb_in (List.mem_of_getElem? (i := 599) (by decide +kernel)) (by decide +kernel)
theorem tw_32 : Cond.selects "RowCode$Translator" ⟨"RowCode$Translator", "changeTop", "(I)V"⟩ ⟨"RowCode$Translator", "changeTop", "(I)V"⟩ ∈ mx_tb := mx_tb_in (List.mem_of_getElem? (i := 32) (by decide +kernel)) (by decide +kernel)
set_option maxRecDepth 100000 in
theorem tw_624 : Cond.code ⟨"RowCode$Translator", "compareAndKeep", "(I)V"⟩ prog_10_method_12_code 2 none ∈ mx_tb := mx_tb_in (List.mem_of_getElem? (i := 624) rfl) (by decide +kernel)
theorem tw_623 : Cond.instanceMethod ⟨"RowCode$Translator", "compareAndKeep", "(I)V"⟩ ∈ mx_tb := mx_tb_in (List.mem_of_getElem? (i := 623) (by decide +kernel)) (by decide +kernel)
theorem tw_36 : Cond.selects "RowCode$Translator" ⟨"RowCode$Translator", "compareAndKeep", "(I)V"⟩ ⟨"RowCode$Translator", "compareAndKeep", "(I)V"⟩ ∈ mx_tb := mx_tb_in (List.mem_of_getElem? (i := 36) (by decide +kernel)) (by decide +kernel)
set_option maxRecDepth 100000 in
theorem tw_575 : Cond.code ⟨"RowCode$Translator", "storeLocal", "(I)V"⟩ prog_10_method_13_code 4 none ∈ mx_tb := mx_tb_in (List.mem_of_getElem? (i := 575) rfl) (by decide +kernel)
theorem tw_574 : Cond.instanceMethod ⟨"RowCode$Translator", "storeLocal", "(I)V"⟩ ∈ mx_tb := mx_tb_in (List.mem_of_getElem? (i := 574) (by decide +kernel)) (by decide +kernel)
theorem tw_27 : Cond.selects "RowCode$Translator" ⟨"RowCode$Translator", "storeLocal", "(I)V"⟩ ⟨"RowCode$Translator", "storeLocal", "(I)V"⟩ ∈ mx_tb := mx_tb_in (List.mem_of_getElem? (i := 27) (by decide +kernel)) (by decide +kernel)
set_option maxRecDepth 100000 in
theorem tw_640 : Cond.code ⟨"RowCode$Translator", "storeByte", "()V"⟩ prog_10_method_14_code 2 none ∈ mx_tb := mx_tb_in (List.mem_of_getElem? (i := 640) rfl) (by decide +kernel)
theorem tw_639 : Cond.instanceMethod ⟨"RowCode$Translator", "storeByte", "()V"⟩ ∈ mx_tb := mx_tb_in (List.mem_of_getElem? (i := 639) (by decide +kernel)) (by decide +kernel)
theorem tw_39 : Cond.selects "RowCode$Translator" ⟨"RowCode$Translator", "storeByte", "()V"⟩ ⟨"RowCode$Translator", "storeByte", "()V"⟩ ∈ mx_tb := mx_tb_in (List.mem_of_getElem? (i := 39) (by decide +kernel)) (by decide +kernel)
set_option maxRecDepth 100000 in
theorem tw_628 : Cond.code ⟨"RowCode$Translator", "goIf", "(II)V"⟩ prog_10_method_15_code 4 none ∈ mx_tb := mx_tb_in (List.mem_of_getElem? (i := 628) rfl) (by decide +kernel)
theorem tw_627 : Cond.instanceMethod ⟨"RowCode$Translator", "goIf", "(II)V"⟩ ∈ mx_tb := mx_tb_in (List.mem_of_getElem? (i := 627) (by decide +kernel)) (by decide +kernel)
theorem tw_37 : Cond.selects "RowCode$Translator" ⟨"RowCode$Translator", "goIf", "(II)V"⟩ ⟨"RowCode$Translator", "goIf", "(II)V"⟩ ∈ mx_tb := mx_tb_in (List.mem_of_getElem? (i := 37) (by decide +kernel)) (by decide +kernel)
set_option maxRecDepth 100000 in
theorem tw_616 : Cond.code ⟨"RowCode$Translator", "compareAndGo", "(III)V"⟩ prog_10_method_16_code 5 none ∈ mx_tb := mx_tb_in (List.mem_of_getElem? (i := 616) rfl) (by decide +kernel)
theorem tw_615 : Cond.instanceMethod ⟨"RowCode$Translator", "compareAndGo", "(III)V"⟩ ∈ mx_tb := mx_tb_in (List.mem_of_getElem? (i := 615) (by decide +kernel)) (by decide +kernel)
theorem tw_35 : Cond.selects "RowCode$Translator" ⟨"RowCode$Translator", "compareAndGo", "(III)V"⟩ ⟨"RowCode$Translator", "compareAndGo", "(III)V"⟩ ∈ mx_tb := mx_tb_in (List.mem_of_getElem? (i := 35) (by decide +kernel)) (by decide +kernel)
set_option maxRecDepth 100000 in
theorem tw_636 : Cond.code ⟨"RowCode$Translator", "goInCase", "(II)V"⟩ prog_10_method_17_code 4 none ∈ mx_tb := mx_tb_in (List.mem_of_getElem? (i := 636) rfl) (by decide +kernel)
theorem tw_635 : Cond.instanceMethod ⟨"RowCode$Translator", "goInCase", "(II)V"⟩ ∈ mx_tb := mx_tb_in (List.mem_of_getElem? (i := 635) (by decide +kernel)) (by decide +kernel)
theorem tw_38 : Cond.selects "RowCode$Translator" ⟨"RowCode$Translator", "goInCase", "(II)V"⟩ ⟨"RowCode$Translator", "goInCase", "(II)V"⟩ ∈ mx_tb := mx_tb_in (List.mem_of_getElem? (i := 38) (by decide +kernel)) (by decide +kernel)
set_option maxRecDepth 100000 in
theorem tw_331 : Cond.code ⟨"RowCode", "forgetWork", "()V"⟩ prog_1_method_12_code 1 none ∈ mx_tb := mx_tb_in (List.mem_of_getElem? (i := 331) rfl) (by decide +kernel)
theorem tw_66 : Cond.initialized "RowCode" ∈ mx_tb := mx_tb_in (List.mem_of_getElem? (i := 66) (by decide +kernel)) (by decide +kernel)
theorem tw_330 : Cond.instanceMethod ⟨"RowCode", "forgetWork", "()V"⟩ ∈ mx_tb := mx_tb_in (List.mem_of_getElem? (i := 330) (by decide +kernel)) (by decide +kernel)
theorem tw_0 : Cond.selects "RowCode" ⟨"RowCode", "forgetWork", "()V"⟩ ⟨"RowCode", "forgetWork", "()V"⟩ ∈ mx_tb := mx_tb_in (List.mem_of_getElem? (i := 0) (by decide +kernel)) (by decide +kernel)
set_option maxRecDepth 100000 in
theorem tw_394 : Cond.code ⟨"RowCode", "isCondition", "(I)Z"⟩ prog_1_method_13_code 1 (some .boolean) ∈ mx_tb := mx_tb_in (List.mem_of_getElem? (i := 394) rfl) (by decide +kernel)
theorem tw_393 : Cond.static ⟨"RowCode", "isCondition", "(I)Z"⟩ ∈ mx_tb := mx_tb_in (List.mem_of_getElem? (i := 393) (by decide +kernel)) (by decide +kernel)
set_option maxRecDepth 100000 in
theorem tw_391 : Cond.code ⟨"RowCode", "goesToLabel", "(I)Z"⟩ prog_1_method_14_code 1 (some .boolean) ∈ mx_tb := mx_tb_in (List.mem_of_getElem? (i := 391) rfl) (by decide +kernel)
theorem tw_390 : Cond.static ⟨"RowCode", "goesToLabel", "(I)Z"⟩ ∈ mx_tb := mx_tb_in (List.mem_of_getElem? (i := 390) (by decide +kernel)) (by decide +kernel)
set_option maxRecDepth 100000 in
theorem tw_424 : Cond.code ⟨"RowCode", "endsWay", "(I)Z"⟩ prog_1_method_15_code 1 (some .boolean) ∈ mx_tb := mx_tb_in (List.mem_of_getElem? (i := 424) rfl) (by decide +kernel)
theorem tw_423 : Cond.static ⟨"RowCode", "endsWay", "(I)Z"⟩ ∈ mx_tb := mx_tb_in (List.mem_of_getElem? (i := 423) (by decide +kernel)) (by decide +kernel)
set_option maxRecDepth 100000 in
theorem tw_922 : Cond.code ⟨"RowCodeModel", "in", "(III)Z"⟩ prog_12_method_5_code 3 (some .boolean) ∈ mx_tb := mx_tb_in (List.mem_of_getElem? (i := 922) rfl) (by decide +kernel)
theorem tw_78 : Cond.initialized "RowCodeModel" ∈ mx_tb := mx_tb_in (List.mem_of_getElem? (i := 78) (by decide +kernel)) (by decide +kernel)
theorem tw_921 : Cond.static ⟨"RowCodeModel", "in", "(III)Z"⟩ ∈ mx_tb := mx_tb_in (List.mem_of_getElem? (i := 921) (by decide +kernel)) (by decide +kernel)
set_option maxRecDepth 100000 in
theorem tw_919 : Cond.code ⟨"RowCodeModel", "isGood", "(II)Z"⟩ prog_12_method_6_code 2 (some .boolean) ∈ mx_tb := mx_tb_in (List.mem_of_getElem? (i := 919) rfl) (by decide +kernel)
theorem tw_918 : Cond.static ⟨"RowCodeModel", "isGood", "(II)Z"⟩ ∈ mx_tb := mx_tb_in (List.mem_of_getElem? (i := 918) (by decide +kernel)) (by decide +kernel)
set_option maxRecDepth 100000 in
theorem tw_926 : Cond.code ⟨"RowCodeModel", "place", "(I)I"⟩ prog_12_method_7_code 3 (some .int) ∈ mx_tb := mx_tb_in (List.mem_of_getElem? (i := 926) rfl) (by decide +kernel)
theorem tw_925 : Cond.instanceMethod ⟨"RowCodeModel", "place", "(I)I"⟩ ∈ mx_tb := mx_tb_in (List.mem_of_getElem? (i := 925) (by decide +kernel)) (by decide +kernel)
theorem tw_55 : Cond.selects "RowCodeModel" ⟨"RowCodeModel", "place", "(I)I"⟩ ⟨"RowCodeModel", "place", "(I)I"⟩ ∈ mx_tb := mx_tb_in (List.mem_of_getElem? (i := 55) (by decide +kernel)) (by decide +kernel)
set_option maxRecDepth 100000 in
theorem tw_916 : Cond.code ⟨"RowCodeModel", "isSaid", "()Z"⟩ prog_12_method_8_code 4 (some .boolean) ∈ mx_tb := mx_tb_in (List.mem_of_getElem? (i := 916) rfl) (by decide +kernel)
theorem tw_915 : Cond.instanceMethod ⟨"RowCodeModel", "isSaid", "()Z"⟩ ∈ mx_tb := mx_tb_in (List.mem_of_getElem? (i := 915) (by decide +kernel)) (by decide +kernel)
theorem tw_54 : Cond.selects "RowCodeModel" ⟨"RowCodeModel", "isSaid", "()Z"⟩ ⟨"RowCodeModel", "isSaid", "()Z"⟩ ∈ mx_tb := mx_tb_in (List.mem_of_getElem? (i := 54) (by decide +kernel)) (by decide +kernel)
set_option maxRecDepth 100000 in
theorem tw_936 : Cond.code ⟨"RowCodeModel", "takes", "(I)I"⟩ prog_12_method_9_code 1 (some .int) ∈ mx_tb := mx_tb_in (List.mem_of_getElem? (i := 936) rfl) (by decide +kernel)
theorem tw_935 : Cond.static ⟨"RowCodeModel", "takes", "(I)I"⟩ ∈ mx_tb := mx_tb_in (List.mem_of_getElem? (i := 935) (by decide +kernel)) (by decide +kernel)
set_option maxRecDepth 100000 in
theorem tw_933 : Cond.code ⟨"RowCodeModel", "gives", "(I)I"⟩ prog_12_method_10_code 1 (some .int) ∈ mx_tb := mx_tb_in (List.mem_of_getElem? (i := 933) rfl) (by decide +kernel)
theorem tw_932 : Cond.static ⟨"RowCodeModel", "gives", "(I)I"⟩ ∈ mx_tb := mx_tb_in (List.mem_of_getElem? (i := 932) (by decide +kernel)) (by decide +kernel)
set_option maxRecDepth 100000 in
theorem tw_940 : Cond.code ⟨"RowCodeModel", "way", "(II)I"⟩ prog_12_method_11_code 5 (some .int) ∈ mx_tb := mx_tb_in (List.mem_of_getElem? (i := 940) rfl) (by decide +kernel)
theorem tw_939 : Cond.instanceMethod ⟨"RowCodeModel", "way", "(II)I"⟩ ∈ mx_tb := mx_tb_in (List.mem_of_getElem? (i := 939) (by decide +kernel)) (by decide +kernel)
theorem tw_57 : Cond.selects "RowCodeModel" ⟨"RowCodeModel", "way", "(II)I"⟩ ⟨"RowCodeModel", "way", "(II)I"⟩ ∈ mx_tb := mx_tb_in (List.mem_of_getElem? (i := 57) (by decide +kernel)) (by decide +kernel)
set_option maxRecDepth 100000 in
theorem tw_944 : Cond.code ⟨"RowCodeModel", "comes", "(II)Z"⟩ prog_12_method_12_code 3 (some .boolean) ∈ mx_tb := mx_tb_in (List.mem_of_getElem? (i := 944) rfl) (by decide +kernel)
theorem tw_943 : Cond.instanceMethod ⟨"RowCodeModel", "comes", "(II)Z"⟩ ∈ mx_tb := mx_tb_in (List.mem_of_getElem? (i := 943) (by decide +kernel)) (by decide +kernel)
theorem tw_58 : Cond.selects "RowCodeModel" ⟨"RowCodeModel", "comes", "(II)Z"⟩ ⟨"RowCodeModel", "comes", "(II)Z"⟩ ∈ mx_tb := mx_tb_in (List.mem_of_getElem? (i := 58) (by decide +kernel)) (by decide +kernel)
set_option maxRecDepth 100000 in
theorem tw_930 : Cond.code ⟨"RowCodeModel", "isEven", "()Z"⟩ prog_12_method_13_code 5 (some .boolean) ∈ mx_tb := mx_tb_in (List.mem_of_getElem? (i := 930) rfl) (by decide +kernel)
theorem tw_929 : Cond.instanceMethod ⟨"RowCodeModel", "isEven", "()Z"⟩ ∈ mx_tb := mx_tb_in (List.mem_of_getElem? (i := 929) (by decide +kernel)) (by decide +kernel)
theorem tw_56 : Cond.selects "RowCodeModel" ⟨"RowCodeModel", "isEven", "()Z"⟩ ⟨"RowCodeModel", "isEven", "()Z"⟩ ∈ mx_tb := mx_tb_in (List.mem_of_getElem? (i := 56) (by decide +kernel)) (by decide +kernel)
set_option maxRecDepth 100000 in
theorem tw_948 : Cond.code ⟨"RowCodeModel", "isSpent", "()Z"⟩ prog_12_method_14_code 6 (some .boolean) ∈ mx_tb := mx_tb_in (List.mem_of_getElem? (i := 948) rfl) (by decide +kernel)
theorem tw_947 : Cond.instanceMethod ⟨"RowCodeModel", "isSpent", "()Z"⟩ ∈ mx_tb := mx_tb_in (List.mem_of_getElem? (i := 947) (by decide +kernel)) (by decide +kernel)
theorem tw_59 : Cond.selects "RowCodeModel" ⟨"RowCodeModel", "isSpent", "()Z"⟩ ⟨"RowCodeModel", "isSpent", "()Z"⟩ ∈ mx_tb := mx_tb_in (List.mem_of_getElem? (i := 59) (by decide +kernel)) (by decide +kernel)
set_option maxRecDepth 100000 in
theorem tw_912 : Cond.code ⟨"RowCodeModel", "build", "()Z"⟩ prog_12_method_15_code 1 (some .boolean) ∈ mx_tb := mx_tb_in (List.mem_of_getElem? (i := 912) rfl) (by decide +kernel)
theorem tw_910 : Cond.instanceMethod ⟨"RowCodeModel", "build", "()Z"⟩ ∈ mx_tb := mx_tb_in (List.mem_of_getElem? (i := 910) (by decide +kernel)) (by decide +kernel)
theorem tw_911 : Cond.selects "RowCodeModel" ⟨"RowCodeModel", "build", "()Z"⟩ ⟨"RowCodeModel", "build", "()Z"⟩ ∈ mx_tb := mx_tb_in (List.mem_of_getElem? (i := 911) (by decide +kernel)) (by decide +kernel)
set_option maxRecDepth 100000 in
theorem tw_957 : Cond.code ⟨"RowCodeModel", "pop", "()I"⟩ prog_12_method_16_code 1 (some .int) ∈ mx_tb := mx_tb_in (List.mem_of_getElem? (i := 957) rfl) (by decide +kernel)
theorem tw_956 : Cond.instanceMethod ⟨"RowCodeModel", "pop", "()I"⟩ ∈ mx_tb := mx_tb_in (List.mem_of_getElem? (i := 956) (by decide +kernel)) (by decide +kernel)
theorem tw_60 : Cond.selects "RowCodeModel" ⟨"RowCodeModel", "pop", "()I"⟩ ⟨"RowCodeModel", "pop", "()I"⟩ ∈ mx_tb := mx_tb_in (List.mem_of_getElem? (i := 60) (by decide +kernel)) (by decide +kernel)
set_option maxRecDepth 100000 in
theorem tw_965 : Cond.code ⟨"RowCodeModel", "push", "(I)V"⟩ prog_12_method_17_code 2 none ∈ mx_tb := mx_tb_in (List.mem_of_getElem? (i := 965) rfl) (by decide +kernel)
theorem tw_964 : Cond.instanceMethod ⟨"RowCodeModel", "push", "(I)V"⟩ ∈ mx_tb := mx_tb_in (List.mem_of_getElem? (i := 964) (by decide +kernel)) (by decide +kernel)
theorem tw_62 : Cond.selects "RowCodeModel" ⟨"RowCodeModel", "push", "(I)V"⟩ ⟨"RowCodeModel", "push", "(I)V"⟩ ∈ mx_tb := mx_tb_in (List.mem_of_getElem? (i := 62) (by decide +kernel)) (by decide +kernel)
set_option maxRecDepth 100000 in
theorem tw_968 : Cond.code ⟨"RowCodeModel", "made", "(III)I"⟩ prog_12_method_18_code 4 (some .int) ∈ mx_tb := mx_tb_in (List.mem_of_getElem? (i := 968) rfl) (by decide +kernel)
theorem tw_967 : Cond.static ⟨"RowCodeModel", "made", "(III)I"⟩ ∈ mx_tb := mx_tb_in (List.mem_of_getElem? (i := 967) (by decide +kernel)) (by decide +kernel)
set_option maxRecDepth 100000 in
theorem tw_971 : Cond.code ⟨"RowCodeModel", "compares", "(III)Z"⟩ prog_12_method_19_code 3 (some .boolean) ∈ mx_tb := mx_tb_in (List.mem_of_getElem? (i := 971) rfl) (by decide +kernel)
theorem tw_970 : Cond.static ⟨"RowCodeModel", "compares", "(III)Z"⟩ ∈ mx_tb := mx_tb_in (List.mem_of_getElem? (i := 970) (by decide +kernel)) (by decide +kernel)
set_option maxRecDepth 100000 in
theorem tw_974 : Cond.code ⟨"RowCodeModel", "wordOf", "(II)I"⟩ prog_12_method_20_code 4 (some .int) ∈ mx_tb := mx_tb_in (List.mem_of_getElem? (i := 974) rfl) (by decide +kernel)
theorem tw_973 : Cond.static ⟨"RowCodeModel", "wordOf", "(II)I"⟩ ∈ mx_tb := mx_tb_in (List.mem_of_getElem? (i := 973) (by decide +kernel)) (by decide +kernel)
set_option maxRecDepth 100000 in
theorem tw_961 : Cond.code ⟨"RowCodeModel", "does", "(II)I"⟩ prog_12_method_21_code 7 (some .int) ∈ mx_tb := mx_tb_in (List.mem_of_getElem? (i := 961) rfl) (by decide +kernel)
theorem tw_960 : Cond.instanceMethod ⟨"RowCodeModel", "does", "(II)I"⟩ ∈ mx_tb := mx_tb_in (List.mem_of_getElem? (i := 960) (by decide +kernel)) (by decide +kernel)
theorem tw_61 : Cond.selects "RowCodeModel" ⟨"RowCodeModel", "does", "(II)I"⟩ ⟨"RowCodeModel", "does", "(II)I"⟩ ∈ mx_tb := mx_tb_in (List.mem_of_getElem? (i := 61) (by decide +kernel)) (by decide +kernel)
set_option maxRecDepth 100000 in
theorem tw_979 : Cond.code ⟨"RowCodeModel", "sets", "()I"⟩ prog_12_method_22_code 6 (some .int) ∈ mx_tb := mx_tb_in (List.mem_of_getElem? (i := 979) rfl) (by decide +kernel)
theorem tw_978 : Cond.instanceMethod ⟨"RowCodeModel", "sets", "()I"⟩ ∈ mx_tb := mx_tb_in (List.mem_of_getElem? (i := 978) (by decide +kernel)) (by decide +kernel)
theorem tw_63 : Cond.selects "RowCodeModel" ⟨"RowCodeModel", "sets", "()I"⟩ ⟨"RowCodeModel", "sets", "()I"⟩ ∈ mx_tb := mx_tb_in (List.mem_of_getElem? (i := 63) (by decide +kernel)) (by decide +kernel)
set_option maxRecDepth 100000 in
theorem tw_983 : Cond.code ⟨"RowCodeModel", "goesOn", "(I)I"⟩ prog_12_method_23_code 5 (some .int) ∈ mx_tb := mx_tb_in (List.mem_of_getElem? (i := 983) rfl) (by decide +kernel)
theorem tw_982 : Cond.instanceMethod ⟨"RowCodeModel", "goesOn", "(I)I"⟩ ∈ mx_tb := mx_tb_in (List.mem_of_getElem? (i := 982) (by decide +kernel)) (by decide +kernel)
theorem tw_64 : Cond.selects "RowCodeModel" ⟨"RowCodeModel", "goesOn", "(I)I"⟩ ⟨"RowCodeModel", "goesOn", "(I)I"⟩ ∈ mx_tb := mx_tb_in (List.mem_of_getElem? (i := 64) (by decide +kernel)) (by decide +kernel)
set_option maxRecDepth 100000 in
theorem tw_oi : Cond.code Lib.objectInit ⟨#[0xb1]⟩ 1 none ∈ mx_tb := mx_tb_in (List.mem_of_getElem? (i := 91) rfl) (by decide +kernel)
theorem tbX0 : ∀ w ∈ u_ws RX0 TX0 0, w ∈ mx_tb := fun w h => mx_tb_in (inX0 w h) ((by decide +kernel : ∀ w ∈ u_ws RX0 TX0 0, (goodWord w || k2_isCode w) = true) w h)
theorem tbX1 : ∀ w ∈ u_ws RX1 TX1 2, w ∈ mx_tb := fun w h => mx_tb_in (inX1 w h) ((by decide +kernel : ∀ w ∈ u_ws RX1 TX1 2, (goodWord w || k2_isCode w) = true) w h)
theorem tbX2 : ∀ w ∈ u_ws RX2 TX2 4, w ∈ mx_tb := fun w h => mx_tb_in (inX2 w h) ((by decide +kernel : ∀ w ∈ u_ws RX2 TX2 4, (goodWord w || k2_isCode w) = true) w h)
theorem tbX3 : ∀ w ∈ u_ws RX3 TX3 7, w ∈ mx_tb := fun w h => mx_tb_in (inX3 w h) ((by decide +kernel : ∀ w ∈ u_ws RX3 TX3 7, (goodWord w || k2_isCode w) = true) w h)
theorem tbX4 : ∀ w ∈ u_ws RX4 TX4 8, w ∈ mx_tb := fun w h => mx_tb_in (inX4 w h) ((by decide +kernel : ∀ w ∈ u_ws RX4 TX4 8, (goodWord w || k2_isCode w) = true) w h)
theorem tbX5 : ∀ w ∈ u_ws RX5 TX5 2, w ∈ mx_tb := fun w h => mx_tb_in (inX5 w h) ((by decide +kernel : ∀ w ∈ u_ws RX5 TX5 2, (goodWord w || k2_isCode w) = true) w h)
theorem tbX6 : ∀ w ∈ u_ws RX6 TX6 2, w ∈ mx_tb := fun w h => mx_tb_in (inX6 w h) ((by decide +kernel : ∀ w ∈ u_ws RX6 TX6 2, (goodWord w || k2_isCode w) = true) w h)
theorem tbX7 : ∀ w ∈ u_ws RX7 TX7 3, w ∈ mx_tb := fun w h => mx_tb_in (inX7 w h) ((by decide +kernel : ∀ w ∈ u_ws RX7 TX7 3, (goodWord w || k2_isCode w) = true) w h)
theorem tbX8 : ∀ w ∈ u_ws RX8 TX8 5, w ∈ mx_tb := fun w h => mx_tb_in (inX8 w h) ((by decide +kernel : ∀ w ∈ u_ws RX8 TX8 5, (goodWord w || k2_isCode w) = true) w h)
theorem tbX9 : ∀ w ∈ u_ws RX9 TX9 8, w ∈ mx_tb := fun w h => mx_tb_in (inX9 w h) ((by decide +kernel : ∀ w ∈ u_ws RX9 TX9 8, (goodWord w || k2_isCode w) = true) w h)
theorem tbX10 : ∀ w ∈ u_ws RX10 TX10 12, w ∈ mx_tb := fun w h => mx_tb_in (inX10 w h) ((by decide +kernel : ∀ w ∈ u_ws RX10 TX10 12, (goodWord w || k2_isCode w) = true) w h)
end
section
/-! THE METHODS: infos, and what a call asks of its callee -/
def mx_cal (j : mx_I) (n : Nat) : Prop := Cond.code j.1 j.2.1 j.2.2.1 j.2.2.2.1 ∈ mx_tb ∧ Cond.initialized j.1.cls ∈ mx_tb ∧ (j.1.cls ≠ "java/lang/invoke/MethodHandle" ∧ j.1.cls ≠ "java/lang/invoke/VarHandle") ∧ (parseMethodDescriptor j.1.desc).map (fun d => d.parameters.length) = some n
def mx_calV (j : mx_I) (n : Nat) : Prop := mx_cal j n ∧ Cond.instanceMethod j.1 ∈ mx_tb ∧ Cond.selects j.1.cls j.1 j.1 ∈ mx_tb
def mx_calS (j : mx_I) (n : Nat) : Prop := mx_cal j n ∧ Cond.static j.1 ∈ mx_tb
def mx_calI (j : mx_I) (n : Nat) : Prop := mx_cal j n ∧ j.1.name = "<init>" ∧ j.2.2.2.1 = none ∧ Cond.instanceMethod j.1 ∈ mx_tb
theorem mk_callV {i j : mx_I} {mi pc n idx ci N : Nat} {T : u_T} (h1 : j.2.2.2.2.1 + 1 ≤ i.2.2.2.2.1) (h2 : 8 + (j.2.2.1 + 11) + j.2.2.2.2.2 ≤ i.2.2.2.2.2) (h3 : mx_calV j n) (h4 : mx_link i.1.cls idx j.1) (h5 : mx_cl[ci]? = some (j.1.cls, T, N)) (h6 : decode i.2.1 pc = .ok (.invokevirtual idx, 3)) : mx_call i j pc (mi, n + 1, some (some ci), j.2.2.1) :=
  ⟨h1, h2, rfl, h3.1.1, h3.1.2.1, h3.1.2.2.1, n, idx, h3.1.2.2.2, h4, Or.inl ⟨rfl, ⟨ci, N, T, rfl, h5⟩, h6, h3.2.1, h3.2.2⟩⟩
theorem mk_callS {i j : mx_I} {mi pc n idx : Nat} (h1 : j.2.2.2.2.1 + 1 ≤ i.2.2.2.2.1) (h2 : 8 + (j.2.2.1 + 11) + j.2.2.2.2.2 ≤ i.2.2.2.2.2) (h3 : mx_calS j n) (h4 : mx_link i.1.cls idx j.1) (h6 : decode i.2.1 pc = .ok (.invokestatic idx, 3)) : mx_call i j pc (mi, n, none, j.2.2.1) :=
  ⟨h1, h2, rfl, h3.1.1, h3.1.2.1, h3.1.2.2.1, n, idx, h3.1.2.2.2, h4, Or.inr (Or.inl ⟨rfl, h6, h3.2⟩)⟩
theorem mk_callI {i j : mx_I} {mi pc n idx : Nat} (h1 : j.2.2.2.2.1 + 1 ≤ i.2.2.2.2.1) (h2 : 8 + (j.2.2.1 + 11) + j.2.2.2.2.2 ≤ i.2.2.2.2.2) (h3 : mx_calI j n) (h4 : mx_link i.1.cls idx j.1) (h6 : decode i.2.1 pc = .ok (.invokespecial idx, 3)) : mx_call i j pc (mi, n + 1, some none, j.2.2.1) :=
  ⟨h1, h2, rfl, h3.1.1, h3.1.2.1, h3.1.2.2.1, n, idx, h3.1.2.2.2, h4, Or.inr (Or.inr ⟨rfl, rfl, h6, h3.2.1, h3.2.2.1, h3.2.2.2⟩)⟩
def i_0 : mx_I := (⟨"java/util/Arrays", "copyOf", "([II)[I"⟩, prog_20_method_123_code, 3, (some (.array .int)), 1, 26)
def i_1 : mx_I := (⟨"RowCode$Numbers", "<init>", "()V"⟩, prog_8_method_1_code, 1, none, 1, 20)
def i_2 : mx_I := (⟨"RowCode$Numbers", "size", "()I"⟩, prog_8_method_2_code, 1, (some .int), 0, 0)
def i_3 : mx_I := (⟨"RowCode$Numbers", "at", "(I)I"⟩, prog_8_method_3_code, 2, (some .int), 0, 0)
def i_4 : mx_I := (⟨"RowCode$Numbers", "change", "(II)V"⟩, prog_8_method_4_code, 3, none, 0, 0)
def i_5 : mx_I := (⟨"RowCode$Numbers", "append", "(I)V"⟩, prog_8_method_5_code, 2, none, 2, 48)
def i_6 : mx_I := (⟨"RowCode$Numbers", "takeLast", "()I"⟩, prog_8_method_6_code, 1, (some .int), 0, 0)
def i_7 : mx_I := (⟨"RowCode$Numbers", "cutTo", "(I)V"⟩, prog_8_method_7_code, 2, none, 0, 0)
def i_8 : mx_I := (⟨"RowCode$Numbers", "refill", "(II)V"⟩, prog_8_method_8_code, 4, none, 3, 69)
def i_9 : mx_I := (⟨"RowCode$Arithmetic", "divides", "(I)Z"⟩, prog_2_method_2_code, 1, (some .boolean), 0, 0)
def i_10 : mx_I := (⟨"RowCode$Arithmetic", "calculate", "(III)I"⟩, prog_2_method_3_code, 3, (some .int), 0, 0)
def i_11 : mx_I := (⟨"RowCode$Arithmetic", "commutes", "(I)Z"⟩, prog_2_method_4_code, 1, (some .boolean), 0, 0)
def i_12 : mx_I := (⟨"RowCode$Arithmetic", "leavesAlone", "(II)Z"⟩, prog_2_method_5_code, 2, (some .boolean), 0, 0)
def i_13 : mx_I := (⟨"RowCode$Arithmetic", "holds", "(III)Z"⟩, prog_2_method_6_code, 3, (some .boolean), 0, 0)
def i_14 : mx_I := (⟨"RowCode$Arithmetic", "compare", "(III)I"⟩, prog_2_method_7_code, 3, (some .int), 1, 22)
def i_15 : mx_I := (⟨"RowCode$Arithmetic", "opposite", "(I)I"⟩, prog_2_method_8_code, 1, (some .int), 0, 0)
def i_16 : mx_I := (⟨"RowCode$Arithmetic", "mirrored", "(I)I"⟩, prog_2_method_9_code, 1, (some .int), 0, 0)
def i_17 : mx_I := (⟨"RowCode$Memory", "<init>", "()V"⟩, prog_7_method_1_code, 1, none, 1, 20)
def i_18 : mx_I := (⟨"RowCode$Memory", "hasLocal", "(I)Z"⟩, prog_7_method_2_code, 1, (some .boolean), 0, 0)
def i_19 : mx_I := (⟨"RowCode$Memory", "hasWord", "(J)Z"⟩, prog_7_method_3_code, 2, (some .boolean), 0, 0)
def i_20 : mx_I := (⟨"RowCode$Memory", "localAt", "(I)I"⟩, prog_7_method_4_code, 2, (some .int), 1, 20)
def i_21 : mx_I := (⟨"RowCode$Memory", "changeLocal", "(II)V"⟩, prog_7_method_5_code, 3, none, 1, 20)
def i_22 : mx_I := (⟨"RowCode$Memory", "wordAt", "(I)I"⟩, prog_7_method_6_code, 2, (some .int), 1, 21)
def i_23 : mx_I := (⟨"RowCode$Memory", "changeWord", "(II)V"⟩, prog_7_method_7_code, 3, none, 1, 21)
def i_24 : mx_I := (⟨"RowCode$Code", "<init>", "()V"⟩, prog_3_method_1_code, 1, none, 2, 40)
def i_25 : mx_I := (⟨"RowCode$Code", "size", "()I"⟩, prog_3_method_2_code, 1, (some .int), 1, 20)
def i_26 : mx_I := (⟨"RowCode$Code", "numberAt", "(I)I"⟩, prog_3_method_3_code, 2, (some .int), 1, 21)
def i_27 : mx_I := (⟨"RowCode$Code", "argumentAt", "(I)I"⟩, prog_3_method_4_code, 2, (some .int), 1, 21)
def i_28 : mx_I := (⟨"RowCode$Code", "append", "(II)V"⟩, prog_3_method_5_code, 3, none, 3, 69)
def i_29 : mx_I := (⟨"RowCode$Code", "cutTo", "(I)V"⟩, prog_3_method_6_code, 2, none, 1, 21)
def i_30 : mx_I := (⟨"RowCode$Code", "lastNumber", "(I)I"⟩, prog_3_method_7_code, 2, (some .int), 1, 21)
def i_31 : mx_I := (⟨"RowCode$Code", "lastArgument", "(I)I"⟩, prog_3_method_8_code, 2, (some .int), 1, 21)
def i_32 : mx_I := (⟨"RowCode$Code", "cutLast", "()V"⟩, prog_3_method_9_code, 1, none, 1, 20)
def i_33 : mx_I := (⟨"RowCode$Code", "replaceLast", "(III)V"⟩, prog_3_method_10_code, 4, none, 3, 69)
def i_34 : mx_I := (⟨"RowCode$Program", "<init>", "()V"⟩, prog_9_method_1_code, 1, none, 2, 40)
def i_35 : mx_I := (⟨"RowCode$Program", "load", "(LRowCode$Numbers;)V"⟩, prog_9_method_2_code, 5, none, 4, 92)
def i_36 : mx_I := (⟨"RowCode$Program", "take", "(II)V"⟩, prog_9_method_3_code, 3, none, 3, 69)
def i_37 : mx_I := (⟨"RowCode$Program", "size", "()I"⟩, prog_9_method_4_code, 1, (some .int), 1, 20)
def i_38 : mx_I := (⟨"RowCode$Program", "numberAt", "(I)I"⟩, prog_9_method_5_code, 2, (some .int), 1, 21)
def i_39 : mx_I := (⟨"RowCode$Program", "argumentAt", "(I)I"⟩, prog_9_method_6_code, 2, (some .int), 1, 21)
def i_40 : mx_I := (⟨"RowCode$Machine", "<init>", "(LRowCode$Memory;)V"⟩, prog_6_method_1_code, 2, none, 4, 92)
def i_41 : mx_I := (⟨"RowCode$Machine", "execute", "(LRowCode$Program;I)I"⟩, prog_6_method_2_code, 7, (some .int), 4, 90)
def i_42 : mx_I := (⟨"RowCode$Machine", "move", "(II)V"⟩, prog_6_method_3_code, 4, none, 2, 41)
def i_43 : mx_I := (⟨"RowCode$Machine", "jumps", "(I)Z"⟩, prog_6_method_4_code, 2, (some .boolean), 1, 22)
def i_44 : mx_I := (⟨"RowCode$Machine", "work", "(II)V"⟩, prog_6_method_5_code, 3, none, 3, 68)
def i_45 : mx_I := (⟨"RowCode$Machine", "reaches", "(J)Z"⟩, prog_6_method_6_code, 4, (some .boolean), 1, 21)
def i_46 : mx_I := (⟨"RowCode$Machine", "fetch", "()V"⟩, prog_6_method_7_code, 1, none, 2, 44)
def i_47 : mx_I := (⟨"RowCode$Machine", "store", "()V"⟩, prog_6_method_8_code, 1, none, 2, 44)
def i_48 : mx_I := (⟨"RowCode$Machine", "combine", "(I)V"⟩, prog_6_method_9_code, 2, none, 1, 22)
def i_49 : mx_I := (⟨"RowCode$Machine", "relateAndKeep", "(I)V"⟩, prog_6_method_10_code, 3, none, 2, 44)
def i_50 : mx_I := (⟨"RowCode$Machine", "byteAddress", "()J"⟩, prog_6_method_11_code, 1, (some .long), 0, 0)
def i_51 : mx_I := (⟨"RowCode$Machine", "fetchByte", "()V"⟩, prog_6_method_12_code, 2, none, 2, 44)
def i_52 : mx_I := (⟨"RowCode$Machine", "storeByte", "(I)V"⟩, prog_6_method_13_code, 5, none, 2, 44)
def i_53 : mx_I := (⟨"RowCode$Machine", "pay", "()V"⟩, prog_6_method_14_code, 1, none, 0, 0)
def i_54 : mx_I := (⟨"RowCode$Judge", "<init>", "(LRowCode$Code;)V"⟩, prog_5_method_1_code, 2, none, 2, 40)
def i_55 : mx_I := (⟨"RowCode$Judge", "forgetJudgement", "()V"⟩, prog_5_method_2_code, 1, none, 0, 0)
def i_56 : mx_I := (⟨"RowCode$Judge", "findsRight", "()Z"⟩, prog_5_method_3_code, 1, (some .boolean), 6, 138)
def i_57 : mx_I := (⟨"RowCode$Judge", "isReached", "(I)Z"⟩, prog_5_method_4_code, 2, (some .boolean), 1, 21)
def i_58 : mx_I := (⟨"RowCode$Judge", "depthAtLabel", "(I)I"⟩, prog_5_method_5_code, 2, (some .int), 1, 21)
def i_59 : mx_I := (⟨"RowCode$Judge", "argumentsFit", "()Z"⟩, prog_5_method_6_code, 5, (some .boolean), 2, 42)
def i_60 : mx_I := (⟨"RowCode$Judge", "labelsAreOnce", "()Z"⟩, prog_5_method_7_code, 3, (some .boolean), 4, 92)
def i_61 : mx_I := (⟨"RowCode$Judge", "goalsAreThere", "()Z"⟩, prog_5_method_8_code, 3, (some .boolean), 2, 42)
def i_62 : mx_I := (⟨"RowCode$Judge", "following", "(I)I"⟩, prog_5_method_9_code, 3, (some .int), 2, 42)
def i_63 : mx_I := (⟨"RowCode$Judge", "goal", "(I)I"⟩, prog_5_method_10_code, 3, (some .int), 2, 42)
def i_64 : mx_I := (⟨"RowCode$Judge", "waysAgree", "()Z"⟩, prog_5_method_11_code, 2, (some .boolean), 5, 117)
def i_65 : mx_I := (⟨"RowCode$Judge", "leavesRightly", "(I)Z"⟩, prog_5_method_12_code, 7, (some .boolean), 4, 91)
def i_66 : mx_I := (⟨"RowCode$Judge", "arrives", "(II)Z"⟩, prog_5_method_13_code, 3, (some .boolean), 3, 69)
def i_67 : mx_I := (⟨"RowCode$Judge", "roundsSpend", "()Z"⟩, prog_5_method_14_code, 4, (some .boolean), 4, 92)
def i_68 : mx_I := (⟨"RowCode$Judge", "isFree", "(I)Z"⟩, prog_5_method_15_code, 2, (some .boolean), 2, 42)
def i_69 : mx_I := (⟨"RowCode$Judge", "countComer", "(I)V"⟩, prog_5_method_16_code, 2, none, 3, 63)
def i_70 : mx_I := (⟨"RowCode$Judge", "loseComer", "(I)V"⟩, prog_5_method_17_code, 2, none, 3, 69)
def i_71 : mx_I := (⟨"RowCode$Improver", "<init>", "()V"⟩, prog_4_method_1_code, 1, none, 3, 60)
def i_72 : mx_I := (⟨"RowCode$Improver", "improve", "(LRowCode$Code;LRowCode$Judge;)LRowCode$Code;"⟩, prog_4_method_2_code, 5, (some (.object "RowCode$Code")), 7, 163)
def i_73 : mx_I := (⟨"RowCode$Improver", "copyReached", "(LRowCode$Code;LRowCode$Judge;)V"⟩, prog_4_method_3_code, 5, none, 4, 91)
def i_74 : mx_I := (⟨"RowCode$Improver", "findPlaces", "()V"⟩, prog_4_method_4_code, 2, none, 4, 92)
def i_75 : mx_I := (⟨"RowCode$Improver", "countUses", "()V"⟩, prog_4_method_5_code, 3, none, 4, 92)
def i_76 : mx_I := (⟨"RowCode$Improver", "farthest", "(I)I"⟩, prog_4_method_6_code, 6, (some .int), 2, 42)
def i_77 : mx_I := (⟨"RowCode$Improver", "rewrite", "()V"⟩, prog_4_method_7_code, 6, none, 6, 138)
def i_78 : mx_I := (⟨"RowCode$Improver", "folds", "(II)Z"⟩, prog_4_method_8_code, 3, (some .boolean), 5, 116)
def i_79 : mx_I := (⟨"RowCode$Improver", "foldsOne", "(I)Z"⟩, prog_4_method_9_code, 4, (some .boolean), 4, 92)
def i_80 : mx_I := (⟨"RowCode$Improver", "foldsCalculation", "(I)Z"⟩, prog_4_method_10_code, 3, (some .boolean), 4, 92)
def i_81 : mx_I := (⟨"RowCode$Improver", "foldsComparison", "(I)Z"⟩, prog_4_method_11_code, 4, (some .boolean), 4, 92)
def i_82 : mx_I := (⟨"RowCode$Improver", "foldsDrop", "()Z"⟩, prog_4_method_12_code, 2, (some .boolean), 2, 42)
def i_83 : mx_I := (⟨"RowCode$Improver", "foldsCondition", "(II)Z"⟩, prog_4_method_13_code, 4, (some .boolean), 4, 92)
def i_84 : mx_I := (⟨"RowCode$Improver", "otherCondition", "(I)I"⟩, prog_4_method_14_code, 1, (some .int), 0, 0)
def i_85 : mx_I := (⟨"RowCode$Improver", "shortenWayTo", "(I)V"⟩, prog_4_method_15_code, 5, none, 4, 92)
def i_86 : mx_I := (⟨"RowCode$Translator", "<init>", "()V"⟩, prog_10_method_1_code, 1, none, 2, 40)
def i_87 : mx_I := (⟨"RowCode$Translator", "translate", "(LRowCode$Code;LRowCode$Judge;)LRowCode$Numbers;"⟩, prog_10_method_2_code, 6, (some (.object "RowCode$Numbers")), 7, 160)
def i_88 : mx_I := (⟨"RowCode$Translator", "write", "(II)V"⟩, prog_10_method_3_code, 3, none, 3, 69)
def i_89 : mx_I := (⟨"RowCode$Translator", "layRow", "(I)V"⟩, prog_10_method_4_code, 2, none, 4, 92)
def i_90 : mx_I := (⟨"RowCode$Translator", "lay", "(II)V"⟩, prog_10_method_5_code, 3, none, 3, 69)
def i_91 : mx_I := (⟨"RowCode$Translator", "drop", "(I)V"⟩, prog_10_method_6_code, 2, none, 1, 21)
def i_92 : mx_I := (⟨"RowCode$Translator", "leaveInA", "()V"⟩, prog_10_method_7_code, 1, none, 4, 91)
def i_93 : mx_I := (⟨"RowCode$Translator", "toA", "(I)V"⟩, prog_10_method_8_code, 3, none, 4, 91)
def i_94 : mx_I := (⟨"RowCode$Translator", "settle", "(II)V"⟩, prog_10_method_9_code, 4, none, 5, 113)
def i_95 : mx_I := (⟨"RowCode$Translator", "meet", "(Z)Z"⟩, prog_10_method_10_code, 4, (some .boolean), 5, 113)
def i_96 : mx_I := (⟨"RowCode$Translator", "changeTop", "(I)V"⟩, prog_10_method_11_code, 2, none, 5, 113)
def i_97 : mx_I := (⟨"RowCode$Translator", "compareAndKeep", "(I)V"⟩, prog_10_method_12_code, 2, none, 6, 136)
def i_98 : mx_I := (⟨"RowCode$Translator", "storeLocal", "(I)V"⟩, prog_10_method_13_code, 4, none, 6, 136)
def i_99 : mx_I := (⟨"RowCode$Translator", "storeByte", "()V"⟩, prog_10_method_14_code, 2, none, 6, 136)
def i_100 : mx_I := (⟨"RowCode$Translator", "goIf", "(II)V"⟩, prog_10_method_15_code, 4, none, 6, 136)
def i_101 : mx_I := (⟨"RowCode$Translator", "compareAndGo", "(III)V"⟩, prog_10_method_16_code, 5, none, 6, 136)
def i_102 : mx_I := (⟨"RowCode$Translator", "goInCase", "(II)V"⟩, prog_10_method_17_code, 4, none, 6, 136)
def i_103 : mx_I := (⟨"RowCode", "<init>", "()V"⟩, prog_1_method_1_code, 1, none, 5, 113)
def i_104 : mx_I := (⟨"RowCode", "add", "(II)I"⟩, prog_1_method_2_code, 3, (some .int), 4, 91)
def i_105 : mx_I := (⟨"RowCode", "clear", "()V"⟩, prog_1_method_3_code, 1, none, 2, 42)
def i_106 : mx_I := (⟨"RowCode", "build", "()Z"⟩, prog_1_method_4_code, 1, (some .boolean), 7, 158)
def i_107 : mx_I := (⟨"RowCode", "run", "(I)I"⟩, prog_1_method_5_code, 3, (some .int), 8, 187)
def i_108 : mx_I := (⟨"RowCode", "value", "()I"⟩, prog_1_method_6_code, 1, (some .int), 0, 0)
def i_109 : mx_I := (⟨"RowCode", "fuel", "()I"⟩, prog_1_method_7_code, 1, (some .int), 0, 0)
def i_110 : mx_I := (⟨"RowCode", "set", "(II)I"⟩, prog_1_method_8_code, 4, (some .int), 2, 42)
def i_111 : mx_I := (⟨"RowCode", "put", "(II)I"⟩, prog_1_method_10_code, 4, (some .int), 2, 43)
def i_112 : mx_I := (⟨"RowCode", "forgetWork", "()V"⟩, prog_1_method_12_code, 1, none, 1, 20)
def i_113 : mx_I := (⟨"RowCode", "isCondition", "(I)Z"⟩, prog_1_method_13_code, 1, (some .boolean), 0, 0)
def i_114 : mx_I := (⟨"RowCode", "goesToLabel", "(I)Z"⟩, prog_1_method_14_code, 1, (some .boolean), 1, 20)
def i_115 : mx_I := (⟨"RowCode", "endsWay", "(I)Z"⟩, prog_1_method_15_code, 1, (some .boolean), 0, 0)
def i_116 : mx_I := (⟨"RowCodeModel", "<init>", "()V"⟩, prog_12_method_1_code, 1, none, 1, 20)
def i_117 : mx_I := (⟨"RowCodeModel", "thrown", "()I"⟩, prog_12_method_2_code, 1, (some .int), 0, 0)
def i_118 : mx_I := (⟨"RowCodeModel", "add", "(II)I"⟩, prog_12_method_3_code, 3, (some .int), 0, 0)
def i_119 : mx_I := (⟨"RowCodeModel", "clear", "()V"⟩, prog_12_method_4_code, 1, none, 0, 0)
def i_120 : mx_I := (⟨"RowCodeModel", "in", "(III)Z"⟩, prog_12_method_5_code, 3, (some .boolean), 0, 0)
def i_121 : mx_I := (⟨"RowCodeModel", "isGood", "(II)Z"⟩, prog_12_method_6_code, 2, (some .boolean), 1, 22)
def i_122 : mx_I := (⟨"RowCodeModel", "place", "(I)I"⟩, prog_12_method_7_code, 3, (some .int), 0, 0)
def i_123 : mx_I := (⟨"RowCodeModel", "isSaid", "()Z"⟩, prog_12_method_8_code, 4, (some .boolean), 2, 43)
def i_124 : mx_I := (⟨"RowCodeModel", "takes", "(I)I"⟩, prog_12_method_9_code, 1, (some .int), 0, 0)
def i_125 : mx_I := (⟨"RowCodeModel", "gives", "(I)I"⟩, prog_12_method_10_code, 1, (some .int), 0, 0)
def i_126 : mx_I := (⟨"RowCodeModel", "way", "(II)I"⟩, prog_12_method_11_code, 5, (some .int), 1, 22)
def i_127 : mx_I := (⟨"RowCodeModel", "comes", "(II)Z"⟩, prog_12_method_12_code, 3, (some .boolean), 0, 0)
def i_128 : mx_I := (⟨"RowCodeModel", "isEven", "()Z"⟩, prog_12_method_13_code, 5, (some .boolean), 2, 46)
def i_129 : mx_I := (⟨"RowCodeModel", "isSpent", "()Z"⟩, prog_12_method_14_code, 6, (some .boolean), 2, 46)
def i_130 : mx_I := (⟨"RowCodeModel", "build", "()Z"⟩, prog_12_method_15_code, 1, (some .boolean), 3, 71)
def i_131 : mx_I := (⟨"RowCodeModel", "pop", "()I"⟩, prog_12_method_16_code, 1, (some .int), 0, 0)
def i_132 : mx_I := (⟨"RowCodeModel", "push", "(I)V"⟩, prog_12_method_17_code, 2, none, 0, 0)
def i_133 : mx_I := (⟨"RowCodeModel", "made", "(III)I"⟩, prog_12_method_18_code, 4, (some .int), 0, 0)
def i_134 : mx_I := (⟨"RowCodeModel", "compares", "(III)Z"⟩, prog_12_method_19_code, 3, (some .boolean), 0, 0)
def i_135 : mx_I := (⟨"RowCodeModel", "wordOf", "(II)I"⟩, prog_12_method_20_code, 4, (some .int), 0, 0)
def i_136 : mx_I := (⟨"RowCodeModel", "does", "(II)I"⟩, prog_12_method_21_code, 7, (some .int), 2, 48)
def i_137 : mx_I := (⟨"RowCodeModel", "sets", "()I"⟩, prog_12_method_22_code, 6, (some .int), 1, 23)
def i_138 : mx_I := (⟨"RowCodeModel", "goesOn", "(I)I"⟩, prog_12_method_23_code, 5, (some .int), 1, 22)
def i_139 : mx_I := (⟨"RowCodeModel", "run", "(I)I"⟩, prog_12_method_24_code, 5, (some .int), 4, 91)
def i_140 : mx_I := (⟨"RowCodeModel", "value", "()I"⟩, prog_12_method_25_code, 1, (some .int), 0, 0)
def i_141 : mx_I := (⟨"RowCodeModel", "fuel", "()I"⟩, prog_12_method_26_code, 1, (some .int), 0, 0)
def i_142 : mx_I := (⟨"RowCodeModel", "set", "(II)I"⟩, prog_12_method_27_code, 4, (some .int), 1, 22)
def i_143 : mx_I := (⟨"RowCodeModel", "local", "(I)I"⟩, prog_12_method_28_code, 2, (some .int), 1, 22)
def i_144 : mx_I := (⟨"RowCodeModel", "put", "(II)I"⟩, prog_12_method_29_code, 4, (some .int), 1, 22)
def i_145 : mx_I := (⟨"RowCodeModel", "word", "(I)I"⟩, prog_12_method_30_code, 2, (some .int), 1, 22)
def mx_infos : List mx_I := [i_0, i_1, i_2, i_3, i_4, i_5, i_6, i_7, i_8, i_9, i_10, i_11, i_12, i_13, i_14, i_15, i_16, i_17, i_18, i_19, i_20, i_21, i_22, i_23, i_24, i_25, i_26, i_27, i_28, i_29, i_30, i_31, i_32, i_33, i_34, i_35, i_36, i_37, i_38, i_39, i_40, i_41, i_42, i_43, i_44, i_45, i_46, i_47, i_48, i_49, i_50, i_51, i_52, i_53, i_54, i_55, i_56, i_57, i_58, i_59, i_60, i_61, i_62, i_63, i_64, i_65, i_66, i_67, i_68, i_69, i_70, i_71, i_72, i_73, i_74, i_75, i_76, i_77, i_78, i_79, i_80, i_81, i_82, i_83, i_84, i_85, i_86, i_87, i_88, i_89, i_90, i_91, i_92, i_93, i_94, i_95, i_96, i_97, i_98, i_99, i_100, i_101, i_102, i_103, i_104, i_105, i_106, i_107, i_108, i_109, i_110, i_111, i_112, i_113, i_114, i_115, i_116, i_117, i_118, i_119, i_120, i_121, i_122, i_123, i_124, i_125, i_126, i_127, i_128, i_129, i_130, i_131, i_132, i_133, i_134, i_135, i_136, i_137, i_138, i_139, i_140, i_141, i_142, i_143, i_144, i_145]
def mx_I0 (k : Nat) : Option mx_I := mx_infos[k]?
theorem cs_0 : mx_calS i_0 2 := ⟨⟨tw_245, tw_75, ⟨by decide +kernel, by decide +kernel⟩, by decide +kernel⟩, tw_244⟩
theorem ci_1 : mx_calI i_1 0 := ⟨⟨tw_102, tw_68, ⟨by decide +kernel, by decide +kernel⟩, by decide +kernel⟩, rfl, rfl, tw_101⟩
theorem cv_2 : mx_calV i_2 0 := ⟨⟨tw_322, tw_68, ⟨by decide +kernel, by decide +kernel⟩, by decide +kernel⟩, tw_320, tw_321⟩
theorem cv_3 : mx_calV i_3 1 := ⟨⟨tw_368, tw_68, ⟨by decide +kernel, by decide +kernel⟩, by decide +kernel⟩, tw_366, tw_367⟩
theorem cv_4 : mx_calV i_4 2 := ⟨⟨tw_384, tw_68, ⟨by decide +kernel, by decide +kernel⟩, by decide +kernel⟩, tw_382, tw_383⟩
theorem cv_5 : mx_calV i_5 1 := ⟨⟨tw_242, tw_68, ⟨by decide +kernel, by decide +kernel⟩, by decide +kernel⟩, tw_240, tw_241⟩
theorem cv_6 : mx_calV i_6 0 := ⟨⟨tw_409, tw_68, ⟨by decide +kernel, by decide +kernel⟩, by decide +kernel⟩, tw_407, tw_408⟩
theorem cv_7 : mx_calV i_7 1 := ⟨⟨tw_347, tw_68, ⟨by decide +kernel, by decide +kernel⟩, by decide +kernel⟩, tw_345, tw_346⟩
theorem cv_8 : mx_calV i_8 2 := ⟨⟨tw_238, tw_68, ⟨by decide +kernel, by decide +kernel⟩, by decide +kernel⟩, tw_236, tw_237⟩
theorem cs_9 : mx_calS i_9 1 := ⟨⟨tw_523, tw_79, ⟨by decide +kernel, by decide +kernel⟩, by decide +kernel⟩, tw_522⟩
theorem cs_10 : mx_calS i_10 3 := ⟨⟨tw_526, tw_79, ⟨by decide +kernel, by decide +kernel⟩, by decide +kernel⟩, tw_525⟩
theorem cs_11 : mx_calS i_11 1 := ⟨⟨tw_607, tw_79, ⟨by decide +kernel, by decide +kernel⟩, by decide +kernel⟩, tw_606⟩
theorem cs_12 : mx_calS i_12 2 := ⟨⟨tw_520, tw_79, ⟨by decide +kernel, by decide +kernel⟩, by decide +kernel⟩, tw_519⟩
theorem cs_13 : mx_calS i_13 3 := ⟨⟨tw_536, tw_79, ⟨by decide +kernel, by decide +kernel⟩, by decide +kernel⟩, tw_535⟩
theorem cs_14 : mx_calS i_14 3 := ⟨⟨tw_533, tw_79, ⟨by decide +kernel, by decide +kernel⟩, by decide +kernel⟩, tw_532⟩
theorem cs_15 : mx_calS i_15 1 := ⟨⟨tw_513, tw_79, ⟨by decide +kernel, by decide +kernel⟩, by decide +kernel⟩, tw_512⟩
theorem cs_16 : mx_calS i_16 1 := ⟨⟨tw_619, tw_79, ⟨by decide +kernel, by decide +kernel⟩, by decide +kernel⟩, tw_618⟩
theorem ci_17 : mx_calI i_17 0 := ⟨⟨tw_218, tw_73, ⟨by decide +kernel, by decide +kernel⟩, by decide +kernel⟩, rfl, rfl, tw_217⟩
theorem cs_18 : mx_calS i_18 1 := ⟨⟨tw_681, tw_73, ⟨by decide +kernel, by decide +kernel⟩, by decide +kernel⟩, tw_680⟩
theorem cs_19 : mx_calS i_19 1 := ⟨⟨tw_702, tw_73, ⟨by decide +kernel, by decide +kernel⟩, by decide +kernel⟩, tw_701⟩
theorem cv_20 : mx_calV i_20 1 := ⟨⟨tw_678, tw_73, ⟨by decide +kernel, by decide +kernel⟩, by decide +kernel⟩, tw_676, tw_677⟩
theorem cv_21 : mx_calV i_21 2 := ⟨⟨tw_691, tw_73, ⟨by decide +kernel, by decide +kernel⟩, by decide +kernel⟩, tw_689, tw_690⟩
theorem cv_22 : mx_calV i_22 1 := ⟨⟨tw_707, tw_73, ⟨by decide +kernel, by decide +kernel⟩, by decide +kernel⟩, tw_705, tw_706⟩
theorem cv_23 : mx_calV i_23 2 := ⟨⟨tw_716, tw_73, ⟨by decide +kernel, by decide +kernel⟩, by decide +kernel⟩, tw_714, tw_715⟩
theorem ci_24 : mx_calI i_24 0 := ⟨⟨tw_96, tw_67, ⟨by decide +kernel, by decide +kernel⟩, by decide +kernel⟩, rfl, rfl, tw_95⟩
theorem cv_25 : mx_calV i_25 0 := ⟨⟨tw_318, tw_67, ⟨by decide +kernel, by decide +kernel⟩, by decide +kernel⟩, tw_316, tw_317⟩
theorem cv_26 : mx_calV i_26 1 := ⟨⟨tw_364, tw_67, ⟨by decide +kernel, by decide +kernel⟩, by decide +kernel⟩, tw_362, tw_363⟩
theorem cv_27 : mx_calV i_27 1 := ⟨⟨tw_374, tw_67, ⟨by decide +kernel, by decide +kernel⟩, by decide +kernel⟩, tw_372, tw_373⟩
theorem cv_28 : mx_calV i_28 2 := ⟨⟨tw_326, tw_67, ⟨by decide +kernel, by decide +kernel⟩, by decide +kernel⟩, tw_324, tw_325⟩
theorem cv_29 : mx_calV i_29 1 := ⟨⟨tw_343, tw_67, ⟨by decide +kernel, by decide +kernel⟩, by decide +kernel⟩, tw_341, tw_342⟩
theorem cv_30 : mx_calV i_30 1 := ⟨⟨tw_497, tw_67, ⟨by decide +kernel, by decide +kernel⟩, by decide +kernel⟩, tw_495, tw_496⟩
theorem cv_31 : mx_calV i_31 1 := ⟨⟨tw_501, tw_67, ⟨by decide +kernel, by decide +kernel⟩, by decide +kernel⟩, tw_499, tw_500⟩
theorem cv_32 : mx_calV i_32 0 := ⟨⟨tw_509, tw_67, ⟨by decide +kernel, by decide +kernel⟩, by decide +kernel⟩, tw_507, tw_508⟩
theorem cv_33 : mx_calV i_33 3 := ⟨⟨tw_505, tw_67, ⟨by decide +kernel, by decide +kernel⟩, by decide +kernel⟩, tw_503, tw_504⟩
theorem ci_34 : mx_calI i_34 0 := ⟨⟨tw_200, tw_72, ⟨by decide +kernel, by decide +kernel⟩, by decide +kernel⟩, rfl, rfl, tw_199⟩
theorem cv_35 : mx_calV i_35 1 := ⟨⟨tw_644, tw_72, ⟨by decide +kernel, by decide +kernel⟩, by decide +kernel⟩, tw_642, tw_643⟩
theorem cv_36 : mx_calV i_36 2 := ⟨⟨tw_652, tw_72, ⟨by decide +kernel, by decide +kernel⟩, by decide +kernel⟩, tw_651, tw_40⟩
theorem cv_37 : mx_calV i_37 0 := ⟨⟨tw_662, tw_72, ⟨by decide +kernel, by decide +kernel⟩, by decide +kernel⟩, tw_660, tw_661⟩
theorem cv_38 : mx_calV i_38 1 := ⟨⟨tw_666, tw_72, ⟨by decide +kernel, by decide +kernel⟩, by decide +kernel⟩, tw_664, tw_665⟩
theorem cv_39 : mx_calV i_39 1 := ⟨⟨tw_670, tw_72, ⟨by decide +kernel, by decide +kernel⟩, by decide +kernel⟩, tw_668, tw_669⟩
theorem ci_40 : mx_calI i_40 1 := ⟨⟨tw_231, tw_74, ⟨by decide +kernel, by decide +kernel⟩, by decide +kernel⟩, rfl, rfl, tw_230⟩
theorem cv_41 : mx_calV i_41 2 := ⟨⟨tw_658, tw_74, ⟨by decide +kernel, by decide +kernel⟩, by decide +kernel⟩, tw_656, tw_657⟩
theorem cv_42 : mx_calV i_42 2 := ⟨⟨tw_674, tw_74, ⟨by decide +kernel, by decide +kernel⟩, by decide +kernel⟩, tw_673, tw_41⟩
theorem cv_43 : mx_calV i_43 1 := ⟨⟨tw_747, tw_74, ⟨by decide +kernel, by decide +kernel⟩, by decide +kernel⟩, tw_746, tw_52⟩
theorem cv_44 : mx_calV i_44 2 := ⟨⟨tw_687, tw_74, ⟨by decide +kernel, by decide +kernel⟩, by decide +kernel⟩, tw_686, tw_42⟩
theorem cv_45 : mx_calV i_45 1 := ⟨⟨tw_699, tw_74, ⟨by decide +kernel, by decide +kernel⟩, by decide +kernel⟩, tw_698, tw_44⟩
theorem cv_46 : mx_calV i_46 0 := ⟨⟨tw_695, tw_74, ⟨by decide +kernel, by decide +kernel⟩, by decide +kernel⟩, tw_694, tw_43⟩
theorem cv_47 : mx_calV i_47 0 := ⟨⟨tw_712, tw_74, ⟨by decide +kernel, by decide +kernel⟩, by decide +kernel⟩, tw_711, tw_45⟩
theorem cv_48 : mx_calV i_48 1 := ⟨⟨tw_720, tw_74, ⟨by decide +kernel, by decide +kernel⟩, by decide +kernel⟩, tw_719, tw_46⟩
theorem cv_49 : mx_calV i_49 1 := ⟨⟨tw_727, tw_74, ⟨by decide +kernel, by decide +kernel⟩, by decide +kernel⟩, tw_726, tw_47⟩
theorem cv_50 : mx_calV i_50 0 := ⟨⟨tw_735, tw_74, ⟨by decide +kernel, by decide +kernel⟩, by decide +kernel⟩, tw_734, tw_49⟩
theorem cv_51 : mx_calV i_51 0 := ⟨⟨tw_731, tw_74, ⟨by decide +kernel, by decide +kernel⟩, by decide +kernel⟩, tw_730, tw_48⟩
theorem cv_52 : mx_calV i_52 1 := ⟨⟨tw_739, tw_74, ⟨by decide +kernel, by decide +kernel⟩, by decide +kernel⟩, tw_738, tw_50⟩
theorem cv_53 : mx_calV i_53 0 := ⟨⟨tw_743, tw_74, ⟨by decide +kernel, by decide +kernel⟩, by decide +kernel⟩, tw_742, tw_51⟩
theorem ci_54 : mx_calI i_54 1 := ⟨⟨tw_123, tw_69, ⟨by decide +kernel, by decide +kernel⟩, by decide +kernel⟩, rfl, rfl, tw_122⟩
theorem cv_55 : mx_calV i_55 0 := ⟨⟨tw_335, tw_69, ⟨by decide +kernel, by decide +kernel⟩, by decide +kernel⟩, tw_333, tw_334⟩
theorem cv_56 : mx_calV i_56 0 := ⟨⟨tw_355, tw_69, ⟨by decide +kernel, by decide +kernel⟩, by decide +kernel⟩, tw_353, tw_354⟩
theorem cv_57 : mx_calV i_57 1 := ⟨⟨tw_463, tw_69, ⟨by decide +kernel, by decide +kernel⟩, by decide +kernel⟩, tw_461, tw_462⟩
theorem cv_58 : mx_calV i_58 1 := ⟨⟨tw_632, tw_69, ⟨by decide +kernel, by decide +kernel⟩, by decide +kernel⟩, tw_630, tw_631⟩
theorem cv_59 : mx_calV i_59 0 := ⟨⟨tw_360, tw_69, ⟨by decide +kernel, by decide +kernel⟩, by decide +kernel⟩, tw_359, tw_1⟩
theorem cv_60 : mx_calV i_60 0 := ⟨⟨tw_378, tw_69, ⟨by decide +kernel, by decide +kernel⟩, by decide +kernel⟩, tw_377, tw_2⟩
theorem cv_61 : mx_calV i_61 0 := ⟨⟨tw_388, tw_69, ⟨by decide +kernel, by decide +kernel⟩, by decide +kernel⟩, tw_387, tw_3⟩
theorem cv_62 : mx_calV i_62 1 := ⟨⟨tw_421, tw_69, ⟨by decide +kernel, by decide +kernel⟩, by decide +kernel⟩, tw_420, tw_7⟩
theorem cv_63 : mx_calV i_63 1 := ⟨⟨tw_428, tw_69, ⟨by decide +kernel, by decide +kernel⟩, by decide +kernel⟩, tw_427, tw_8⟩
theorem cv_64 : mx_calV i_64 0 := ⟨⟨tw_398, tw_69, ⟨by decide +kernel, by decide +kernel⟩, by decide +kernel⟩, tw_397, tw_4⟩
theorem cv_65 : mx_calV i_65 1 := ⟨⟨tw_413, tw_69, ⟨by decide +kernel, by decide +kernel⟩, by decide +kernel⟩, tw_412, tw_6⟩
theorem cv_66 : mx_calV i_66 2 := ⟨⟨tw_403, tw_69, ⟨by decide +kernel, by decide +kernel⟩, by decide +kernel⟩, tw_402, tw_5⟩
theorem cv_67 : mx_calV i_67 0 := ⟨⟨tw_432, tw_69, ⟨by decide +kernel, by decide +kernel⟩, by decide +kernel⟩, tw_431, tw_9⟩
theorem cv_68 : mx_calV i_68 1 := ⟨⟨tw_436, tw_69, ⟨by decide +kernel, by decide +kernel⟩, by decide +kernel⟩, tw_435, tw_10⟩
theorem cv_69 : mx_calV i_69 1 := ⟨⟨tw_440, tw_69, ⟨by decide +kernel, by decide +kernel⟩, by decide +kernel⟩, tw_439, tw_11⟩
theorem cv_70 : mx_calV i_70 1 := ⟨⟨tw_444, tw_69, ⟨by decide +kernel, by decide +kernel⟩, by decide +kernel⟩, tw_443, tw_12⟩
theorem ci_71 : mx_calI i_71 0 := ⟨⟨tw_153, tw_70, ⟨by decide +kernel, by decide +kernel⟩, by decide +kernel⟩, rfl, rfl, tw_152⟩
theorem cv_72 : mx_calV i_72 2 := ⟨⟨tw_452, tw_70, ⟨by decide +kernel, by decide +kernel⟩, by decide +kernel⟩, tw_450, tw_451⟩
theorem cv_73 : mx_calV i_73 2 := ⟨⟨tw_456, tw_70, ⟨by decide +kernel, by decide +kernel⟩, by decide +kernel⟩, tw_455, tw_13⟩
theorem cv_74 : mx_calV i_74 0 := ⟨⟨tw_469, tw_70, ⟨by decide +kernel, by decide +kernel⟩, by decide +kernel⟩, tw_468, tw_14⟩
theorem cv_75 : mx_calV i_75 0 := ⟨⟨tw_475, tw_70, ⟨by decide +kernel, by decide +kernel⟩, by decide +kernel⟩, tw_474, tw_15⟩
theorem cv_76 : mx_calV i_76 1 := ⟨⟨tw_480, tw_70, ⟨by decide +kernel, by decide +kernel⟩, by decide +kernel⟩, tw_479, tw_16⟩
theorem cv_77 : mx_calV i_77 0 := ⟨⟨tw_485, tw_70, ⟨by decide +kernel, by decide +kernel⟩, by decide +kernel⟩, tw_484, tw_17⟩
theorem cv_78 : mx_calV i_78 2 := ⟨⟨tw_489, tw_70, ⟨by decide +kernel, by decide +kernel⟩, by decide +kernel⟩, tw_488, tw_18⟩
theorem cv_79 : mx_calV i_79 1 := ⟨⟨tw_493, tw_70, ⟨by decide +kernel, by decide +kernel⟩, by decide +kernel⟩, tw_492, tw_19⟩
theorem cv_80 : mx_calV i_80 1 := ⟨⟨tw_517, tw_70, ⟨by decide +kernel, by decide +kernel⟩, by decide +kernel⟩, tw_516, tw_20⟩
theorem cv_81 : mx_calV i_81 1 := ⟨⟨tw_530, tw_70, ⟨by decide +kernel, by decide +kernel⟩, by decide +kernel⟩, tw_529, tw_21⟩
theorem cv_82 : mx_calV i_82 0 := ⟨⟨tw_540, tw_70, ⟨by decide +kernel, by decide +kernel⟩, by decide +kernel⟩, tw_539, tw_22⟩
theorem cv_83 : mx_calV i_83 2 := ⟨⟨tw_544, tw_70, ⟨by decide +kernel, by decide +kernel⟩, by decide +kernel⟩, tw_543, tw_23⟩
theorem cs_84 : mx_calS i_84 1 := ⟨⟨tw_547, tw_70, ⟨by decide +kernel, by decide +kernel⟩, by decide +kernel⟩, tw_546⟩
theorem cv_85 : mx_calV i_85 1 := ⟨⟨tw_551, tw_70, ⟨by decide +kernel, by decide +kernel⟩, by decide +kernel⟩, tw_550, tw_24⟩
theorem ci_86 : mx_calI i_86 0 := ⟨⟨tw_176, tw_71, ⟨by decide +kernel, by decide +kernel⟩, by decide +kernel⟩, rfl, rfl, tw_175⟩
theorem cv_87 : mx_calV i_87 2 := ⟨⟨tw_557, tw_71, ⟨by decide +kernel, by decide +kernel⟩, by decide +kernel⟩, tw_555, tw_556⟩
theorem cv_88 : mx_calV i_88 2 := ⟨⟨tw_585, tw_71, ⟨by decide +kernel, by decide +kernel⟩, by decide +kernel⟩, tw_584, tw_29⟩
theorem cv_89 : mx_calV i_89 1 := ⟨⟨tw_562, tw_71, ⟨by decide +kernel, by decide +kernel⟩, by decide +kernel⟩, tw_561, tw_25⟩
theorem cv_90 : mx_calV i_90 2 := ⟨⟨tw_570, tw_71, ⟨by decide +kernel, by decide +kernel⟩, by decide +kernel⟩, tw_569, tw_26⟩
theorem cv_91 : mx_calV i_91 1 := ⟨⟨tw_596, tw_71, ⟨by decide +kernel, by decide +kernel⟩, by decide +kernel⟩, tw_595, tw_31⟩
theorem cv_92 : mx_calV i_92 0 := ⟨⟨tw_611, tw_71, ⟨by decide +kernel, by decide +kernel⟩, by decide +kernel⟩, tw_610, tw_34⟩
theorem cv_93 : mx_calV i_93 1 := ⟨⟨tw_591, tw_71, ⟨by decide +kernel, by decide +kernel⟩, by decide +kernel⟩, tw_590, tw_30⟩
theorem cv_94 : mx_calV i_94 2 := ⟨⟨tw_581, tw_71, ⟨by decide +kernel, by decide +kernel⟩, by decide +kernel⟩, tw_580, tw_28⟩
theorem cv_95 : mx_calV i_95 1 := ⟨⟨tw_604, tw_71, ⟨by decide +kernel, by decide +kernel⟩, by decide +kernel⟩, tw_603, tw_33⟩
theorem cv_96 : mx_calV i_96 1 := ⟨⟨tw_600, tw_71, ⟨by decide +kernel, by decide +kernel⟩, by decide +kernel⟩, tw_599, tw_32⟩
theorem cv_97 : mx_calV i_97 1 := ⟨⟨tw_624, tw_71, ⟨by decide +kernel, by decide +kernel⟩, by decide +kernel⟩, tw_623, tw_36⟩
theorem cv_98 : mx_calV i_98 1 := ⟨⟨tw_575, tw_71, ⟨by decide +kernel, by decide +kernel⟩, by decide +kernel⟩, tw_574, tw_27⟩
theorem cv_99 : mx_calV i_99 0 := ⟨⟨tw_640, tw_71, ⟨by decide +kernel, by decide +kernel⟩, by decide +kernel⟩, tw_639, tw_39⟩
theorem cv_100 : mx_calV i_100 2 := ⟨⟨tw_628, tw_71, ⟨by decide +kernel, by decide +kernel⟩, by decide +kernel⟩, tw_627, tw_37⟩
theorem cv_101 : mx_calV i_101 3 := ⟨⟨tw_616, tw_71, ⟨by decide +kernel, by decide +kernel⟩, by decide +kernel⟩, tw_615, tw_35⟩
theorem cv_102 : mx_calV i_102 2 := ⟨⟨tw_636, tw_71, ⟨by decide +kernel, by decide +kernel⟩, by decide +kernel⟩, tw_635, tw_38⟩
theorem cv_112 : mx_calV i_112 0 := ⟨⟨tw_331, tw_66, ⟨by decide +kernel, by decide +kernel⟩, by decide +kernel⟩, tw_330, tw_0⟩
theorem cs_113 : mx_calS i_113 1 := ⟨⟨tw_394, tw_66, ⟨by decide +kernel, by decide +kernel⟩, by decide +kernel⟩, tw_393⟩
theorem cs_114 : mx_calS i_114 1 := ⟨⟨tw_391, tw_66, ⟨by decide +kernel, by decide +kernel⟩, by decide +kernel⟩, tw_390⟩
theorem cs_115 : mx_calS i_115 1 := ⟨⟨tw_424, tw_66, ⟨by decide +kernel, by decide +kernel⟩, by decide +kernel⟩, tw_423⟩
theorem cs_120 : mx_calS i_120 3 := ⟨⟨tw_922, tw_78, ⟨by decide +kernel, by decide +kernel⟩, by decide +kernel⟩, tw_921⟩
theorem cs_121 : mx_calS i_121 2 := ⟨⟨tw_919, tw_78, ⟨by decide +kernel, by decide +kernel⟩, by decide +kernel⟩, tw_918⟩
theorem cv_122 : mx_calV i_122 1 := ⟨⟨tw_926, tw_78, ⟨by decide +kernel, by decide +kernel⟩, by decide +kernel⟩, tw_925, tw_55⟩
theorem cv_123 : mx_calV i_123 0 := ⟨⟨tw_916, tw_78, ⟨by decide +kernel, by decide +kernel⟩, by decide +kernel⟩, tw_915, tw_54⟩
theorem cs_124 : mx_calS i_124 1 := ⟨⟨tw_936, tw_78, ⟨by decide +kernel, by decide +kernel⟩, by decide +kernel⟩, tw_935⟩
theorem cs_125 : mx_calS i_125 1 := ⟨⟨tw_933, tw_78, ⟨by decide +kernel, by decide +kernel⟩, by decide +kernel⟩, tw_932⟩
theorem cv_126 : mx_calV i_126 2 := ⟨⟨tw_940, tw_78, ⟨by decide +kernel, by decide +kernel⟩, by decide +kernel⟩, tw_939, tw_57⟩
theorem cv_127 : mx_calV i_127 2 := ⟨⟨tw_944, tw_78, ⟨by decide +kernel, by decide +kernel⟩, by decide +kernel⟩, tw_943, tw_58⟩
theorem cv_128 : mx_calV i_128 0 := ⟨⟨tw_930, tw_78, ⟨by decide +kernel, by decide +kernel⟩, by decide +kernel⟩, tw_929, tw_56⟩
theorem cv_129 : mx_calV i_129 0 := ⟨⟨tw_948, tw_78, ⟨by decide +kernel, by decide +kernel⟩, by decide +kernel⟩, tw_947, tw_59⟩
theorem cv_130 : mx_calV i_130 0 := ⟨⟨tw_912, tw_78, ⟨by decide +kernel, by decide +kernel⟩, by decide +kernel⟩, tw_910, tw_911⟩
theorem cv_131 : mx_calV i_131 0 := ⟨⟨tw_957, tw_78, ⟨by decide +kernel, by decide +kernel⟩, by decide +kernel⟩, tw_956, tw_60⟩
theorem cv_132 : mx_calV i_132 1 := ⟨⟨tw_965, tw_78, ⟨by decide +kernel, by decide +kernel⟩, by decide +kernel⟩, tw_964, tw_62⟩
theorem cs_133 : mx_calS i_133 3 := ⟨⟨tw_968, tw_78, ⟨by decide +kernel, by decide +kernel⟩, by decide +kernel⟩, tw_967⟩
theorem cs_134 : mx_calS i_134 3 := ⟨⟨tw_971, tw_78, ⟨by decide +kernel, by decide +kernel⟩, by decide +kernel⟩, tw_970⟩
theorem cs_135 : mx_calS i_135 2 := ⟨⟨tw_974, tw_78, ⟨by decide +kernel, by decide +kernel⟩, by decide +kernel⟩, tw_973⟩
theorem cv_136 : mx_calV i_136 2 := ⟨⟨tw_961, tw_78, ⟨by decide +kernel, by decide +kernel⟩, by decide +kernel⟩, tw_960, tw_61⟩
theorem cv_137 : mx_calV i_137 0 := ⟨⟨tw_979, tw_78, ⟨by decide +kernel, by decide +kernel⟩, by decide +kernel⟩, tw_978, tw_63⟩
theorem cv_138 : mx_calV i_138 1 := ⟨⟨tw_983, tw_78, ⟨by decide +kernel, by decide +kernel⟩, by decide +kernel⟩, tw_982, tw_64⟩
/-- java/util/Arrays.copyOf([II)[I -/
def mt_0 : List (Nat × mx_E) := [(0, .inl (sx_iload 1 1)), (1, .inl (sx_aload 0 2)), (2, .inl (sx_alen 3)), (3, .inl (sx_icmp (fun x y => decide (¬ x = y)) 14 6)), (6, .inl (sx_aload 0 7)), (13, .inr (.inr (some (.array .int)))), (14, .inl (sx_iload 1 15)), (15, .inl (sx_newa false 17)), (17, .inl (sx_astore 2 18)), (18, .inl (sx_aload 0 19)), (19, .inl (sx_const (.int 0) 20)), (20, .inl (sx_aload 2 21)), (21, .inl (sx_const (.int 0) 22)), (22, .inl (sx_aload 0 23)), (23, .inl (sx_alen 24)), (24, .inl (sx_iload 1 25)), (25, .inl (sx_min 28)), (28, .inl (sx_copy 31)), (31, .inl (sx_aload 2 32)), (32, .inr (.inr (some (.array .int))))]
/-- RowCode$Numbers.<init>()V -/
def mt_1 : List (Nat × mx_E) := [(0, .inl (sx_aload 0 1)), (1, .inl (sx_obj 4)), (4, .inl (sx_aload 0 5)), (5, .inl (sx_const (.int 16) 7)), (7, .inl (sx_newa false 9)), (9, .inl (sx_putf 6 0 (.array .int) 12)), (12, .inr (.inr none))]
/-- RowCode$Numbers.size()I -/
def mt_2 : List (Nat × mx_E) := [(0, .inl (sx_aload 0 1)), (1, .inl (sx_getf 6 1 4)), (4, .inr (.inr (some .int)))]
/-- RowCode$Numbers.at(I)I -/
def mt_3 : List (Nat × mx_E) := [(0, .inl (sx_iload 1 1)), (1, .inl (sx_if (fun x => decide (x < 0)) 21 4)), (4, .inl (sx_iload 1 5)), (5, .inl (sx_aload 0 6)), (6, .inl (sx_getf 6 1 9)), (9, .inl (sx_icmp (fun x y => decide (y ≤ x)) 21 12)), (12, .inl (sx_aload 0 13)), (13, .inl (sx_getf 6 0 16)), (16, .inl (sx_iload 1 17)), (17, .inl (sx_ald false 18)), (18, .inl (sx_goto 22)), (21, .inl (sx_const (.int (-1)) 22)), (22, .inr (.inr (some .int)))]
/-- RowCode$Numbers.change(II)V -/
def mt_4 : List (Nat × mx_E) := [(0, .inl (sx_iload 1 1)), (1, .inl (sx_if (fun x => decide (x < 0)) 19 4)), (4, .inl (sx_iload 1 5)), (5, .inl (sx_aload 0 6)), (6, .inl (sx_getf 6 1 9)), (9, .inl (sx_icmp (fun x y => decide (y ≤ x)) 19 12)), (12, .inl (sx_aload 0 13)), (13, .inl (sx_getf 6 0 16)), (16, .inl (sx_iload 1 17)), (17, .inl (sx_iload 2 18)), (18, .inl (sx_ast false 19)), (19, .inr (.inr none))]
/-- RowCode$Numbers.append(I)V -/
def mt_5 : List (Nat × mx_E) := [(0, .inl (sx_aload 0 1)), (1, .inl (sx_getf 6 1 4)), (4, .inl (sx_aload 0 5)), (5, .inl (sx_getf 6 0 8)), (8, .inl (sx_alen 9)), (9, .inl (sx_icmp (fun x y => decide (x < y)) 30 12)), (12, .inl (sx_aload 0 13)), (13, .inl (sx_aload 0 14)), (14, .inl (sx_getf 6 0 17)), (17, .inl (sx_const (.int 2) 18)), (18, .inl (sx_aload 0 19)), (19, .inl (sx_getf 6 0 22)), (22, .inl (sx_alen 23)), (23, .inl (sx_bin (fun x y => x * y) 24)), (24, .inr (.inl (0, 2, none, 3))), (27, .inl (sx_putf 6 0 (.array .int) 30)), (30, .inl (sx_aload 0 31)), (31, .inl (sx_getf 6 0 34)), (34, .inl (sx_aload 0 35)), (35, .inl (sx_getf 6 1 38)), (38, .inl (sx_iload 1 39)), (39, .inl (sx_ast false 40)), (40, .inl (sx_aload 0 41)), (41, .inl (sx_dup 42)), (42, .inl (sx_getf 6 1 45)), (45, .inl (sx_const (.int 1) 46)), (46, .inl (sx_bin (fun x y => x + y) 47)), (47, .inl (sx_putf 6 1 (.int) 50)), (50, .inr (.inr none))]
/-- RowCode$Numbers.takeLast()I -/
def mt_6 : List (Nat × mx_E) := [(0, .inl (sx_aload 0 1)), (1, .inl (sx_getf 6 1 4)), (4, .inl (sx_if (fun x => decide (0 < x)) 9 7)), (7, .inl (sx_const (.int (-1)) 8)), (8, .inr (.inr (some .int))), (9, .inl (sx_aload 0 10)), (10, .inl (sx_dup 11)), (11, .inl (sx_getf 6 1 14)), (14, .inl (sx_const (.int 1) 15)), (15, .inl (sx_bin (fun x y => x - y) 16)), (16, .inl (sx_putf 6 1 (.int) 19)), (19, .inl (sx_aload 0 20)), (20, .inl (sx_getf 6 0 23)), (23, .inl (sx_aload 0 24)), (24, .inl (sx_getf 6 1 27)), (27, .inl (sx_ald false 28)), (28, .inr (.inr (some .int)))]
/-- RowCode$Numbers.cutTo(I)V -/
def mt_7 : List (Nat × mx_E) := [(0, .inl (sx_iload 1 1)), (1, .inl (sx_aload 0 2)), (2, .inl (sx_getf 6 1 5)), (5, .inl (sx_icmp (fun x y => decide (y ≤ x)) 21 8)), (8, .inl (sx_aload 0 9)), (9, .inl (sx_iload 1 10)), (10, .inl (sx_if (fun x => decide (0 ≤ x)) 17 13)), (13, .inl (sx_const (.int 0) 14)), (14, .inl (sx_goto 18)), (17, .inl (sx_iload 1 18)), (18, .inl (sx_putf 6 1 (.int) 21)), (21, .inr (.inr none))]
/-- RowCode$Numbers.refill(II)V -/
def mt_8 : List (Nat × mx_E) := [(0, .inl (sx_aload 0 1)), (1, .inl (sx_const (.int 0) 2)), (2, .inl (sx_putf 6 1 (.int) 5)), (5, .inl (sx_const (.int 0) 6)), (6, .inl (sx_istore 3 7)), (7, .inl (sx_iload 3 8)), (8, .inl (sx_iload 1 9)), (9, .inl (sx_icmp (fun x y => decide (y ≤ x)) 23 12)), (12, .inl (sx_aload 0 13)), (13, .inl (sx_iload 2 14)), (14, .inr (.inl (5, 2, some (some 6), 2))), (17, .inl (sx_iinc 3 1 20)), (20, .inl (sx_goto 7)), (23, .inr (.inr none))]
/-- RowCode$Arithmetic.divides(I)Z -/
def mt_9 : List (Nat × mx_E) := [(0, .inl (sx_iload 0 1)), (1, .inl (sx_const (.int 3) 2)), (2, .inl (sx_icmp (fun x y => decide (x = y)) 10 5)), (5, .inl (sx_iload 0 6)), (6, .inl (sx_const (.int 4) 7)), (7, .inl (sx_icmp (fun x y => decide (¬ x = y)) 14 10)), (10, .inl (sx_const (.int 1) 11)), (11, .inl (sx_goto 15)), (14, .inl (sx_const (.int 0) 15)), (15, .inr (.inr (some .boolean)))]
/-- RowCode$Arithmetic.calculate(III)I -/
def mt_10 : List (Nat × mx_E) := [(0, .inl (sx_iload 0 1)), (1, .inl (sx_table 128 (0) (9) [56, 60, 64, 68, 80, 92, 96, 100, 106, 110])), (56, .inl (sx_iload 1 57)), (57, .inl (sx_iload 2 58)), (58, .inl (sx_bin (fun x y => x + y) 59)), (59, .inr (.inr (some .int))), (60, .inl (sx_iload 1 61)), (61, .inl (sx_iload 2 62)), (62, .inl (sx_bin (fun x y => x - y) 63)), (63, .inr (.inr (some .int))), (64, .inl (sx_iload 1 65)), (65, .inl (sx_iload 2 66)), (66, .inl (sx_bin (fun x y => x * y) 67)), (67, .inr (.inr (some .int))), (68, .inl (sx_iload 2 69)), (69, .inl (sx_if (fun x => decide (¬ x = 0)) 76 72)), (72, .inl (sx_const (.int 0) 73)), (73, .inl (sx_goto 79)), (76, .inl (sx_iload 1 77)), (77, .inl (sx_iload 2 78)), (78, .inl (sx_div (fun x y => x / y) 79)), (79, .inr (.inr (some .int))), (80, .inl (sx_iload 2 81)), (81, .inl (sx_if (fun x => decide (¬ x = 0)) 88 84)), (84, .inl (sx_const (.int 0) 85)), (85, .inl (sx_goto 91)), (88, .inl (sx_iload 1 89)), (89, .inl (sx_iload 2 90)), (90, .inl (sx_div (fun x y => x - x / y * y) 91)), (91, .inr (.inr (some .int))), (92, .inl (sx_iload 1 93)), (93, .inl (sx_iload 2 94)), (94, .inl (sx_bin (fun x y => x &&& y) 95)), (95, .inr (.inr (some .int))), (96, .inl (sx_iload 1 97)), (97, .inl (sx_iload 2 98)), (98, .inl (sx_bin (fun x y => x ||| y) 99)), (99, .inr (.inr (some .int))), (100, .inl (sx_iload 1 101)), (101, .inl (sx_iload 2 102)), (102, .inl (sx_bin (fun x y => x ^^^ y) 103)), (103, .inl (sx_const (.int (-1)) 104)), (104, .inl (sx_bin (fun x y => x ^^^ y) 105)), (105, .inr (.inr (some .int))), (106, .inl (sx_iload 1 107)), (107, .inl (sx_iload 2 108)), (108, .inl (sx_bin (fun x y => x ^^^ y) 109)), (109, .inr (.inr (some .int))), (110, .inl (sx_iload 2 111)), (111, .inl (sx_if (fun x => decide (x < 0)) 120 114)), (114, .inl (sx_iload 2 115)), (115, .inl (sx_const (.int 31) 117)), (117, .inl (sx_icmp (fun x y => decide (x ≤ y)) 124 120)), (120, .inl (sx_const (.int 0) 121)), (121, .inl (sx_goto 127)), (124, .inl (sx_iload 1 125)), (125, .inl (sx_iload 2 126)), (126, .inl (sx_bin (fun x y => x <<< (y &&& 31)) 127)), (127, .inr (.inr (some .int))), (128, .inl (sx_iload 2 129)), (129, .inl (sx_if (fun x => decide (x < 0)) 138 132)), (132, .inl (sx_iload 2 133)), (133, .inl (sx_const (.int 31) 135)), (135, .inl (sx_icmp (fun x y => decide (x ≤ y)) 142 138)), (138, .inl (sx_const (.int 0) 139)), (139, .inl (sx_goto 145)), (142, .inl (sx_iload 1 143)), (143, .inl (sx_iload 2 144)), (144, .inl (sx_bin (fun x y => (x.toUInt32 >>> (y.toUInt32 &&& Int32.toUInt32 31)).toInt32) 145)), (145, .inr (.inr (some .int)))]
/-- RowCode$Arithmetic.commutes(I)Z -/
def mt_11 : List (Nat × mx_E) := [(0, .inl (sx_iload 0 1)), (1, .inl (sx_if (fun x => decide (x = 0)) 20 4)), (4, .inl (sx_iload 0 5)), (5, .inl (sx_const (.int 2) 6)), (6, .inl (sx_icmp (fun x y => decide (x = y)) 20 9)), (9, .inl (sx_iload 0 10)), (10, .inl (sx_const (.int 5) 11)), (11, .inl (sx_icmp (fun x y => decide (x < y)) 24 14)), (14, .inl (sx_iload 0 15)), (15, .inl (sx_const (.int 8) 17)), (17, .inl (sx_icmp (fun x y => decide (y < x)) 24 20)), (20, .inl (sx_const (.int 1) 21)), (21, .inl (sx_goto 25)), (24, .inl (sx_const (.int 0) 25)), (25, .inr (.inr (some .boolean)))]
/-- RowCode$Arithmetic.leavesAlone(II)Z -/
def mt_12 : List (Nat × mx_E) := [(0, .inl (sx_iload 0 1)), (1, .inl (sx_table 64 (2) (7) [40, 40, 51, 53, 64, 53])), (40, .inl (sx_iload 1 41)), (41, .inl (sx_const (.int 1) 42)), (42, .inl (sx_icmp (fun x y => decide (¬ x = y)) 49 45)), (45, .inl (sx_const (.int 1) 46)), (46, .inl (sx_goto 50)), (49, .inl (sx_const (.int 0) 50)), (50, .inr (.inr (some .boolean))), (51, .inl (sx_const (.int 0) 52)), (52, .inr (.inr (some .boolean))), (53, .inl (sx_iload 1 54)), (54, .inl (sx_const (.int (-1)) 55)), (55, .inl (sx_icmp (fun x y => decide (¬ x = y)) 62 58)), (58, .inl (sx_const (.int 1) 59)), (59, .inl (sx_goto 63)), (62, .inl (sx_const (.int 0) 63)), (63, .inr (.inr (some .boolean))), (64, .inl (sx_iload 1 65)), (65, .inl (sx_if (fun x => decide (¬ x = 0)) 72 68)), (68, .inl (sx_const (.int 1) 69)), (69, .inl (sx_goto 73)), (72, .inl (sx_const (.int 0) 73)), (73, .inr (.inr (some .boolean)))]
/-- RowCode$Arithmetic.holds(III)Z -/
def mt_13 : List (Nat × mx_E) := [(0, .inl (sx_iload 0 1)), (1, .inl (sx_table 91 (0) (4) [36, 47, 58, 69, 80])), (36, .inl (sx_iload 1 37)), (37, .inl (sx_iload 2 38)), (38, .inl (sx_icmp (fun x y => decide (¬ x = y)) 45 41)), (41, .inl (sx_const (.int 1) 42)), (42, .inl (sx_goto 46)), (45, .inl (sx_const (.int 0) 46)), (46, .inr (.inr (some .boolean))), (47, .inl (sx_iload 1 48)), (48, .inl (sx_iload 2 49)), (49, .inl (sx_icmp (fun x y => decide (x = y)) 56 52)), (52, .inl (sx_const (.int 1) 53)), (53, .inl (sx_goto 57)), (56, .inl (sx_const (.int 0) 57)), (57, .inr (.inr (some .boolean))), (58, .inl (sx_iload 1 59)), (59, .inl (sx_iload 2 60)), (60, .inl (sx_icmp (fun x y => decide (y ≤ x)) 67 63)), (63, .inl (sx_const (.int 1) 64)), (64, .inl (sx_goto 68)), (67, .inl (sx_const (.int 0) 68)), (68, .inr (.inr (some .boolean))), (69, .inl (sx_iload 1 70)), (70, .inl (sx_iload 2 71)), (71, .inl (sx_icmp (fun x y => decide (y < x)) 78 74)), (74, .inl (sx_const (.int 1) 75)), (75, .inl (sx_goto 79)), (78, .inl (sx_const (.int 0) 79)), (79, .inr (.inr (some .boolean))), (80, .inl (sx_iload 1 81)), (81, .inl (sx_iload 2 82)), (82, .inl (sx_icmp (fun x y => decide (x ≤ y)) 89 85)), (85, .inl (sx_const (.int 1) 86)), (86, .inl (sx_goto 90)), (89, .inl (sx_const (.int 0) 90)), (90, .inr (.inr (some .boolean))), (91, .inl (sx_iload 1 92)), (92, .inl (sx_iload 2 93)), (93, .inl (sx_icmp (fun x y => decide (x < y)) 100 96)), (96, .inl (sx_const (.int 1) 97)), (97, .inl (sx_goto 101)), (100, .inl (sx_const (.int 0) 101)), (101, .inr (.inr (some .boolean)))]
/-- RowCode$Arithmetic.compare(III)I -/
def mt_14 : List (Nat × mx_E) := [(0, .inl (sx_iload 0 1)), (1, .inl (sx_iload 1 2)), (2, .inl (sx_iload 2 3)), (3, .inr (.inl (13, 3, none, 3))), (6, .inl (sx_if (fun x => decide (x = 0)) 13 9)), (9, .inl (sx_const (.int (-1)) 10)), (10, .inl (sx_goto 14)), (13, .inl (sx_const (.int 0) 14)), (14, .inr (.inr (some .int)))]
/-- RowCode$Arithmetic.opposite(I)I -/
def mt_15 : List (Nat × mx_E) := [(0, .inl (sx_iload 0 1)), (1, .inl (sx_const (.int 2) 2)), (2, .inl (sx_icmp (fun x y => decide (y ≤ x)) 11 5)), (5, .inl (sx_const (.int 1) 6)), (6, .inl (sx_iload 0 7)), (7, .inl (sx_bin (fun x y => x - y) 8)), (8, .inl (sx_goto 15)), (11, .inl (sx_const (.int 7) 13)), (13, .inl (sx_iload 0 14)), (14, .inl (sx_bin (fun x y => x - y) 15)), (15, .inr (.inr (some .int)))]
/-- RowCode$Arithmetic.mirrored(I)I -/
def mt_16 : List (Nat × mx_E) := [(0, .inl (sx_iload 0 1)), (1, .inl (sx_const (.int 2) 2)), (2, .inl (sx_icmp (fun x y => decide (y ≤ x)) 7 5)), (5, .inl (sx_iload 0 6)), (6, .inr (.inr (some .int))), (7, .inl (sx_iload 0 8)), (8, .inl (sx_const (.int 4) 9)), (9, .inl (sx_icmp (fun x y => decide (y ≤ x)) 18 12)), (12, .inl (sx_iload 0 13)), (13, .inl (sx_const (.int 2) 14)), (14, .inl (sx_bin (fun x y => x + y) 15)), (15, .inl (sx_goto 21)), (18, .inl (sx_iload 0 19)), (19, .inl (sx_const (.int 2) 20)), (20, .inl (sx_bin (fun x y => x - y) 21)), (21, .inr (.inr (some .int)))]
/-- RowCode$Memory.<init>()V -/
def mt_17 : List (Nat × mx_E) := [(0, .inl (sx_aload 0 1)), (1, .inl (sx_obj 4)), (4, .inl (sx_aload 0 5)), (5, .inl (sx_const (.int 16) 7)), (7, .inl (sx_newa false 9)), (9, .inl (sx_putf 5 0 (.array .int) 12)), (12, .inl (sx_aload 0 13)), (13, .inl (sx_const (.int 64) 15)), (15, .inl (sx_newa false 17)), (17, .inl (sx_putf 5 1 (.array .int) 20)), (20, .inr (.inr none))]
/-- RowCode$Memory.hasLocal(I)Z -/
def mt_18 : List (Nat × mx_E) := [(0, .inl (sx_iload 0 1)), (1, .inl (sx_if (fun x => decide (x < 0)) 14 4)), (4, .inl (sx_iload 0 5)), (5, .inl (sx_const (.int 16) 7)), (7, .inl (sx_icmp (fun x y => decide (y ≤ x)) 14 10)), (10, .inl (sx_const (.int 1) 11)), (11, .inl (sx_goto 15)), (14, .inl (sx_const (.int 0) 15)), (15, .inr (.inr (some .boolean)))]
/-- RowCode$Memory.hasWord(J)Z -/
def mt_19 : List (Nat × mx_E) := [(0, .inl (sx_lload 0 1)), (1, .inl (sx_const (.long 0) 2)), (2, .inl (sx_lcmp 3)), (3, .inl (sx_if (fun x => decide (x < 0)) 18 6)), (6, .inl (sx_lload 0 7)), (7, .inl (sx_const (.long (64)) 10)), (10, .inl (sx_lcmp 11)), (11, .inl (sx_if (fun x => decide (0 ≤ x)) 18 14)), (14, .inl (sx_const (.int 1) 15)), (15, .inl (sx_goto 19)), (18, .inl (sx_const (.int 0) 19)), (19, .inr (.inr (some .boolean)))]
/-- RowCode$Memory.localAt(I)I -/
def mt_20 : List (Nat × mx_E) := [(0, .inl (sx_iload 1 1)), (1, .inr (.inl (18, 1, none, 1))), (4, .inl (sx_if (fun x => decide (x = 0)) 16 7)), (7, .inl (sx_aload 0 8)), (8, .inl (sx_getf 5 0 11)), (11, .inl (sx_iload 1 12)), (12, .inl (sx_ald false 13)), (13, .inl (sx_goto 17)), (16, .inl (sx_const (.int 0) 17)), (17, .inr (.inr (some .int)))]
/-- RowCode$Memory.changeLocal(II)V -/
def mt_21 : List (Nat × mx_E) := [(0, .inl (sx_iload 1 1)), (1, .inr (.inl (18, 1, none, 1))), (4, .inl (sx_if (fun x => decide (x = 0)) 14 7)), (7, .inl (sx_aload 0 8)), (8, .inl (sx_getf 5 0 11)), (11, .inl (sx_iload 1 12)), (12, .inl (sx_iload 2 13)), (13, .inl (sx_ast false 14)), (14, .inr (.inr none))]
/-- RowCode$Memory.wordAt(I)I -/
def mt_22 : List (Nat × mx_E) := [(0, .inl (sx_iload 1 1)), (1, .inl (sx_i2l 2)), (2, .inr (.inl (19, 1, none, 2))), (5, .inl (sx_if (fun x => decide (x = 0)) 17 8)), (8, .inl (sx_aload 0 9)), (9, .inl (sx_getf 5 1 12)), (12, .inl (sx_iload 1 13)), (13, .inl (sx_ald false 14)), (14, .inl (sx_goto 18)), (17, .inl (sx_const (.int 0) 18)), (18, .inr (.inr (some .int)))]
/-- RowCode$Memory.changeWord(II)V -/
def mt_23 : List (Nat × mx_E) := [(0, .inl (sx_iload 1 1)), (1, .inl (sx_i2l 2)), (2, .inr (.inl (19, 1, none, 2))), (5, .inl (sx_if (fun x => decide (x = 0)) 15 8)), (8, .inl (sx_aload 0 9)), (9, .inl (sx_getf 5 1 12)), (12, .inl (sx_iload 1 13)), (13, .inl (sx_iload 2 14)), (14, .inl (sx_ast false 15)), (15, .inr (.inr none))]
/-- RowCode$Code.<init>()V -/
def mt_24 : List (Nat × mx_E) := [(0, .inl (sx_aload 0 1)), (1, .inl (sx_obj 4)), (4, .inl (sx_aload 0 5)), (5, .inl (sx_new 6 [.null, .int 0] 8)), (8, .inl (sx_dup 9)), (9, .inr (.inl (1, 1, some none, 1))), (12, .inl (sx_putf 1 0 (.object "RowCode$Numbers") 15)), (15, .inl (sx_aload 0 16)), (16, .inl (sx_new 6 [.null, .int 0] 19)), (19, .inl (sx_dup 20)), (20, .inr (.inl (1, 1, some none, 1))), (23, .inl (sx_putf 1 1 (.object "RowCode$Numbers") 26)), (26, .inr (.inr none))]
/-- RowCode$Code.size()I -/
def mt_25 : List (Nat × mx_E) := [(0, .inl (sx_aload 0 1)), (1, .inl (sx_getf 1 0 4)), (4, .inr (.inl (2, 1, some (some 6), 1))), (7, .inr (.inr (some .int)))]
/-- RowCode$Code.numberAt(I)I -/
def mt_26 : List (Nat × mx_E) := [(0, .inl (sx_aload 0 1)), (1, .inl (sx_getf 1 0 4)), (4, .inl (sx_iload 1 5)), (5, .inr (.inl (3, 2, some (some 6), 2))), (8, .inr (.inr (some .int)))]
/-- RowCode$Code.argumentAt(I)I -/
def mt_27 : List (Nat × mx_E) := [(0, .inl (sx_aload 0 1)), (1, .inl (sx_getf 1 1 4)), (4, .inl (sx_iload 1 5)), (5, .inr (.inl (3, 2, some (some 6), 2))), (8, .inr (.inr (some .int)))]
/-- RowCode$Code.append(II)V -/
def mt_28 : List (Nat × mx_E) := [(0, .inl (sx_aload 0 1)), (1, .inl (sx_getf 1 0 4)), (4, .inl (sx_iload 1 5)), (5, .inr (.inl (5, 2, some (some 6), 2))), (8, .inl (sx_aload 0 9)), (9, .inl (sx_getf 1 1 12)), (12, .inl (sx_iload 2 13)), (13, .inr (.inl (5, 2, some (some 6), 2))), (16, .inr (.inr none))]
/-- RowCode$Code.cutTo(I)V -/
def mt_29 : List (Nat × mx_E) := [(0, .inl (sx_aload 0 1)), (1, .inl (sx_getf 1 0 4)), (4, .inl (sx_iload 1 5)), (5, .inr (.inl (7, 2, some (some 6), 2))), (8, .inl (sx_aload 0 9)), (9, .inl (sx_getf 1 1 12)), (12, .inl (sx_iload 1 13)), (13, .inr (.inl (7, 2, some (some 6), 2))), (16, .inr (.inr none))]
/-- RowCode$Code.lastNumber(I)I -/
def mt_30 : List (Nat × mx_E) := [(0, .inl (sx_aload 0 1)), (1, .inl (sx_getf 1 0 4)), (4, .inl (sx_aload 0 5)), (5, .inl (sx_getf 1 0 8)), (8, .inr (.inl (2, 1, some (some 6), 1))), (11, .inl (sx_const (.int 1) 12)), (12, .inl (sx_bin (fun x y => x - y) 13)), (13, .inl (sx_iload 1 14)), (14, .inl (sx_bin (fun x y => x - y) 15)), (15, .inr (.inl (3, 2, some (some 6), 2))), (18, .inr (.inr (some .int)))]
/-- RowCode$Code.lastArgument(I)I -/
def mt_31 : List (Nat × mx_E) := [(0, .inl (sx_aload 0 1)), (1, .inl (sx_getf 1 1 4)), (4, .inl (sx_aload 0 5)), (5, .inl (sx_getf 1 1 8)), (8, .inr (.inl (2, 1, some (some 6), 1))), (11, .inl (sx_const (.int 1) 12)), (12, .inl (sx_bin (fun x y => x - y) 13)), (13, .inl (sx_iload 1 14)), (14, .inl (sx_bin (fun x y => x - y) 15)), (15, .inr (.inl (3, 2, some (some 6), 2))), (18, .inr (.inr (some .int)))]
/-- RowCode$Code.cutLast()V -/
def mt_32 : List (Nat × mx_E) := [(0, .inl (sx_aload 0 1)), (1, .inl (sx_getf 1 0 4)), (4, .inr (.inl (6, 1, some (some 6), 1))), (7, .inl (sx_pop 8)), (8, .inl (sx_aload 0 9)), (9, .inl (sx_getf 1 1 12)), (12, .inr (.inl (6, 1, some (some 6), 1))), (15, .inl (sx_pop 16)), (16, .inr (.inr none))]
/-- RowCode$Code.replaceLast(III)V -/
def mt_33 : List (Nat × mx_E) := [(0, .inl (sx_aload 0 1)), (1, .inl (sx_getf 1 0 4)), (4, .inl (sx_aload 0 5)), (5, .inl (sx_getf 1 0 8)), (8, .inr (.inl (2, 1, some (some 6), 1))), (11, .inl (sx_iload 1 12)), (12, .inl (sx_bin (fun x y => x - y) 13)), (13, .inr (.inl (7, 2, some (some 6), 2))), (16, .inl (sx_aload 0 17)), (17, .inl (sx_getf 1 1 20)), (20, .inl (sx_aload 0 21)), (21, .inl (sx_getf 1 1 24)), (24, .inr (.inl (2, 1, some (some 6), 1))), (27, .inl (sx_iload 1 28)), (28, .inl (sx_bin (fun x y => x - y) 29)), (29, .inr (.inl (7, 2, some (some 6), 2))), (32, .inl (sx_aload 0 33)), (33, .inl (sx_getf 1 0 36)), (36, .inl (sx_iload 2 37)), (37, .inr (.inl (5, 2, some (some 6), 2))), (40, .inl (sx_aload 0 41)), (41, .inl (sx_getf 1 1 44)), (44, .inl (sx_iload 3 45)), (45, .inr (.inl (5, 2, some (some 6), 2))), (48, .inr (.inr none))]
/-- RowCode$Program.<init>()V -/
def mt_34 : List (Nat × mx_E) := [(0, .inl (sx_aload 0 1)), (1, .inl (sx_obj 4)), (4, .inl (sx_aload 0 5)), (5, .inl (sx_new 6 [.null, .int 0] 8)), (8, .inl (sx_dup 9)), (9, .inr (.inl (1, 1, some none, 1))), (12, .inl (sx_putf 7 0 (.object "RowCode$Numbers") 15)), (15, .inl (sx_aload 0 16)), (16, .inl (sx_new 6 [.null, .int 0] 19)), (19, .inl (sx_dup 20)), (20, .inr (.inl (1, 1, some none, 1))), (23, .inl (sx_putf 7 1 (.object "RowCode$Numbers") 26)), (26, .inl (sx_aload 0 27)), (27, .inl (sx_new 6 [.null, .int 0] 30)), (30, .inl (sx_dup 31)), (31, .inr (.inl (1, 1, some none, 1))), (34, .inl (sx_putf 7 2 (.object "RowCode$Numbers") 37)), (37, .inr (.inr none))]
/-- RowCode$Program.load(LRowCode$Numbers;)V -/
def mt_35 : List (Nat × mx_E) := [(0, .inl (sx_aload 0 1)), (1, .inl (sx_getf 7 0 4)), (4, .inl (sx_const (.int 0) 5)), (5, .inr (.inl (7, 2, some (some 6), 2))), (8, .inl (sx_aload 0 9)), (9, .inl (sx_getf 7 1 12)), (12, .inl (sx_const (.int 0) 13)), (13, .inr (.inl (7, 2, some (some 6), 2))), (16, .inl (sx_aload 0 17)), (17, .inl (sx_getf 7 2 20)), (20, .inl (sx_const (.int 100) 22)), (22, .inl (sx_const (.int (-1)) 23)), (23, .inr (.inl (8, 3, some (some 6), 4))), (26, .inl (sx_const (.int 0) 27)), (27, .inl (sx_istore 2 28)), (28, .inl (sx_iload 2 29)), (29, .inl (sx_aload 1 30)), (30, .inr (.inl (2, 1, some (some 6), 1))), (33, .inl (sx_icmp (fun x y => decide (y ≤ x)) 82 36)), (36, .inl (sx_aload 1 37)), (37, .inl (sx_iload 2 38)), (38, .inr (.inl (3, 2, some (some 6), 2))), (41, .inl (sx_istore 3 42)), (42, .inl (sx_iload 3 43)), (43, .inl (sx_const (.int 8) 45)), (45, .inl (sx_bin (fun x y => x >>> (y &&& 31)) 46)), (46, .inl (sx_istore 4 48)), (48, .inl (sx_iload 3 49)), (49, .inl (sx_const (.int 128) 52)), (52, .inl (sx_bin (fun x y => x &&& y) 53)), (53, .inl (sx_if (fun x => decide (x = 0)) 66 56)), (56, .inl (sx_iinc 2 1 59)), (59, .inl (sx_aload 1 60)), (60, .inl (sx_iload 2 61)), (61, .inr (.inl (3, 2, some (some 6), 2))), (64, .inl (sx_istore 4 66)), (66, .inl (sx_aload 0 67)), (67, .inl (sx_iload 3 68)), (68, .inl (sx_const (.int 127) 70)), (70, .inl (sx_bin (fun x y => x &&& y) 71)), (71, .inl (sx_iload 4 73)), (73, .inr (.inl (36, 3, some (some 7), 3))), (76, .inl (sx_iinc 2 1 79)), (79, .inl (sx_goto 28)), (82, .inl (sx_const (.int 0) 83)), (83, .inl (sx_istore 2 84)), (84, .inl (sx_iload 2 85)), (85, .inl (sx_aload 0 86)), (86, .inl (sx_getf 7 0 89)), (89, .inr (.inl (2, 1, some (some 6), 1))), (92, .inl (sx_icmp (fun x y => decide (y ≤ x)) 137 95)), (95, .inl (sx_aload 0 96)), (96, .inl (sx_getf 7 0 99)), (99, .inl (sx_iload 2 100)), (100, .inr (.inl (3, 2, some (some 6), 2))), (103, .inl (sx_const (.int 20) 105)), (105, .inl (sx_icmp (fun x y => decide (x < y)) 131 108)), (108, .inl (sx_aload 0 109)), (109, .inl (sx_getf 7 1 112)), (112, .inl (sx_iload 2 113)), (113, .inl (sx_aload 0 114)), (114, .inl (sx_getf 7 2 117)), (117, .inl (sx_aload 0 118)), (118, .inl (sx_getf 7 1 121)), (121, .inl (sx_iload 2 122)), (122, .inr (.inl (3, 2, some (some 6), 2))), (125, .inr (.inl (3, 2, some (some 6), 2))), (128, .inr (.inl (4, 3, some (some 6), 3))), (131, .inl (sx_iinc 2 1 134)), (134, .inl (sx_goto 84)), (137, .inr (.inr none))]
/-- RowCode$Program.take(II)V -/
def mt_36 : List (Nat × mx_E) := [(0, .inl (sx_iload 1 1)), (1, .inl (sx_if (fun x => decide (¬ x = 0)) 22 4)), (4, .inl (sx_aload 0 5)), (5, .inl (sx_getf 7 2 8)), (8, .inl (sx_iload 2 9)), (9, .inl (sx_aload 0 10)), (10, .inl (sx_getf 7 0 13)), (13, .inr (.inl (2, 1, some (some 6), 1))), (16, .inr (.inl (4, 3, some (some 6), 3))), (19, .inl (sx_goto 38)), (22, .inl (sx_aload 0 23)), (23, .inl (sx_getf 7 0 26)), (26, .inl (sx_iload 1 27)), (27, .inr (.inl (5, 2, some (some 6), 2))), (30, .inl (sx_aload 0 31)), (31, .inl (sx_getf 7 1 34)), (34, .inl (sx_iload 2 35)), (35, .inr (.inl (5, 2, some (some 6), 2))), (38, .inr (.inr none))]
/-- RowCode$Program.size()I -/
def mt_37 : List (Nat × mx_E) := [(0, .inl (sx_aload 0 1)), (1, .inl (sx_getf 7 0 4)), (4, .inr (.inl (2, 1, some (some 6), 1))), (7, .inr (.inr (some .int)))]
/-- RowCode$Program.numberAt(I)I -/
def mt_38 : List (Nat × mx_E) := [(0, .inl (sx_aload 0 1)), (1, .inl (sx_getf 7 0 4)), (4, .inl (sx_iload 1 5)), (5, .inr (.inl (3, 2, some (some 6), 2))), (8, .inr (.inr (some .int)))]
/-- RowCode$Program.argumentAt(I)I -/
def mt_39 : List (Nat × mx_E) := [(0, .inl (sx_aload 0 1)), (1, .inl (sx_getf 7 1 4)), (4, .inl (sx_iload 1 5)), (5, .inr (.inl (3, 2, some (some 6), 2))), (8, .inr (.inr (some .int)))]
/-- RowCode$Machine.<init>(LRowCode$Memory;)V -/
def mt_40 : List (Nat × mx_E) := [(0, .inl (sx_aload 0 1)), (1, .inl (sx_obj 4)), (4, .inl (sx_aload 0 5)), (5, .inl (sx_new 6 [.null, .int 0] 8)), (8, .inl (sx_dup 9)), (9, .inr (.inl (1, 1, some none, 1))), (12, .inl (sx_putf 4 1 (.object "RowCode$Numbers") 15)), (15, .inl (sx_aload 0 16)), (16, .inl (sx_aload 1 17)), (17, .inl (sx_putf 4 0 (.object "RowCode$Memory") 20)), (20, .inl (sx_aload 0 21)), (21, .inl (sx_getf 4 1 24)), (24, .inl (sx_const (.int 60) 26)), (26, .inl (sx_const (.int 0) 27)), (27, .inr (.inl (8, 3, some (some 6), 4))), (30, .inr (.inr none))]
/-- RowCode$Machine.execute(LRowCode$Program;I)I -/
def mt_41 : List (Nat × mx_E) := [(0, .inl (sx_aload 0 1)), (1, .inl (sx_const (.int 0) 2)), (2, .inl (sx_putf 4 4 (.int) 5)), (5, .inl (sx_aload 0 6)), (6, .inl (sx_const (.int 0) 7)), (7, .inl (sx_putf 4 6 (.int) 10)), (10, .inl (sx_aload 0 11)), (11, .inl (sx_iload 2 12)), (12, .inl (sx_putf 4 7 (.int) 15)), (15, .inl (sx_aload 0 16)), (16, .inl (sx_const (.int (-1)) 17)), (17, .inl (sx_putf 4 5 (.int) 20)), (20, .inl (sx_iload 2 21)), (21, .inl (sx_const (.int 2) 22)), (22, .inl (sx_bin (fun x y => x + y) 23)), (23, .inl (sx_aload 1 24)), (24, .inr (.inl (37, 1, some (some 7), 1))), (27, .inl (sx_const (.int 1) 28)), (28, .inl (sx_bin (fun x y => x + y) 29)), (29, .inl (sx_bin (fun x y => x * y) 30)), (30, .inl (sx_istore 3 31)), (31, .inl (sx_const (.int 0) 32)), (32, .inl (sx_istore 4 34)), (34, .inl (sx_iload 4 36)), (36, .inl (sx_iload 3 37)), (37, .inl (sx_icmp (fun x y => decide (y ≤ x)) 135 40)), (40, .inl (sx_aload 0 41)), (41, .inl (sx_getf 4 5 44)), (44, .inl (sx_const (.int (-1)) 45)), (45, .inl (sx_icmp (fun x y => decide (¬ x = y)) 135 48)), (48, .inl (sx_aload 1 49)), (49, .inl (sx_aload 0 50)), (50, .inl (sx_getf 4 4 53)), (53, .inr (.inl (38, 2, some (some 7), 2))), (56, .inl (sx_istore 5 58)), (58, .inl (sx_aload 1 59)), (59, .inl (sx_aload 0 60)), (60, .inl (sx_getf 4 4 63)), (63, .inr (.inl (39, 2, some (some 7), 2))), (66, .inl (sx_istore 6 68)), (68, .inl (sx_aload 0 69)), (69, .inl (sx_dup 70)), (70, .inl (sx_getf 4 4 73)), (73, .inl (sx_const (.int 1) 74)), (74, .inl (sx_bin (fun x y => x + y) 75)), (75, .inl (sx_putf 4 4 (.int) 78)), (78, .inl (sx_iload 5 80)), (80, .inl (sx_const (.int 7) 82)), (82, .inl (sx_icmp (fun x y => decide (y ≤ x)) 96 85)), (85, .inl (sx_aload 0 86)), (86, .inl (sx_iload 5 88)), (88, .inl (sx_iload 6 90)), (90, .inr (.inl (42, 3, some (some 4), 4))), (93, .inl (sx_goto 129)), (96, .inl (sx_iload 5 98)), (98, .inl (sx_const (.int 20) 100)), (100, .inl (sx_icmp (fun x y => decide (y ≤ x)) 114 103)), (103, .inl (sx_aload 0 104)), (104, .inl (sx_iload 5 106)), (106, .inl (sx_iload 6 108)), (108, .inr (.inl (44, 3, some (some 4), 3))), (111, .inl (sx_goto 129)), (114, .inl (sx_aload 0 115)), (115, .inl (sx_iload 5 117)), (117, .inr (.inl (43, 2, some (some 4), 2))), (120, .inl (sx_if (fun x => decide (x = 0)) 129 123)), (123, .inl (sx_aload 0 124)), (124, .inl (sx_iload 6 126)), (126, .inl (sx_putf 4 4 (.int) 129)), (129, .inl (sx_iinc 4 1 132)), (132, .inl (sx_goto 34)), (135, .inl (sx_aload 0 136)), (136, .inl (sx_getf 4 5 139)), (139, .inr (.inr (some .int)))]
/-- RowCode$Machine.move(II)V -/
def mt_42 : List (Nat × mx_E) := [(0, .inl (sx_aload 0 1)), (1, .inl (sx_getf 4 2 4)), (4, .inl (sx_istore 3 5)), (5, .inl (sx_iload 1 6)), (6, .inl (sx_table 143 (1) (6) [44, 57, 77, 97, 112, 127])), (44, .inl (sx_aload 0 45)), (45, .inl (sx_iload 2 46)), (46, .inl (sx_putf 4 2 (.int) 49)), (49, .inl (sx_aload 0 50)), (50, .inl (sx_iload 3 51)), (51, .inl (sx_putf 4 3 (.int) 54)), (54, .inl (sx_goto 143)), (57, .inl (sx_aload 0 58)), (58, .inl (sx_aload 0 59)), (59, .inl (sx_getf 4 0 62)), (62, .inl (sx_iload 2 63)), (63, .inr (.inl (20, 2, some (some 5), 2))), (66, .inl (sx_putf 4 2 (.int) 69)), (69, .inl (sx_aload 0 70)), (70, .inl (sx_iload 3 71)), (71, .inl (sx_putf 4 3 (.int) 74)), (74, .inl (sx_goto 143)), (77, .inl (sx_aload 0 78)), (78, .inl (sx_aload 0 79)), (79, .inl (sx_getf 4 1 82)), (82, .inl (sx_iload 2 83)), (83, .inr (.inl (3, 2, some (some 6), 2))), (86, .inl (sx_putf 4 2 (.int) 89)), (89, .inl (sx_aload 0 90)), (90, .inl (sx_iload 3 91)), (91, .inl (sx_putf 4 3 (.int) 94)), (94, .inl (sx_goto 143)), (97, .inl (sx_aload 0 98)), (98, .inl (sx_getf 4 1 101)), (101, .inl (sx_iload 2 102)), (102, .inl (sx_aload 0 103)), (103, .inl (sx_getf 4 2 106)), (106, .inr (.inl (4, 3, some (some 6), 3))), (109, .inl (sx_goto 143)), (112, .inl (sx_aload 0 113)), (113, .inl (sx_getf 4 1 116)), (116, .inl (sx_iload 2 117)), (117, .inl (sx_aload 0 118)), (118, .inl (sx_getf 4 3 121)), (121, .inr (.inl (4, 3, some (some 6), 3))), (124, .inl (sx_goto 143)), (127, .inl (sx_aload 0 128)), (128, .inl (sx_aload 0 129)), (129, .inl (sx_getf 4 3 132)), (132, .inl (sx_putf 4 2 (.int) 135)), (135, .inl (sx_aload 0 136)), (136, .inl (sx_iload 3 137)), (137, .inl (sx_putf 4 3 (.int) 140)), (140, .inl (sx_goto 143)), (143, .inr (.inr none))]
/-- RowCode$Machine.jumps(I)Z -/
def mt_43 : List (Nat × mx_E) := [(0, .inl (sx_iload 1 1)), (1, .inl (sx_table 56 (20) (22) [28, 30, 43])), (28, .inl (sx_const (.int 1) 29)), (29, .inr (.inr (some .boolean))), (30, .inl (sx_aload 0 31)), (31, .inl (sx_getf 4 2 34)), (34, .inl (sx_if (fun x => decide (¬ x = 0)) 41 37)), (37, .inl (sx_const (.int 1) 38)), (38, .inl (sx_goto 42)), (41, .inl (sx_const (.int 0) 42)), (42, .inr (.inr (some .boolean))), (43, .inl (sx_aload 0 44)), (44, .inl (sx_getf 4 2 47)), (47, .inl (sx_if (fun x => decide (x = 0)) 54 50)), (50, .inl (sx_const (.int 1) 51)), (51, .inl (sx_goto 55)), (54, .inl (sx_const (.int 0) 55)), (55, .inr (.inr (some .boolean))), (56, .inl (sx_iload 1 57)), (57, .inl (sx_const (.int 23) 59)), (59, .inl (sx_bin (fun x y => x - y) 60)), (60, .inl (sx_aload 0 61)), (61, .inl (sx_getf 4 3 64)), (64, .inl (sx_aload 0 65)), (65, .inl (sx_getf 4 2 68)), (68, .inr (.inl (13, 3, none, 3))), (71, .inr (.inr (some .boolean)))]
/-- RowCode$Machine.work(II)V -/
def mt_44 : List (Nat × mx_E) := [(0, .inl (sx_iload 1 1)), (1, .inl (sx_table 210 (7) (19) [68, 83, 90, 97, 109, 122, 130, 149, 157, 164, 179, 186, 202])), (68, .inl (sx_aload 0 69)), (69, .inl (sx_getf 4 0 72)), (72, .inl (sx_iload 2 73)), (73, .inl (sx_aload 0 74)), (74, .inl (sx_getf 4 2 77)), (77, .inr (.inl (21, 3, some (some 5), 3))), (80, .inl (sx_goto 210)), (83, .inl (sx_aload 0 84)), (84, .inr (.inl (46, 1, some (some 4), 1))), (87, .inl (sx_goto 210)), (90, .inl (sx_aload 0 91)), (91, .inr (.inl (47, 1, some (some 4), 1))), (94, .inl (sx_goto 210)), (97, .inl (sx_aload 0 98)), (98, .inl (sx_aload 0 99)), (99, .inl (sx_getf 4 2 102)), (102, .inl (sx_ineg 103)), (103, .inl (sx_putf 4 2 (.int) 106)), (106, .inl (sx_goto 210)), (109, .inl (sx_aload 0 110)), (110, .inl (sx_aload 0 111)), (111, .inl (sx_getf 4 2 114)), (114, .inl (sx_const (.int (-1)) 115)), (115, .inl (sx_bin (fun x y => x ^^^ y) 116)), (116, .inl (sx_putf 4 2 (.int) 119)), (119, .inl (sx_goto 210)), (122, .inl (sx_aload 0 123)), (123, .inl (sx_iload 2 124)), (124, .inr (.inl (48, 2, some (some 4), 2))), (127, .inl (sx_goto 210)), (130, .inl (sx_aload 0 131)), (131, .inl (sx_iload 2 132)), (132, .inl (sx_aload 0 133)), (133, .inl (sx_getf 4 3 136)), (136, .inl (sx_aload 0 137)), (137, .inl (sx_getf 4 2 140)), (140, .inr (.inl (14, 3, none, 3))), (143, .inl (sx_putf 4 2 (.int) 146)), (146, .inl (sx_goto 210)), (149, .inl (sx_aload 0 150)), (150, .inl (sx_iload 2 151)), (151, .inr (.inl (49, 2, some (some 4), 3))), (154, .inl (sx_goto 210)), (157, .inl (sx_aload 0 158)), (158, .inr (.inl (51, 1, some (some 4), 2))), (161, .inl (sx_goto 210)), (164, .inl (sx_aload 0 165)), (165, .inl (sx_aload 0 166)), (166, .inl (sx_getf 4 1 169)), (169, .inl (sx_iload 2 170)), (170, .inr (.inl (3, 2, some (some 6), 2))), (173, .inr (.inl (52, 2, some (some 4), 5))), (176, .inl (sx_goto 210)), (179, .inl (sx_aload 0 180)), (180, .inr (.inl (53, 1, some (some 4), 1))), (183, .inl (sx_goto 210)), (186, .inl (sx_aload 0 187)), (187, .inl (sx_aload 0 188)), (188, .inl (sx_getf 4 2 191)), (191, .inl (sx_putf 4 6 (.int) 194)), (194, .inl (sx_aload 0 195)), (195, .inl (sx_const (.int 0) 196)), (196, .inl (sx_putf 4 5 (.int) 199)), (199, .inl (sx_goto 210)), (202, .inl (sx_aload 0 203)), (203, .inl (sx_const (.int 4) 204)), (204, .inl (sx_putf 4 5 (.int) 207)), (207, .inl (sx_goto 210)), (210, .inr (.inr none))]
/-- RowCode$Machine.reaches(J)Z -/
def mt_45 : List (Nat × mx_E) := [(0, .inl (sx_lload 1 1)), (1, .inr (.inl (19, 1, none, 2))), (4, .inl (sx_istore 3 5)), (5, .inl (sx_iload 3 6)), (6, .inl (sx_if (fun x => decide (¬ x = 0)) 14 9)), (9, .inl (sx_aload 0 10)), (10, .inl (sx_const (.int 2) 11)), (11, .inl (sx_putf 4 5 (.int) 14)), (14, .inl (sx_iload 3 15)), (15, .inr (.inr (some .boolean)))]
/-- RowCode$Machine.fetch()V -/
def mt_46 : List (Nat × mx_E) := [(0, .inl (sx_aload 0 1)), (1, .inl (sx_aload 0 2)), (2, .inl (sx_getf 4 2 5)), (5, .inl (sx_i2l 6)), (6, .inr (.inl (45, 2, some (some 4), 4))), (9, .inl (sx_if (fun x => decide (x = 0)) 27 12)), (12, .inl (sx_aload 0 13)), (13, .inl (sx_aload 0 14)), (14, .inl (sx_getf 4 0 17)), (17, .inl (sx_aload 0 18)), (18, .inl (sx_getf 4 2 21)), (21, .inr (.inl (22, 2, some (some 5), 2))), (24, .inl (sx_putf 4 2 (.int) 27)), (27, .inr (.inr none))]
/-- RowCode$Machine.store()V -/
def mt_47 : List (Nat × mx_E) := [(0, .inl (sx_aload 0 1)), (1, .inl (sx_aload 0 2)), (2, .inl (sx_getf 4 2 5)), (5, .inl (sx_i2l 6)), (6, .inr (.inl (45, 2, some (some 4), 4))), (9, .inl (sx_if (fun x => decide (x = 0)) 27 12)), (12, .inl (sx_aload 0 13)), (13, .inl (sx_getf 4 0 16)), (16, .inl (sx_aload 0 17)), (17, .inl (sx_getf 4 2 20)), (20, .inl (sx_aload 0 21)), (21, .inl (sx_getf 4 3 24)), (24, .inr (.inl (23, 3, some (some 5), 3))), (27, .inr (.inr none))]
/-- RowCode$Machine.combine(I)V -/
def mt_48 : List (Nat × mx_E) := [(0, .inl (sx_aload 0 1)), (1, .inl (sx_getf 4 2 4)), (4, .inl (sx_if (fun x => decide (¬ x = 0)) 22 7)), (7, .inl (sx_iload 1 8)), (8, .inr (.inl (9, 1, none, 1))), (11, .inl (sx_if (fun x => decide (x = 0)) 22 14)), (14, .inl (sx_aload 0 15)), (15, .inl (sx_const (.int 3) 16)), (16, .inl (sx_putf 4 5 (.int) 19)), (19, .inl (sx_goto 38)), (22, .inl (sx_aload 0 23)), (23, .inl (sx_iload 1 24)), (24, .inl (sx_aload 0 25)), (25, .inl (sx_getf 4 3 28)), (28, .inl (sx_aload 0 29)), (29, .inl (sx_getf 4 2 32)), (32, .inr (.inl (10, 3, none, 3))), (35, .inl (sx_putf 4 2 (.int) 38)), (38, .inr (.inr none))]
/-- RowCode$Machine.relateAndKeep(I)V -/
def mt_49 : List (Nat × mx_E) := [(0, .inl (sx_aload 0 1)), (1, .inl (sx_getf 4 2 4)), (4, .inl (sx_istore 2 5)), (5, .inl (sx_aload 0 6)), (6, .inl (sx_iload 1 7)), (7, .inl (sx_aload 0 8)), (8, .inl (sx_getf 4 3 11)), (11, .inl (sx_iload 2 12)), (12, .inr (.inl (14, 3, none, 3))), (15, .inl (sx_putf 4 2 (.int) 18)), (18, .inl (sx_aload 0 19)), (19, .inl (sx_iload 2 20)), (20, .inl (sx_putf 4 3 (.int) 23)), (23, .inr (.inr none))]
/-- RowCode$Machine.byteAddress()J -/
def mt_50 : List (Nat × mx_E) := [(0, .inl (sx_aload 0 1)), (1, .inl (sx_getf 4 3 4)), (4, .inl (sx_i2l 5)), (5, .inl (sx_aload 0 6)), (6, .inl (sx_getf 4 2 9)), (9, .inl (sx_const (.int 2) 10)), (10, .inl (sx_bin (fun x y => x >>> (y &&& 31)) 11)), (11, .inl (sx_i2l 12)), (12, .inl (sx_ladd 13)), (13, .inr (.inr (some .long)))]
/-- RowCode$Machine.fetchByte()V -/
def mt_51 : List (Nat × mx_E) := [(0, .inl (sx_aload 0 1)), (1, .inl (sx_aload 0 2)), (2, .inr (.inl (50, 1, some (some 4), 1))), (5, .inr (.inl (45, 2, some (some 4), 4))), (8, .inl (sx_if (fun x => decide (x = 0)) 43 11)), (11, .inl (sx_aload 0 12)), (12, .inl (sx_getf 4 0 15)), (15, .inl (sx_aload 0 16)), (16, .inr (.inl (50, 1, some (some 4), 1))), (19, .inl (sx_l2i 20)), (20, .inr (.inl (22, 2, some (some 5), 2))), (23, .inl (sx_istore 1 24)), (24, .inl (sx_aload 0 25)), (25, .inl (sx_iload 1 26)), (26, .inl (sx_const (.int 8) 28)), (28, .inl (sx_aload 0 29)), (29, .inl (sx_getf 4 2 32)), (32, .inl (sx_const (.int 3) 33)), (33, .inl (sx_bin (fun x y => x &&& y) 34)), (34, .inl (sx_bin (fun x y => x * y) 35)), (35, .inl (sx_bin (fun x y => (x.toUInt32 >>> (y.toUInt32 &&& Int32.toUInt32 31)).toInt32) 36)), (36, .inl (sx_const (.int 255) 39)), (39, .inl (sx_bin (fun x y => x &&& y) 40)), (40, .inl (sx_putf 4 2 (.int) 43)), (43, .inr (.inr none))]
/-- RowCode$Machine.storeByte(I)V -/
def mt_52 : List (Nat × mx_E) := [(0, .inl (sx_aload 0 1)), (1, .inl (sx_aload 0 2)), (2, .inr (.inl (50, 1, some (some 4), 1))), (5, .inr (.inl (45, 2, some (some 4), 4))), (8, .inl (sx_if (fun x => decide (x = 0)) 63 11)), (11, .inl (sx_aload 0 12)), (12, .inr (.inl (50, 1, some (some 4), 1))), (15, .inl (sx_l2i 16)), (16, .inl (sx_istore 2 17)), (17, .inl (sx_const (.int 8) 19)), (19, .inl (sx_aload 0 20)), (20, .inl (sx_getf 4 2 23)), (23, .inl (sx_const (.int 3) 24)), (24, .inl (sx_bin (fun x y => x &&& y) 25)), (25, .inl (sx_bin (fun x y => x * y) 26)), (26, .inl (sx_istore 3 27)), (27, .inl (sx_aload 0 28)), (28, .inl (sx_getf 4 0 31)), (31, .inl (sx_iload 2 32)), (32, .inr (.inl (22, 2, some (some 5), 2))), (35, .inl (sx_const (.int 255) 38)), (38, .inl (sx_iload 3 39)), (39, .inl (sx_bin (fun x y => x <<< (y &&& 31)) 40)), (40, .inl (sx_const (.int (-1)) 41)), (41, .inl (sx_bin (fun x y => x ^^^ y) 42)), (42, .inl (sx_bin (fun x y => x &&& y) 43)), (43, .inl (sx_istore 4 45)), (45, .inl (sx_aload 0 46)), (46, .inl (sx_getf 4 0 49)), (49, .inl (sx_iload 2 50)), (50, .inl (sx_iload 4 52)), (52, .inl (sx_iload 1 53)), (53, .inl (sx_const (.int 255) 56)), (56, .inl (sx_bin (fun x y => x &&& y) 57)), (57, .inl (sx_iload 3 58)), (58, .inl (sx_bin (fun x y => x <<< (y &&& 31)) 59)), (59, .inl (sx_bin (fun x y => x ||| y) 60)), (60, .inr (.inl (23, 3, some (some 5), 3))), (63, .inr (.inr none))]
/-- RowCode$Machine.pay()V -/
def mt_53 : List (Nat × mx_E) := [(0, .inl (sx_aload 0 1)), (1, .inl (sx_getf 4 7 4)), (4, .inl (sx_if (fun x => decide (¬ x = 0)) 15 7)), (7, .inl (sx_aload 0 8)), (8, .inl (sx_const (.int 1) 9)), (9, .inl (sx_putf 4 5 (.int) 12)), (12, .inl (sx_goto 25)), (15, .inl (sx_aload 0 16)), (16, .inl (sx_dup 17)), (17, .inl (sx_getf 4 7 20)), (20, .inl (sx_const (.int 1) 21)), (21, .inl (sx_bin (fun x y => x - y) 22)), (22, .inl (sx_putf 4 7 (.int) 25)), (25, .inr (.inr none))]
/-- RowCode$Judge.<init>(LRowCode$Code;)V -/
def mt_54 : List (Nat × mx_E) := [(0, .inl (sx_aload 0 1)), (1, .inl (sx_obj 4)), (4, .inl (sx_aload 0 5)), (5, .inl (sx_new 6 [.null, .int 0] 8)), (8, .inl (sx_dup 9)), (9, .inr (.inl (1, 1, some none, 1))), (12, .inl (sx_putf 3 1 (.object "RowCode$Numbers") 15)), (15, .inl (sx_aload 0 16)), (16, .inl (sx_new 6 [.null, .int 0] 19)), (19, .inl (sx_dup 20)), (20, .inr (.inl (1, 1, some none, 1))), (23, .inl (sx_putf 3 2 (.object "RowCode$Numbers") 26)), (26, .inl (sx_aload 0 27)), (27, .inl (sx_new 6 [.null, .int 0] 30)), (30, .inl (sx_dup 31)), (31, .inr (.inl (1, 1, some none, 1))), (34, .inl (sx_putf 3 3 (.object "RowCode$Numbers") 37)), (37, .inl (sx_aload 0 38)), (38, .inl (sx_new 6 [.null, .int 0] 41)), (41, .inl (sx_dup 42)), (42, .inr (.inl (1, 1, some none, 1))), (45, .inl (sx_putf 3 4 (.object "RowCode$Numbers") 48)), (48, .inl (sx_aload 0 49)), (49, .inl (sx_aload 1 50)), (50, .inl (sx_putf 3 0 (.object "RowCode$Code") 53)), (53, .inr (.inr none))]
/-- RowCode$Judge.forgetJudgement()V -/
def mt_55 : List (Nat × mx_E) := [(0, .inl (sx_aload 0 1)), (1, .inl (sx_const (.int 0) 2)), (2, .inl (sx_putf 3 5 (.boolean) 5)), (5, .inr (.inr none))]
/-- RowCode$Judge.findsRight()Z -/
def mt_56 : List (Nat × mx_E) := [(0, .inl (sx_aload 0 1)), (1, .inl (sx_getf 3 5 4)), (4, .inl (sx_if (fun x => decide (¬ x = 0)) 66 7)), (7, .inl (sx_aload 0 8)), (8, .inl (sx_aload 0 9)), (9, .inl (sx_getf 3 0 12)), (12, .inr (.inl (25, 1, some (some 1), 1))), (15, .inl (sx_if (fun x => decide (x ≤ 0)) 57 18)), (18, .inl (sx_aload 0 19)), (19, .inr (.inl (59, 1, some (some 3), 5))), (22, .inl (sx_if (fun x => decide (x = 0)) 57 25)), (25, .inl (sx_aload 0 26)), (26, .inr (.inl (60, 1, some (some 3), 3))), (29, .inl (sx_if (fun x => decide (x = 0)) 57 32)), (32, .inl (sx_aload 0 33)), (33, .inr (.inl (61, 1, some (some 3), 3))), (36, .inl (sx_if (fun x => decide (x = 0)) 57 39)), (39, .inl (sx_aload 0 40)), (40, .inr (.inl (64, 1, some (some 3), 2))), (43, .inl (sx_if (fun x => decide (x = 0)) 57 46)), (46, .inl (sx_aload 0 47)), (47, .inr (.inl (67, 1, some (some 3), 4))), (50, .inl (sx_if (fun x => decide (x = 0)) 57 53)), (53, .inl (sx_const (.int 1) 54)), (54, .inl (sx_goto 58)), (57, .inl (sx_const (.int 0) 58)), (58, .inl (sx_putf 3 6 (.boolean) 61)), (61, .inl (sx_aload 0 62)), (62, .inl (sx_const (.int 1) 63)), (63, .inl (sx_putf 3 5 (.boolean) 66)), (66, .inl (sx_aload 0 67)), (67, .inl (sx_getf 3 6 70)), (70, .inr (.inr (some .boolean)))]
/-- RowCode$Judge.isReached(I)Z -/
def mt_57 : List (Nat × mx_E) := [(0, .inl (sx_aload 0 1)), (1, .inl (sx_getf 3 2 4)), (4, .inl (sx_iload 1 5)), (5, .inr (.inl (3, 2, some (some 6), 2))), (8, .inl (sx_const (.int (-1)) 9)), (9, .inl (sx_icmp (fun x y => decide (x = y)) 16 12)), (12, .inl (sx_const (.int 1) 13)), (13, .inl (sx_goto 17)), (16, .inl (sx_const (.int 0) 17)), (17, .inr (.inr (some .boolean)))]
/-- RowCode$Judge.depthAtLabel(I)I -/
def mt_58 : List (Nat × mx_E) := [(0, .inl (sx_aload 0 1)), (1, .inl (sx_getf 3 2 4)), (4, .inl (sx_aload 0 5)), (5, .inl (sx_getf 3 1 8)), (8, .inl (sx_iload 1 9)), (9, .inr (.inl (3, 2, some (some 6), 2))), (12, .inr (.inl (3, 2, some (some 6), 2))), (15, .inr (.inr (some .int)))]
/-- RowCode$Judge.argumentsFit()Z -/
def mt_59 : List (Nat × mx_E) := [(0, .inl (sx_const (.int 0) 1)), (1, .inl (sx_istore 1 2)), (2, .inl (sx_iload 1 3)), (3, .inl (sx_aload 0 4)), (4, .inl (sx_getf 3 0 7)), (7, .inr (.inl (25, 1, some (some 1), 1))), (10, .inl (sx_icmp (fun x y => decide (y ≤ x)) 75 13)), (13, .inl (sx_aload 0 14)), (14, .inl (sx_getf 3 0 17)), (17, .inl (sx_iload 1 18)), (18, .inr (.inl (26, 2, some (some 1), 2))), (21, .inl (sx_istore 2 22)), (22, .inl (sx_iload 2 23)), (23, .inl (sx_if (fun x => decide (x < 0)) 34 26)), (26, .inl (sx_iload 2 27)), (27, .inl (sx_gets 0 30)), (30, .inl (sx_alen 31)), (31, .inl (sx_icmp (fun x y => decide (x < y)) 36 34)), (34, .inl (sx_const (.int 0) 35)), (35, .inr (.inr (some .boolean))), (36, .inl (sx_aload 0 37)), (37, .inl (sx_getf 3 0 40)), (40, .inl (sx_iload 1 41)), (41, .inr (.inl (27, 2, some (some 1), 2))), (44, .inl (sx_istore 3 45)), (45, .inl (sx_gets 0 48)), (48, .inl (sx_iload 2 49)), (49, .inl (sx_ald false 50)), (50, .inl (sx_istore 4 52)), (52, .inl (sx_iload 4 54)), (54, .inl (sx_if (fun x => decide (x < 0)) 69 57)), (57, .inl (sx_iload 3 58)), (58, .inl (sx_if (fun x => decide (x < 0)) 67 61)), (61, .inl (sx_iload 3 62)), (62, .inl (sx_iload 4 64)), (64, .inl (sx_icmp (fun x y => decide (x ≤ y)) 69 67)), (67, .inl (sx_const (.int 0) 68)), (68, .inr (.inr (some .boolean))), (69, .inl (sx_iinc 1 1 72)), (72, .inl (sx_goto 2)), (75, .inl (sx_const (.int 1) 76)), (76, .inr (.inr (some .boolean)))]
/-- RowCode$Judge.labelsAreOnce()Z -/
def mt_60 : List (Nat × mx_E) := [(0, .inl (sx_aload 0 1)), (1, .inl (sx_getf 3 1 4)), (4, .inl (sx_const (.int 100) 6)), (6, .inl (sx_const (.int (-1)) 7)), (7, .inr (.inl (8, 3, some (some 6), 4))), (10, .inl (sx_const (.int 0) 11)), (11, .inl (sx_istore 1 12)), (12, .inl (sx_iload 1 13)), (13, .inl (sx_aload 0 14)), (14, .inl (sx_getf 3 0 17)), (17, .inr (.inl (25, 1, some (some 1), 1))), (20, .inl (sx_icmp (fun x y => decide (y ≤ x)) 74 23)), (23, .inl (sx_aload 0 24)), (24, .inl (sx_getf 3 0 27)), (27, .inl (sx_iload 1 28)), (28, .inr (.inl (26, 2, some (some 1), 2))), (31, .inl (sx_const (.int 13) 33)), (33, .inl (sx_icmp (fun x y => decide (¬ x = y)) 68 36)), (36, .inl (sx_aload 0 37)), (37, .inl (sx_getf 3 0 40)), (40, .inl (sx_iload 1 41)), (41, .inr (.inl (27, 2, some (some 1), 2))), (44, .inl (sx_istore 2 45)), (45, .inl (sx_aload 0 46)), (46, .inl (sx_getf 3 1 49)), (49, .inl (sx_iload 2 50)), (50, .inr (.inl (3, 2, some (some 6), 2))), (53, .inl (sx_const (.int (-1)) 54)), (54, .inl (sx_icmp (fun x y => decide (x = y)) 59 57)), (57, .inl (sx_const (.int 0) 58)), (58, .inr (.inr (some .boolean))), (59, .inl (sx_aload 0 60)), (60, .inl (sx_getf 3 1 63)), (63, .inl (sx_iload 2 64)), (64, .inl (sx_iload 1 65)), (65, .inr (.inl (4, 3, some (some 6), 3))), (68, .inl (sx_iinc 1 1 71)), (71, .inl (sx_goto 12)), (74, .inl (sx_const (.int 1) 75)), (75, .inr (.inr (some .boolean)))]
/-- RowCode$Judge.goalsAreThere()Z -/
def mt_61 : List (Nat × mx_E) := [(0, .inl (sx_const (.int 0) 1)), (1, .inl (sx_istore 1 2)), (2, .inl (sx_iload 1 3)), (3, .inl (sx_aload 0 4)), (4, .inl (sx_getf 3 0 7)), (7, .inr (.inl (25, 1, some (some 1), 1))), (10, .inl (sx_icmp (fun x y => decide (y ≤ x)) 79 13)), (13, .inl (sx_aload 0 14)), (14, .inl (sx_getf 3 0 17)), (17, .inl (sx_iload 1 18)), (18, .inr (.inl (26, 2, some (some 1), 2))), (21, .inl (sx_istore 2 22)), (22, .inl (sx_iload 2 23)), (23, .inr (.inl (114, 1, none, 1))), (26, .inl (sx_if (fun x => decide (x = 0)) 50 29)), (29, .inl (sx_aload 0 30)), (30, .inl (sx_getf 3 1 33)), (33, .inl (sx_aload 0 34)), (34, .inl (sx_getf 3 0 37)), (37, .inl (sx_iload 1 38)), (38, .inr (.inl (27, 2, some (some 1), 2))), (41, .inr (.inl (3, 2, some (some 6), 2))), (44, .inl (sx_const (.int (-1)) 45)), (45, .inl (sx_icmp (fun x y => decide (¬ x = y)) 50 48)), (48, .inl (sx_const (.int 0) 49)), (49, .inr (.inr (some .boolean))), (50, .inl (sx_iload 2 51)), (51, .inl (sx_const (.int 18) 53)), (53, .inl (sx_icmp (fun x y => decide (¬ x = y)) 73 56)), (56, .inl (sx_aload 0 57)), (57, .inl (sx_getf 3 0 60)), (60, .inl (sx_iload 1 61)), (61, .inl (sx_const (.int 1) 62)), (62, .inl (sx_bin (fun x y => x + y) 63)), (63, .inr (.inl (26, 2, some (some 1), 2))), (66, .inl (sx_const (.int 12) 68)), (68, .inl (sx_icmp (fun x y => decide (x = y)) 73 71)), (71, .inl (sx_const (.int 0) 72)), (72, .inr (.inr (some .boolean))), (73, .inl (sx_iinc 1 1 76)), (76, .inl (sx_goto 2)), (79, .inl (sx_const (.int 1) 80)), (80, .inr (.inr (some .boolean)))]
/-- RowCode$Judge.following(I)I -/
def mt_62 : List (Nat × mx_E) := [(0, .inl (sx_aload 0 1)), (1, .inl (sx_getf 3 0 4)), (4, .inl (sx_iload 1 5)), (5, .inr (.inl (26, 2, some (some 1), 2))), (8, .inl (sx_istore 2 9)), (9, .inl (sx_iload 2 10)), (10, .inr (.inl (115, 1, none, 1))), (13, .inl (sx_if (fun x => decide (x = 0)) 18 16)), (16, .inl (sx_const (.int (-1)) 17)), (17, .inr (.inr (some .int))), (18, .inl (sx_iload 2 19)), (19, .inl (sx_const (.int 18) 21)), (21, .inl (sx_icmp (fun x y => decide (¬ x = y)) 30 24)), (24, .inl (sx_iload 1 25)), (25, .inl (sx_const (.int 2) 26)), (26, .inl (sx_bin (fun x y => x + y) 27)), (27, .inl (sx_goto 33)), (30, .inl (sx_iload 1 31)), (31, .inl (sx_const (.int 1) 32)), (32, .inl (sx_bin (fun x y => x + y) 33)), (33, .inr (.inr (some .int)))]
/-- RowCode$Judge.goal(I)I -/
def mt_63 : List (Nat × mx_E) := [(0, .inl (sx_aload 0 1)), (1, .inl (sx_getf 3 0 4)), (4, .inl (sx_iload 1 5)), (5, .inr (.inl (26, 2, some (some 1), 2))), (8, .inl (sx_istore 2 9)), (9, .inl (sx_iload 2 10)), (10, .inl (sx_const (.int 18) 12)), (12, .inl (sx_icmp (fun x y => decide (¬ x = y)) 33 15)), (15, .inl (sx_aload 0 16)), (16, .inl (sx_getf 3 1 19)), (19, .inl (sx_aload 0 20)), (20, .inl (sx_getf 3 0 23)), (23, .inl (sx_iload 1 24)), (24, .inl (sx_const (.int 1) 25)), (25, .inl (sx_bin (fun x y => x + y) 26)), (26, .inr (.inl (27, 2, some (some 1), 2))), (29, .inr (.inl (3, 2, some (some 6), 2))), (32, .inr (.inr (some .int))), (33, .inl (sx_iload 2 34)), (34, .inr (.inl (114, 1, none, 1))), (37, .inl (sx_if (fun x => decide (x = 0)) 58 40)), (40, .inl (sx_aload 0 41)), (41, .inl (sx_getf 3 1 44)), (44, .inl (sx_aload 0 45)), (45, .inl (sx_getf 3 0 48)), (48, .inl (sx_iload 1 49)), (49, .inr (.inl (27, 2, some (some 1), 2))), (52, .inr (.inl (3, 2, some (some 6), 2))), (55, .inl (sx_goto 59)), (58, .inl (sx_const (.int (-1)) 59)), (59, .inr (.inr (some .int)))]
/-- RowCode$Judge.waysAgree()Z -/
def mt_64 : List (Nat × mx_E) := [(0, .inl (sx_aload 0 1)), (1, .inl (sx_getf 3 2 4)), (4, .inl (sx_aload 0 5)), (5, .inl (sx_getf 3 0 8)), (8, .inr (.inl (25, 1, some (some 1), 1))), (11, .inl (sx_const (.int (-1)) 12)), (12, .inr (.inl (8, 3, some (some 6), 4))), (15, .inl (sx_aload 0 16)), (16, .inl (sx_getf 3 4 19)), (19, .inl (sx_const (.int 0) 20)), (20, .inr (.inl (7, 2, some (some 6), 2))), (23, .inl (sx_aload 0 24)), (24, .inl (sx_const (.int 0) 25)), (25, .inl (sx_const (.int 0) 26)), (26, .inr (.inl (66, 3, some (some 3), 3))), (29, .inl (sx_pop 30)), (30, .inl (sx_const (.int 0) 31)), (31, .inl (sx_istore 1 32)), (32, .inl (sx_iload 1 33)), (33, .inl (sx_aload 0 34)), (34, .inl (sx_getf 3 0 37)), (37, .inr (.inl (25, 1, some (some 1), 1))), (40, .inl (sx_icmp (fun x y => decide (y ≤ x)) 75 43)), (43, .inl (sx_aload 0 44)), (44, .inl (sx_getf 3 4 47)), (47, .inr (.inl (2, 1, some (some 6), 1))), (50, .inl (sx_if (fun x => decide (x ≤ 0)) 75 53)), (53, .inl (sx_aload 0 54)), (54, .inl (sx_aload 0 55)), (55, .inl (sx_getf 3 4 58)), (58, .inr (.inl (6, 1, some (some 6), 1))), (61, .inr (.inl (65, 2, some (some 3), 7))), (64, .inl (sx_if (fun x => decide (¬ x = 0)) 69 67)), (67, .inl (sx_const (.int 0) 68)), (68, .inr (.inr (some .boolean))), (69, .inl (sx_iinc 1 1 72)), (72, .inl (sx_goto 32)), (75, .inl (sx_const (.int 1) 76)), (76, .inr (.inr (some .boolean)))]
/-- RowCode$Judge.leavesRightly(I)Z -/
def mt_65 : List (Nat × mx_E) := [(0, .inl (sx_aload 0 1)), (1, .inl (sx_getf 3 0 4)), (4, .inl (sx_iload 1 5)), (5, .inr (.inl (26, 2, some (some 1), 2))), (8, .inl (sx_istore 2 9)), (9, .inl (sx_iload 2 10)), (10, .inl (sx_if (fun x => decide (x < 0)) 29 13)), (13, .inl (sx_iload 2 14)), (14, .inl (sx_gets 1 17)), (17, .inl (sx_alen 18)), (18, .inl (sx_icmp (fun x y => decide (y ≤ x)) 29 21)), (21, .inl (sx_iload 2 22)), (22, .inl (sx_gets 2 25)), (25, .inl (sx_alen 26)), (26, .inl (sx_icmp (fun x y => decide (x < y)) 31 29)), (29, .inl (sx_const (.int 0) 30)), (30, .inr (.inr (some .boolean))), (31, .inl (sx_aload 0 32)), (32, .inl (sx_getf 3 2 35)), (35, .inl (sx_iload 1 36)), (36, .inr (.inl (3, 2, some (some 6), 2))), (39, .inl (sx_gets 1 42)), (42, .inl (sx_iload 2 43)), (43, .inl (sx_ald false 44)), (44, .inl (sx_bin (fun x y => x - y) 45)), (45, .inl (sx_istore 3 46)), (46, .inl (sx_iload 3 47)), (47, .inl (sx_gets 2 50)), (50, .inl (sx_iload 2 51)), (51, .inl (sx_ald false 52)), (52, .inl (sx_bin (fun x y => x + y) 53)), (53, .inl (sx_istore 4 55)), (55, .inl (sx_iload 3 56)), (56, .inl (sx_if (fun x => decide (x < 0)) 66 59)), (59, .inl (sx_iload 4 61)), (61, .inl (sx_const (.int 60) 63)), (63, .inl (sx_icmp (fun x y => decide (x ≤ y)) 68 66)), (66, .inl (sx_const (.int 0) 67)), (67, .inr (.inr (some .boolean))), (68, .inl (sx_aload 0 69)), (69, .inl (sx_iload 1 70)), (70, .inr (.inl (62, 2, some (some 3), 3))), (73, .inl (sx_istore 5 75)), (75, .inl (sx_iload 5 77)), (77, .inl (sx_const (.int (-1)) 78)), (78, .inl (sx_icmp (fun x y => decide (x = y)) 94 81)), (81, .inl (sx_aload 0 82)), (82, .inl (sx_iload 5 84)), (84, .inl (sx_iload 4 86)), (86, .inr (.inl (66, 3, some (some 3), 3))), (89, .inl (sx_if (fun x => decide (¬ x = 0)) 94 92)), (92, .inl (sx_const (.int 0) 93)), (93, .inr (.inr (some .boolean))), (94, .inl (sx_aload 0 95)), (95, .inl (sx_iload 1 96)), (96, .inr (.inl (63, 2, some (some 3), 3))), (99, .inl (sx_istore 6 101)), (101, .inl (sx_iload 6 103)), (103, .inl (sx_const (.int (-1)) 104)), (104, .inl (sx_icmp (fun x y => decide (x = y)) 117 107)), (107, .inl (sx_aload 0 108)), (108, .inl (sx_iload 6 110)), (110, .inl (sx_iload 3 111)), (111, .inr (.inl (66, 3, some (some 3), 3))), (114, .inl (sx_if (fun x => decide (x = 0)) 121 117)), (117, .inl (sx_const (.int 1) 118)), (118, .inl (sx_goto 122)), (121, .inl (sx_const (.int 0) 122)), (122, .inr (.inr (some .boolean)))]
/-- RowCode$Judge.arrives(II)Z -/
def mt_66 : List (Nat × mx_E) := [(0, .inl (sx_iload 1 1)), (1, .inl (sx_aload 0 2)), (2, .inl (sx_getf 3 2 5)), (5, .inr (.inl (2, 1, some (some 6), 1))), (8, .inl (sx_icmp (fun x y => decide (x < y)) 13 11)), (11, .inl (sx_const (.int 0) 12)), (12, .inr (.inr (some .boolean))), (13, .inl (sx_aload 0 14)), (14, .inl (sx_getf 3 2 17)), (17, .inl (sx_iload 1 18)), (18, .inr (.inl (3, 2, some (some 6), 2))), (21, .inl (sx_const (.int (-1)) 22)), (22, .inl (sx_icmp (fun x y => decide (¬ x = y)) 42 25)), (25, .inl (sx_aload 0 26)), (26, .inl (sx_getf 3 2 29)), (29, .inl (sx_iload 1 30)), (30, .inl (sx_iload 2 31)), (31, .inr (.inl (4, 3, some (some 6), 3))), (34, .inl (sx_aload 0 35)), (35, .inl (sx_getf 3 4 38)), (38, .inl (sx_iload 1 39)), (39, .inr (.inl (5, 2, some (some 6), 2))), (42, .inl (sx_aload 0 43)), (43, .inl (sx_getf 3 2 46)), (46, .inl (sx_iload 1 47)), (47, .inr (.inl (3, 2, some (some 6), 2))), (50, .inl (sx_iload 2 51)), (51, .inl (sx_icmp (fun x y => decide (¬ x = y)) 58 54)), (54, .inl (sx_const (.int 1) 55)), (55, .inl (sx_goto 59)), (58, .inl (sx_const (.int 0) 59)), (59, .inr (.inr (some .boolean)))]
/-- RowCode$Judge.roundsSpend()Z -/
def mt_67 : List (Nat × mx_E) := [(0, .inl (sx_aload 0 1)), (1, .inl (sx_getf 3 3 4)), (4, .inl (sx_aload 0 5)), (5, .inl (sx_getf 3 0 8)), (8, .inr (.inl (25, 1, some (some 1), 1))), (11, .inl (sx_const (.int 0) 12)), (12, .inr (.inl (8, 3, some (some 6), 4))), (15, .inl (sx_const (.int 0) 16)), (16, .inl (sx_istore 1 17)), (17, .inl (sx_const (.int 0) 18)), (18, .inl (sx_istore 2 19)), (19, .inl (sx_iload 2 20)), (20, .inl (sx_aload 0 21)), (21, .inl (sx_getf 3 0 24)), (24, .inr (.inl (25, 1, some (some 1), 1))), (27, .inl (sx_icmp (fun x y => decide (y ≤ x)) 65 30)), (30, .inl (sx_aload 0 31)), (31, .inl (sx_iload 2 32)), (32, .inr (.inl (68, 2, some (some 3), 2))), (35, .inl (sx_if (fun x => decide (x = 0)) 59 38)), (38, .inl (sx_iinc 1 1 41)), (41, .inl (sx_aload 0 42)), (42, .inl (sx_aload 0 43)), (43, .inl (sx_iload 2 44)), (44, .inr (.inl (62, 2, some (some 3), 3))), (47, .inr (.inl (69, 2, some (some 3), 2))), (50, .inl (sx_aload 0 51)), (51, .inl (sx_aload 0 52)), (52, .inl (sx_iload 2 53)), (53, .inr (.inl (63, 2, some (some 3), 3))), (56, .inr (.inl (69, 2, some (some 3), 2))), (59, .inl (sx_iinc 2 1 62)), (62, .inl (sx_goto 19)), (65, .inl (sx_aload 0 66)), (66, .inl (sx_getf 3 4 69)), (69, .inl (sx_const (.int 0) 70)), (70, .inr (.inl (7, 2, some (some 6), 2))), (73, .inl (sx_const (.int 0) 74)), (74, .inl (sx_istore 2 75)), (75, .inl (sx_iload 2 76)), (76, .inl (sx_aload 0 77)), (77, .inl (sx_getf 3 0 80)), (80, .inr (.inl (25, 1, some (some 1), 1))), (83, .inl (sx_icmp (fun x y => decide (y ≤ x)) 119 86)), (86, .inl (sx_aload 0 87)), (87, .inl (sx_iload 2 88)), (88, .inr (.inl (68, 2, some (some 3), 2))), (91, .inl (sx_if (fun x => decide (x = 0)) 113 94)), (94, .inl (sx_aload 0 95)), (95, .inl (sx_getf 3 3 98)), (98, .inl (sx_iload 2 99)), (99, .inr (.inl (3, 2, some (some 6), 2))), (102, .inl (sx_if (fun x => decide (¬ x = 0)) 113 105)), (105, .inl (sx_aload 0 106)), (106, .inl (sx_getf 3 4 109)), (109, .inl (sx_iload 2 110)), (110, .inr (.inl (5, 2, some (some 6), 2))), (113, .inl (sx_iinc 2 1 116)), (116, .inl (sx_goto 75)), (119, .inl (sx_const (.int 0) 120)), (120, .inl (sx_istore 2 121)), (121, .inl (sx_iload 2 122)), (122, .inl (sx_aload 0 123)), (123, .inl (sx_getf 3 0 126)), (126, .inr (.inl (25, 1, some (some 1), 1))), (129, .inl (sx_icmp (fun x y => decide (y ≤ x)) 177 132)), (132, .inl (sx_aload 0 133)), (133, .inl (sx_getf 3 4 136)), (136, .inr (.inl (2, 1, some (some 6), 1))), (139, .inl (sx_if (fun x => decide (x ≤ 0)) 177 142)), (142, .inl (sx_aload 0 143)), (143, .inl (sx_getf 3 4 146)), (146, .inr (.inl (6, 1, some (some 6), 1))), (149, .inl (sx_istore 3 150)), (150, .inl (sx_iinc 1 (-1) 153)), (153, .inl (sx_aload 0 154)), (154, .inl (sx_aload 0 155)), (155, .inl (sx_iload 3 156)), (156, .inr (.inl (62, 2, some (some 3), 3))), (159, .inr (.inl (70, 2, some (some 3), 2))), (162, .inl (sx_aload 0 163)), (163, .inl (sx_aload 0 164)), (164, .inl (sx_iload 3 165)), (165, .inr (.inl (63, 2, some (some 3), 3))), (168, .inr (.inl (70, 2, some (some 3), 2))), (171, .inl (sx_iinc 2 1 174)), (174, .inl (sx_goto 121)), (177, .inl (sx_iload 1 178)), (178, .inl (sx_if (fun x => decide (¬ x = 0)) 185 181)), (181, .inl (sx_const (.int 1) 182)), (182, .inl (sx_goto 186)), (185, .inl (sx_const (.int 0) 186)), (186, .inr (.inr (some .boolean)))]
/-- RowCode$Judge.isFree(I)Z -/
def mt_68 : List (Nat × mx_E) := [(0, .inl (sx_aload 0 1)), (1, .inl (sx_getf 3 2 4)), (4, .inl (sx_iload 1 5)), (5, .inr (.inl (3, 2, some (some 6), 2))), (8, .inl (sx_const (.int (-1)) 9)), (9, .inl (sx_icmp (fun x y => decide (x = y)) 29 12)), (12, .inl (sx_aload 0 13)), (13, .inl (sx_getf 3 0 16)), (16, .inl (sx_iload 1 17)), (17, .inr (.inl (26, 2, some (some 1), 2))), (20, .inl (sx_const (.int 15) 22)), (22, .inl (sx_icmp (fun x y => decide (x = y)) 29 25)), (25, .inl (sx_const (.int 1) 26)), (26, .inl (sx_goto 30)), (29, .inl (sx_const (.int 0) 30)), (30, .inr (.inr (some .boolean)))]
/-- RowCode$Judge.countComer(I)V -/
def mt_69 : List (Nat × mx_E) := [(0, .inl (sx_aload 0 1)), (1, .inl (sx_iload 1 2)), (2, .inr (.inl (68, 2, some (some 3), 2))), (5, .inl (sx_if (fun x => decide (x = 0)) 26 8)), (8, .inl (sx_aload 0 9)), (9, .inl (sx_getf 3 3 12)), (12, .inl (sx_iload 1 13)), (13, .inl (sx_aload 0 14)), (14, .inl (sx_getf 3 3 17)), (17, .inl (sx_iload 1 18)), (18, .inr (.inl (3, 2, some (some 6), 2))), (21, .inl (sx_const (.int 1) 22)), (22, .inl (sx_bin (fun x y => x + y) 23)), (23, .inr (.inl (4, 3, some (some 6), 3))), (26, .inr (.inr none))]
/-- RowCode$Judge.loseComer(I)V -/
def mt_70 : List (Nat × mx_E) := [(0, .inl (sx_aload 0 1)), (1, .inl (sx_iload 1 2)), (2, .inr (.inl (68, 2, some (some 3), 2))), (5, .inl (sx_if (fun x => decide (x = 0)) 45 8)), (8, .inl (sx_aload 0 9)), (9, .inl (sx_getf 3 3 12)), (12, .inl (sx_iload 1 13)), (13, .inl (sx_aload 0 14)), (14, .inl (sx_getf 3 3 17)), (17, .inl (sx_iload 1 18)), (18, .inr (.inl (3, 2, some (some 6), 2))), (21, .inl (sx_const (.int 1) 22)), (22, .inl (sx_bin (fun x y => x - y) 23)), (23, .inr (.inl (4, 3, some (some 6), 3))), (26, .inl (sx_aload 0 27)), (27, .inl (sx_getf 3 3 30)), (30, .inl (sx_iload 1 31)), (31, .inr (.inl (3, 2, some (some 6), 2))), (34, .inl (sx_if (fun x => decide (¬ x = 0)) 45 37)), (37, .inl (sx_aload 0 38)), (38, .inl (sx_getf 3 4 41)), (41, .inl (sx_iload 1 42)), (42, .inr (.inl (5, 2, some (some 6), 2))), (45, .inr (.inr none))]
/-- RowCode$Improver.<init>()V -/
def mt_71 : List (Nat × mx_E) := [(0, .inl (sx_aload 0 1)), (1, .inl (sx_obj 4)), (4, .inl (sx_aload 0 5)), (5, .inl (sx_new 6 [.null, .int 0] 8)), (8, .inl (sx_dup 9)), (9, .inr (.inl (1, 1, some none, 1))), (12, .inl (sx_putf 2 0 (.object "RowCode$Numbers") 15)), (15, .inl (sx_aload 0 16)), (16, .inl (sx_new 6 [.null, .int 0] 19)), (19, .inl (sx_dup 20)), (20, .inr (.inl (1, 1, some none, 1))), (23, .inl (sx_putf 2 1 (.object "RowCode$Numbers") 26)), (26, .inl (sx_aload 0 27)), (27, .inl (sx_new 1 [.null, .null] 30)), (30, .inl (sx_dup 31)), (31, .inr (.inl (24, 1, some none, 1))), (34, .inl (sx_putf 2 2 (.object "RowCode$Code") 37)), (37, .inl (sx_aload 0 38)), (38, .inl (sx_new 1 [.null, .null] 41)), (41, .inl (sx_dup 42)), (42, .inr (.inl (24, 1, some none, 1))), (45, .inl (sx_putf 2 3 (.object "RowCode$Code") 48)), (48, .inr (.inr none))]
/-- RowCode$Improver.improve(LRowCode$Code;LRowCode$Judge;)LRowCode$Code; -/
def mt_72 : List (Nat × mx_E) := [(0, .inl (sx_aload 0 1)), (1, .inl (sx_aload 1 2)), (2, .inl (sx_aload 2 3)), (3, .inr (.inl (73, 3, some (some 2), 5))), (6, .inl (sx_const (.int 0) 7)), (7, .inl (sx_istore 3 8)), (8, .inl (sx_iload 3 9)), (9, .inl (sx_const (.int 4) 10)), (10, .inl (sx_icmp (fun x y => decide (y ≤ x)) 51 13)), (13, .inl (sx_aload 0 14)), (14, .inl (sx_getf 2 2 17)), (17, .inl (sx_astore 4 19)), (19, .inl (sx_aload 0 20)), (20, .inl (sx_aload 0 21)), (21, .inl (sx_getf 2 3 24)), (24, .inl (sx_putf 2 2 (.object "RowCode$Code") 27)), (27, .inl (sx_aload 0 28)), (28, .inl (sx_aload 4 30)), (30, .inl (sx_putf 2 3 (.object "RowCode$Code") 33)), (33, .inl (sx_aload 0 34)), (34, .inr (.inl (74, 1, some (some 2), 2))), (37, .inl (sx_aload 0 38)), (38, .inr (.inl (75, 1, some (some 2), 3))), (41, .inl (sx_aload 0 42)), (42, .inr (.inl (77, 1, some (some 2), 6))), (45, .inl (sx_iinc 3 1 48)), (48, .inl (sx_goto 8)), (51, .inl (sx_aload 0 52)), (52, .inl (sx_getf 2 3 55)), (55, .inr (.inr (some (.object "RowCode$Code"))))]
/-- RowCode$Improver.copyReached(LRowCode$Code;LRowCode$Judge;)V -/
def mt_73 : List (Nat × mx_E) := [(0, .inl (sx_aload 0 1)), (1, .inl (sx_getf 2 3 4)), (4, .inl (sx_const (.int 0) 5)), (5, .inr (.inl (29, 2, some (some 1), 2))), (8, .inl (sx_const (.int 0) 9)), (9, .inl (sx_istore 3 10)), (10, .inl (sx_iload 3 11)), (11, .inl (sx_aload 1 12)), (12, .inr (.inl (25, 1, some (some 1), 1))), (15, .inl (sx_icmp (fun x y => decide (y ≤ x)) 83 18)), (18, .inl (sx_aload 1 19)), (19, .inl (sx_iload 3 20)), (20, .inl (sx_const (.int 1) 21)), (21, .inl (sx_bin (fun x y => x - y) 22)), (22, .inr (.inl (26, 2, some (some 1), 2))), (25, .inl (sx_const (.int 18) 27)), (27, .inl (sx_icmp (fun x y => decide (¬ x = y)) 44 30)), (30, .inl (sx_aload 2 31)), (31, .inl (sx_iload 3 32)), (32, .inl (sx_const (.int 1) 33)), (33, .inl (sx_bin (fun x y => x - y) 34)), (34, .inr (.inl (57, 2, some (some 3), 2))), (37, .inl (sx_if (fun x => decide (x = 0)) 44 40)), (40, .inl (sx_const (.int 1) 41)), (41, .inl (sx_goto 45)), (44, .inl (sx_const (.int 0) 45)), (45, .inl (sx_istore 4 47)), (47, .inl (sx_iload 4 49)), (49, .inl (sx_if (fun x => decide (¬ x = 0)) 60 52)), (52, .inl (sx_aload 2 53)), (53, .inl (sx_iload 3 54)), (54, .inr (.inl (57, 2, some (some 3), 2))), (57, .inl (sx_if (fun x => decide (x = 0)) 77 60)), (60, .inl (sx_aload 0 61)), (61, .inl (sx_getf 2 3 64)), (64, .inl (sx_aload 1 65)), (65, .inl (sx_iload 3 66)), (66, .inr (.inl (26, 2, some (some 1), 2))), (69, .inl (sx_aload 1 70)), (70, .inl (sx_iload 3 71)), (71, .inr (.inl (27, 2, some (some 1), 2))), (74, .inr (.inl (28, 3, some (some 1), 3))), (77, .inl (sx_iinc 3 1 80)), (80, .inl (sx_goto 10)), (83, .inr (.inr none))]
/-- RowCode$Improver.findPlaces()V -/
def mt_74 : List (Nat × mx_E) := [(0, .inl (sx_aload 0 1)), (1, .inl (sx_getf 2 0 4)), (4, .inl (sx_const (.int 100) 6)), (6, .inl (sx_const (.int (-1)) 7)), (7, .inr (.inl (8, 3, some (some 6), 4))), (10, .inl (sx_const (.int 0) 11)), (11, .inl (sx_istore 1 12)), (12, .inl (sx_iload 1 13)), (13, .inl (sx_aload 0 14)), (14, .inl (sx_getf 2 2 17)), (17, .inr (.inl (25, 1, some (some 1), 1))), (20, .inl (sx_icmp (fun x y => decide (y ≤ x)) 58 23)), (23, .inl (sx_aload 0 24)), (24, .inl (sx_getf 2 2 27)), (27, .inl (sx_iload 1 28)), (28, .inr (.inl (26, 2, some (some 1), 2))), (31, .inl (sx_const (.int 13) 33)), (33, .inl (sx_icmp (fun x y => decide (¬ x = y)) 52 36)), (36, .inl (sx_aload 0 37)), (37, .inl (sx_getf 2 0 40)), (40, .inl (sx_aload 0 41)), (41, .inl (sx_getf 2 2 44)), (44, .inl (sx_iload 1 45)), (45, .inr (.inl (27, 2, some (some 1), 2))), (48, .inl (sx_iload 1 49)), (49, .inr (.inl (4, 3, some (some 6), 3))), (52, .inl (sx_iinc 1 1 55)), (55, .inl (sx_goto 12)), (58, .inr (.inr none))]
/-- RowCode$Improver.countUses()V -/
def mt_75 : List (Nat × mx_E) := [(0, .inl (sx_aload 0 1)), (1, .inl (sx_getf 2 1 4)), (4, .inl (sx_const (.int 100) 6)), (6, .inl (sx_const (.int 0) 7)), (7, .inr (.inl (8, 3, some (some 6), 4))), (10, .inl (sx_const (.int 0) 11)), (11, .inl (sx_istore 1 12)), (12, .inl (sx_iload 1 13)), (13, .inl (sx_aload 0 14)), (14, .inl (sx_getf 2 2 17)), (17, .inr (.inl (25, 1, some (some 1), 1))), (20, .inl (sx_icmp (fun x y => decide (y ≤ x)) 74 23)), (23, .inl (sx_aload 0 24)), (24, .inl (sx_getf 2 2 27)), (27, .inl (sx_iload 1 28)), (28, .inr (.inl (26, 2, some (some 1), 2))), (31, .inr (.inl (114, 1, none, 1))), (34, .inl (sx_if (fun x => decide (x = 0)) 68 37)), (37, .inl (sx_aload 0 38)), (38, .inl (sx_aload 0 39)), (39, .inl (sx_getf 2 2 42)), (42, .inl (sx_iload 1 43)), (43, .inr (.inl (27, 2, some (some 1), 2))), (46, .inr (.inl (76, 2, some (some 2), 6))), (49, .inl (sx_istore 2 50)), (50, .inl (sx_aload 0 51)), (51, .inl (sx_getf 2 1 54)), (54, .inl (sx_iload 2 55)), (55, .inl (sx_aload 0 56)), (56, .inl (sx_getf 2 1 59)), (59, .inl (sx_iload 2 60)), (60, .inr (.inl (3, 2, some (some 6), 2))), (63, .inl (sx_const (.int 1) 64)), (64, .inl (sx_bin (fun x y => x + y) 65)), (65, .inr (.inl (4, 3, some (some 6), 3))), (68, .inl (sx_iinc 1 1 71)), (71, .inl (sx_goto 12)), (74, .inr (.inr none))]
/-- RowCode$Improver.farthest(I)I -/
def mt_76 : List (Nat × mx_E) := [(0, .inl (sx_iload 1 1)), (1, .inl (sx_istore 2 2)), (2, .inl (sx_const (.int 0) 3)), (3, .inl (sx_istore 3 4)), (4, .inl (sx_iload 3 5)), (5, .inl (sx_const (.int 100) 7)), (7, .inl (sx_icmp (fun x y => decide (y ≤ x)) 65 10)), (10, .inl (sx_aload 0 11)), (11, .inl (sx_getf 2 0 14)), (14, .inl (sx_iload 2 15)), (15, .inr (.inl (3, 2, some (some 6), 2))), (18, .inl (sx_const (.int 1) 19)), (19, .inl (sx_bin (fun x y => x + y) 20)), (20, .inl (sx_istore 4 22)), (22, .inl (sx_aload 0 23)), (23, .inl (sx_getf 2 2 26)), (26, .inl (sx_iload 4 28)), (28, .inr (.inl (26, 2, some (some 1), 2))), (31, .inl (sx_istore 5 33)), (33, .inl (sx_iload 5 35)), (35, .inl (sx_const (.int 13) 37)), (37, .inl (sx_icmp (fun x y => decide (x = y)) 49 40)), (40, .inl (sx_iload 5 42)), (42, .inl (sx_const (.int 10) 44)), (44, .inl (sx_icmp (fun x y => decide (x = y)) 49 47)), (47, .inl (sx_iload 2 48)), (48, .inr (.inr (some .int))), (49, .inl (sx_aload 0 50)), (50, .inl (sx_getf 2 2 53)), (53, .inl (sx_iload 4 55)), (55, .inr (.inl (27, 2, some (some 1), 2))), (58, .inl (sx_istore 2 59)), (59, .inl (sx_iinc 3 1 62)), (62, .inl (sx_goto 4)), (65, .inl (sx_iload 2 66)), (66, .inr (.inr (some .int)))]
/-- RowCode$Improver.rewrite()V -/
def mt_77 : List (Nat × mx_E) := [(0, .inl (sx_aload 0 1)), (1, .inl (sx_getf 2 3 4)), (4, .inl (sx_const (.int 0) 5)), (5, .inr (.inl (29, 2, some (some 1), 2))), (8, .inl (sx_const (.int 0) 9)), (9, .inl (sx_istore 1 10)), (10, .inl (sx_const (.int 0) 11)), (11, .inl (sx_istore 2 12)), (12, .inl (sx_iload 2 13)), (13, .inl (sx_aload 0 14)), (14, .inl (sx_getf 2 2 17)), (17, .inr (.inl (25, 1, some (some 1), 1))), (20, .inl (sx_icmp (fun x y => decide (y ≤ x)) 134 23)), (23, .inl (sx_aload 0 24)), (24, .inl (sx_getf 2 2 27)), (27, .inl (sx_iload 2 28)), (28, .inr (.inl (26, 2, some (some 1), 2))), (31, .inl (sx_istore 3 32)), (32, .inl (sx_aload 0 33)), (33, .inl (sx_getf 2 2 36)), (36, .inl (sx_iload 2 37)), (37, .inr (.inl (27, 2, some (some 1), 2))), (40, .inl (sx_istore 4 42)), (42, .inl (sx_iload 3 43)), (43, .inl (sx_const (.int 13) 45)), (45, .inl (sx_icmp (fun x y => decide (¬ x = y)) 63 48)), (48, .inl (sx_aload 0 49)), (49, .inl (sx_getf 2 1 52)), (52, .inl (sx_iload 4 54)), (54, .inr (.inl (3, 2, some (some 6), 2))), (57, .inl (sx_if (fun x => decide (¬ x = 0)) 63 60)), (60, .inl (sx_goto 128)), (63, .inl (sx_iload 1 64)), (64, .inl (sx_if (fun x => decide (x = 0)) 76 67)), (67, .inl (sx_iload 3 68)), (68, .inl (sx_const (.int 13) 70)), (70, .inl (sx_icmp (fun x y => decide (x = y)) 76 73)), (73, .inl (sx_goto 128)), (76, .inl (sx_iload 3 77)), (77, .inr (.inl (114, 1, none, 1))), (80, .inl (sx_if (fun x => decide (x = 0)) 92 83)), (83, .inl (sx_aload 0 84)), (84, .inl (sx_iload 4 86)), (86, .inr (.inl (76, 2, some (some 2), 6))), (89, .inl (sx_goto 94)), (92, .inl (sx_iload 4 94)), (94, .inl (sx_istore 5 96)), (96, .inl (sx_aload 0 97)), (97, .inl (sx_iload 3 98)), (98, .inl (sx_iload 5 100)), (100, .inr (.inl (78, 3, some (some 2), 3))), (103, .inl (sx_if (fun x => decide (¬ x = 0)) 116 106)), (106, .inl (sx_aload 0 107)), (107, .inl (sx_getf 2 3 110)), (110, .inl (sx_iload 3 111)), (111, .inl (sx_iload 5 113)), (113, .inr (.inl (28, 3, some (some 1), 3))), (116, .inl (sx_aload 0 117)), (117, .inl (sx_getf 2 3 120)), (120, .inl (sx_const (.int 0) 121)), (121, .inr (.inl (30, 2, some (some 1), 2))), (124, .inr (.inl (115, 1, none, 1))), (127, .inl (sx_istore 1 128)), (128, .inl (sx_iinc 2 1 131)), (131, .inl (sx_goto 12)), (134, .inr (.inr none))]
/-- RowCode$Improver.folds(II)Z -/
def mt_78 : List (Nat × mx_E) := [(0, .inl (sx_iload 1 1)), (1, .inl (sx_table 93 (5) (14) [56, 56, 62, 68, 93, 93, 79, 79, 86, 74])), (56, .inl (sx_aload 0 57)), (57, .inl (sx_iload 1 58)), (58, .inr (.inl (79, 2, some (some 2), 4))), (61, .inr (.inr (some .boolean))), (62, .inl (sx_aload 0 63)), (63, .inl (sx_iload 2 64)), (64, .inr (.inl (80, 2, some (some 2), 3))), (67, .inr (.inr (some .boolean))), (68, .inl (sx_aload 0 69)), (69, .inl (sx_iload 2 70)), (70, .inr (.inl (81, 2, some (some 2), 4))), (73, .inr (.inr (some .boolean))), (74, .inl (sx_aload 0 75)), (75, .inr (.inl (82, 1, some (some 2), 2))), (78, .inr (.inr (some .boolean))), (79, .inl (sx_aload 0 80)), (80, .inl (sx_iload 1 81)), (81, .inl (sx_iload 2 82)), (82, .inr (.inl (83, 3, some (some 2), 4))), (85, .inr (.inr (some .boolean))), (86, .inl (sx_aload 0 87)), (87, .inl (sx_iload 2 88)), (88, .inr (.inl (85, 2, some (some 2), 5))), (91, .inl (sx_const (.int 0) 92)), (92, .inr (.inr (some .boolean))), (93, .inl (sx_const (.int 0) 94)), (94, .inr (.inr (some .boolean)))]
/-- RowCode$Improver.foldsOne(I)Z -/
def mt_79 : List (Nat × mx_E) := [(0, .inl (sx_aload 0 1)), (1, .inl (sx_getf 2 3 4)), (4, .inl (sx_const (.int 0) 5)), (5, .inr (.inl (30, 2, some (some 1), 2))), (8, .inl (sx_istore 2 9)), (9, .inl (sx_iload 2 10)), (10, .inl (sx_if (fun x => decide (¬ x = 0)) 46 13)), (13, .inl (sx_aload 0 14)), (14, .inl (sx_getf 2 3 17)), (17, .inl (sx_const (.int 0) 18)), (18, .inr (.inl (31, 2, some (some 1), 2))), (21, .inl (sx_istore 3 22)), (22, .inl (sx_aload 0 23)), (23, .inl (sx_getf 2 3 26)), (26, .inl (sx_const (.int 1) 27)), (27, .inl (sx_const (.int 0) 28)), (28, .inl (sx_iload 1 29)), (29, .inl (sx_const (.int 5) 30)), (30, .inl (sx_icmp (fun x y => decide (¬ x = y)) 38 33)), (33, .inl (sx_iload 3 34)), (34, .inl (sx_ineg 35)), (35, .inl (sx_goto 41)), (38, .inl (sx_iload 3 39)), (39, .inl (sx_const (.int (-1)) 40)), (40, .inl (sx_bin (fun x y => x ^^^ y) 41)), (41, .inr (.inl (33, 4, some (some 1), 4))), (44, .inl (sx_const (.int 1) 45)), (45, .inr (.inr (some .boolean))), (46, .inl (sx_iload 2 47)), (47, .inl (sx_iload 1 48)), (48, .inl (sx_icmp (fun x y => decide (¬ x = y)) 60 51)), (51, .inl (sx_aload 0 52)), (52, .inl (sx_getf 2 3 55)), (55, .inr (.inl (32, 1, some (some 1), 1))), (58, .inl (sx_const (.int 1) 59)), (59, .inr (.inr (some .boolean))), (60, .inl (sx_iload 2 61)), (61, .inl (sx_const (.int 8) 63)), (63, .inl (sx_icmp (fun x y => decide (¬ x = y)) 95 66)), (66, .inl (sx_iload 1 67)), (67, .inl (sx_const (.int 6) 69)), (69, .inl (sx_icmp (fun x y => decide (¬ x = y)) 95 72)), (72, .inl (sx_aload 0 73)), (73, .inl (sx_getf 2 3 76)), (76, .inl (sx_const (.int 1) 77)), (77, .inl (sx_const (.int 8) 79)), (79, .inl (sx_aload 0 80)), (80, .inl (sx_getf 2 3 83)), (83, .inl (sx_const (.int 0) 84)), (84, .inr (.inl (31, 2, some (some 1), 2))), (87, .inr (.inl (15, 1, none, 1))), (90, .inr (.inl (33, 4, some (some 1), 4))), (93, .inl (sx_const (.int 1) 94)), (94, .inr (.inr (some .boolean))), (95, .inl (sx_const (.int 0) 96)), (96, .inr (.inr (some .boolean)))]
/-- RowCode$Improver.foldsCalculation(I)Z -/
def mt_80 : List (Nat × mx_E) := [(0, .inl (sx_aload 0 1)), (1, .inl (sx_getf 2 3 4)), (4, .inl (sx_const (.int 0) 5)), (5, .inr (.inl (30, 2, some (some 1), 2))), (8, .inl (sx_if (fun x => decide (x = 0)) 13 11)), (11, .inl (sx_const (.int 0) 12)), (12, .inr (.inr (some .boolean))), (13, .inl (sx_aload 0 14)), (14, .inl (sx_getf 2 3 17)), (17, .inl (sx_const (.int 0) 18)), (18, .inr (.inl (31, 2, some (some 1), 2))), (21, .inl (sx_istore 2 22)), (22, .inl (sx_iload 1 23)), (23, .inl (sx_iload 2 24)), (24, .inr (.inl (12, 2, none, 2))), (27, .inl (sx_if (fun x => decide (x = 0)) 39 30)), (30, .inl (sx_aload 0 31)), (31, .inl (sx_getf 2 3 34)), (34, .inr (.inl (32, 1, some (some 1), 1))), (37, .inl (sx_const (.int 1) 38)), (38, .inr (.inr (some .boolean))), (39, .inl (sx_aload 0 40)), (40, .inl (sx_getf 2 3 43)), (43, .inl (sx_const (.int 1) 44)), (44, .inr (.inl (30, 2, some (some 1), 2))), (47, .inl (sx_if (fun x => decide (¬ x = 0)) 61 50)), (50, .inl (sx_iload 2 51)), (51, .inl (sx_if (fun x => decide (¬ x = 0)) 63 54)), (54, .inl (sx_iload 1 55)), (55, .inr (.inl (9, 1, none, 1))), (58, .inl (sx_if (fun x => decide (x = 0)) 63 61)), (61, .inl (sx_const (.int 0) 62)), (62, .inr (.inr (some .boolean))), (63, .inl (sx_aload 0 64)), (64, .inl (sx_getf 2 3 67)), (67, .inl (sx_const (.int 2) 68)), (68, .inl (sx_const (.int 0) 69)), (69, .inl (sx_iload 1 70)), (70, .inl (sx_aload 0 71)), (71, .inl (sx_getf 2 3 74)), (74, .inl (sx_const (.int 1) 75)), (75, .inr (.inl (31, 2, some (some 1), 2))), (78, .inl (sx_iload 2 79)), (79, .inr (.inl (10, 3, none, 3))), (82, .inr (.inl (33, 4, some (some 1), 4))), (85, .inl (sx_const (.int 1) 86)), (86, .inr (.inr (some .boolean)))]
/-- RowCode$Improver.foldsComparison(I)Z -/
def mt_81 : List (Nat × mx_E) := [(0, .inl (sx_aload 0 1)), (1, .inl (sx_getf 2 3 4)), (4, .inl (sx_const (.int 0) 5)), (5, .inr (.inl (30, 2, some (some 1), 2))), (8, .inl (sx_if (fun x => decide (x = 0)) 13 11)), (11, .inl (sx_const (.int 0) 12)), (12, .inr (.inr (some .boolean))), (13, .inl (sx_aload 0 14)), (14, .inl (sx_getf 2 3 17)), (17, .inl (sx_const (.int 0) 18)), (18, .inr (.inl (31, 2, some (some 1), 2))), (21, .inl (sx_istore 2 22)), (22, .inl (sx_aload 0 23)), (23, .inl (sx_getf 2 3 26)), (26, .inl (sx_const (.int 1) 27)), (27, .inr (.inl (30, 2, some (some 1), 2))), (30, .inl (sx_if (fun x => decide (¬ x = 0)) 57 33)), (33, .inl (sx_aload 0 34)), (34, .inl (sx_getf 2 3 37)), (37, .inl (sx_const (.int 2) 38)), (38, .inl (sx_const (.int 0) 39)), (39, .inl (sx_iload 1 40)), (40, .inl (sx_aload 0 41)), (41, .inl (sx_getf 2 3 44)), (44, .inl (sx_const (.int 1) 45)), (45, .inr (.inl (31, 2, some (some 1), 2))), (48, .inl (sx_iload 2 49)), (49, .inr (.inl (14, 3, none, 3))), (52, .inr (.inl (33, 4, some (some 1), 4))), (55, .inl (sx_const (.int 1) 56)), (56, .inr (.inr (some .boolean))), (57, .inl (sx_aload 0 58)), (58, .inl (sx_getf 2 3 61)), (61, .inl (sx_const (.int 1) 62)), (62, .inr (.inl (30, 2, some (some 1), 2))), (65, .inl (sx_const (.int 8) 67)), (67, .inl (sx_icmp (fun x y => decide (¬ x = y)) 112 70)), (70, .inl (sx_iload 2 71)), (71, .inl (sx_if (fun x => decide (¬ x = 0)) 112 74)), (74, .inl (sx_iload 1 75)), (75, .inl (sx_const (.int 2) 76)), (76, .inl (sx_icmp (fun x y => decide (y ≤ x)) 112 79)), (79, .inl (sx_aload 0 80)), (80, .inl (sx_getf 2 3 83)), (83, .inl (sx_const (.int 1) 84)), (84, .inr (.inl (31, 2, some (some 1), 2))), (87, .inl (sx_istore 3 88)), (88, .inl (sx_aload 0 89)), (89, .inl (sx_getf 2 3 92)), (92, .inl (sx_const (.int 2) 93)), (93, .inl (sx_const (.int 8) 95)), (95, .inl (sx_iload 1 96)), (96, .inl (sx_if (fun x => decide (¬ x = 0)) 106 99)), (99, .inl (sx_iload 3 100)), (100, .inr (.inl (15, 1, none, 1))), (103, .inl (sx_goto 107)), (106, .inl (sx_iload 3 107)), (107, .inr (.inl (33, 4, some (some 1), 4))), (110, .inl (sx_const (.int 1) 111)), (111, .inr (.inr (some .boolean))), (112, .inl (sx_const (.int 0) 113)), (113, .inr (.inr (some .boolean)))]
/-- RowCode$Improver.foldsDrop()Z -/
def mt_82 : List (Nat × mx_E) := [(0, .inl (sx_aload 0 1)), (1, .inl (sx_getf 2 3 4)), (4, .inl (sx_const (.int 0) 5)), (5, .inr (.inl (30, 2, some (some 1), 2))), (8, .inl (sx_istore 1 9)), (9, .inl (sx_iload 1 10)), (10, .inl (sx_const (.int 5) 11)), (11, .inl (sx_icmp (fun x y => decide (x = y)) 20 14)), (14, .inl (sx_iload 1 15)), (15, .inl (sx_const (.int 6) 17)), (17, .inl (sx_icmp (fun x y => decide (¬ x = y)) 29 20)), (20, .inl (sx_aload 0 21)), (21, .inl (sx_getf 2 3 24)), (24, .inr (.inl (32, 1, some (some 1), 1))), (27, .inl (sx_const (.int 0) 28)), (28, .inr (.inr (some .boolean))), (29, .inl (sx_iload 1 30)), (30, .inl (sx_if (fun x => decide (x = 0)) 38 33)), (33, .inl (sx_iload 1 34)), (34, .inl (sx_const (.int 1) 35)), (35, .inl (sx_icmp (fun x y => decide (¬ x = y)) 47 38)), (38, .inl (sx_aload 0 39)), (39, .inl (sx_getf 2 3 42)), (42, .inr (.inl (32, 1, some (some 1), 1))), (45, .inl (sx_const (.int 1) 46)), (46, .inr (.inr (some .boolean))), (47, .inl (sx_const (.int 0) 48)), (48, .inr (.inr (some .boolean)))]
/-- RowCode$Improver.foldsCondition(II)Z -/
def mt_83 : List (Nat × mx_E) := [(0, .inl (sx_aload 0 1)), (1, .inl (sx_getf 2 3 4)), (4, .inl (sx_const (.int 0) 5)), (5, .inr (.inl (30, 2, some (some 1), 2))), (8, .inl (sx_if (fun x => decide (¬ x = 0)) 62 11)), (11, .inl (sx_aload 0 12)), (12, .inl (sx_getf 2 3 15)), (15, .inl (sx_const (.int 0) 16)), (16, .inr (.inl (31, 2, some (some 1), 2))), (19, .inl (sx_if (fun x => decide (¬ x = 0)) 26 22)), (22, .inl (sx_const (.int 1) 23)), (23, .inl (sx_goto 27)), (26, .inl (sx_const (.int 0) 27)), (27, .inl (sx_istore 3 28)), (28, .inl (sx_aload 0 29)), (29, .inl (sx_getf 2 3 32)), (32, .inr (.inl (32, 1, some (some 1), 1))), (35, .inl (sx_iload 3 36)), (36, .inl (sx_iload 1 37)), (37, .inl (sx_const (.int 11) 39)), (39, .inl (sx_icmp (fun x y => decide (¬ x = y)) 46 42)), (42, .inl (sx_const (.int 1) 43)), (43, .inl (sx_goto 47)), (46, .inl (sx_const (.int 0) 47)), (47, .inl (sx_icmp (fun x y => decide (¬ x = y)) 60 50)), (50, .inl (sx_aload 0 51)), (51, .inl (sx_getf 2 3 54)), (54, .inl (sx_const (.int 10) 56)), (56, .inl (sx_iload 2 57)), (57, .inr (.inl (28, 3, some (some 1), 3))), (60, .inl (sx_const (.int 1) 61)), (61, .inr (.inr (some .boolean))), (62, .inl (sx_aload 0 63)), (63, .inl (sx_getf 2 3 66)), (66, .inl (sx_const (.int 0) 67)), (67, .inr (.inl (30, 2, some (some 1), 2))), (70, .inl (sx_const (.int 5) 71)), (71, .inl (sx_icmp (fun x y => decide (¬ x = y)) 83 74)), (74, .inl (sx_aload 0 75)), (75, .inl (sx_getf 2 3 78)), (78, .inr (.inl (32, 1, some (some 1), 1))), (81, .inl (sx_const (.int 0) 82)), (82, .inr (.inr (some .boolean))), (83, .inl (sx_aload 0 84)), (84, .inl (sx_getf 2 3 87)), (87, .inl (sx_const (.int 0) 88)), (88, .inr (.inl (30, 2, some (some 1), 2))), (91, .inl (sx_const (.int 8) 93)), (93, .inl (sx_icmp (fun x y => decide (¬ x = y)) 134 96)), (96, .inl (sx_aload 0 97)), (97, .inl (sx_getf 2 3 100)), (100, .inl (sx_const (.int 0) 101)), (101, .inr (.inl (31, 2, some (some 1), 2))), (104, .inl (sx_const (.int 2) 105)), (105, .inl (sx_icmp (fun x y => decide (y ≤ x)) 134 108)), (108, .inl (sx_aload 0 109)), (109, .inl (sx_getf 2 3 112)), (112, .inl (sx_const (.int 1) 113)), (113, .inr (.inl (30, 2, some (some 1), 2))), (116, .inl (sx_if (fun x => decide (¬ x = 0)) 134 119)), (119, .inl (sx_aload 0 120)), (120, .inl (sx_getf 2 3 123)), (123, .inl (sx_const (.int 1) 124)), (124, .inr (.inl (31, 2, some (some 1), 2))), (127, .inl (sx_if (fun x => decide (¬ x = 0)) 134 130)), (130, .inl (sx_const (.int 1) 131)), (131, .inl (sx_goto 135)), (134, .inl (sx_const (.int 0) 135)), (135, .inl (sx_istore 3 136)), (136, .inl (sx_iload 3 137)), (137, .inl (sx_if (fun x => decide (x = 0)) 168 140)), (140, .inl (sx_aload 0 141)), (141, .inl (sx_getf 2 3 144)), (144, .inl (sx_const (.int 2) 145)), (145, .inl (sx_aload 0 146)), (146, .inl (sx_getf 2 3 149)), (149, .inl (sx_const (.int 0) 150)), (150, .inr (.inl (31, 2, some (some 1), 2))), (153, .inl (sx_if (fun x => decide (¬ x = 0)) 163 156)), (156, .inl (sx_iload 1 157)), (157, .inr (.inl (84, 1, none, 1))), (160, .inl (sx_goto 164)), (163, .inl (sx_iload 1 164)), (164, .inl (sx_iload 2 165)), (165, .inr (.inl (33, 4, some (some 1), 4))), (168, .inl (sx_iload 3 169)), (169, .inr (.inr (some .boolean)))]
/-- RowCode$Improver.otherCondition(I)I -/
def mt_84 : List (Nat × mx_E) := [(0, .inl (sx_iload 0 1)), (1, .inl (sx_const (.int 11) 3)), (3, .inl (sx_icmp (fun x y => decide (¬ x = y)) 11 6)), (6, .inl (sx_const (.int 12) 8)), (8, .inl (sx_goto 13)), (11, .inl (sx_const (.int 11) 13)), (13, .inr (.inr (some .int)))]
/-- RowCode$Improver.shortenWayTo(I)V -/
def mt_85 : List (Nat × mx_E) := [(0, .inl (sx_aload 0 1)), (1, .inl (sx_getf 2 3 4)), (4, .inl (sx_const (.int 0) 5)), (5, .inr (.inl (30, 2, some (some 1), 2))), (8, .inl (sx_const (.int 10) 10)), (10, .inl (sx_icmp (fun x y => decide (¬ x = y)) 17 13)), (13, .inl (sx_const (.int 1) 14)), (14, .inl (sx_goto 18)), (17, .inl (sx_const (.int 0) 18)), (18, .inl (sx_istore 2 19)), (19, .inl (sx_iload 2 20)), (20, .inl (sx_if (fun x => decide (x = 0)) 27 23)), (23, .inl (sx_const (.int 1) 24)), (24, .inl (sx_goto 28)), (27, .inl (sx_const (.int 0) 28)), (28, .inl (sx_istore 3 29)), (29, .inl (sx_aload 0 30)), (30, .inl (sx_getf 2 3 33)), (33, .inl (sx_iload 3 34)), (34, .inr (.inl (30, 2, some (some 1), 2))), (37, .inr (.inl (113, 1, none, 1))), (40, .inl (sx_if (fun x => decide (x = 0)) 74 43)), (43, .inl (sx_aload 0 44)), (44, .inl (sx_getf 2 3 47)), (47, .inl (sx_iload 3 48)), (48, .inr (.inl (31, 2, some (some 1), 2))), (51, .inl (sx_iload 1 52)), (52, .inl (sx_icmp (fun x y => decide (¬ x = y)) 74 55)), (55, .inl (sx_aload 0 56)), (56, .inl (sx_getf 2 3 59)), (59, .inl (sx_iload 3 60)), (60, .inl (sx_const (.int 1) 61)), (61, .inl (sx_bin (fun x y => x + y) 62)), (62, .inr (.inl (30, 2, some (some 1), 2))), (65, .inl (sx_const (.int 18) 67)), (67, .inl (sx_icmp (fun x y => decide (x = y)) 74 70)), (70, .inl (sx_const (.int 1) 71)), (71, .inl (sx_goto 75)), (74, .inl (sx_const (.int 0) 75)), (75, .inl (sx_istore 4 77)), (77, .inl (sx_iload 2 78)), (78, .inl (sx_if (fun x => decide (x = 0)) 103 81)), (81, .inl (sx_aload 0 82)), (82, .inl (sx_getf 2 3 85)), (85, .inl (sx_const (.int 0) 86)), (86, .inr (.inl (31, 2, some (some 1), 2))), (89, .inl (sx_iload 1 90)), (90, .inl (sx_icmp (fun x y => decide (¬ x = y)) 103 93)), (93, .inl (sx_aload 0 94)), (94, .inl (sx_getf 2 3 97)), (97, .inr (.inl (32, 1, some (some 1), 1))), (100, .inl (sx_goto 158)), (103, .inl (sx_iload 2 104)), (104, .inl (sx_if (fun x => decide (x = 0)) 142 107)), (107, .inl (sx_iload 4 109)), (109, .inl (sx_if (fun x => decide (x = 0)) 142 112)), (112, .inl (sx_aload 0 113)), (113, .inl (sx_getf 2 3 116)), (116, .inl (sx_const (.int 2) 117)), (117, .inl (sx_aload 0 118)), (118, .inl (sx_getf 2 3 121)), (121, .inl (sx_const (.int 1) 122)), (122, .inr (.inl (30, 2, some (some 1), 2))), (125, .inr (.inl (84, 1, none, 1))), (128, .inl (sx_aload 0 129)), (129, .inl (sx_getf 2 3 132)), (132, .inl (sx_const (.int 0) 133)), (133, .inr (.inl (31, 2, some (some 1), 2))), (136, .inr (.inl (33, 4, some (some 1), 4))), (139, .inl (sx_goto 158)), (142, .inl (sx_iload 4 144)), (144, .inl (sx_if (fun x => decide (x = 0)) 158 147)), (147, .inl (sx_aload 0 148)), (148, .inl (sx_getf 2 3 151)), (151, .inl (sx_const (.int 1) 152)), (152, .inl (sx_const (.int 14) 154)), (154, .inl (sx_const (.int 0) 155)), (155, .inr (.inl (33, 4, some (some 1), 4))), (158, .inr (.inr none))]
/-- RowCode$Translator.<init>()V -/
def mt_86 : List (Nat × mx_E) := [(0, .inl (sx_aload 0 1)), (1, .inl (sx_obj 4)), (4, .inl (sx_aload 0 5)), (5, .inl (sx_new 6 [.null, .int 0] 8)), (8, .inl (sx_dup 9)), (9, .inr (.inl (1, 1, some none, 1))), (12, .inl (sx_putf 8 0 (.object "RowCode$Numbers") 15)), (15, .inl (sx_aload 0 16)), (16, .inl (sx_new 6 [.null, .int 0] 19)), (19, .inl (sx_dup 20)), (20, .inr (.inl (1, 1, some none, 1))), (23, .inl (sx_putf 8 1 (.object "RowCode$Numbers") 26)), (26, .inl (sx_aload 0 27)), (27, .inl (sx_new 6 [.null, .int 0] 30)), (30, .inl (sx_dup 31)), (31, .inr (.inl (1, 1, some none, 1))), (34, .inl (sx_putf 8 2 (.object "RowCode$Numbers") 37)), (37, .inr (.inr none))]
/-- RowCode$Translator.translate(LRowCode$Code;LRowCode$Judge;)LRowCode$Numbers; -/
def mt_87 : List (Nat × mx_E) := [(0, .inl (sx_aload 0 1)), (1, .inl (sx_getf 8 0 4)), (4, .inl (sx_const (.int 0) 5)), (5, .inr (.inl (7, 2, some (some 6), 2))), (8, .inl (sx_aload 0 9)), (9, .inl (sx_const (.int 0) 10)), (10, .inr (.inl (89, 2, some (some 8), 2))), (13, .inl (sx_const (.int 0) 14)), (14, .inl (sx_istore 3 15)), (15, .inl (sx_iload 3 16)), (16, .inl (sx_aload 1 17)), (17, .inr (.inl (25, 1, some (some 1), 1))), (20, .inl (sx_icmp (fun x y => decide (y ≤ x)) 506 23)), (23, .inl (sx_aload 1 24)), (24, .inl (sx_iload 3 25)), (25, .inr (.inl (26, 2, some (some 1), 2))), (28, .inl (sx_istore 4 30)), (30, .inl (sx_aload 1 31)), (31, .inl (sx_iload 3 32)), (32, .inr (.inl (27, 2, some (some 1), 2))), (35, .inl (sx_istore 5 37)), (37, .inl (sx_iload 4 39)), (39, .inl (sx_table 500 (0) (20) [136, 146, 156, 165, 174, 195, 204, 213, 238, 304, 313, 341, 352, 363, 395, 403, 413, 441, 456, 473, 493])), (136, .inl (sx_aload 0 137)), (137, .inl (sx_const (.int 2) 138)), (138, .inl (sx_iload 5 140)), (140, .inr (.inl (90, 3, some (some 8), 3))), (143, .inl (sx_goto 500)), (146, .inl (sx_aload 0 147)), (147, .inl (sx_const (.int 3) 148)), (148, .inl (sx_iload 5 150)), (150, .inr (.inl (90, 3, some (some 8), 3))), (153, .inl (sx_goto 500)), (156, .inl (sx_aload 0 157)), (157, .inl (sx_iload 5 159)), (159, .inr (.inl (98, 2, some (some 8), 4))), (162, .inl (sx_goto 500)), (165, .inl (sx_aload 0 166)), (166, .inl (sx_const (.int 8) 168)), (168, .inr (.inl (96, 2, some (some 8), 2))), (171, .inl (sx_goto 500)), (174, .inl (sx_aload 0 175)), (175, .inl (sx_const (.int 0) 176)), (176, .inr (.inl (95, 2, some (some 8), 4))), (179, .inl (sx_pop 180)), (180, .inl (sx_aload 0 181)), (181, .inl (sx_const (.int 9) 183)), (183, .inl (sx_const (.int 0) 184)), (184, .inr (.inl (88, 3, some (some 8), 3))), (187, .inl (sx_aload 0 188)), (188, .inl (sx_const (.int 2) 189)), (189, .inr (.inl (91, 2, some (some 8), 2))), (192, .inl (sx_goto 500)), (195, .inl (sx_aload 0 196)), (196, .inl (sx_const (.int 10) 198)), (198, .inr (.inl (96, 2, some (some 8), 2))), (201, .inl (sx_goto 500)), (204, .inl (sx_aload 0 205)), (205, .inl (sx_const (.int 11) 207)), (207, .inr (.inl (96, 2, some (some 8), 2))), (210, .inl (sx_goto 500)), (213, .inl (sx_aload 0 214)), (214, .inl (sx_iload 5 216)), (216, .inr (.inl (11, 1, none, 1))), (219, .inr (.inl (95, 2, some (some 8), 4))), (222, .inl (sx_pop 223)), (223, .inl (sx_aload 0 224)), (224, .inl (sx_const (.int 12) 226)), (226, .inl (sx_iload 5 228)), (228, .inr (.inl (88, 3, some (some 8), 3))), (231, .inl (sx_aload 0 232)), (232, .inr (.inl (92, 1, some (some 8), 1))), (235, .inl (sx_goto 500)), (238, .inl (sx_aload 1 239)), (239, .inl (sx_iload 3 240)), (240, .inl (sx_const (.int 1) 241)), (241, .inl (sx_bin (fun x y => x + y) 242)), (242, .inr (.inl (26, 2, some (some 1), 2))), (245, .inr (.inl (113, 1, none, 1))), (248, .inl (sx_if (fun x => decide (x = 0)) 273 251)), (251, .inl (sx_iinc 3 1 254)), (254, .inl (sx_aload 0 255)), (255, .inl (sx_iload 5 257)), (257, .inl (sx_aload 1 258)), (258, .inl (sx_iload 3 259)), (259, .inr (.inl (26, 2, some (some 1), 2))), (262, .inl (sx_aload 1 263)), (263, .inl (sx_iload 3 264)), (264, .inr (.inl (27, 2, some (some 1), 2))), (267, .inr (.inl (101, 4, some (some 8), 5))), (270, .inl (sx_goto 500)), (273, .inl (sx_aload 0 274)), (274, .inl (sx_const (.int 13) 276)), (276, .inl (sx_aload 0 277)), (277, .inl (sx_const (.int 1) 278)), (278, .inr (.inl (95, 2, some (some 8), 4))), (281, .inl (sx_if (fun x => decide (x = 0)) 292 284)), (284, .inl (sx_iload 5 286)), (286, .inr (.inl (16, 1, none, 1))), (289, .inl (sx_goto 294)), (292, .inl (sx_iload 5 294)), (294, .inr (.inl (88, 3, some (some 8), 3))), (297, .inl (sx_aload 0 298)), (298, .inr (.inl (92, 1, some (some 8), 1))), (301, .inl (sx_goto 500)), (304, .inl (sx_aload 0 305)), (305, .inl (sx_iload 5 307)), (307, .inr (.inl (97, 2, some (some 8), 2))), (310, .inl (sx_goto 500)), (313, .inl (sx_aload 0 314)), (314, .inl (sx_const (.int 0) 315)), (315, .inl (sx_aload 0 316)), (316, .inl (sx_getf 8 1 319)), (319, .inr (.inl (2, 1, some (some 6), 1))), (322, .inr (.inl (94, 3, some (some 8), 4))), (325, .inl (sx_aload 0 326)), (326, .inl (sx_const (.int 20) 328)), (328, .inl (sx_iload 5 330)), (330, .inr (.inl (88, 3, some (some 8), 3))), (333, .inl (sx_aload 0 334)), (334, .inl (sx_const (.int 0) 335)), (335, .inr (.inl (89, 2, some (some 8), 2))), (338, .inl (sx_goto 500)), (341, .inl (sx_aload 0 342)), (342, .inl (sx_const (.int 21) 344)), (344, .inl (sx_iload 5 346)), (346, .inr (.inl (100, 3, some (some 8), 4))), (349, .inl (sx_goto 500)), (352, .inl (sx_aload 0 353)), (353, .inl (sx_const (.int 22) 355)), (355, .inl (sx_iload 5 357)), (357, .inr (.inl (100, 3, some (some 8), 4))), (360, .inl (sx_goto 500)), (363, .inl (sx_aload 0 364)), (364, .inl (sx_const (.int 0) 365)), (365, .inl (sx_aload 0 366)), (366, .inl (sx_getf 8 1 369)), (369, .inr (.inl (2, 1, some (some 6), 1))), (372, .inr (.inl (94, 3, some (some 8), 4))), (375, .inl (sx_aload 0 376)), (376, .inl (sx_const (.int 0) 377)), (377, .inl (sx_iload 5 379)), (379, .inr (.inl (88, 3, some (some 8), 3))), (382, .inl (sx_aload 0 383)), (383, .inl (sx_aload 2 384)), (384, .inl (sx_iload 5 386)), (386, .inr (.inl (58, 2, some (some 3), 2))), (389, .inr (.inl (89, 2, some (some 8), 2))), (392, .inl (sx_goto 500)), (395, .inl (sx_aload 0 396)), (396, .inl (sx_const (.int 1) 397)), (397, .inr (.inl (91, 2, some (some 8), 2))), (400, .inl (sx_goto 500)), (403, .inl (sx_aload 0 404)), (404, .inl (sx_const (.int 17) 406)), (406, .inl (sx_const (.int 0) 407)), (407, .inr (.inl (88, 3, some (some 8), 3))), (410, .inl (sx_goto 500)), (413, .inl (sx_aload 0 414)), (414, .inl (sx_aload 0 415)), (415, .inl (sx_getf 8 1 418)), (418, .inr (.inl (2, 1, some (some 6), 1))), (421, .inl (sx_const (.int 1) 422)), (422, .inl (sx_bin (fun x y => x - y) 423)), (423, .inr (.inl (93, 2, some (some 8), 3))), (426, .inl (sx_aload 0 427)), (427, .inl (sx_const (.int 18) 429)), (429, .inl (sx_const (.int 0) 430)), (430, .inr (.inl (88, 3, some (some 8), 3))), (433, .inl (sx_aload 0 434)), (434, .inl (sx_const (.int 0) 435)), (435, .inr (.inl (89, 2, some (some 8), 2))), (438, .inl (sx_goto 500)), (441, .inl (sx_aload 0 442)), (442, .inl (sx_const (.int 19) 444)), (444, .inl (sx_const (.int 0) 445)), (445, .inr (.inl (88, 3, some (some 8), 3))), (448, .inl (sx_aload 0 449)), (449, .inl (sx_const (.int 0) 450)), (450, .inr (.inl (89, 2, some (some 8), 2))), (453, .inl (sx_goto 500)), (456, .inl (sx_iinc 3 1 459)), (459, .inl (sx_aload 0 460)), (460, .inl (sx_iload 5 462)), (462, .inl (sx_aload 1 463)), (463, .inl (sx_iload 3 464)), (464, .inr (.inl (27, 2, some (some 1), 2))), (467, .inr (.inl (102, 3, some (some 8), 4))), (470, .inl (sx_goto 500)), (473, .inl (sx_aload 0 474)), (474, .inl (sx_const (.int 0) 475)), (475, .inr (.inl (95, 2, some (some 8), 4))), (478, .inl (sx_pop 479)), (479, .inl (sx_aload 0 480)), (480, .inl (sx_const (.int 15) 482)), (482, .inl (sx_const (.int 0) 483)), (483, .inr (.inl (88, 3, some (some 8), 3))), (486, .inl (sx_aload 0 487)), (487, .inr (.inl (92, 1, some (some 8), 1))), (490, .inl (sx_goto 500)), (493, .inl (sx_aload 0 494)), (494, .inr (.inl (99, 1, some (some 8), 2))), (497, .inl (sx_goto 500)), (500, .inl (sx_iinc 3 1 503)), (503, .inl (sx_goto 15)), (506, .inl (sx_aload 0 507)), (507, .inl (sx_getf 8 0 510)), (510, .inr (.inr (some (.object "RowCode$Numbers"))))]
/-- RowCode$Translator.write(II)V -/
def mt_88 : List (Nat × mx_E) := [(0, .inl (sx_iload 2 1)), (1, .inl (sx_const (.int (-8388608)) 3)), (3, .inl (sx_icmp (fun x y => decide (x < y)) 28 6)), (6, .inl (sx_iload 2 7)), (7, .inl (sx_const (.int (8388608)) 9)), (9, .inl (sx_icmp (fun x y => decide (y ≤ x)) 28 12)), (12, .inl (sx_aload 0 13)), (13, .inl (sx_getf 8 0 16)), (16, .inl (sx_iload 2 17)), (17, .inl (sx_const (.int 8) 19)), (19, .inl (sx_bin (fun x y => x <<< (y &&& 31)) 20)), (20, .inl (sx_iload 1 21)), (21, .inl (sx_bin (fun x y => x ||| y) 22)), (22, .inr (.inl (5, 2, some (some 6), 2))), (25, .inl (sx_goto 48)), (28, .inl (sx_aload 0 29)), (29, .inl (sx_getf 8 0 32)), (32, .inl (sx_const (.int 128) 35)), (35, .inl (sx_iload 1 36)), (36, .inl (sx_bin (fun x y => x ||| y) 37)), (37, .inr (.inl (5, 2, some (some 6), 2))), (40, .inl (sx_aload 0 41)), (41, .inl (sx_getf 8 0 44)), (44, .inl (sx_iload 2 45)), (45, .inr (.inl (5, 2, some (some 6), 2))), (48, .inr (.inr none))]
/-- RowCode$Translator.layRow(I)V -/
def mt_89 : List (Nat × mx_E) := [(0, .inl (sx_aload 0 1)), (1, .inl (sx_getf 8 1 4)), (4, .inl (sx_iload 1 5)), (5, .inl (sx_const (.int 0) 6)), (6, .inr (.inl (8, 3, some (some 6), 4))), (9, .inl (sx_aload 0 10)), (10, .inl (sx_getf 8 2 13)), (13, .inl (sx_iload 1 14)), (14, .inl (sx_const (.int 0) 15)), (15, .inr (.inl (8, 3, some (some 6), 4))), (18, .inl (sx_aload 0 19)), (19, .inl (sx_const (.int (-1)) 20)), (20, .inl (sx_putf 8 3 (.int) 23)), (23, .inl (sx_aload 0 24)), (24, .inl (sx_const (.int (-1)) 25)), (25, .inl (sx_putf 8 4 (.int) 28)), (28, .inr (.inr none))]
/-- RowCode$Translator.lay(II)V -/
def mt_90 : List (Nat × mx_E) := [(0, .inl (sx_aload 0 1)), (1, .inl (sx_getf 8 1 4)), (4, .inl (sx_iload 1 5)), (5, .inr (.inl (5, 2, some (some 6), 2))), (8, .inl (sx_aload 0 9)), (9, .inl (sx_getf 8 2 12)), (12, .inl (sx_iload 2 13)), (13, .inr (.inl (5, 2, some (some 6), 2))), (16, .inr (.inr none))]
/-- RowCode$Translator.drop(I)V -/
def mt_91 : List (Nat × mx_E) := [(0, .inl (sx_aload 0 1)), (1, .inl (sx_getf 8 1 4)), (4, .inl (sx_aload 0 5)), (5, .inl (sx_getf 8 1 8)), (8, .inr (.inl (2, 1, some (some 6), 1))), (11, .inl (sx_iload 1 12)), (12, .inl (sx_bin (fun x y => x - y) 13)), (13, .inr (.inl (7, 2, some (some 6), 2))), (16, .inl (sx_aload 0 17)), (17, .inl (sx_getf 8 2 20)), (20, .inl (sx_aload 0 21)), (21, .inl (sx_getf 8 2 24)), (24, .inr (.inl (2, 1, some (some 6), 1))), (27, .inl (sx_iload 1 28)), (28, .inl (sx_bin (fun x y => x - y) 29)), (29, .inr (.inl (7, 2, some (some 6), 2))), (32, .inl (sx_aload 0 33)), (33, .inl (sx_aload 0 34)), (34, .inl (sx_getf 8 3 37)), (37, .inl (sx_aload 0 38)), (38, .inl (sx_getf 8 1 41)), (41, .inr (.inl (2, 1, some (some 6), 1))), (44, .inl (sx_icmp (fun x y => decide (y ≤ x)) 54 47)), (47, .inl (sx_aload 0 48)), (48, .inl (sx_getf 8 3 51)), (51, .inl (sx_goto 55)), (54, .inl (sx_const (.int (-1)) 55)), (55, .inl (sx_putf 8 3 (.int) 58)), (58, .inl (sx_aload 0 59)), (59, .inl (sx_aload 0 60)), (60, .inl (sx_getf 8 4 63)), (63, .inl (sx_aload 0 64)), (64, .inl (sx_getf 8 1 67)), (67, .inr (.inl (2, 1, some (some 6), 1))), (70, .inl (sx_icmp (fun x y => decide (y ≤ x)) 80 73)), (73, .inl (sx_aload 0 74)), (74, .inl (sx_getf 8 4 77)), (77, .inl (sx_goto 81)), (80, .inl (sx_const (.int (-1)) 81)), (81, .inl (sx_putf 8 4 (.int) 84)), (84, .inr (.inr none))]
/-- RowCode$Translator.leaveInA()V -/
def mt_92 : List (Nat × mx_E) := [(0, .inl (sx_aload 0 1)), (1, .inl (sx_const (.int 2) 2)), (2, .inr (.inl (91, 2, some (some 8), 2))), (5, .inl (sx_aload 0 6)), (6, .inl (sx_const (.int 1) 7)), (7, .inl (sx_const (.int 0) 8)), (8, .inr (.inl (90, 3, some (some 8), 3))), (11, .inl (sx_aload 0 12)), (12, .inl (sx_aload 0 13)), (13, .inl (sx_getf 8 1 16)), (16, .inr (.inl (2, 1, some (some 6), 1))), (19, .inl (sx_const (.int 1) 20)), (20, .inl (sx_bin (fun x y => x - y) 21)), (21, .inl (sx_putf 8 3 (.int) 24)), (24, .inr (.inr none))]
/-- RowCode$Translator.toA(I)V -/
def mt_93 : List (Nat × mx_E) := [(0, .inl (sx_aload 0 1)), (1, .inl (sx_getf 8 3 4)), (4, .inl (sx_iload 1 5)), (5, .inl (sx_icmp (fun x y => decide (¬ x = y)) 9 8)), (8, .inr (.inr none)), (9, .inl (sx_aload 0 10)), (10, .inl (sx_getf 8 4 13)), (13, .inl (sx_iload 1 14)), (14, .inl (sx_icmp (fun x y => decide (¬ x = y)) 27 17)), (17, .inl (sx_aload 0 18)), (18, .inl (sx_const (.int 6) 20)), (20, .inl (sx_const (.int 0) 21)), (21, .inr (.inl (88, 3, some (some 8), 3))), (24, .inl (sx_goto 109)), (27, .inl (sx_aload 0 28)), (28, .inl (sx_getf 8 4 31)), (31, .inl (sx_const (.int (-1)) 32)), (32, .inl (sx_icmp (fun x y => decide (x = y)) 56 35)), (35, .inl (sx_aload 0 36)), (36, .inl (sx_const (.int 5) 37)), (37, .inl (sx_aload 0 38)), (38, .inl (sx_getf 8 4 41)), (41, .inr (.inl (88, 3, some (some 8), 3))), (44, .inl (sx_aload 0 45)), (45, .inl (sx_getf 8 1 48)), (48, .inl (sx_aload 0 49)), (49, .inl (sx_getf 8 4 52)), (52, .inl (sx_const (.int 0) 53)), (53, .inr (.inl (4, 3, some (some 6), 3))), (56, .inl (sx_aload 0 57)), (57, .inl (sx_getf 8 1 60)), (60, .inl (sx_iload 1 61)), (61, .inr (.inl (3, 2, some (some 6), 2))), (64, .inl (sx_istore 2 65)), (65, .inl (sx_iload 2 66)), (66, .inl (sx_if (fun x => decide (¬ x = 0)) 78 69)), (69, .inl (sx_aload 0 70)), (70, .inl (sx_const (.int 3) 71)), (71, .inl (sx_iload 1 72)), (72, .inr (.inl (88, 3, some (some 8), 3))), (75, .inl (sx_goto 100)), (78, .inl (sx_aload 0 79)), (79, .inl (sx_iload 2 80)), (80, .inl (sx_const (.int 2) 81)), (81, .inl (sx_icmp (fun x y => decide (¬ x = y)) 88 84)), (84, .inl (sx_const (.int 1) 85)), (85, .inl (sx_goto 89)), (88, .inl (sx_const (.int 2) 89)), (89, .inl (sx_aload 0 90)), (90, .inl (sx_getf 8 2 93)), (93, .inl (sx_iload 1 94)), (94, .inr (.inl (3, 2, some (some 6), 2))), (97, .inr (.inl (88, 3, some (some 8), 3))), (100, .inl (sx_aload 0 101)), (101, .inl (sx_getf 8 1 104)), (104, .inl (sx_iload 1 105)), (105, .inl (sx_const (.int 1) 106)), (106, .inr (.inl (4, 3, some (some 6), 3))), (109, .inl (sx_aload 0 110)), (110, .inl (sx_aload 0 111)), (111, .inl (sx_getf 8 3 114)), (114, .inl (sx_putf 8 4 (.int) 117)), (117, .inl (sx_aload 0 118)), (118, .inl (sx_iload 1 119)), (119, .inl (sx_putf 8 3 (.int) 122)), (122, .inr (.inr none))]
/-- RowCode$Translator.settle(II)V -/
def mt_94 : List (Nat × mx_E) := [(0, .inl (sx_iload 1 1)), (1, .inl (sx_istore 3 2)), (2, .inl (sx_iload 3 3)), (3, .inl (sx_iload 2 4)), (4, .inl (sx_icmp (fun x y => decide (y ≤ x)) 74 7)), (7, .inl (sx_aload 0 8)), (8, .inl (sx_getf 8 1 11)), (11, .inl (sx_iload 3 12)), (12, .inr (.inl (3, 2, some (some 6), 2))), (15, .inl (sx_if (fun x => decide (¬ x = 0)) 21 18)), (18, .inl (sx_goto 68)), (21, .inl (sx_aload 0 22)), (22, .inl (sx_getf 8 4 25)), (25, .inl (sx_iload 3 26)), (26, .inl (sx_icmp (fun x y => decide (¬ x = y)) 43 29)), (29, .inl (sx_aload 0 30)), (30, .inl (sx_const (.int 5) 31)), (31, .inl (sx_iload 3 32)), (32, .inr (.inl (88, 3, some (some 8), 3))), (35, .inl (sx_aload 0 36)), (36, .inl (sx_const (.int (-1)) 37)), (37, .inl (sx_putf 8 4 (.int) 40)), (40, .inl (sx_goto 59)), (43, .inl (sx_aload 0 44)), (44, .inl (sx_iload 3 45)), (45, .inr (.inl (93, 2, some (some 8), 3))), (48, .inl (sx_aload 0 49)), (49, .inl (sx_const (.int 4) 50)), (50, .inl (sx_iload 3 51)), (51, .inr (.inl (88, 3, some (some 8), 3))), (54, .inl (sx_aload 0 55)), (55, .inl (sx_const (.int (-1)) 56)), (56, .inl (sx_putf 8 3 (.int) 59)), (59, .inl (sx_aload 0 60)), (60, .inl (sx_getf 8 1 63)), (63, .inl (sx_iload 3 64)), (64, .inl (sx_const (.int 0) 65)), (65, .inr (.inl (4, 3, some (some 6), 3))), (68, .inl (sx_iinc 3 1 71)), (71, .inl (sx_goto 2)), (74, .inr (.inr none))]
/-- RowCode$Translator.meet(Z)Z -/
def mt_95 : List (Nat × mx_E) := [(0, .inl (sx_aload 0 1)), (1, .inl (sx_getf 8 1 4)), (4, .inr (.inl (2, 1, some (some 6), 1))), (7, .inl (sx_const (.int 1) 8)), (8, .inl (sx_bin (fun x y => x - y) 9)), (9, .inl (sx_istore 2 10)), (10, .inl (sx_iload 2 11)), (11, .inl (sx_const (.int 1) 12)), (12, .inl (sx_bin (fun x y => x - y) 13)), (13, .inl (sx_istore 3 14)), (14, .inl (sx_aload 0 15)), (15, .inl (sx_getf 8 3 18)), (18, .inl (sx_iload 2 19)), (19, .inl (sx_icmp (fun x y => decide (¬ x = y)) 32 22)), (22, .inl (sx_aload 0 23)), (23, .inl (sx_getf 8 4 26)), (26, .inl (sx_iload 3 27)), (27, .inl (sx_icmp (fun x y => decide (¬ x = y)) 32 30)), (30, .inl (sx_const (.int 0) 31)), (31, .inr (.inr (some .boolean))), (32, .inl (sx_aload 0 33)), (33, .inl (sx_getf 8 3 36)), (36, .inl (sx_iload 2 37)), (37, .inl (sx_icmp (fun x y => decide (x = y)) 60 40)), (40, .inl (sx_aload 0 41)), (41, .inl (sx_getf 8 4 44)), (44, .inl (sx_iload 2 45)), (45, .inl (sx_icmp (fun x y => decide (x = y)) 60 48)), (48, .inl (sx_aload 0 49)), (49, .inl (sx_iload 3 50)), (50, .inr (.inl (93, 2, some (some 8), 3))), (53, .inl (sx_aload 0 54)), (54, .inl (sx_iload 2 55)), (55, .inr (.inl (93, 2, some (some 8), 3))), (58, .inl (sx_const (.int 0) 59)), (59, .inr (.inr (some .boolean))), (60, .inl (sx_aload 0 61)), (61, .inl (sx_getf 8 3 64)), (64, .inl (sx_iload 3 65)), (65, .inl (sx_icmp (fun x y => decide (x = y)) 78 68)), (68, .inl (sx_aload 0 69)), (69, .inl (sx_iload 2 70)), (70, .inr (.inl (93, 2, some (some 8), 3))), (73, .inl (sx_aload 0 74)), (74, .inl (sx_iload 3 75)), (75, .inr (.inl (93, 2, some (some 8), 3))), (78, .inl (sx_iload 1 79)), (79, .inl (sx_if (fun x => decide (¬ x = 0)) 87 82)), (82, .inl (sx_aload 0 83)), (83, .inl (sx_iload 2 84)), (84, .inr (.inl (93, 2, some (some 8), 3))), (87, .inl (sx_iload 1 88)), (88, .inr (.inr (some .boolean)))]
/-- RowCode$Translator.changeTop(I)V -/
def mt_96 : List (Nat × mx_E) := [(0, .inl (sx_aload 0 1)), (1, .inl (sx_aload 0 2)), (2, .inl (sx_getf 8 1 5)), (5, .inr (.inl (2, 1, some (some 6), 1))), (8, .inl (sx_const (.int 1) 9)), (9, .inl (sx_bin (fun x y => x - y) 10)), (10, .inr (.inl (93, 2, some (some 8), 3))), (13, .inl (sx_aload 0 14)), (14, .inl (sx_iload 1 15)), (15, .inl (sx_const (.int 0) 16)), (16, .inr (.inl (88, 3, some (some 8), 3))), (19, .inr (.inr none))]
/-- RowCode$Translator.compareAndKeep(I)V -/
def mt_97 : List (Nat × mx_E) := [(0, .inl (sx_aload 0 1)), (1, .inl (sx_const (.int 1) 2)), (2, .inr (.inl (95, 2, some (some 8), 4))), (5, .inl (sx_if (fun x => decide (x = 0)) 21 8)), (8, .inl (sx_aload 0 9)), (9, .inl (sx_const (.int 13) 11)), (11, .inl (sx_iload 1 12)), (12, .inr (.inl (16, 1, none, 1))), (15, .inr (.inl (88, 3, some (some 8), 3))), (18, .inl (sx_goto 28)), (21, .inl (sx_aload 0 22)), (22, .inl (sx_const (.int 14) 24)), (24, .inl (sx_iload 1 25)), (25, .inr (.inl (88, 3, some (some 8), 3))), (28, .inl (sx_aload 0 29)), (29, .inl (sx_aload 0 30)), (30, .inl (sx_getf 8 1 33)), (33, .inr (.inl (2, 1, some (some 6), 1))), (36, .inl (sx_const (.int 1) 37)), (37, .inl (sx_bin (fun x y => x - y) 38)), (38, .inl (sx_putf 8 3 (.int) 41)), (41, .inl (sx_aload 0 42)), (42, .inl (sx_aload 0 43)), (43, .inl (sx_getf 8 3 46)), (46, .inl (sx_const (.int 1) 47)), (47, .inl (sx_bin (fun x y => x - y) 48)), (48, .inl (sx_putf 8 4 (.int) 51)), (51, .inr (.inr none))]
/-- RowCode$Translator.storeLocal(I)V -/
def mt_98 : List (Nat × mx_E) := [(0, .inl (sx_aload 0 1)), (1, .inl (sx_getf 8 1 4)), (4, .inr (.inl (2, 1, some (some 6), 1))), (7, .inl (sx_const (.int 1) 8)), (8, .inl (sx_bin (fun x y => x - y) 9)), (9, .inl (sx_istore 2 10)), (10, .inl (sx_const (.int 0) 11)), (11, .inl (sx_istore 3 12)), (12, .inl (sx_iload 3 13)), (13, .inl (sx_iload 2 14)), (14, .inl (sx_icmp (fun x y => decide (y ≤ x)) 55 17)), (17, .inl (sx_aload 0 18)), (18, .inl (sx_getf 8 1 21)), (21, .inl (sx_iload 3 22)), (22, .inr (.inl (3, 2, some (some 6), 2))), (25, .inl (sx_const (.int 3) 26)), (26, .inl (sx_icmp (fun x y => decide (¬ x = y)) 49 29)), (29, .inl (sx_aload 0 30)), (30, .inl (sx_getf 8 2 33)), (33, .inl (sx_iload 3 34)), (34, .inr (.inl (3, 2, some (some 6), 2))), (37, .inl (sx_iload 1 38)), (38, .inl (sx_icmp (fun x y => decide (¬ x = y)) 49 41)), (41, .inl (sx_aload 0 42)), (42, .inl (sx_iload 3 43)), (43, .inl (sx_iload 3 44)), (44, .inl (sx_const (.int 1) 45)), (45, .inl (sx_bin (fun x y => x + y) 46)), (46, .inr (.inl (94, 3, some (some 8), 4))), (49, .inl (sx_iinc 3 1 52)), (52, .inl (sx_goto 12)), (55, .inl (sx_aload 0 56)), (56, .inl (sx_iload 2 57)), (57, .inr (.inl (93, 2, some (some 8), 3))), (60, .inl (sx_aload 0 61)), (61, .inl (sx_const (.int 7) 63)), (63, .inl (sx_iload 1 64)), (64, .inr (.inl (88, 3, some (some 8), 3))), (67, .inl (sx_aload 0 68)), (68, .inl (sx_const (.int 1) 69)), (69, .inr (.inl (91, 2, some (some 8), 2))), (72, .inr (.inr none))]
/-- RowCode$Translator.storeByte()V -/
def mt_99 : List (Nat × mx_E) := [(0, .inl (sx_aload 0 1)), (1, .inl (sx_getf 8 1 4)), (4, .inr (.inl (2, 1, some (some 6), 1))), (7, .inl (sx_const (.int 3) 8)), (8, .inl (sx_bin (fun x y => x - y) 9)), (9, .inl (sx_istore 1 10)), (10, .inl (sx_aload 0 11)), (11, .inl (sx_iload 1 12)), (12, .inl (sx_iload 1 13)), (13, .inl (sx_const (.int 1) 14)), (14, .inl (sx_bin (fun x y => x + y) 15)), (15, .inr (.inl (94, 3, some (some 8), 4))), (18, .inl (sx_aload 0 19)), (19, .inl (sx_const (.int 0) 20)), (20, .inr (.inl (95, 2, some (some 8), 4))), (23, .inl (sx_pop 24)), (24, .inl (sx_aload 0 25)), (25, .inl (sx_const (.int 16) 27)), (27, .inl (sx_iload 1 28)), (28, .inr (.inl (88, 3, some (some 8), 3))), (31, .inl (sx_aload 0 32)), (32, .inl (sx_const (.int 3) 33)), (33, .inr (.inl (91, 2, some (some 8), 2))), (36, .inr (.inr none))]
/-- RowCode$Translator.goIf(II)V -/
def mt_100 : List (Nat × mx_E) := [(0, .inl (sx_aload 0 1)), (1, .inl (sx_getf 8 1 4)), (4, .inr (.inl (2, 1, some (some 6), 1))), (7, .inl (sx_const (.int 1) 8)), (8, .inl (sx_bin (fun x y => x - y) 9)), (9, .inl (sx_istore 3 10)), (10, .inl (sx_aload 0 11)), (11, .inl (sx_const (.int 0) 12)), (12, .inl (sx_iload 3 13)), (13, .inr (.inl (94, 3, some (some 8), 4))), (16, .inl (sx_aload 0 17)), (17, .inl (sx_iload 3 18)), (18, .inr (.inl (93, 2, some (some 8), 3))), (21, .inl (sx_aload 0 22)), (22, .inl (sx_iload 1 23)), (23, .inl (sx_iload 2 24)), (24, .inr (.inl (88, 3, some (some 8), 3))), (27, .inl (sx_aload 0 28)), (28, .inl (sx_const (.int 1) 29)), (29, .inr (.inl (91, 2, some (some 8), 2))), (32, .inr (.inr none))]
/-- RowCode$Translator.compareAndGo(III)V -/
def mt_101 : List (Nat × mx_E) := [(0, .inl (sx_aload 0 1)), (1, .inl (sx_const (.int 0) 2)), (2, .inl (sx_aload 0 3)), (3, .inl (sx_getf 8 1 6)), (6, .inr (.inl (2, 1, some (some 6), 1))), (9, .inl (sx_const (.int 2) 10)), (10, .inl (sx_bin (fun x y => x - y) 11)), (11, .inr (.inl (94, 3, some (some 8), 4))), (14, .inl (sx_aload 0 15)), (15, .inl (sx_const (.int 1) 16)), (16, .inr (.inl (95, 2, some (some 8), 4))), (19, .inl (sx_if (fun x => decide (x = 0)) 29 22)), (22, .inl (sx_iload 1 23)), (23, .inr (.inl (16, 1, none, 1))), (26, .inl (sx_goto 30)), (29, .inl (sx_iload 1 30)), (30, .inl (sx_istore 4 32)), (32, .inl (sx_aload 0 33)), (33, .inl (sx_const (.int 23) 35)), (35, .inl (sx_iload 2 36)), (36, .inl (sx_const (.int 11) 38)), (38, .inl (sx_icmp (fun x y => decide (¬ x = y)) 49 41)), (41, .inl (sx_iload 4 43)), (43, .inr (.inl (15, 1, none, 1))), (46, .inl (sx_goto 51)), (49, .inl (sx_iload 4 51)), (51, .inl (sx_bin (fun x y => x + y) 52)), (52, .inl (sx_iload 3 53)), (53, .inr (.inl (88, 3, some (some 8), 3))), (56, .inl (sx_aload 0 57)), (57, .inl (sx_const (.int 2) 58)), (58, .inr (.inl (91, 2, some (some 8), 2))), (61, .inr (.inr none))]
/-- RowCode$Translator.goInCase(II)V -/
def mt_102 : List (Nat × mx_E) := [(0, .inl (sx_aload 0 1)), (1, .inl (sx_getf 8 1 4)), (4, .inr (.inl (2, 1, some (some 6), 1))), (7, .inl (sx_const (.int 1) 8)), (8, .inl (sx_bin (fun x y => x - y) 9)), (9, .inl (sx_istore 3 10)), (10, .inl (sx_aload 0 11)), (11, .inl (sx_const (.int 0) 12)), (12, .inl (sx_iload 3 13)), (13, .inr (.inl (94, 3, some (some 8), 4))), (16, .inl (sx_aload 0 17)), (17, .inl (sx_iload 3 18)), (18, .inr (.inl (93, 2, some (some 8), 3))), (21, .inl (sx_aload 0 22)), (22, .inl (sx_const (.int 1) 23)), (23, .inl (sx_iload 1 24)), (24, .inr (.inl (88, 3, some (some 8), 3))), (27, .inl (sx_aload 0 28)), (28, .inl (sx_iload 3 29)), (29, .inl (sx_putf 8 4 (.int) 32)), (32, .inl (sx_aload 0 33)), (33, .inl (sx_const (.int (-1)) 34)), (34, .inl (sx_putf 8 3 (.int) 37)), (37, .inl (sx_aload 0 38)), (38, .inl (sx_const (.int 23) 40)), (40, .inl (sx_iload 2 41)), (41, .inr (.inl (88, 3, some (some 8), 3))), (44, .inr (.inr none))]
/-- RowCode.<init>()V -/
def mt_103 : List (Nat × mx_E) := [(0, .inl (sx_aload 0 1)), (1, .inl (sx_obj 4)), (4, .inl (sx_aload 0 5)), (5, .inl (sx_new 1 [.null, .null] 8)), (8, .inl (sx_dup 9)), (9, .inr (.inl (24, 1, some none, 1))), (12, .inl (sx_putf 9 0 (.object "RowCode$Code") 15)), (15, .inl (sx_aload 0 16)), (16, .inl (sx_new 3 [.null, .null, .null, .null, .null, .int 0, .int 0] 19)), (19, .inl (sx_dup 20)), (20, .inl (sx_aload 0 21)), (21, .inl (sx_getf 9 0 24)), (24, .inr (.inl (54, 2, some none, 2))), (27, .inl (sx_putf 9 1 (.object "RowCode$Judge") 30)), (30, .inl (sx_aload 0 31)), (31, .inl (sx_new 2 [.null, .null, .null, .null] 34)), (34, .inl (sx_dup 35)), (35, .inr (.inl (71, 1, some none, 1))), (38, .inl (sx_putf 9 2 (.object "RowCode$Improver") 41)), (41, .inl (sx_aload 0 42)), (42, .inl (sx_new 8 [.null, .null, .null, .int 0, .int 0] 45)), (45, .inl (sx_dup 46)), (46, .inr (.inl (86, 1, some none, 1))), (49, .inl (sx_putf 9 3 (.object "RowCode$Translator") 52)), (52, .inl (sx_aload 0 53)), (53, .inl (sx_new 7 [.null, .null, .null] 56)), (56, .inl (sx_dup 57)), (57, .inr (.inl (34, 1, some none, 1))), (60, .inl (sx_putf 9 4 (.object "RowCode$Program") 63)), (63, .inl (sx_aload 0 64)), (64, .inl (sx_new 5 [.null, .null] 67)), (67, .inl (sx_dup 68)), (68, .inr (.inl (17, 1, some none, 1))), (71, .inl (sx_putf 9 5 (.object "RowCode$Memory") 74)), (74, .inl (sx_aload 0 75)), (75, .inl (sx_new 4 [.null, .null, .int 0, .int 0, .int 0, .int 0, .int 0, .int 0] 78)), (78, .inl (sx_dup 79)), (79, .inl (sx_aload 0 80)), (80, .inl (sx_getf 9 5 83)), (83, .inr (.inl (40, 2, some none, 2))), (86, .inl (sx_putf 9 6 (.object "RowCode$Machine") 89)), (89, .inr (.inr none))]
/-- RowCode.add(II)I -/
def mt_104 : List (Nat × mx_E) := [(0, .inl (sx_aload 0 1)), (1, .inl (sx_getf 9 0 4)), (4, .inr (.inl (25, 1, some (some 1), 1))), (7, .inl (sx_const (.int 400) 10)), (10, .inl (sx_icmp (fun x y => decide (x < y)) 15 13)), (13, .inl (sx_const (.int (-1)) 14)), (14, .inr (.inr (some .int))), (15, .inl (sx_aload 0 16)), (16, .inl (sx_getf 9 0 19)), (19, .inl (sx_iload 1 20)), (20, .inl (sx_iload 2 21)), (21, .inr (.inl (28, 3, some (some 1), 3))), (24, .inl (sx_aload 0 25)), (25, .inr (.inl (112, 1, some (some 9), 1))), (28, .inl (sx_aload 0 29)), (29, .inl (sx_getf 9 0 32)), (32, .inr (.inl (25, 1, some (some 1), 1))), (35, .inr (.inr (some .int)))]
/-- RowCode.clear()V -/
def mt_105 : List (Nat × mx_E) := [(0, .inl (sx_aload 0 1)), (1, .inl (sx_getf 9 0 4)), (4, .inl (sx_const (.int 0) 5)), (5, .inr (.inl (29, 2, some (some 1), 2))), (8, .inl (sx_aload 0 9)), (9, .inr (.inl (112, 1, some (some 9), 1))), (12, .inr (.inr none))]
/-- RowCode.build()Z -/
def mt_106 : List (Nat × mx_E) := [(0, .inl (sx_aload 0 1)), (1, .inl (sx_getf 9 1 4)), (4, .inr (.inl (56, 1, some (some 3), 1))), (7, .inr (.inr (some .boolean)))]
/-- RowCode.run(I)I -/
def mt_107 : List (Nat × mx_E) := [(0, .inl (sx_iload 1 1)), (1, .inl (sx_if (fun x => decide (x < 0)) 21 4)), (4, .inl (sx_iload 1 5)), (5, .inl (sx_const (.int 20000) 8)), (8, .inl (sx_icmp (fun x y => decide (y < x)) 21 11)), (11, .inl (sx_aload 0 12)), (12, .inl (sx_getf 9 1 15)), (15, .inr (.inl (56, 1, some (some 3), 1))), (18, .inl (sx_if (fun x => decide (¬ x = 0)) 23 21)), (21, .inl (sx_const (.int (-1)) 22)), (22, .inr (.inr (some .int))), (23, .inl (sx_aload 0 24)), (24, .inl (sx_getf 9 7 27)), (27, .inl (sx_if (fun x => decide (¬ x = 0)) 70 30)), (30, .inl (sx_aload 0 31)), (31, .inl (sx_getf 9 2 34)), (34, .inl (sx_aload 0 35)), (35, .inl (sx_getf 9 0 38)), (38, .inl (sx_aload 0 39)), (39, .inl (sx_getf 9 1 42)), (42, .inr (.inl (72, 3, some (some 2), 5))), (45, .inl (sx_astore 2 46)), (46, .inl (sx_aload 0 47)), (47, .inl (sx_getf 9 4 50)), (50, .inl (sx_aload 0 51)), (51, .inl (sx_getf 9 3 54)), (54, .inl (sx_aload 2 55)), (55, .inl (sx_aload 0 56)), (56, .inl (sx_getf 9 1 59)), (59, .inr (.inl (87, 3, some (some 8), 6))), (62, .inr (.inl (35, 2, some (some 7), 5))), (65, .inl (sx_aload 0 66)), (66, .inl (sx_const (.int 1) 67)), (67, .inl (sx_putf 9 7 (.boolean) 70)), (70, .inl (sx_aload 0 71)), (71, .inl (sx_getf 9 6 74)), (74, .inl (sx_aload 0 75)), (75, .inl (sx_getf 9 4 78)), (78, .inl (sx_iload 1 79)), (79, .inr (.inl (41, 3, some (some 4), 7))), (82, .inr (.inr (some .int)))]
/-- RowCode.value()I -/
def mt_108 : List (Nat × mx_E) := [(0, .inl (sx_aload 0 1)), (1, .inl (sx_getf 9 6 4)), (4, .inl (sx_getf 4 6 7)), (7, .inr (.inr (some .int)))]
/-- RowCode.fuel()I -/
def mt_109 : List (Nat × mx_E) := [(0, .inl (sx_aload 0 1)), (1, .inl (sx_getf 9 6 4)), (4, .inl (sx_getf 4 7 7)), (7, .inr (.inr (some .int)))]
/-- RowCode.set(II)I -/
def mt_110 : List (Nat × mx_E) := [(0, .inl (sx_aload 0 1)), (1, .inl (sx_getf 9 5 4)), (4, .inl (sx_iload 1 5)), (5, .inr (.inl (20, 2, some (some 5), 2))), (8, .inl (sx_istore 3 9)), (9, .inl (sx_aload 0 10)), (10, .inl (sx_getf 9 5 13)), (13, .inl (sx_iload 1 14)), (14, .inl (sx_iload 2 15)), (15, .inr (.inl (21, 3, some (some 5), 3))), (18, .inl (sx_iload 3 19)), (19, .inr (.inr (some .int)))]
/-- RowCode.put(II)I -/
def mt_111 : List (Nat × mx_E) := [(0, .inl (sx_aload 0 1)), (1, .inl (sx_getf 9 5 4)), (4, .inl (sx_iload 1 5)), (5, .inr (.inl (22, 2, some (some 5), 2))), (8, .inl (sx_istore 3 9)), (9, .inl (sx_aload 0 10)), (10, .inl (sx_getf 9 5 13)), (13, .inl (sx_iload 1 14)), (14, .inl (sx_iload 2 15)), (15, .inr (.inl (23, 3, some (some 5), 3))), (18, .inl (sx_iload 3 19)), (19, .inr (.inr (some .int)))]
/-- RowCode.forgetWork()V -/
def mt_112 : List (Nat × mx_E) := [(0, .inl (sx_aload 0 1)), (1, .inl (sx_getf 9 1 4)), (4, .inr (.inl (55, 1, some (some 3), 1))), (7, .inl (sx_aload 0 8)), (8, .inl (sx_const (.int 0) 9)), (9, .inl (sx_putf 9 7 (.boolean) 12)), (12, .inr (.inr none))]
/-- RowCode.isCondition(I)Z -/
def mt_113 : List (Nat × mx_E) := [(0, .inl (sx_iload 0 1)), (1, .inl (sx_const (.int 11) 3)), (3, .inl (sx_icmp (fun x y => decide (x = y)) 12 6)), (6, .inl (sx_iload 0 7)), (7, .inl (sx_const (.int 12) 9)), (9, .inl (sx_icmp (fun x y => decide (¬ x = y)) 16 12)), (12, .inl (sx_const (.int 1) 13)), (13, .inl (sx_goto 17)), (16, .inl (sx_const (.int 0) 17)), (17, .inr (.inr (some .boolean)))]
/-- RowCode.goesToLabel(I)Z -/
def mt_114 : List (Nat × mx_E) := [(0, .inl (sx_iload 0 1)), (1, .inl (sx_const (.int 10) 3)), (3, .inl (sx_icmp (fun x y => decide (x = y)) 13 6)), (6, .inl (sx_iload 0 7)), (7, .inr (.inl (113, 1, none, 1))), (10, .inl (sx_if (fun x => decide (x = 0)) 17 13)), (13, .inl (sx_const (.int 1) 14)), (14, .inl (sx_goto 18)), (17, .inl (sx_const (.int 0) 18)), (18, .inr (.inr (some .boolean)))]
/-- RowCode.endsWay(I)Z -/
def mt_115 : List (Nat × mx_E) := [(0, .inl (sx_iload 0 1)), (1, .inl (sx_const (.int 10) 3)), (3, .inl (sx_icmp (fun x y => decide (x = y)) 18 6)), (6, .inl (sx_iload 0 7)), (7, .inl (sx_const (.int 16) 9)), (9, .inl (sx_icmp (fun x y => decide (x = y)) 18 12)), (12, .inl (sx_iload 0 13)), (13, .inl (sx_const (.int 17) 15)), (15, .inl (sx_icmp (fun x y => decide (¬ x = y)) 22 18)), (18, .inl (sx_const (.int 1) 19)), (19, .inl (sx_goto 23)), (22, .inl (sx_const (.int 0) 23)), (23, .inr (.inr (some .boolean)))]
/-- RowCodeModel.<init>()V -/
def mt_116 : List (Nat × mx_E) := [(0, .inl (sx_aload 0 1)), (1, .inl (sx_obj 4)), (4, .inl (sx_aload 0 5)), (5, .inl (sx_const (.int 400) 8)), (8, .inl (sx_newa false 10)), (10, .inl (sx_putf 10 2 (.array .int) 13)), (13, .inl (sx_aload 0 14)), (14, .inl (sx_const (.int 400) 17)), (17, .inl (sx_newa false 19)), (19, .inl (sx_putf 10 3 (.array .int) 22)), (22, .inl (sx_aload 0 23)), (23, .inl (sx_const (.int 16) 25)), (25, .inl (sx_newa false 27)), (27, .inl (sx_putf 10 4 (.array .int) 30)), (30, .inl (sx_aload 0 31)), (31, .inl (sx_const (.int 64) 33)), (33, .inl (sx_newa false 35)), (35, .inl (sx_putf 10 5 (.array .int) 38)), (38, .inl (sx_aload 0 39)), (39, .inl (sx_const (.int 400) 42)), (42, .inl (sx_newa false 44)), (44, .inl (sx_putf 10 8 (.array .int) 47)), (47, .inl (sx_aload 0 48)), (48, .inl (sx_const (.int 400) 51)), (51, .inl (sx_newa true 53)), (53, .inl (sx_putf 10 9 (.array .boolean) 56)), (56, .inl (sx_aload 0 57)), (57, .inl (sx_const (.int 61) 59)), (59, .inl (sx_newa false 61)), (61, .inl (sx_putf 10 10 (.array .int) 64)), (64, .inr (.inr none))]
/-- RowCodeModel.thrown()I -/
def mt_117 : List (Nat × mx_E) := [(0, .inl (sx_aload 0 1)), (1, .inl (sx_getf 10 0 4)), (4, .inr (.inr (some .int)))]
/-- RowCodeModel.add(II)I -/
def mt_118 : List (Nat × mx_E) := [(0, .inl (sx_aload 0 1)), (1, .inl (sx_const (.int 0) 2)), (2, .inl (sx_putf 10 0 (.int) 5)), (5, .inl (sx_aload 0 6)), (6, .inl (sx_getf 10 1 9)), (9, .inl (sx_const (.int 400) 12)), (12, .inl (sx_icmp (fun x y => decide (¬ x = y)) 17 15)), (15, .inl (sx_const (.int (-1)) 16)), (16, .inr (.inr (some .int))), (17, .inl (sx_aload 0 18)), (18, .inl (sx_getf 10 2 21)), (21, .inl (sx_aload 0 22)), (22, .inl (sx_getf 10 1 25)), (25, .inl (sx_iload 1 26)), (26, .inl (sx_ast false 27)), (27, .inl (sx_aload 0 28)), (28, .inl (sx_getf 10 3 31)), (31, .inl (sx_aload 0 32)), (32, .inl (sx_getf 10 1 35)), (35, .inl (sx_iload 2 36)), (36, .inl (sx_ast false 37)), (37, .inl (sx_aload 0 38)), (38, .inl (sx_dup 39)), (39, .inl (sx_getf 10 1 42)), (42, .inl (sx_const (.int 1) 43)), (43, .inl (sx_bin (fun x y => x + y) 44)), (44, .inl (sx_putf 10 1 (.int) 47)), (47, .inl (sx_aload 0 48)), (48, .inl (sx_getf 10 1 51)), (51, .inr (.inr (some .int)))]
/-- RowCodeModel.clear()V -/
def mt_119 : List (Nat × mx_E) := [(0, .inl (sx_aload 0 1)), (1, .inl (sx_const (.int 0) 2)), (2, .inl (sx_putf 10 0 (.int) 5)), (5, .inl (sx_aload 0 6)), (6, .inl (sx_const (.int 0) 7)), (7, .inl (sx_putf 10 1 (.int) 10)), (10, .inr (.inr none))]
/-- RowCodeModel.in(III)Z -/
def mt_120 : List (Nat × mx_E) := [(0, .inl (sx_iload 0 1)), (1, .inl (sx_iload 1 2)), (2, .inl (sx_icmp (fun x y => decide (x < y)) 14 5)), (5, .inl (sx_iload 0 6)), (6, .inl (sx_iload 2 7)), (7, .inl (sx_icmp (fun x y => decide (y < x)) 14 10)), (10, .inl (sx_const (.int 1) 11)), (11, .inl (sx_goto 15)), (14, .inl (sx_const (.int 0) 15)), (15, .inr (.inr (some .boolean)))]
/-- RowCodeModel.isGood(II)Z -/
def mt_121 : List (Nat × mx_E) := [(0, .inl (sx_iload 0 1)), (1, .inl (sx_table 99 (1) (13) [68, 68, 99, 99, 99, 99, 76, 84, 84, 91, 91, 91, 91])), (68, .inl (sx_iload 1 69)), (69, .inl (sx_const (.int 0) 70)), (70, .inl (sx_const (.int 15) 72)), (72, .inr (.inl (120, 3, none, 3))), (75, .inr (.inr (some .boolean))), (76, .inl (sx_iload 1 77)), (77, .inl (sx_const (.int 0) 78)), (78, .inl (sx_const (.int 10) 80)), (80, .inr (.inl (120, 3, none, 3))), (83, .inr (.inr (some .boolean))), (84, .inl (sx_iload 1 85)), (85, .inl (sx_const (.int 0) 86)), (86, .inl (sx_const (.int 5) 87)), (87, .inr (.inl (120, 3, none, 3))), (90, .inr (.inr (some .boolean))), (91, .inl (sx_iload 1 92)), (92, .inl (sx_const (.int 0) 93)), (93, .inl (sx_const (.int 99) 95)), (95, .inr (.inl (120, 3, none, 3))), (98, .inr (.inr (some .boolean))), (99, .inl (sx_iload 0 100)), (100, .inl (sx_const (.int 0) 101)), (101, .inl (sx_const (.int 20) 103)), (103, .inr (.inl (120, 3, none, 3))), (106, .inr (.inr (some .boolean)))]
/-- RowCodeModel.place(I)I -/
def mt_122 : List (Nat × mx_E) := [(0, .inl (sx_const (.int 0) 1)), (1, .inl (sx_istore 2 2)), (2, .inl (sx_iload 2 3)), (3, .inl (sx_aload 0 4)), (4, .inl (sx_getf 10 1 7)), (7, .inl (sx_icmp (fun x y => decide (y ≤ x)) 39 10)), (10, .inl (sx_aload 0 11)), (11, .inl (sx_getf 10 2 14)), (14, .inl (sx_iload 2 15)), (15, .inl (sx_ald false 16)), (16, .inl (sx_const (.int 13) 18)), (18, .inl (sx_icmp (fun x y => decide (¬ x = y)) 33 21)), (21, .inl (sx_aload 0 22)), (22, .inl (sx_getf 10 3 25)), (25, .inl (sx_iload 2 26)), (26, .inl (sx_ald false 27)), (27, .inl (sx_iload 1 28)), (28, .inl (sx_icmp (fun x y => decide (¬ x = y)) 33 31)), (31, .inl (sx_iload 2 32)), (32, .inr (.inr (some .int))), (33, .inl (sx_iinc 2 1 36)), (36, .inl (sx_goto 2)), (39, .inl (sx_const (.int (-1)) 40)), (40, .inr (.inr (some .int)))]
/-- RowCodeModel.isSaid()Z -/
def mt_123 : List (Nat × mx_E) := [(0, .inl (sx_const (.int 1) 1)), (1, .inl (sx_istore 1 2)), (2, .inl (sx_const (.int 0) 3)), (3, .inl (sx_istore 2 4)), (4, .inl (sx_iload 2 5)), (5, .inl (sx_aload 0 6)), (6, .inl (sx_getf 10 1 9)), (9, .inl (sx_icmp (fun x y => decide (y ≤ x)) 153 12)), (12, .inl (sx_aload 0 13)), (13, .inl (sx_getf 10 2 16)), (16, .inl (sx_iload 2 17)), (17, .inl (sx_ald false 18)), (18, .inl (sx_istore 3 19)), (19, .inl (sx_iload 1 20)), (20, .inl (sx_if (fun x => decide (x = 0)) 40 23)), (23, .inl (sx_iload 3 24)), (24, .inl (sx_aload 0 25)), (25, .inl (sx_getf 10 3 28)), (28, .inl (sx_iload 2 29)), (29, .inl (sx_ald false 30)), (30, .inr (.inl (121, 2, none, 2))), (33, .inl (sx_if (fun x => decide (x = 0)) 40 36)), (36, .inl (sx_const (.int 1) 37)), (37, .inl (sx_goto 41)), (40, .inl (sx_const (.int 0) 41)), (41, .inl (sx_istore 1 42)), (42, .inl (sx_iload 1 43)), (43, .inl (sx_if (fun x => decide (x = 0)) 70 46)), (46, .inl (sx_iload 3 47)), (47, .inl (sx_const (.int 13) 49)), (49, .inl (sx_icmp (fun x y => decide (¬ x = y)) 66 52)), (52, .inl (sx_aload 0 53)), (53, .inl (sx_aload 0 54)), (54, .inl (sx_getf 10 3 57)), (57, .inl (sx_iload 2 58)), (58, .inl (sx_ald false 59)), (59, .inr (.inl (122, 2, some (some 10), 3))), (62, .inl (sx_iload 2 63)), (63, .inl (sx_icmp (fun x y => decide (¬ x = y)) 70 66)), (66, .inl (sx_const (.int 1) 67)), (67, .inl (sx_goto 71)), (70, .inl (sx_const (.int 0) 71)), (71, .inl (sx_istore 1 72)), (72, .inl (sx_iload 1 73)), (73, .inl (sx_if (fun x => decide (x = 0)) 106 76)), (76, .inl (sx_iload 3 77)), (77, .inl (sx_const (.int 10) 79)), (79, .inl (sx_icmp (fun x y => decide (x < y)) 102 82)), (82, .inl (sx_iload 3 83)), (83, .inl (sx_const (.int 12) 85)), (85, .inl (sx_icmp (fun x y => decide (y < x)) 102 88)), (88, .inl (sx_aload 0 89)), (89, .inl (sx_aload 0 90)), (90, .inl (sx_getf 10 3 93)), (93, .inl (sx_iload 2 94)), (94, .inl (sx_ald false 95)), (95, .inr (.inl (122, 2, some (some 10), 3))), (98, .inl (sx_const (.int (-1)) 99)), (99, .inl (sx_icmp (fun x y => decide (x = y)) 106 102)), (102, .inl (sx_const (.int 1) 103)), (103, .inl (sx_goto 107)), (106, .inl (sx_const (.int 0) 107)), (107, .inl (sx_istore 1 108)), (108, .inl (sx_iload 1 109)), (109, .inl (sx_if (fun x => decide (x = 0)) 145 112)), (112, .inl (sx_iload 3 113)), (113, .inl (sx_const (.int 18) 115)), (115, .inl (sx_icmp (fun x y => decide (¬ x = y)) 141 118)), (118, .inl (sx_iload 2 119)), (119, .inl (sx_const (.int 1) 120)), (120, .inl (sx_bin (fun x y => x + y) 121)), (121, .inl (sx_aload 0 122)), (122, .inl (sx_getf 10 1 125)), (125, .inl (sx_icmp (fun x y => decide (y ≤ x)) 145 128)), (128, .inl (sx_aload 0 129)), (129, .inl (sx_getf 10 2 132)), (132, .inl (sx_iload 2 133)), (133, .inl (sx_const (.int 1) 134)), (134, .inl (sx_bin (fun x y => x + y) 135)), (135, .inl (sx_ald false 136)), (136, .inl (sx_const (.int 12) 138)), (138, .inl (sx_icmp (fun x y => decide (¬ x = y)) 145 141)), (141, .inl (sx_const (.int 1) 142)), (142, .inl (sx_goto 146)), (145, .inl (sx_const (.int 0) 146)), (146, .inl (sx_istore 1 147)), (147, .inl (sx_iinc 2 1 150)), (150, .inl (sx_goto 4)), (153, .inl (sx_iload 1 154)), (154, .inr (.inr (some .boolean)))]
/-- RowCodeModel.takes(I)I -/
def mt_124 : List (Nat × mx_E) := [(0, .inl (sx_iload 0 1)), (1, .inl (sx_table 98 (2) (20) [92, 92, 94, 92, 92, 94, 94, 94, 98, 92, 92, 98, 92, 98, 92, 98, 92, 94, 96])), (92, .inl (sx_const (.int 1) 93)), (93, .inr (.inr (some .int))), (94, .inl (sx_const (.int 2) 95)), (95, .inr (.inr (some .int))), (96, .inl (sx_const (.int 3) 97)), (97, .inr (.inr (some .int))), (98, .inl (sx_const (.int 0) 99)), (99, .inr (.inr (some .int)))]
/-- RowCodeModel.gives(I)I -/
def mt_125 : List (Nat × mx_E) := [(0, .inl (sx_iload 0 1)), (1, .inl (sx_table 110 (0) (20) [100, 100, 102, 110, 104, 110, 110, 102, 102, 110, 110, 102, 102, 110, 102, 110, 110, 110, 110, 102, 107])), (100, .inl (sx_const (.int 1) 101)), (101, .inr (.inr (some .int))), (102, .inl (sx_const (.int (-1)) 103)), (103, .inr (.inr (some .int))), (104, .inl (sx_const (.int (-2)) 106)), (106, .inr (.inr (some .int))), (107, .inl (sx_const (.int (-3)) 109)), (109, .inr (.inr (some .int))), (110, .inl (sx_const (.int 0) 111)), (111, .inr (.inr (some .int)))]
/-- RowCodeModel.way(II)I -/
def mt_126 : List (Nat × mx_E) := [(0, .inl (sx_aload 0 1)), (1, .inl (sx_getf 10 2 4)), (4, .inl (sx_iload 1 5)), (5, .inl (sx_ald false 6)), (6, .inl (sx_istore 3 7)), (7, .inl (sx_iload 3 8)), (8, .inl (sx_const (.int 16) 10)), (10, .inl (sx_icmp (fun x y => decide (x = y)) 19 13)), (13, .inl (sx_iload 3 14)), (14, .inl (sx_const (.int 17) 16)), (16, .inl (sx_icmp (fun x y => decide (¬ x = y)) 23 19)), (19, .inl (sx_const (.int 1) 20)), (20, .inl (sx_goto 24)), (23, .inl (sx_const (.int 0) 24)), (24, .inl (sx_istore 4 26)), (26, .inl (sx_iload 2 27)), (27, .inl (sx_if (fun x => decide (¬ x = 0)) 61 30)), (30, .inl (sx_iload 4 32)), (32, .inl (sx_if (fun x => decide (¬ x = 0)) 41 35)), (35, .inl (sx_iload 3 36)), (36, .inl (sx_const (.int 10) 38)), (38, .inl (sx_icmp (fun x y => decide (¬ x = y)) 45 41)), (41, .inl (sx_const (.int (-1)) 42)), (42, .inl (sx_goto 60)), (45, .inl (sx_iload 3 46)), (46, .inl (sx_const (.int 18) 48)), (48, .inl (sx_icmp (fun x y => decide (¬ x = y)) 57 51)), (51, .inl (sx_iload 1 52)), (52, .inl (sx_const (.int 2) 53)), (53, .inl (sx_bin (fun x y => x + y) 54)), (54, .inl (sx_goto 60)), (57, .inl (sx_iload 1 58)), (58, .inl (sx_const (.int 1) 59)), (59, .inl (sx_bin (fun x y => x + y) 60)), (60, .inr (.inr (some .int))), (61, .inl (sx_iload 3 62)), (62, .inl (sx_const (.int 10) 64)), (64, .inl (sx_const (.int 12) 66)), (66, .inr (.inl (120, 3, none, 3))), (69, .inl (sx_if (fun x => decide (x = 0)) 85 72)), (72, .inl (sx_aload 0 73)), (73, .inl (sx_aload 0 74)), (74, .inl (sx_getf 10 3 77)), (77, .inl (sx_iload 1 78)), (78, .inl (sx_ald false 79)), (79, .inr (.inl (122, 2, some (some 10), 3))), (82, .inl (sx_goto 107)), (85, .inl (sx_iload 3 86)), (86, .inl (sx_const (.int 18) 88)), (88, .inl (sx_icmp (fun x y => decide (¬ x = y)) 106 91)), (91, .inl (sx_aload 0 92)), (92, .inl (sx_aload 0 93)), (93, .inl (sx_getf 10 3 96)), (96, .inl (sx_iload 1 97)), (97, .inl (sx_const (.int 1) 98)), (98, .inl (sx_bin (fun x y => x + y) 99)), (99, .inl (sx_ald false 100)), (100, .inr (.inl (122, 2, some (some 10), 3))), (103, .inl (sx_goto 107)), (106, .inl (sx_const (.int (-1)) 107)), (107, .inr (.inr (some .int)))]
/-- RowCodeModel.comes(II)Z -/
def mt_127 : List (Nat × mx_E) := [(0, .inl (sx_iload 1 1)), (1, .inl (sx_aload 0 2)), (2, .inl (sx_getf 10 1 5)), (5, .inl (sx_icmp (fun x y => decide (y ≤ x)) 34 8)), (8, .inl (sx_iload 2 9)), (9, .inl (sx_const (.int 60) 11)), (11, .inl (sx_icmp (fun x y => decide (y < x)) 34 14)), (14, .inl (sx_aload 0 15)), (15, .inl (sx_getf 10 8 18)), (18, .inl (sx_iload 1 19)), (19, .inl (sx_ald false 20)), (20, .inl (sx_const (.int (-1)) 21)), (21, .inl (sx_icmp (fun x y => decide (x = y)) 36 24)), (24, .inl (sx_aload 0 25)), (25, .inl (sx_getf 10 8 28)), (28, .inl (sx_iload 1 29)), (29, .inl (sx_ald false 30)), (30, .inl (sx_iload 2 31)), (31, .inl (sx_icmp (fun x y => decide (x = y)) 36 34)), (34, .inl (sx_const (.int 0) 35)), (35, .inr (.inr (some .boolean))), (36, .inl (sx_aload 0 37)), (37, .inl (sx_getf 10 8 40)), (40, .inl (sx_iload 1 41)), (41, .inl (sx_iload 2 42)), (42, .inl (sx_ast false 43)), (43, .inl (sx_const (.int 1) 44)), (44, .inr (.inr (some .boolean)))]
/-- RowCodeModel.isEven()Z -/
def mt_128 : List (Nat × mx_E) := [(0, .inl (sx_const (.int 0) 1)), (1, .inl (sx_istore 1 2)), (2, .inl (sx_iload 1 3)), (3, .inl (sx_aload 0 4)), (4, .inl (sx_getf 10 1 7)), (7, .inl (sx_icmp (fun x y => decide (y ≤ x)) 30 10)), (10, .inl (sx_aload 0 11)), (11, .inl (sx_getf 10 8 14)), (14, .inl (sx_iload 1 15)), (15, .inl (sx_const (.int (-1)) 16)), (16, .inl (sx_ast false 17)), (17, .inl (sx_aload 0 18)), (18, .inl (sx_getf 10 9 21)), (21, .inl (sx_iload 1 22)), (22, .inl (sx_const (.int 0) 23)), (23, .inl (sx_ast true 24)), (24, .inl (sx_iinc 1 1 27)), (27, .inl (sx_goto 2)), (30, .inl (sx_aload 0 31)), (31, .inl (sx_getf 10 8 34)), (34, .inl (sx_const (.int 0) 35)), (35, .inl (sx_const (.int 0) 36)), (36, .inl (sx_ast false 37)), (37, .inl (sx_const (.int 1) 38)), (38, .inl (sx_istore 1 39)), (39, .inl (sx_const (.int 1) 40)), (40, .inl (sx_istore 2 41)), (41, .inl (sx_iload 2 42)), (42, .inl (sx_if (fun x => decide (x = 0)) 235 45)), (45, .inl (sx_iload 1 46)), (46, .inl (sx_if (fun x => decide (x = 0)) 235 49)), (49, .inl (sx_const (.int 0) 50)), (50, .inl (sx_istore 2 51)), (51, .inl (sx_const (.int 0) 52)), (52, .inl (sx_istore 3 53)), (53, .inl (sx_iload 3 54)), (54, .inl (sx_aload 0 55)), (55, .inl (sx_getf 10 1 58)), (58, .inl (sx_icmp (fun x y => decide (y ≤ x)) 232 61)), (61, .inl (sx_iload 1 62)), (62, .inl (sx_if (fun x => decide (x = 0)) 232 65)), (65, .inl (sx_aload 0 66)), (66, .inl (sx_getf 10 8 69)), (69, .inl (sx_iload 3 70)), (70, .inl (sx_ald false 71)), (71, .inl (sx_const (.int (-1)) 72)), (72, .inl (sx_icmp (fun x y => decide (x = y)) 226 75)), (75, .inl (sx_aload 0 76)), (76, .inl (sx_getf 10 9 79)), (79, .inl (sx_iload 3 80)), (80, .inl (sx_ald true 81)), (81, .inl (sx_if (fun x => decide (x = 0)) 87 84)), (84, .inl (sx_goto 226)), (87, .inl (sx_aload 0 88)), (88, .inl (sx_getf 10 9 91)), (91, .inl (sx_iload 3 92)), (92, .inl (sx_const (.int 1) 93)), (93, .inl (sx_ast true 94)), (94, .inl (sx_const (.int 1) 95)), (95, .inl (sx_istore 2 96)), (96, .inl (sx_aload 0 97)), (97, .inl (sx_getf 10 8 100)), (100, .inl (sx_iload 3 101)), (101, .inl (sx_ald false 102)), (102, .inl (sx_aload 0 103)), (103, .inl (sx_getf 10 2 106)), (106, .inl (sx_iload 3 107)), (107, .inl (sx_ald false 108)), (108, .inr (.inl (125, 1, none, 1))), (111, .inl (sx_bin (fun x y => x + y) 112)), (112, .inl (sx_istore 4 114)), (114, .inl (sx_aload 0 115)), (115, .inl (sx_getf 10 8 118)), (118, .inl (sx_iload 3 119)), (119, .inl (sx_ald false 120)), (120, .inl (sx_aload 0 121)), (121, .inl (sx_getf 10 2 124)), (124, .inl (sx_iload 3 125)), (125, .inl (sx_ald false 126)), (126, .inr (.inl (124, 1, none, 1))), (129, .inl (sx_icmp (fun x y => decide (x < y)) 136 132)), (132, .inl (sx_const (.int 1) 133)), (133, .inl (sx_goto 137)), (136, .inl (sx_const (.int 0) 137)), (137, .inl (sx_istore 1 138)), (138, .inl (sx_iload 1 139)), (139, .inl (sx_if (fun x => decide (x = 0)) 171 142)), (142, .inl (sx_aload 0 143)), (143, .inl (sx_iload 3 144)), (144, .inl (sx_const (.int 0) 145)), (145, .inr (.inl (126, 3, some (some 10), 5))), (148, .inl (sx_const (.int (-1)) 149)), (149, .inl (sx_icmp (fun x y => decide (x = y)) 167 152)), (152, .inl (sx_aload 0 153)), (153, .inl (sx_aload 0 154)), (154, .inl (sx_iload 3 155)), (155, .inl (sx_const (.int 0) 156)), (156, .inr (.inl (126, 3, some (some 10), 5))), (159, .inl (sx_iload 4 161)), (161, .inr (.inl (127, 3, some (some 10), 3))), (164, .inl (sx_if (fun x => decide (x = 0)) 171 167)), (167, .inl (sx_const (.int 1) 168)), (168, .inl (sx_goto 172)), (171, .inl (sx_const (.int 0) 172)), (172, .inl (sx_istore 1 173)), (173, .inl (sx_iload 1 174)), (174, .inl (sx_if (fun x => decide (x = 0)) 224 177)), (177, .inl (sx_aload 0 178)), (178, .inl (sx_iload 3 179)), (179, .inl (sx_const (.int 1) 180)), (180, .inr (.inl (126, 3, some (some 10), 5))), (183, .inl (sx_const (.int (-1)) 184)), (184, .inl (sx_icmp (fun x y => decide (x = y)) 220 187)), (187, .inl (sx_aload 0 188)), (188, .inl (sx_aload 0 189)), (189, .inl (sx_iload 3 190)), (190, .inl (sx_const (.int 1) 191)), (191, .inr (.inl (126, 3, some (some 10), 5))), (194, .inl (sx_aload 0 195)), (195, .inl (sx_getf 10 2 198)), (198, .inl (sx_iload 3 199)), (199, .inl (sx_ald false 200)), (200, .inl (sx_const (.int 18) 202)), (202, .inl (sx_icmp (fun x y => decide (¬ x = y)) 212 205)), (205, .inl (sx_iload 4 207)), (207, .inl (sx_const (.int 1) 208)), (208, .inl (sx_bin (fun x y => x - y) 209)), (209, .inl (sx_goto 214)), (212, .inl (sx_iload 4 214)), (214, .inr (.inl (127, 3, some (some 10), 3))), (217, .inl (sx_if (fun x => decide (x = 0)) 224 220)), (220, .inl (sx_const (.int 1) 221)), (221, .inl (sx_goto 225)), (224, .inl (sx_const (.int 0) 225)), (225, .inl (sx_istore 1 226)), (226, .inl (sx_iinc 3 1 229)), (229, .inl (sx_goto 53)), (232, .inl (sx_goto 41)), (235, .inl (sx_iload 1 236)), (236, .inr (.inr (some .boolean)))]
/-- RowCodeModel.isSpent()Z -/
def mt_129 : List (Nat × mx_E) := [(0, .inl (sx_const (.int 0) 1)), (1, .inl (sx_istore 1 2)), (2, .inl (sx_const (.int 0) 3)), (3, .inl (sx_istore 2 4)), (4, .inl (sx_iload 2 5)), (5, .inl (sx_aload 0 6)), (6, .inl (sx_getf 10 1 9)), (9, .inl (sx_icmp (fun x y => decide (y ≤ x)) 67 12)), (12, .inl (sx_aload 0 13)), (13, .inl (sx_getf 10 9 16)), (16, .inl (sx_iload 2 17)), (17, .inl (sx_aload 0 18)), (18, .inl (sx_getf 10 8 21)), (21, .inl (sx_iload 2 22)), (22, .inl (sx_ald false 23)), (23, .inl (sx_const (.int (-1)) 24)), (24, .inl (sx_icmp (fun x y => decide (x = y)) 38 27)), (27, .inl (sx_aload 0 28)), (28, .inl (sx_getf 10 2 31)), (31, .inl (sx_iload 2 32)), (32, .inl (sx_ald false 33)), (33, .inl (sx_const (.int 15) 35)), (35, .inl (sx_icmp (fun x y => decide (¬ x = y)) 42 38)), (38, .inl (sx_const (.int 1) 39)), (39, .inl (sx_goto 43)), (42, .inl (sx_const (.int 0) 43)), (43, .inl (sx_ast true 44)), (44, .inl (sx_iload 1 45)), (45, .inl (sx_aload 0 46)), (46, .inl (sx_getf 10 9 49)), (49, .inl (sx_iload 2 50)), (50, .inl (sx_ald true 51)), (51, .inl (sx_if (fun x => decide (x = 0)) 58 54)), (54, .inl (sx_const (.int 0) 55)), (55, .inl (sx_goto 59)), (58, .inl (sx_const (.int 1) 59)), (59, .inl (sx_bin (fun x y => x + y) 60)), (60, .inl (sx_istore 1 61)), (61, .inl (sx_iinc 2 1 64)), (64, .inl (sx_goto 4)), (67, .inl (sx_const (.int 1) 68)), (68, .inl (sx_istore 2 69)), (69, .inl (sx_iload 2 70)), (70, .inl (sx_if (fun x => decide (x = 0)) 166 73)), (73, .inl (sx_const (.int 0) 74)), (74, .inl (sx_istore 2 75)), (75, .inl (sx_const (.int 0) 76)), (76, .inl (sx_istore 3 77)), (77, .inl (sx_iload 3 78)), (78, .inl (sx_aload 0 79)), (79, .inl (sx_getf 10 1 82)), (82, .inl (sx_icmp (fun x y => decide (y ≤ x)) 163 85)), (85, .inl (sx_aload 0 86)), (86, .inl (sx_getf 10 9 89)), (89, .inl (sx_iload 3 90)), (90, .inl (sx_ald true 91)), (91, .inl (sx_if (fun x => decide (x = 0)) 97 94)), (94, .inl (sx_goto 157)), (97, .inl (sx_aload 0 98)), (98, .inl (sx_iload 3 99)), (99, .inl (sx_const (.int 0) 100)), (100, .inr (.inl (126, 3, some (some 10), 5))), (103, .inl (sx_istore 4 105)), (105, .inl (sx_aload 0 106)), (106, .inl (sx_iload 3 107)), (107, .inl (sx_const (.int 1) 108)), (108, .inr (.inl (126, 3, some (some 10), 5))), (111, .inl (sx_istore 5 113)), (113, .inl (sx_iload 4 115)), (115, .inl (sx_const (.int (-1)) 116)), (116, .inl (sx_icmp (fun x y => decide (x = y)) 129 119)), (119, .inl (sx_aload 0 120)), (120, .inl (sx_getf 10 9 123)), (123, .inl (sx_iload 4 125)), (125, .inl (sx_ald true 126)), (126, .inl (sx_if (fun x => decide (x = 0)) 157 129)), (129, .inl (sx_iload 5 131)), (131, .inl (sx_const (.int (-1)) 132)), (132, .inl (sx_icmp (fun x y => decide (x = y)) 145 135)), (135, .inl (sx_aload 0 136)), (136, .inl (sx_getf 10 9 139)), (139, .inl (sx_iload 5 141)), (141, .inl (sx_ald true 142)), (142, .inl (sx_if (fun x => decide (x = 0)) 157 145)), (145, .inl (sx_aload 0 146)), (146, .inl (sx_getf 10 9 149)), (149, .inl (sx_iload 3 150)), (150, .inl (sx_const (.int 1) 151)), (151, .inl (sx_ast true 152)), (152, .inl (sx_iinc 1 (-1) 155)), (155, .inl (sx_const (.int 1) 156)), (156, .inl (sx_istore 2 157)), (157, .inl (sx_iinc 3 1 160)), (160, .inl (sx_goto 77)), (163, .inl (sx_goto 69)), (166, .inl (sx_iload 1 167)), (167, .inl (sx_if (fun x => decide (¬ x = 0)) 174 170)), (170, .inl (sx_const (.int 1) 171)), (171, .inl (sx_goto 175)), (174, .inl (sx_const (.int 0) 175)), (175, .inr (.inr (some .boolean)))]
/-- RowCodeModel.build()Z -/
def mt_130 : List (Nat × mx_E) := [(0, .inl (sx_aload 0 1)), (1, .inl (sx_const (.int 0) 2)), (2, .inl (sx_putf 10 0 (.int) 5)), (5, .inl (sx_aload 0 6)), (6, .inl (sx_getf 10 1 9)), (9, .inl (sx_if (fun x => decide (x ≤ 0)) 37 12)), (12, .inl (sx_aload 0 13)), (13, .inr (.inl (123, 1, some (some 10), 4))), (16, .inl (sx_if (fun x => decide (x = 0)) 37 19)), (19, .inl (sx_aload 0 20)), (20, .inr (.inl (128, 1, some (some 10), 5))), (23, .inl (sx_if (fun x => decide (x = 0)) 37 26)), (26, .inl (sx_aload 0 27)), (27, .inr (.inl (129, 1, some (some 10), 6))), (30, .inl (sx_if (fun x => decide (x = 0)) 37 33)), (33, .inl (sx_const (.int 1) 34)), (34, .inl (sx_goto 38)), (37, .inl (sx_const (.int 0) 38)), (38, .inr (.inr (some .boolean)))]
/-- RowCodeModel.pop()I -/
def mt_131 : List (Nat × mx_E) := [(0, .inl (sx_aload 0 1)), (1, .inl (sx_dup 2)), (2, .inl (sx_getf 10 11 5)), (5, .inl (sx_const (.int 1) 6)), (6, .inl (sx_bin (fun x y => x - y) 7)), (7, .inl (sx_putf 10 11 (.int) 10)), (10, .inl (sx_aload 0 11)), (11, .inl (sx_getf 10 10 14)), (14, .inl (sx_aload 0 15)), (15, .inl (sx_getf 10 11 18)), (18, .inl (sx_ald false 19)), (19, .inr (.inr (some .int)))]
/-- RowCodeModel.push(I)V -/
def mt_132 : List (Nat × mx_E) := [(0, .inl (sx_aload 0 1)), (1, .inl (sx_getf 10 10 4)), (4, .inl (sx_aload 0 5)), (5, .inl (sx_getf 10 11 8)), (8, .inl (sx_iload 1 9)), (9, .inl (sx_ast false 10)), (10, .inl (sx_aload 0 11)), (11, .inl (sx_dup 12)), (12, .inl (sx_getf 10 11 15)), (15, .inl (sx_const (.int 1) 16)), (16, .inl (sx_bin (fun x y => x + y) 17)), (17, .inl (sx_putf 10 11 (.int) 20)), (20, .inr (.inr none))]
/-- RowCodeModel.made(III)I -/
def mt_133 : List (Nat × mx_E) := [(0, .inl (sx_iload 2 1)), (1, .inl (sx_if (fun x => decide (x < 0)) 10 4)), (4, .inl (sx_iload 2 5)), (5, .inl (sx_const (.int 31) 7)), (7, .inl (sx_icmp (fun x y => decide (x ≤ y)) 14 10)), (10, .inl (sx_const (.int 1) 11)), (11, .inl (sx_goto 15)), (14, .inl (sx_const (.int 0) 15)), (15, .inl (sx_istore 3 16)), (16, .inl (sx_iload 0 17)), (17, .inl (sx_table 141 (0) (9) [72, 76, 80, 84, 98, 111, 115, 119, 125, 129])), (72, .inl (sx_iload 1 73)), (73, .inl (sx_iload 2 74)), (74, .inl (sx_bin (fun x y => x + y) 75)), (75, .inr (.inr (some .int))), (76, .inl (sx_iload 1 77)), (77, .inl (sx_iload 2 78)), (78, .inl (sx_bin (fun x y => x - y) 79)), (79, .inr (.inr (some .int))), (80, .inl (sx_iload 1 81)), (81, .inl (sx_iload 2 82)), (82, .inl (sx_bin (fun x y => x * y) 83)), (83, .inr (.inr (some .int))), (84, .inl (sx_iload 2 85)), (85, .inl (sx_const (.int (-1)) 86)), (86, .inl (sx_icmp (fun x y => decide (¬ x = y)) 94 89)), (89, .inl (sx_iload 1 90)), (90, .inl (sx_ineg 91)), (91, .inl (sx_goto 97)), (94, .inl (sx_iload 1 95)), (95, .inl (sx_iload 2 96)), (96, .inl (sx_div (fun x y => x / y) 97)), (97, .inr (.inr (some .int))), (98, .inl (sx_iload 2 99)), (99, .inl (sx_const (.int (-1)) 100)), (100, .inl (sx_icmp (fun x y => decide (¬ x = y)) 107 103)), (103, .inl (sx_const (.int 0) 104)), (104, .inl (sx_goto 110)), (107, .inl (sx_iload 1 108)), (108, .inl (sx_iload 2 109)), (109, .inl (sx_div (fun x y => x - x / y * y) 110)), (110, .inr (.inr (some .int))), (111, .inl (sx_iload 1 112)), (112, .inl (sx_iload 2 113)), (113, .inl (sx_bin (fun x y => x &&& y) 114)), (114, .inr (.inr (some .int))), (115, .inl (sx_iload 1 116)), (116, .inl (sx_iload 2 117)), (117, .inl (sx_bin (fun x y => x ||| y) 118)), (118, .inr (.inr (some .int))), (119, .inl (sx_iload 1 120)), (120, .inl (sx_iload 2 121)), (121, .inl (sx_bin (fun x y => x ^^^ y) 122)), (122, .inl (sx_const (.int (-1)) 123)), (123, .inl (sx_bin (fun x y => x ^^^ y) 124)), (124, .inr (.inr (some .int))), (125, .inl (sx_iload 1 126)), (126, .inl (sx_iload 2 127)), (127, .inl (sx_bin (fun x y => x ^^^ y) 128)), (128, .inr (.inr (some .int))), (129, .inl (sx_iload 3 130)), (130, .inl (sx_if (fun x => decide (x = 0)) 137 133)), (133, .inl (sx_const (.int 0) 134)), (134, .inl (sx_goto 140)), (137, .inl (sx_iload 1 138)), (138, .inl (sx_iload 2 139)), (139, .inl (sx_bin (fun x y => x <<< (y &&& 31)) 140)), (140, .inr (.inr (some .int))), (141, .inl (sx_iload 3 142)), (142, .inl (sx_if (fun x => decide (x = 0)) 149 145)), (145, .inl (sx_const (.int 0) 146)), (146, .inl (sx_goto 152)), (149, .inl (sx_iload 1 150)), (150, .inl (sx_iload 2 151)), (151, .inl (sx_bin (fun x y => (x.toUInt32 >>> (y.toUInt32 &&& Int32.toUInt32 31)).toInt32) 152)), (152, .inr (.inr (some .int)))]
/-- RowCodeModel.compares(III)Z -/
def mt_134 : List (Nat × mx_E) := [(0, .inl (sx_iload 0 1)), (1, .inl (sx_table 91 (0) (4) [36, 47, 58, 69, 80])), (36, .inl (sx_iload 1 37)), (37, .inl (sx_iload 2 38)), (38, .inl (sx_icmp (fun x y => decide (¬ x = y)) 45 41)), (41, .inl (sx_const (.int 1) 42)), (42, .inl (sx_goto 46)), (45, .inl (sx_const (.int 0) 46)), (46, .inr (.inr (some .boolean))), (47, .inl (sx_iload 1 48)), (48, .inl (sx_iload 2 49)), (49, .inl (sx_icmp (fun x y => decide (x = y)) 56 52)), (52, .inl (sx_const (.int 1) 53)), (53, .inl (sx_goto 57)), (56, .inl (sx_const (.int 0) 57)), (57, .inr (.inr (some .boolean))), (58, .inl (sx_iload 1 59)), (59, .inl (sx_iload 2 60)), (60, .inl (sx_icmp (fun x y => decide (y ≤ x)) 67 63)), (63, .inl (sx_const (.int 1) 64)), (64, .inl (sx_goto 68)), (67, .inl (sx_const (.int 0) 68)), (68, .inr (.inr (some .boolean))), (69, .inl (sx_iload 1 70)), (70, .inl (sx_iload 2 71)), (71, .inl (sx_icmp (fun x y => decide (y < x)) 78 74)), (74, .inl (sx_const (.int 1) 75)), (75, .inl (sx_goto 79)), (78, .inl (sx_const (.int 0) 79)), (79, .inr (.inr (some .boolean))), (80, .inl (sx_iload 1 81)), (81, .inl (sx_iload 2 82)), (82, .inl (sx_icmp (fun x y => decide (x ≤ y)) 89 85)), (85, .inl (sx_const (.int 1) 86)), (86, .inl (sx_goto 90)), (89, .inl (sx_const (.int 0) 90)), (90, .inr (.inr (some .boolean))), (91, .inl (sx_iload 1 92)), (92, .inl (sx_iload 2 93)), (93, .inl (sx_icmp (fun x y => decide (x < y)) 100 96)), (96, .inl (sx_const (.int 1) 97)), (97, .inl (sx_goto 101)), (100, .inl (sx_const (.int 0) 101)), (101, .inr (.inr (some .boolean)))]
/-- RowCodeModel.wordOf(II)I -/
def mt_135 : List (Nat × mx_E) := [(0, .inl (sx_iload 0 1)), (1, .inl (sx_i2l 2)), (2, .inl (sx_iload 1 3)), (3, .inl (sx_const (.int 2) 4)), (4, .inl (sx_bin (fun x y => x >>> (y &&& 31)) 5)), (5, .inl (sx_i2l 6)), (6, .inl (sx_ladd 7)), (7, .inl (sx_lstore 2 8)), (8, .inl (sx_lload 2 9)), (9, .inl (sx_const (.long 0) 10)), (10, .inl (sx_lcmp 11)), (11, .inl (sx_if (fun x => decide (x < 0)) 22 14)), (14, .inl (sx_lload 2 15)), (15, .inl (sx_const (.long (63)) 18)), (18, .inl (sx_lcmp 19)), (19, .inl (sx_if (fun x => decide (x ≤ 0)) 26 22)), (22, .inl (sx_const (.int (-1)) 23)), (23, .inl (sx_goto 28)), (26, .inl (sx_lload 2 27)), (27, .inl (sx_l2i 28)), (28, .inr (.inr (some .int)))]
/-- RowCodeModel.does(II)I -/
def mt_136 : List (Nat × mx_E) := [(0, .inl (sx_iload 1 1)), (1, .inl (sx_table 426 (0) (20) [100, 107, 119, 131, 180, 216, 227, 239, 280, 312, 426, 426, 426, 426, 350, 426, 426, 426, 426, 357, 421])), (100, .inl (sx_aload 0 101)), (101, .inl (sx_iload 2 102)), (102, .inr (.inl (132, 2, some (some 10), 2))), (105, .inl (sx_const (.int 0) 106)), (106, .inr (.inr (some .int))), (107, .inl (sx_aload 0 108)), (108, .inl (sx_aload 0 109)), (109, .inl (sx_getf 10 4 112)), (112, .inl (sx_iload 2 113)), (113, .inl (sx_ald false 114)), (114, .inr (.inl (132, 2, some (some 10), 2))), (117, .inl (sx_const (.int 0) 118)), (118, .inr (.inr (some .int))), (119, .inl (sx_aload 0 120)), (120, .inl (sx_getf 10 4 123)), (123, .inl (sx_iload 2 124)), (124, .inl (sx_aload 0 125)), (125, .inr (.inl (131, 1, some (some 10), 1))), (128, .inl (sx_ast false 129)), (129, .inl (sx_const (.int 0) 130)), (130, .inr (.inr (some .int))), (131, .inl (sx_aload 0 132)), (132, .inr (.inl (131, 1, some (some 10), 1))), (135, .inl (sx_istore 5 137)), (137, .inl (sx_aload 0 138)), (138, .inl (sx_iload 5 140)), (140, .inl (sx_const (.int 0) 141)), (141, .inl (sx_const (.int 63) 143)), (143, .inr (.inl (120, 3, none, 3))), (146, .inl (sx_if (fun x => decide (x = 0)) 159 149)), (149, .inl (sx_aload 0 150)), (150, .inl (sx_getf 10 5 153)), (153, .inl (sx_iload 5 155)), (155, .inl (sx_ald false 156)), (156, .inl (sx_goto 160)), (159, .inl (sx_const (.int 0) 160)), (160, .inr (.inl (132, 2, some (some 10), 2))), (163, .inl (sx_iload 5 165)), (165, .inl (sx_const (.int 0) 166)), (166, .inl (sx_const (.int 63) 168)), (168, .inr (.inl (120, 3, none, 3))), (171, .inl (sx_if (fun x => decide (x = 0)) 178 174)), (174, .inl (sx_const (.int 0) 175)), (175, .inl (sx_goto 179)), (178, .inl (sx_const (.int 2) 179)), (179, .inr (.inr (some .int))), (180, .inl (sx_aload 0 181)), (181, .inr (.inl (131, 1, some (some 10), 1))), (184, .inl (sx_istore 5 186)), (186, .inl (sx_aload 0 187)), (187, .inr (.inl (131, 1, some (some 10), 1))), (190, .inl (sx_istore 6 192)), (192, .inl (sx_iload 5 194)), (194, .inl (sx_const (.int 0) 195)), (195, .inl (sx_const (.int 63) 197)), (197, .inr (.inl (120, 3, none, 3))), (200, .inl (sx_if (fun x => decide (¬ x = 0)) 205 203)), (203, .inl (sx_const (.int 2) 204)), (204, .inr (.inr (some .int))), (205, .inl (sx_aload 0 206)), (206, .inl (sx_getf 10 5 209)), (209, .inl (sx_iload 5 211)), (211, .inl (sx_iload 6 213)), (213, .inl (sx_ast false 214)), (214, .inl (sx_const (.int 0) 215)), (215, .inr (.inr (some .int))), (216, .inl (sx_aload 0 217)), (217, .inl (sx_aload 0 218)), (218, .inr (.inl (131, 1, some (some 10), 1))), (221, .inl (sx_ineg 222)), (222, .inr (.inl (132, 2, some (some 10), 2))), (225, .inl (sx_const (.int 0) 226)), (226, .inr (.inr (some .int))), (227, .inl (sx_aload 0 228)), (228, .inl (sx_aload 0 229)), (229, .inr (.inl (131, 1, some (some 10), 1))), (232, .inl (sx_const (.int (-1)) 233)), (233, .inl (sx_bin (fun x y => x ^^^ y) 234)), (234, .inr (.inl (132, 2, some (some 10), 2))), (237, .inl (sx_const (.int 0) 238)), (238, .inr (.inr (some .int))), (239, .inl (sx_aload 0 240)), (240, .inr (.inl (131, 1, some (some 10), 1))), (243, .inl (sx_istore 4 245)), (245, .inl (sx_aload 0 246)), (246, .inr (.inl (131, 1, some (some 10), 1))), (249, .inl (sx_istore 3 250)), (250, .inl (sx_iload 2 251)), (251, .inl (sx_const (.int 3) 252)), (252, .inl (sx_icmp (fun x y => decide (x = y)) 260 255)), (255, .inl (sx_iload 2 256)), (256, .inl (sx_const (.int 4) 257)), (257, .inl (sx_icmp (fun x y => decide (¬ x = y)) 267 260)), (260, .inl (sx_iload 4 262)), (262, .inl (sx_if (fun x => decide (¬ x = 0)) 267 265)), (265, .inl (sx_const (.int 3) 266)), (266, .inr (.inr (some .int))), (267, .inl (sx_aload 0 268)), (268, .inl (sx_iload 2 269)), (269, .inl (sx_iload 3 270)), (270, .inl (sx_iload 4 272)), (272, .inr (.inl (133, 3, none, 4))), (275, .inr (.inl (132, 2, some (some 10), 2))), (278, .inl (sx_const (.int 0) 279)), (279, .inr (.inr (some .int))), (280, .inl (sx_aload 0 281)), (281, .inr (.inl (131, 1, some (some 10), 1))), (284, .inl (sx_istore 4 286)), (286, .inl (sx_aload 0 287)), (287, .inr (.inl (131, 1, some (some 10), 1))), (290, .inl (sx_istore 3 291)), (291, .inl (sx_aload 0 292)), (292, .inl (sx_iload 2 293)), (293, .inl (sx_iload 3 294)), (294, .inl (sx_iload 4 296)), (296, .inr (.inl (134, 3, none, 3))), (299, .inl (sx_if (fun x => decide (x = 0)) 306 302)), (302, .inl (sx_const (.int (-1)) 303)), (303, .inl (sx_goto 307)), (306, .inl (sx_const (.int 0) 307)), (307, .inr (.inl (132, 2, some (some 10), 2))), (310, .inl (sx_const (.int 0) 311)), (311, .inr (.inr (some .int))), (312, .inl (sx_aload 0 313)), (313, .inr (.inl (131, 1, some (some 10), 1))), (316, .inl (sx_istore 4 318)), (318, .inl (sx_aload 0 319)), (319, .inr (.inl (131, 1, some (some 10), 1))), (322, .inl (sx_istore 3 323)), (323, .inl (sx_aload 0 324)), (324, .inl (sx_iload 4 326)), (326, .inr (.inl (132, 2, some (some 10), 2))), (329, .inl (sx_aload 0 330)), (330, .inl (sx_iload 2 331)), (331, .inl (sx_iload 3 332)), (332, .inl (sx_iload 4 334)), (334, .inr (.inl (134, 3, none, 3))), (337, .inl (sx_if (fun x => decide (x = 0)) 344 340)), (340, .inl (sx_const (.int (-1)) 341)), (341, .inl (sx_goto 345)), (344, .inl (sx_const (.int 0) 345)), (345, .inr (.inl (132, 2, some (some 10), 2))), (348, .inl (sx_const (.int 0) 349)), (349, .inr (.inr (some .int))), (350, .inl (sx_aload 0 351)), (351, .inr (.inl (131, 1, some (some 10), 1))), (354, .inl (sx_pop 355)), (355, .inl (sx_const (.int 0) 356)), (356, .inr (.inr (some .int))), (357, .inl (sx_aload 0 358)), (358, .inr (.inl (131, 1, some (some 10), 1))), (361, .inl (sx_istore 4 363)), (363, .inl (sx_aload 0 364)), (364, .inr (.inl (131, 1, some (some 10), 1))), (367, .inl (sx_istore 3 368)), (368, .inl (sx_iload 3 369)), (369, .inl (sx_iload 4 371)), (371, .inr (.inl (135, 2, none, 4))), (374, .inl (sx_istore 5 376)), (376, .inl (sx_aload 0 377)), (377, .inl (sx_iload 5 379)), (379, .inl (sx_const (.int (-1)) 380)), (380, .inl (sx_icmp (fun x y => decide (¬ x = y)) 387 383)), (383, .inl (sx_const (.int 0) 384)), (384, .inl (sx_goto 406)), (387, .inl (sx_aload 0 388)), (388, .inl (sx_getf 10 5 391)), (391, .inl (sx_iload 5 393)), (393, .inl (sx_ald false 394)), (394, .inl (sx_const (.int 8) 396)), (396, .inl (sx_iload 4 398)), (398, .inl (sx_const (.int 3) 399)), (399, .inl (sx_bin (fun x y => x &&& y) 400)), (400, .inl (sx_bin (fun x y => x * y) 401)), (401, .inl (sx_bin (fun x y => x >>> (y &&& 31)) 402)), (402, .inl (sx_const (.int 255) 405)), (405, .inl (sx_bin (fun x y => x &&& y) 406)), (406, .inr (.inl (132, 2, some (some 10), 2))), (409, .inl (sx_iload 5 411)), (411, .inl (sx_const (.int (-1)) 412)), (412, .inl (sx_icmp (fun x y => decide (¬ x = y)) 419 415)), (415, .inl (sx_const (.int 2) 416)), (416, .inl (sx_goto 420)), (419, .inl (sx_const (.int 0) 420)), (420, .inr (.inr (some .int))), (421, .inl (sx_aload 0 422)), (422, .inr (.inl (137, 1, some (some 10), 6))), (425, .inr (.inr (some .int))), (426, .inl (sx_const (.int 0) 427)), (427, .inr (.inr (some .int)))]
/-- RowCodeModel.sets()I -/
def mt_137 : List (Nat × mx_E) := [(0, .inl (sx_aload 0 1)), (1, .inr (.inl (131, 1, some (some 10), 1))), (4, .inl (sx_istore 1 5)), (5, .inl (sx_aload 0 6)), (6, .inr (.inl (131, 1, some (some 10), 1))), (9, .inl (sx_istore 2 10)), (10, .inl (sx_aload 0 11)), (11, .inr (.inl (131, 1, some (some 10), 1))), (14, .inl (sx_istore 3 15)), (15, .inl (sx_iload 2 16)), (16, .inl (sx_iload 1 17)), (17, .inr (.inl (135, 2, none, 4))), (20, .inl (sx_istore 4 22)), (22, .inl (sx_iload 4 24)), (24, .inl (sx_const (.int (-1)) 25)), (25, .inl (sx_icmp (fun x y => decide (¬ x = y)) 30 28)), (28, .inl (sx_const (.int 2) 29)), (29, .inr (.inr (some .int))), (30, .inl (sx_const (.int 8) 32)), (32, .inl (sx_iload 1 33)), (33, .inl (sx_const (.int 3) 34)), (34, .inl (sx_bin (fun x y => x &&& y) 35)), (35, .inl (sx_bin (fun x y => x * y) 36)), (36, .inl (sx_istore 5 38)), (38, .inl (sx_aload 0 39)), (39, .inl (sx_getf 10 5 42)), (42, .inl (sx_iload 4 44)), (44, .inl (sx_aload 0 45)), (45, .inl (sx_getf 10 5 48)), (48, .inl (sx_iload 4 50)), (50, .inl (sx_ald false 51)), (51, .inl (sx_const (.int 255) 54)), (54, .inl (sx_iload 5 56)), (56, .inl (sx_bin (fun x y => x <<< (y &&& 31)) 57)), (57, .inl (sx_const (.int (-1)) 58)), (58, .inl (sx_bin (fun x y => x ^^^ y) 59)), (59, .inl (sx_bin (fun x y => x &&& y) 60)), (60, .inl (sx_iload 3 61)), (61, .inl (sx_const (.int 255) 64)), (64, .inl (sx_bin (fun x y => x &&& y) 65)), (65, .inl (sx_iload 5 67)), (67, .inl (sx_bin (fun x y => x <<< (y &&& 31)) 68)), (68, .inl (sx_bin (fun x y => x ||| y) 69)), (69, .inl (sx_ast false 70)), (70, .inl (sx_const (.int 0) 71)), (71, .inr (.inr (some .int)))]
/-- RowCodeModel.goesOn(I)I -/
def mt_138 : List (Nat × mx_E) := [(0, .inl (sx_aload 0 1)), (1, .inl (sx_getf 10 2 4)), (4, .inl (sx_iload 1 5)), (5, .inl (sx_ald false 6)), (6, .inl (sx_istore 2 7)), (7, .inl (sx_aload 0 8)), (8, .inl (sx_getf 10 3 11)), (11, .inl (sx_iload 1 12)), (12, .inl (sx_ald false 13)), (13, .inl (sx_istore 3 14)), (14, .inl (sx_iload 2 15)), (15, .inl (sx_const (.int 10) 17)), (17, .inl (sx_icmp (fun x y => decide (¬ x = y)) 26 20)), (20, .inl (sx_aload 0 21)), (21, .inl (sx_iload 3 22)), (22, .inr (.inl (122, 2, some (some 10), 3))), (25, .inr (.inr (some .int))), (26, .inl (sx_iload 2 27)), (27, .inl (sx_const (.int 11) 29)), (29, .inl (sx_icmp (fun x y => decide (x = y)) 38 32)), (32, .inl (sx_iload 2 33)), (33, .inl (sx_const (.int 12) 35)), (35, .inl (sx_icmp (fun x y => decide (¬ x = y)) 80 38)), (38, .inl (sx_aload 0 39)), (39, .inr (.inl (131, 1, some (some 10), 1))), (42, .inl (sx_istore 4 44)), (44, .inl (sx_iload 4 46)), (46, .inl (sx_if (fun x => decide (¬ x = 0)) 53 49)), (49, .inl (sx_const (.int 1) 50)), (50, .inl (sx_goto 54)), (53, .inl (sx_const (.int 0) 54)), (54, .inl (sx_iload 2 55)), (55, .inl (sx_const (.int 11) 57)), (57, .inl (sx_icmp (fun x y => decide (¬ x = y)) 64 60)), (60, .inl (sx_const (.int 1) 61)), (61, .inl (sx_goto 65)), (64, .inl (sx_const (.int 0) 65)), (65, .inl (sx_icmp (fun x y => decide (¬ x = y)) 76 68)), (68, .inl (sx_aload 0 69)), (69, .inl (sx_iload 3 70)), (70, .inr (.inl (122, 2, some (some 10), 3))), (73, .inl (sx_goto 79)), (76, .inl (sx_iload 1 77)), (77, .inl (sx_const (.int 1) 78)), (78, .inl (sx_bin (fun x y => x + y) 79)), (79, .inr (.inr (some .int))), (80, .inl (sx_iload 2 81)), (81, .inl (sx_const (.int 18) 83)), (83, .inl (sx_icmp (fun x y => decide (¬ x = y)) 123 86)), (86, .inl (sx_aload 0 87)), (87, .inl (sx_getf 10 10 90)), (90, .inl (sx_aload 0 91)), (91, .inl (sx_getf 10 11 94)), (94, .inl (sx_const (.int 1) 95)), (95, .inl (sx_bin (fun x y => x - y) 96)), (96, .inl (sx_ald false 97)), (97, .inl (sx_iload 3 98)), (98, .inl (sx_icmp (fun x y => decide (x = y)) 105 101)), (101, .inl (sx_iload 1 102)), (102, .inl (sx_const (.int 2) 103)), (103, .inl (sx_bin (fun x y => x + y) 104)), (104, .inr (.inr (some .int))), (105, .inl (sx_aload 0 106)), (106, .inr (.inl (131, 1, some (some 10), 1))), (109, .inl (sx_pop 110)), (110, .inl (sx_aload 0 111)), (111, .inl (sx_aload 0 112)), (112, .inl (sx_getf 10 3 115)), (115, .inl (sx_iload 1 116)), (116, .inl (sx_const (.int 1) 117)), (117, .inl (sx_bin (fun x y => x + y) 118)), (118, .inl (sx_ald false 119)), (119, .inr (.inl (122, 2, some (some 10), 3))), (122, .inr (.inr (some .int))), (123, .inl (sx_iload 1 124)), (124, .inl (sx_const (.int 1) 125)), (125, .inl (sx_bin (fun x y => x + y) 126)), (126, .inr (.inr (some .int)))]
/-- RowCodeModel.run(I)I -/
def mt_139 : List (Nat × mx_E) := [(0, .inl (sx_aload 0 1)), (1, .inl (sx_const (.int 0) 2)), (2, .inl (sx_putf 10 0 (.int) 5)), (5, .inl (sx_iload 1 6)), (6, .inl (sx_const (.int 0) 7)), (7, .inl (sx_const (.int 20000) 10)), (10, .inr (.inl (120, 3, none, 3))), (13, .inl (sx_if (fun x => decide (x = 0)) 23 16)), (16, .inl (sx_aload 0 17)), (17, .inr (.inl (130, 1, some (some 10), 1))), (20, .inl (sx_if (fun x => decide (¬ x = 0)) 25 23)), (23, .inl (sx_const (.int (-1)) 24)), (24, .inr (.inr (some .int))), (25, .inl (sx_aload 0 26)), (26, .inl (sx_const (.int 0) 27)), (27, .inl (sx_putf 10 11 (.int) 30)), (30, .inl (sx_aload 0 31)), (31, .inl (sx_iload 1 32)), (32, .inl (sx_putf 10 7 (.int) 35)), (35, .inl (sx_aload 0 36)), (36, .inl (sx_const (.int 0) 37)), (37, .inl (sx_putf 10 6 (.int) 40)), (40, .inl (sx_const (.int 0) 41)), (41, .inl (sx_istore 2 42)), (42, .inl (sx_aload 0 43)), (43, .inl (sx_getf 10 2 46)), (46, .inl (sx_iload 2 47)), (47, .inl (sx_ald false 48)), (48, .inl (sx_istore 3 49)), (49, .inl (sx_iload 3 50)), (50, .inl (sx_const (.int 16) 52)), (52, .inl (sx_icmp (fun x y => decide (¬ x = y)) 65 55)), (55, .inl (sx_aload 0 56)), (56, .inl (sx_aload 0 57)), (57, .inr (.inl (131, 1, some (some 10), 1))), (60, .inl (sx_putf 10 6 (.int) 63)), (63, .inl (sx_const (.int 0) 64)), (64, .inr (.inr (some .int))), (65, .inl (sx_iload 3 66)), (66, .inl (sx_const (.int 17) 68)), (68, .inl (sx_icmp (fun x y => decide (¬ x = y)) 73 71)), (71, .inl (sx_const (.int 4) 72)), (72, .inr (.inr (some .int))), (73, .inl (sx_iload 3 74)), (74, .inl (sx_const (.int 15) 76)), (76, .inl (sx_icmp (fun x y => decide (¬ x = y)) 88 79)), (79, .inl (sx_aload 0 80)), (80, .inl (sx_getf 10 7 83)), (83, .inl (sx_if (fun x => decide (¬ x = 0)) 88 86)), (86, .inl (sx_const (.int 1) 87)), (87, .inr (.inr (some .int))), (88, .inl (sx_aload 0 89)), (89, .inl (sx_dup 90)), (90, .inl (sx_getf 10 7 93)), (93, .inl (sx_iload 3 94)), (94, .inl (sx_const (.int 15) 96)), (96, .inl (sx_icmp (fun x y => decide (¬ x = y)) 103 99)), (99, .inl (sx_const (.int 1) 100)), (100, .inl (sx_goto 104)), (103, .inl (sx_const (.int 0) 104)), (104, .inl (sx_bin (fun x y => x - y) 105)), (105, .inl (sx_putf 10 7 (.int) 108)), (108, .inl (sx_aload 0 109)), (109, .inl (sx_iload 3 110)), (110, .inl (sx_aload 0 111)), (111, .inl (sx_getf 10 3 114)), (114, .inl (sx_iload 2 115)), (115, .inl (sx_ald false 116)), (116, .inr (.inl (136, 3, some (some 10), 7))), (119, .inl (sx_istore 4 121)), (121, .inl (sx_iload 4 123)), (123, .inl (sx_if (fun x => decide (x ≤ 0)) 129 126)), (126, .inl (sx_iload 4 128)), (128, .inr (.inr (some .int))), (129, .inl (sx_aload 0 130)), (130, .inl (sx_iload 2 131)), (131, .inr (.inl (138, 2, some (some 10), 5))), (134, .inl (sx_istore 2 135)), (135, .inl (sx_goto 42))]
/-- RowCodeModel.value()I -/
def mt_140 : List (Nat × mx_E) := [(0, .inl (sx_aload 0 1)), (1, .inl (sx_const (.int 0) 2)), (2, .inl (sx_putf 10 0 (.int) 5)), (5, .inl (sx_aload 0 6)), (6, .inl (sx_getf 10 6 9)), (9, .inr (.inr (some .int)))]
/-- RowCodeModel.fuel()I -/
def mt_141 : List (Nat × mx_E) := [(0, .inl (sx_aload 0 1)), (1, .inl (sx_const (.int 0) 2)), (2, .inl (sx_putf 10 0 (.int) 5)), (5, .inl (sx_aload 0 6)), (6, .inl (sx_getf 10 7 9)), (9, .inr (.inr (some .int)))]
/-- RowCodeModel.set(II)I -/
def mt_142 : List (Nat × mx_E) := [(0, .inl (sx_aload 0 1)), (1, .inl (sx_const (.int 0) 2)), (2, .inl (sx_putf 10 0 (.int) 5)), (5, .inl (sx_iload 1 6)), (6, .inl (sx_const (.int 0) 7)), (7, .inl (sx_const (.int 15) 9)), (9, .inr (.inl (120, 3, none, 3))), (12, .inl (sx_if (fun x => decide (¬ x = 0)) 17 15)), (15, .inl (sx_const (.int 0) 16)), (16, .inr (.inr (some .int))), (17, .inl (sx_aload 0 18)), (18, .inl (sx_getf 10 4 21)), (21, .inl (sx_iload 1 22)), (22, .inl (sx_ald false 23)), (23, .inl (sx_istore 3 24)), (24, .inl (sx_aload 0 25)), (25, .inl (sx_getf 10 4 28)), (28, .inl (sx_iload 1 29)), (29, .inl (sx_iload 2 30)), (30, .inl (sx_ast false 31)), (31, .inl (sx_iload 3 32)), (32, .inr (.inr (some .int)))]
/-- RowCodeModel.local(I)I -/
def mt_143 : List (Nat × mx_E) := [(0, .inl (sx_aload 0 1)), (1, .inl (sx_iload 1 2)), (2, .inl (sx_const (.int 0) 3)), (3, .inl (sx_const (.int 15) 5)), (5, .inr (.inl (120, 3, none, 3))), (8, .inl (sx_if (fun x => decide (x = 0)) 15 11)), (11, .inl (sx_const (.int 0) 12)), (12, .inl (sx_goto 16)), (15, .inl (sx_const (.int 1) 16)), (16, .inl (sx_putf 10 0 (.int) 19)), (19, .inl (sx_aload 0 20)), (20, .inl (sx_getf 10 0 23)), (23, .inl (sx_if (fun x => decide (¬ x = 0)) 35 26)), (26, .inl (sx_aload 0 27)), (27, .inl (sx_getf 10 4 30)), (30, .inl (sx_iload 1 31)), (31, .inl (sx_ald false 32)), (32, .inl (sx_goto 36)), (35, .inl (sx_const (.int 0) 36)), (36, .inr (.inr (some .int)))]
/-- RowCodeModel.put(II)I -/
def mt_144 : List (Nat × mx_E) := [(0, .inl (sx_aload 0 1)), (1, .inl (sx_const (.int 0) 2)), (2, .inl (sx_putf 10 0 (.int) 5)), (5, .inl (sx_iload 1 6)), (6, .inl (sx_const (.int 0) 7)), (7, .inl (sx_const (.int 63) 9)), (9, .inr (.inl (120, 3, none, 3))), (12, .inl (sx_if (fun x => decide (¬ x = 0)) 17 15)), (15, .inl (sx_const (.int 0) 16)), (16, .inr (.inr (some .int))), (17, .inl (sx_aload 0 18)), (18, .inl (sx_getf 10 5 21)), (21, .inl (sx_iload 1 22)), (22, .inl (sx_ald false 23)), (23, .inl (sx_istore 3 24)), (24, .inl (sx_aload 0 25)), (25, .inl (sx_getf 10 5 28)), (28, .inl (sx_iload 1 29)), (29, .inl (sx_iload 2 30)), (30, .inl (sx_ast false 31)), (31, .inl (sx_iload 3 32)), (32, .inr (.inr (some .int)))]
/-- RowCodeModel.word(I)I -/
def mt_145 : List (Nat × mx_E) := [(0, .inl (sx_aload 0 1)), (1, .inl (sx_iload 1 2)), (2, .inl (sx_const (.int 0) 3)), (3, .inl (sx_const (.int 63) 5)), (5, .inr (.inl (120, 3, none, 3))), (8, .inl (sx_if (fun x => decide (x = 0)) 15 11)), (11, .inl (sx_const (.int 0) 12)), (12, .inl (sx_goto 16)), (15, .inl (sx_const (.int 1) 16)), (16, .inl (sx_putf 10 0 (.int) 19)), (19, .inl (sx_aload 0 20)), (20, .inl (sx_getf 10 0 23)), (23, .inl (sx_if (fun x => decide (¬ x = 0)) 35 26)), (26, .inl (sx_aload 0 27)), (27, .inl (sx_getf 10 5 30)), (30, .inl (sx_iload 1 31)), (31, .inl (sx_ald false 32)), (32, .inl (sx_goto 36)), (35, .inl (sx_const (.int 0) 36)), (36, .inr (.inr (some .int)))]
def mx_tabs : List (List (Nat × mx_E)) := [mt_0, mt_1, mt_2, mt_3, mt_4, mt_5, mt_6, mt_7, mt_8, mt_9, mt_10, mt_11, mt_12, mt_13, mt_14, mt_15, mt_16, mt_17, mt_18, mt_19, mt_20, mt_21, mt_22, mt_23, mt_24, mt_25, mt_26, mt_27, mt_28, mt_29, mt_30, mt_31, mt_32, mt_33, mt_34, mt_35, mt_36, mt_37, mt_38, mt_39, mt_40, mt_41, mt_42, mt_43, mt_44, mt_45, mt_46, mt_47, mt_48, mt_49, mt_50, mt_51, mt_52, mt_53, mt_54, mt_55, mt_56, mt_57, mt_58, mt_59, mt_60, mt_61, mt_62, mt_63, mt_64, mt_65, mt_66, mt_67, mt_68, mt_69, mt_70, mt_71, mt_72, mt_73, mt_74, mt_75, mt_76, mt_77, mt_78, mt_79, mt_80, mt_81, mt_82, mt_83, mt_84, mt_85, mt_86, mt_87, mt_88, mt_89, mt_90, mt_91, mt_92, mt_93, mt_94, mt_95, mt_96, mt_97, mt_98, mt_99, mt_100, mt_101, mt_102, mt_103, mt_104, mt_105, mt_106, mt_107, mt_108, mt_109, mt_110, mt_111, mt_112, mt_113, mt_114, mt_115, mt_116, mt_117, mt_118, mt_119, mt_120, mt_121, mt_122, mt_123, mt_124, mt_125, mt_126, mt_127, mt_128, mt_129, mt_130, mt_131, mt_132, mt_133, mt_134, mt_135, mt_136, mt_137, mt_138, mt_139, mt_140, mt_141, mt_142, mt_143, mt_144, mt_145]
def mx_find : List (Nat × mx_E) → Nat → Option mx_E
  | [], _ => none
  | q :: r, pc => if q.1 = pc then some q.2 else mx_find r pc
def mx_M (mi pc : Nat) : Option mx_E := match mx_tabs[mi]? with
  | some t => mx_find t pc
  | none => none
end
section
set_option maxRecDepth 20000 in
theorem ok_0 : ∀ q ∈ mt_0, mx_ok mx_I0 i_0 q.1 q.2 := by
  refine List.forall_mem_cons.mpr ⟨sn_iload_n (k := 1) (by decide +kernel), ?_⟩
  refine List.forall_mem_cons.mpr ⟨sn_aload_n (k := 0) (by decide +kernel), ?_⟩
  refine List.forall_mem_cons.mpr ⟨sn_alen (by decide +kernel), ?_⟩
  refine List.forall_mem_cons.mpr ⟨sn_icmp_ne (off := 11) (by decide +kernel) (by decide), ?_⟩
  refine List.forall_mem_cons.mpr ⟨sn_aload_n (k := 0) (by decide +kernel), ?_⟩
  refine List.forall_mem_cons.mpr ⟨⟨rfl, (by decide +kernel : decode prog_20_method_123_code 13 = .ok (.areturn, 1))⟩, ?_⟩
  refine List.forall_mem_cons.mpr ⟨sn_iload_n (k := 1) (by decide +kernel), ?_⟩
  refine List.forall_mem_cons.mpr ⟨sn_newi (by decide +kernel) tw_111, ?_⟩
  refine List.forall_mem_cons.mpr ⟨sn_astore_n (k := 2) (by decide +kernel) (by decide), ?_⟩
  refine List.forall_mem_cons.mpr ⟨sn_aload_n (k := 0) (by decide +kernel), ?_⟩
  refine List.forall_mem_cons.mpr ⟨sn_iconst (k := 0) (by decide +kernel) (by decide), ?_⟩
  refine List.forall_mem_cons.mpr ⟨sn_aload_n (k := 2) (by decide +kernel), ?_⟩
  refine List.forall_mem_cons.mpr ⟨sn_iconst (k := 0) (by decide +kernel) (by decide), ?_⟩
  refine List.forall_mem_cons.mpr ⟨sn_aload_n (k := 0) (by decide +kernel), ?_⟩
  refine List.forall_mem_cons.mpr ⟨sn_alen (by decide +kernel), ?_⟩
  refine List.forall_mem_cons.mpr ⟨sn_iload_n (k := 1) (by decide +kernel), ?_⟩
  refine List.forall_mem_cons.mpr ⟨sn_min (by decide +kernel) tw_253 tw_254 tw_76 tw_255 (by decide) (by decide), ?_⟩
  refine List.forall_mem_cons.mpr ⟨sn_copy (by decide +kernel) tw_256 tw_258 tw_257 tw_77 (by decide) (by decide), ?_⟩
  refine List.forall_mem_cons.mpr ⟨sn_aload_n (k := 2) (by decide +kernel), ?_⟩
  refine List.forall_mem_cons.mpr ⟨⟨rfl, (by decide +kernel : decode prog_20_method_123_code 32 = .ok (.areturn, 1))⟩, ?_⟩
  exact fun _ h => absurd h List.not_mem_nil
set_option maxRecDepth 20000 in
theorem ok_1 : ∀ q ∈ mt_1, mx_ok mx_I0 i_1 q.1 q.2 := by
  refine List.forall_mem_cons.mpr ⟨sn_aload_n (k := 0) (by decide +kernel), ?_⟩
  refine List.forall_mem_cons.mpr ⟨sn_obj (by decide +kernel) tw_103 tw_90 tw_oi (by decide) (by decide), ?_⟩
  refine List.forall_mem_cons.mpr ⟨sn_aload_n (k := 0) (by decide +kernel), ?_⟩
  refine List.forall_mem_cons.mpr ⟨sn_bipush (k := 16) (by decide +kernel) (by decide), ?_⟩
  refine List.forall_mem_cons.mpr ⟨sn_newi (by decide +kernel) tw_111, ?_⟩
  refine List.forall_mem_cons.mpr ⟨sn_putf tyX6 (by decide +kernel) rfl tbX6 tyX6_ok nmX6 (by decide) tw_104 (Or.inl rfl) rfl, ?_⟩
  refine List.forall_mem_cons.mpr ⟨⟨rfl, (by decide +kernel : decode prog_8_method_1_code 12 = .ok (.return_, 1))⟩, ?_⟩
  exact fun _ h => absurd h List.not_mem_nil
set_option maxRecDepth 20000 in
theorem ok_2 : ∀ q ∈ mt_2, mx_ok mx_I0 i_2 q.1 q.2 := by
  refine List.forall_mem_cons.mpr ⟨sn_aload_n (k := 0) (by decide +kernel), ?_⟩
  refine List.forall_mem_cons.mpr ⟨sn_getf (by decide +kernel) rfl tbX6 (by decide) tw_105, ?_⟩
  refine List.forall_mem_cons.mpr ⟨⟨rfl, (by decide +kernel : decode prog_8_method_2_code 4 = .ok (.ireturn, 1))⟩, ?_⟩
  exact fun _ h => absurd h List.not_mem_nil
set_option maxRecDepth 20000 in
theorem ok_3 : ∀ q ∈ mt_3, mx_ok mx_I0 i_3 q.1 q.2 := by
  refine List.forall_mem_cons.mpr ⟨sn_iload_n (k := 1) (by decide +kernel), ?_⟩
  refine List.forall_mem_cons.mpr ⟨sn_if_lt (off := 20) (by decide +kernel) (by decide), ?_⟩
  refine List.forall_mem_cons.mpr ⟨sn_iload_n (k := 1) (by decide +kernel), ?_⟩
  refine List.forall_mem_cons.mpr ⟨sn_aload_n (k := 0) (by decide +kernel), ?_⟩
  refine List.forall_mem_cons.mpr ⟨sn_getf (by decide +kernel) rfl tbX6 (by decide) tw_105, ?_⟩
  refine List.forall_mem_cons.mpr ⟨sn_icmp_ge (off := 12) (by decide +kernel) (by decide), ?_⟩
  refine List.forall_mem_cons.mpr ⟨sn_aload_n (k := 0) (by decide +kernel), ?_⟩
  refine List.forall_mem_cons.mpr ⟨sn_getf (by decide +kernel) rfl tbX6 (by decide) tw_104, ?_⟩
  refine List.forall_mem_cons.mpr ⟨sn_iload_n (k := 1) (by decide +kernel), ?_⟩
  refine List.forall_mem_cons.mpr ⟨sn_iald (by decide +kernel), ?_⟩
  refine List.forall_mem_cons.mpr ⟨sn_goto (off := 4) (by decide +kernel) (by decide), ?_⟩
  refine List.forall_mem_cons.mpr ⟨sn_iconst (k := (-1)) (by decide +kernel) (by decide), ?_⟩
  refine List.forall_mem_cons.mpr ⟨⟨rfl, (by decide +kernel : decode prog_8_method_3_code 22 = .ok (.ireturn, 1))⟩, ?_⟩
  exact fun _ h => absurd h List.not_mem_nil
set_option maxRecDepth 20000 in
theorem ok_4 : ∀ q ∈ mt_4, mx_ok mx_I0 i_4 q.1 q.2 := by
  refine List.forall_mem_cons.mpr ⟨sn_iload_n (k := 1) (by decide +kernel), ?_⟩
  refine List.forall_mem_cons.mpr ⟨sn_if_lt (off := 18) (by decide +kernel) (by decide), ?_⟩
  refine List.forall_mem_cons.mpr ⟨sn_iload_n (k := 1) (by decide +kernel), ?_⟩
  refine List.forall_mem_cons.mpr ⟨sn_aload_n (k := 0) (by decide +kernel), ?_⟩
  refine List.forall_mem_cons.mpr ⟨sn_getf (by decide +kernel) rfl tbX6 (by decide) tw_105, ?_⟩
  refine List.forall_mem_cons.mpr ⟨sn_icmp_ge (off := 10) (by decide +kernel) (by decide), ?_⟩
  refine List.forall_mem_cons.mpr ⟨sn_aload_n (k := 0) (by decide +kernel), ?_⟩
  refine List.forall_mem_cons.mpr ⟨sn_getf (by decide +kernel) rfl tbX6 (by decide) tw_104, ?_⟩
  refine List.forall_mem_cons.mpr ⟨sn_iload_n (k := 1) (by decide +kernel), ?_⟩
  refine List.forall_mem_cons.mpr ⟨sn_iload_n (k := 2) (by decide +kernel), ?_⟩
  refine List.forall_mem_cons.mpr ⟨sn_iast (by decide +kernel), ?_⟩
  refine List.forall_mem_cons.mpr ⟨⟨rfl, (by decide +kernel : decode prog_8_method_4_code 19 = .ok (.return_, 1))⟩, ?_⟩
  exact fun _ h => absurd h List.not_mem_nil
set_option maxRecDepth 20000 in
theorem ok_5 : ∀ q ∈ mt_5, mx_ok mx_I0 i_5 q.1 q.2 := by
  refine List.forall_mem_cons.mpr ⟨sn_aload_n (k := 0) (by decide +kernel), ?_⟩
  refine List.forall_mem_cons.mpr ⟨sn_getf (by decide +kernel) rfl tbX6 (by decide) tw_105, ?_⟩
  refine List.forall_mem_cons.mpr ⟨sn_aload_n (k := 0) (by decide +kernel), ?_⟩
  refine List.forall_mem_cons.mpr ⟨sn_getf (by decide +kernel) rfl tbX6 (by decide) tw_104, ?_⟩
  refine List.forall_mem_cons.mpr ⟨sn_alen (by decide +kernel), ?_⟩
  refine List.forall_mem_cons.mpr ⟨sn_icmp_lt (off := 21) (by decide +kernel) (by decide), ?_⟩
  refine List.forall_mem_cons.mpr ⟨sn_aload_n (k := 0) (by decide +kernel), ?_⟩
  refine List.forall_mem_cons.mpr ⟨sn_aload_n (k := 0) (by decide +kernel), ?_⟩
  refine List.forall_mem_cons.mpr ⟨sn_getf (by decide +kernel) rfl tbX6 (by decide) tw_104, ?_⟩
  refine List.forall_mem_cons.mpr ⟨sn_iconst (k := 2) (by decide +kernel) (by decide), ?_⟩
  refine List.forall_mem_cons.mpr ⟨sn_aload_n (k := 0) (by decide +kernel), ?_⟩
  refine List.forall_mem_cons.mpr ⟨sn_getf (by decide +kernel) rfl tbX6 (by decide) tw_104, ?_⟩
  refine List.forall_mem_cons.mpr ⟨sn_alen (by decide +kernel), ?_⟩
  refine List.forall_mem_cons.mpr ⟨sn_imul (by decide +kernel), ?_⟩
  refine List.forall_mem_cons.mpr ⟨⟨i_0, rfl, mk_callS (by decide) (by decide) cs_0 (Or.inl tw_243) (by decide +kernel)⟩, ?_⟩
  refine List.forall_mem_cons.mpr ⟨sn_putf tyX6 (by decide +kernel) rfl tbX6 tyX6_ok nmX6 (by decide) tw_104 (Or.inl rfl) rfl, ?_⟩
  refine List.forall_mem_cons.mpr ⟨sn_aload_n (k := 0) (by decide +kernel), ?_⟩
  refine List.forall_mem_cons.mpr ⟨sn_getf (by decide +kernel) rfl tbX6 (by decide) tw_104, ?_⟩
  refine List.forall_mem_cons.mpr ⟨sn_aload_n (k := 0) (by decide +kernel), ?_⟩
  refine List.forall_mem_cons.mpr ⟨sn_getf (by decide +kernel) rfl tbX6 (by decide) tw_105, ?_⟩
  refine List.forall_mem_cons.mpr ⟨sn_iload_n (k := 1) (by decide +kernel), ?_⟩
  refine List.forall_mem_cons.mpr ⟨sn_iast (by decide +kernel), ?_⟩
  refine List.forall_mem_cons.mpr ⟨sn_aload_n (k := 0) (by decide +kernel), ?_⟩
  refine List.forall_mem_cons.mpr ⟨sn_dup (by decide +kernel), ?_⟩
  refine List.forall_mem_cons.mpr ⟨sn_getf (by decide +kernel) rfl tbX6 (by decide) tw_105, ?_⟩
  refine List.forall_mem_cons.mpr ⟨sn_iconst (k := 1) (by decide +kernel) (by decide), ?_⟩
  refine List.forall_mem_cons.mpr ⟨sn_iadd (by decide +kernel), ?_⟩
  refine List.forall_mem_cons.mpr ⟨sn_putf tyX6 (by decide +kernel) rfl tbX6 tyX6_ok nmX6 (by decide) tw_105 (Or.inl rfl) rfl, ?_⟩
  refine List.forall_mem_cons.mpr ⟨⟨rfl, (by decide +kernel : decode prog_8_method_5_code 50 = .ok (.return_, 1))⟩, ?_⟩
  exact fun _ h => absurd h List.not_mem_nil
set_option maxRecDepth 20000 in
theorem ok_6 : ∀ q ∈ mt_6, mx_ok mx_I0 i_6 q.1 q.2 := by
  refine List.forall_mem_cons.mpr ⟨sn_aload_n (k := 0) (by decide +kernel), ?_⟩
  refine List.forall_mem_cons.mpr ⟨sn_getf (by decide +kernel) rfl tbX6 (by decide) tw_105, ?_⟩
  refine List.forall_mem_cons.mpr ⟨sn_if_gt (off := 5) (by decide +kernel) (by decide), ?_⟩
  refine List.forall_mem_cons.mpr ⟨sn_iconst (k := (-1)) (by decide +kernel) (by decide), ?_⟩
  refine List.forall_mem_cons.mpr ⟨⟨rfl, (by decide +kernel : decode prog_8_method_6_code 8 = .ok (.ireturn, 1))⟩, ?_⟩
  refine List.forall_mem_cons.mpr ⟨sn_aload_n (k := 0) (by decide +kernel), ?_⟩
  refine List.forall_mem_cons.mpr ⟨sn_dup (by decide +kernel), ?_⟩
  refine List.forall_mem_cons.mpr ⟨sn_getf (by decide +kernel) rfl tbX6 (by decide) tw_105, ?_⟩
  refine List.forall_mem_cons.mpr ⟨sn_iconst (k := 1) (by decide +kernel) (by decide), ?_⟩
  refine List.forall_mem_cons.mpr ⟨sn_isub (by decide +kernel), ?_⟩
  refine List.forall_mem_cons.mpr ⟨sn_putf tyX6 (by decide +kernel) rfl tbX6 tyX6_ok nmX6 (by decide) tw_105 (Or.inl rfl) rfl, ?_⟩
  refine List.forall_mem_cons.mpr ⟨sn_aload_n (k := 0) (by decide +kernel), ?_⟩
  refine List.forall_mem_cons.mpr ⟨sn_getf (by decide +kernel) rfl tbX6 (by decide) tw_104, ?_⟩
  refine List.forall_mem_cons.mpr ⟨sn_aload_n (k := 0) (by decide +kernel), ?_⟩
  refine List.forall_mem_cons.mpr ⟨sn_getf (by decide +kernel) rfl tbX6 (by decide) tw_105, ?_⟩
  refine List.forall_mem_cons.mpr ⟨sn_iald (by decide +kernel), ?_⟩
  refine List.forall_mem_cons.mpr ⟨⟨rfl, (by decide +kernel : decode prog_8_method_6_code 28 = .ok (.ireturn, 1))⟩, ?_⟩
  exact fun _ h => absurd h List.not_mem_nil
set_option maxRecDepth 20000 in
theorem ok_7 : ∀ q ∈ mt_7, mx_ok mx_I0 i_7 q.1 q.2 := by
  refine List.forall_mem_cons.mpr ⟨sn_iload_n (k := 1) (by decide +kernel), ?_⟩
  refine List.forall_mem_cons.mpr ⟨sn_aload_n (k := 0) (by decide +kernel), ?_⟩
  refine List.forall_mem_cons.mpr ⟨sn_getf (by decide +kernel) rfl tbX6 (by decide) tw_105, ?_⟩
  refine List.forall_mem_cons.mpr ⟨sn_icmp_ge (off := 16) (by decide +kernel) (by decide), ?_⟩
  refine List.forall_mem_cons.mpr ⟨sn_aload_n (k := 0) (by decide +kernel), ?_⟩
  refine List.forall_mem_cons.mpr ⟨sn_iload_n (k := 1) (by decide +kernel), ?_⟩
  refine List.forall_mem_cons.mpr ⟨sn_if_ge (off := 7) (by decide +kernel) (by decide), ?_⟩
  refine List.forall_mem_cons.mpr ⟨sn_iconst (k := 0) (by decide +kernel) (by decide), ?_⟩
  refine List.forall_mem_cons.mpr ⟨sn_goto (off := 4) (by decide +kernel) (by decide), ?_⟩
  refine List.forall_mem_cons.mpr ⟨sn_iload_n (k := 1) (by decide +kernel), ?_⟩
  refine List.forall_mem_cons.mpr ⟨sn_putf tyX6 (by decide +kernel) rfl tbX6 tyX6_ok nmX6 (by decide) tw_105 (Or.inl rfl) rfl, ?_⟩
  refine List.forall_mem_cons.mpr ⟨⟨rfl, (by decide +kernel : decode prog_8_method_7_code 21 = .ok (.return_, 1))⟩, ?_⟩
  exact fun _ h => absurd h List.not_mem_nil
set_option maxRecDepth 20000 in
theorem ok_8 : ∀ q ∈ mt_8, mx_ok mx_I0 i_8 q.1 q.2 := by
  refine List.forall_mem_cons.mpr ⟨sn_aload_n (k := 0) (by decide +kernel), ?_⟩
  refine List.forall_mem_cons.mpr ⟨sn_iconst (k := 0) (by decide +kernel) (by decide), ?_⟩
  refine List.forall_mem_cons.mpr ⟨sn_putf tyX6 (by decide +kernel) rfl tbX6 tyX6_ok nmX6 (by decide) tw_105 (Or.inl rfl) rfl, ?_⟩
  refine List.forall_mem_cons.mpr ⟨sn_iconst (k := 0) (by decide +kernel) (by decide), ?_⟩
  refine List.forall_mem_cons.mpr ⟨sn_istore_n (k := 3) (by decide +kernel) (by decide), ?_⟩
  refine List.forall_mem_cons.mpr ⟨sn_iload_n (k := 3) (by decide +kernel), ?_⟩
  refine List.forall_mem_cons.mpr ⟨sn_iload_n (k := 1) (by decide +kernel), ?_⟩
  refine List.forall_mem_cons.mpr ⟨sn_icmp_ge (off := 14) (by decide +kernel) (by decide), ?_⟩
  refine List.forall_mem_cons.mpr ⟨sn_aload_n (k := 0) (by decide +kernel), ?_⟩
  refine List.forall_mem_cons.mpr ⟨sn_iload_n (k := 2) (by decide +kernel), ?_⟩
  refine List.forall_mem_cons.mpr ⟨⟨i_5, rfl, mk_callV (by decide) (by decide) cv_5 (Or.inl tw_239) rfl (by decide +kernel)⟩, ?_⟩
  refine List.forall_mem_cons.mpr ⟨sn_iinc (d := 1) (by decide +kernel) (by decide) (by decide), ?_⟩
  refine List.forall_mem_cons.mpr ⟨sn_goto (off := (-13)) (by decide +kernel) (by decide), ?_⟩
  refine List.forall_mem_cons.mpr ⟨⟨rfl, (by decide +kernel : decode prog_8_method_8_code 23 = .ok (.return_, 1))⟩, ?_⟩
  exact fun _ h => absurd h List.not_mem_nil
set_option maxRecDepth 20000 in
theorem ok_9 : ∀ q ∈ mt_9, mx_ok mx_I0 i_9 q.1 q.2 := by
  refine List.forall_mem_cons.mpr ⟨sn_iload_n (k := 0) (by decide +kernel), ?_⟩
  refine List.forall_mem_cons.mpr ⟨sn_iconst (k := 3) (by decide +kernel) (by decide), ?_⟩
  refine List.forall_mem_cons.mpr ⟨sn_icmp_eq (off := 8) (by decide +kernel) (by decide), ?_⟩
  refine List.forall_mem_cons.mpr ⟨sn_iload_n (k := 0) (by decide +kernel), ?_⟩
  refine List.forall_mem_cons.mpr ⟨sn_iconst (k := 4) (by decide +kernel) (by decide), ?_⟩
  refine List.forall_mem_cons.mpr ⟨sn_icmp_ne (off := 7) (by decide +kernel) (by decide), ?_⟩
  refine List.forall_mem_cons.mpr ⟨sn_iconst (k := 1) (by decide +kernel) (by decide), ?_⟩
  refine List.forall_mem_cons.mpr ⟨sn_goto (off := 4) (by decide +kernel) (by decide), ?_⟩
  refine List.forall_mem_cons.mpr ⟨sn_iconst (k := 0) (by decide +kernel) (by decide), ?_⟩
  refine List.forall_mem_cons.mpr ⟨⟨rfl, (by decide +kernel : decode prog_2_method_2_code 15 = .ok (.ireturn, 1))⟩, ?_⟩
  exact fun _ h => absurd h List.not_mem_nil
set_option maxRecDepth 20000 in
theorem ok_10 : ∀ q ∈ mt_10, mx_ok mx_I0 i_10 q.1 q.2 := by
  refine List.forall_mem_cons.mpr ⟨sn_iload_n (k := 0) (by decide +kernel), ?_⟩
  refine List.forall_mem_cons.mpr ⟨sn_table (df := 127) (offs := #[55, 59, 63, 67, 79, 91, 95, 99, 105, 109]) (len := 55) (by decide +kernel) (by decide) (by decide), ?_⟩
  refine List.forall_mem_cons.mpr ⟨sn_iload_n (k := 1) (by decide +kernel), ?_⟩
  refine List.forall_mem_cons.mpr ⟨sn_iload_n (k := 2) (by decide +kernel), ?_⟩
  refine List.forall_mem_cons.mpr ⟨sn_iadd (by decide +kernel), ?_⟩
  refine List.forall_mem_cons.mpr ⟨⟨rfl, (by decide +kernel : decode prog_2_method_3_code 59 = .ok (.ireturn, 1))⟩, ?_⟩
  refine List.forall_mem_cons.mpr ⟨sn_iload_n (k := 1) (by decide +kernel), ?_⟩
  refine List.forall_mem_cons.mpr ⟨sn_iload_n (k := 2) (by decide +kernel), ?_⟩
  refine List.forall_mem_cons.mpr ⟨sn_isub (by decide +kernel), ?_⟩
  refine List.forall_mem_cons.mpr ⟨⟨rfl, (by decide +kernel : decode prog_2_method_3_code 63 = .ok (.ireturn, 1))⟩, ?_⟩
  refine List.forall_mem_cons.mpr ⟨sn_iload_n (k := 1) (by decide +kernel), ?_⟩
  refine List.forall_mem_cons.mpr ⟨sn_iload_n (k := 2) (by decide +kernel), ?_⟩
  refine List.forall_mem_cons.mpr ⟨sn_imul (by decide +kernel), ?_⟩
  refine List.forall_mem_cons.mpr ⟨⟨rfl, (by decide +kernel : decode prog_2_method_3_code 67 = .ok (.ireturn, 1))⟩, ?_⟩
  refine List.forall_mem_cons.mpr ⟨sn_iload_n (k := 2) (by decide +kernel), ?_⟩
  refine List.forall_mem_cons.mpr ⟨sn_if_ne (off := 7) (by decide +kernel) (by decide), ?_⟩
  refine List.forall_mem_cons.mpr ⟨sn_iconst (k := 0) (by decide +kernel) (by decide), ?_⟩
  refine List.forall_mem_cons.mpr ⟨sn_goto (off := 6) (by decide +kernel) (by decide), ?_⟩
  refine List.forall_mem_cons.mpr ⟨sn_iload_n (k := 1) (by decide +kernel), ?_⟩
  refine List.forall_mem_cons.mpr ⟨sn_iload_n (k := 2) (by decide +kernel), ?_⟩
  refine List.forall_mem_cons.mpr ⟨sn_idiv (by decide +kernel), ?_⟩
  refine List.forall_mem_cons.mpr ⟨⟨rfl, (by decide +kernel : decode prog_2_method_3_code 79 = .ok (.ireturn, 1))⟩, ?_⟩
  refine List.forall_mem_cons.mpr ⟨sn_iload_n (k := 2) (by decide +kernel), ?_⟩
  refine List.forall_mem_cons.mpr ⟨sn_if_ne (off := 7) (by decide +kernel) (by decide), ?_⟩
  refine List.forall_mem_cons.mpr ⟨sn_iconst (k := 0) (by decide +kernel) (by decide), ?_⟩
  refine List.forall_mem_cons.mpr ⟨sn_goto (off := 6) (by decide +kernel) (by decide), ?_⟩
  refine List.forall_mem_cons.mpr ⟨sn_iload_n (k := 1) (by decide +kernel), ?_⟩
  refine List.forall_mem_cons.mpr ⟨sn_iload_n (k := 2) (by decide +kernel), ?_⟩
  refine List.forall_mem_cons.mpr ⟨sn_irem (by decide +kernel), ?_⟩
  refine List.forall_mem_cons.mpr ⟨⟨rfl, (by decide +kernel : decode prog_2_method_3_code 91 = .ok (.ireturn, 1))⟩, ?_⟩
  refine List.forall_mem_cons.mpr ⟨sn_iload_n (k := 1) (by decide +kernel), ?_⟩
  refine List.forall_mem_cons.mpr ⟨sn_iload_n (k := 2) (by decide +kernel), ?_⟩
  refine List.forall_mem_cons.mpr ⟨sn_iand (by decide +kernel), ?_⟩
  refine List.forall_mem_cons.mpr ⟨⟨rfl, (by decide +kernel : decode prog_2_method_3_code 95 = .ok (.ireturn, 1))⟩, ?_⟩
  refine List.forall_mem_cons.mpr ⟨sn_iload_n (k := 1) (by decide +kernel), ?_⟩
  refine List.forall_mem_cons.mpr ⟨sn_iload_n (k := 2) (by decide +kernel), ?_⟩
  refine List.forall_mem_cons.mpr ⟨sn_ior (by decide +kernel), ?_⟩
  refine List.forall_mem_cons.mpr ⟨⟨rfl, (by decide +kernel : decode prog_2_method_3_code 99 = .ok (.ireturn, 1))⟩, ?_⟩
  refine List.forall_mem_cons.mpr ⟨sn_iload_n (k := 1) (by decide +kernel), ?_⟩
  refine List.forall_mem_cons.mpr ⟨sn_iload_n (k := 2) (by decide +kernel), ?_⟩
  refine List.forall_mem_cons.mpr ⟨sn_ixor (by decide +kernel), ?_⟩
  refine List.forall_mem_cons.mpr ⟨sn_iconst (k := (-1)) (by decide +kernel) (by decide), ?_⟩
  refine List.forall_mem_cons.mpr ⟨sn_ixor (by decide +kernel), ?_⟩
  refine List.forall_mem_cons.mpr ⟨⟨rfl, (by decide +kernel : decode prog_2_method_3_code 105 = .ok (.ireturn, 1))⟩, ?_⟩
  refine List.forall_mem_cons.mpr ⟨sn_iload_n (k := 1) (by decide +kernel), ?_⟩
  refine List.forall_mem_cons.mpr ⟨sn_iload_n (k := 2) (by decide +kernel), ?_⟩
  refine List.forall_mem_cons.mpr ⟨sn_ixor (by decide +kernel), ?_⟩
  refine List.forall_mem_cons.mpr ⟨⟨rfl, (by decide +kernel : decode prog_2_method_3_code 109 = .ok (.ireturn, 1))⟩, ?_⟩
  refine List.forall_mem_cons.mpr ⟨sn_iload_n (k := 2) (by decide +kernel), ?_⟩
  refine List.forall_mem_cons.mpr ⟨sn_if_lt (off := 9) (by decide +kernel) (by decide), ?_⟩
  refine List.forall_mem_cons.mpr ⟨sn_iload_n (k := 2) (by decide +kernel), ?_⟩
  refine List.forall_mem_cons.mpr ⟨sn_bipush (k := 31) (by decide +kernel) (by decide), ?_⟩
  refine List.forall_mem_cons.mpr ⟨sn_icmp_le (off := 7) (by decide +kernel) (by decide), ?_⟩
  refine List.forall_mem_cons.mpr ⟨sn_iconst (k := 0) (by decide +kernel) (by decide), ?_⟩
  refine List.forall_mem_cons.mpr ⟨sn_goto (off := 6) (by decide +kernel) (by decide), ?_⟩
  refine List.forall_mem_cons.mpr ⟨sn_iload_n (k := 1) (by decide +kernel), ?_⟩
  refine List.forall_mem_cons.mpr ⟨sn_iload_n (k := 2) (by decide +kernel), ?_⟩
  refine List.forall_mem_cons.mpr ⟨sn_ishl (by decide +kernel), ?_⟩
  refine List.forall_mem_cons.mpr ⟨⟨rfl, (by decide +kernel : decode prog_2_method_3_code 127 = .ok (.ireturn, 1))⟩, ?_⟩
  refine List.forall_mem_cons.mpr ⟨sn_iload_n (k := 2) (by decide +kernel), ?_⟩
  refine List.forall_mem_cons.mpr ⟨sn_if_lt (off := 9) (by decide +kernel) (by decide), ?_⟩
  refine List.forall_mem_cons.mpr ⟨sn_iload_n (k := 2) (by decide +kernel), ?_⟩
  refine List.forall_mem_cons.mpr ⟨sn_bipush (k := 31) (by decide +kernel) (by decide), ?_⟩
  refine List.forall_mem_cons.mpr ⟨sn_icmp_le (off := 7) (by decide +kernel) (by decide), ?_⟩
  refine List.forall_mem_cons.mpr ⟨sn_iconst (k := 0) (by decide +kernel) (by decide), ?_⟩
  refine List.forall_mem_cons.mpr ⟨sn_goto (off := 6) (by decide +kernel) (by decide), ?_⟩
  refine List.forall_mem_cons.mpr ⟨sn_iload_n (k := 1) (by decide +kernel), ?_⟩
  refine List.forall_mem_cons.mpr ⟨sn_iload_n (k := 2) (by decide +kernel), ?_⟩
  refine List.forall_mem_cons.mpr ⟨sn_iushr (by decide +kernel), ?_⟩
  refine List.forall_mem_cons.mpr ⟨⟨rfl, (by decide +kernel : decode prog_2_method_3_code 145 = .ok (.ireturn, 1))⟩, ?_⟩
  exact fun _ h => absurd h List.not_mem_nil
set_option maxRecDepth 20000 in
theorem ok_11 : ∀ q ∈ mt_11, mx_ok mx_I0 i_11 q.1 q.2 := by
  refine List.forall_mem_cons.mpr ⟨sn_iload_n (k := 0) (by decide +kernel), ?_⟩
  refine List.forall_mem_cons.mpr ⟨sn_if_eq (off := 19) (by decide +kernel) (by decide), ?_⟩
  refine List.forall_mem_cons.mpr ⟨sn_iload_n (k := 0) (by decide +kernel), ?_⟩
  refine List.forall_mem_cons.mpr ⟨sn_iconst (k := 2) (by decide +kernel) (by decide), ?_⟩
  refine List.forall_mem_cons.mpr ⟨sn_icmp_eq (off := 14) (by decide +kernel) (by decide), ?_⟩
  refine List.forall_mem_cons.mpr ⟨sn_iload_n (k := 0) (by decide +kernel), ?_⟩
  refine List.forall_mem_cons.mpr ⟨sn_iconst (k := 5) (by decide +kernel) (by decide), ?_⟩
  refine List.forall_mem_cons.mpr ⟨sn_icmp_lt (off := 13) (by decide +kernel) (by decide), ?_⟩
  refine List.forall_mem_cons.mpr ⟨sn_iload_n (k := 0) (by decide +kernel), ?_⟩
  refine List.forall_mem_cons.mpr ⟨sn_bipush (k := 8) (by decide +kernel) (by decide), ?_⟩
  refine List.forall_mem_cons.mpr ⟨sn_icmp_gt (off := 7) (by decide +kernel) (by decide), ?_⟩
  refine List.forall_mem_cons.mpr ⟨sn_iconst (k := 1) (by decide +kernel) (by decide), ?_⟩
  refine List.forall_mem_cons.mpr ⟨sn_goto (off := 4) (by decide +kernel) (by decide), ?_⟩
  refine List.forall_mem_cons.mpr ⟨sn_iconst (k := 0) (by decide +kernel) (by decide), ?_⟩
  refine List.forall_mem_cons.mpr ⟨⟨rfl, (by decide +kernel : decode prog_2_method_4_code 25 = .ok (.ireturn, 1))⟩, ?_⟩
  exact fun _ h => absurd h List.not_mem_nil
set_option maxRecDepth 20000 in
theorem ok_12 : ∀ q ∈ mt_12, mx_ok mx_I0 i_12 q.1 q.2 := by
  refine List.forall_mem_cons.mpr ⟨sn_iload_n (k := 0) (by decide +kernel), ?_⟩
  refine List.forall_mem_cons.mpr ⟨sn_table (df := 63) (offs := #[39, 39, 50, 52, 63, 52]) (len := 39) (by decide +kernel) (by decide) (by decide), ?_⟩
  refine List.forall_mem_cons.mpr ⟨sn_iload_n (k := 1) (by decide +kernel), ?_⟩
  refine List.forall_mem_cons.mpr ⟨sn_iconst (k := 1) (by decide +kernel) (by decide), ?_⟩
  refine List.forall_mem_cons.mpr ⟨sn_icmp_ne (off := 7) (by decide +kernel) (by decide), ?_⟩
  refine List.forall_mem_cons.mpr ⟨sn_iconst (k := 1) (by decide +kernel) (by decide), ?_⟩
  refine List.forall_mem_cons.mpr ⟨sn_goto (off := 4) (by decide +kernel) (by decide), ?_⟩
  refine List.forall_mem_cons.mpr ⟨sn_iconst (k := 0) (by decide +kernel) (by decide), ?_⟩
  refine List.forall_mem_cons.mpr ⟨⟨rfl, (by decide +kernel : decode prog_2_method_5_code 50 = .ok (.ireturn, 1))⟩, ?_⟩
  refine List.forall_mem_cons.mpr ⟨sn_iconst (k := 0) (by decide +kernel) (by decide), ?_⟩
  refine List.forall_mem_cons.mpr ⟨⟨rfl, (by decide +kernel : decode prog_2_method_5_code 52 = .ok (.ireturn, 1))⟩, ?_⟩
  refine List.forall_mem_cons.mpr ⟨sn_iload_n (k := 1) (by decide +kernel), ?_⟩
  refine List.forall_mem_cons.mpr ⟨sn_iconst (k := (-1)) (by decide +kernel) (by decide), ?_⟩
  refine List.forall_mem_cons.mpr ⟨sn_icmp_ne (off := 7) (by decide +kernel) (by decide), ?_⟩
  refine List.forall_mem_cons.mpr ⟨sn_iconst (k := 1) (by decide +kernel) (by decide), ?_⟩
  refine List.forall_mem_cons.mpr ⟨sn_goto (off := 4) (by decide +kernel) (by decide), ?_⟩
  refine List.forall_mem_cons.mpr ⟨sn_iconst (k := 0) (by decide +kernel) (by decide), ?_⟩
  refine List.forall_mem_cons.mpr ⟨⟨rfl, (by decide +kernel : decode prog_2_method_5_code 63 = .ok (.ireturn, 1))⟩, ?_⟩
  refine List.forall_mem_cons.mpr ⟨sn_iload_n (k := 1) (by decide +kernel), ?_⟩
  refine List.forall_mem_cons.mpr ⟨sn_if_ne (off := 7) (by decide +kernel) (by decide), ?_⟩
  refine List.forall_mem_cons.mpr ⟨sn_iconst (k := 1) (by decide +kernel) (by decide), ?_⟩
  refine List.forall_mem_cons.mpr ⟨sn_goto (off := 4) (by decide +kernel) (by decide), ?_⟩
  refine List.forall_mem_cons.mpr ⟨sn_iconst (k := 0) (by decide +kernel) (by decide), ?_⟩
  refine List.forall_mem_cons.mpr ⟨⟨rfl, (by decide +kernel : decode prog_2_method_5_code 73 = .ok (.ireturn, 1))⟩, ?_⟩
  exact fun _ h => absurd h List.not_mem_nil
set_option maxRecDepth 20000 in
theorem ok_13 : ∀ q ∈ mt_13, mx_ok mx_I0 i_13 q.1 q.2 := by
  refine List.forall_mem_cons.mpr ⟨sn_iload_n (k := 0) (by decide +kernel), ?_⟩
  refine List.forall_mem_cons.mpr ⟨sn_table (df := 90) (offs := #[35, 46, 57, 68, 79]) (len := 35) (by decide +kernel) (by decide) (by decide), ?_⟩
  refine List.forall_mem_cons.mpr ⟨sn_iload_n (k := 1) (by decide +kernel), ?_⟩
  refine List.forall_mem_cons.mpr ⟨sn_iload_n (k := 2) (by decide +kernel), ?_⟩
  refine List.forall_mem_cons.mpr ⟨sn_icmp_ne (off := 7) (by decide +kernel) (by decide), ?_⟩
  refine List.forall_mem_cons.mpr ⟨sn_iconst (k := 1) (by decide +kernel) (by decide), ?_⟩
  refine List.forall_mem_cons.mpr ⟨sn_goto (off := 4) (by decide +kernel) (by decide), ?_⟩
  refine List.forall_mem_cons.mpr ⟨sn_iconst (k := 0) (by decide +kernel) (by decide), ?_⟩
  refine List.forall_mem_cons.mpr ⟨⟨rfl, (by decide +kernel : decode prog_2_method_6_code 46 = .ok (.ireturn, 1))⟩, ?_⟩
  refine List.forall_mem_cons.mpr ⟨sn_iload_n (k := 1) (by decide +kernel), ?_⟩
  refine List.forall_mem_cons.mpr ⟨sn_iload_n (k := 2) (by decide +kernel), ?_⟩
  refine List.forall_mem_cons.mpr ⟨sn_icmp_eq (off := 7) (by decide +kernel) (by decide), ?_⟩
  refine List.forall_mem_cons.mpr ⟨sn_iconst (k := 1) (by decide +kernel) (by decide), ?_⟩
  refine List.forall_mem_cons.mpr ⟨sn_goto (off := 4) (by decide +kernel) (by decide), ?_⟩
  refine List.forall_mem_cons.mpr ⟨sn_iconst (k := 0) (by decide +kernel) (by decide), ?_⟩
  refine List.forall_mem_cons.mpr ⟨⟨rfl, (by decide +kernel : decode prog_2_method_6_code 57 = .ok (.ireturn, 1))⟩, ?_⟩
  refine List.forall_mem_cons.mpr ⟨sn_iload_n (k := 1) (by decide +kernel), ?_⟩
  refine List.forall_mem_cons.mpr ⟨sn_iload_n (k := 2) (by decide +kernel), ?_⟩
  refine List.forall_mem_cons.mpr ⟨sn_icmp_ge (off := 7) (by decide +kernel) (by decide), ?_⟩
  refine List.forall_mem_cons.mpr ⟨sn_iconst (k := 1) (by decide +kernel) (by decide), ?_⟩
  refine List.forall_mem_cons.mpr ⟨sn_goto (off := 4) (by decide +kernel) (by decide), ?_⟩
  refine List.forall_mem_cons.mpr ⟨sn_iconst (k := 0) (by decide +kernel) (by decide), ?_⟩
  refine List.forall_mem_cons.mpr ⟨⟨rfl, (by decide +kernel : decode prog_2_method_6_code 68 = .ok (.ireturn, 1))⟩, ?_⟩
  refine List.forall_mem_cons.mpr ⟨sn_iload_n (k := 1) (by decide +kernel), ?_⟩
  refine List.forall_mem_cons.mpr ⟨sn_iload_n (k := 2) (by decide +kernel), ?_⟩
  refine List.forall_mem_cons.mpr ⟨sn_icmp_gt (off := 7) (by decide +kernel) (by decide), ?_⟩
  refine List.forall_mem_cons.mpr ⟨sn_iconst (k := 1) (by decide +kernel) (by decide), ?_⟩
  refine List.forall_mem_cons.mpr ⟨sn_goto (off := 4) (by decide +kernel) (by decide), ?_⟩
  refine List.forall_mem_cons.mpr ⟨sn_iconst (k := 0) (by decide +kernel) (by decide), ?_⟩
  refine List.forall_mem_cons.mpr ⟨⟨rfl, (by decide +kernel : decode prog_2_method_6_code 79 = .ok (.ireturn, 1))⟩, ?_⟩
  refine List.forall_mem_cons.mpr ⟨sn_iload_n (k := 1) (by decide +kernel), ?_⟩
  refine List.forall_mem_cons.mpr ⟨sn_iload_n (k := 2) (by decide +kernel), ?_⟩
  refine List.forall_mem_cons.mpr ⟨sn_icmp_le (off := 7) (by decide +kernel) (by decide), ?_⟩
  refine List.forall_mem_cons.mpr ⟨sn_iconst (k := 1) (by decide +kernel) (by decide), ?_⟩
  refine List.forall_mem_cons.mpr ⟨sn_goto (off := 4) (by decide +kernel) (by decide), ?_⟩
  refine List.forall_mem_cons.mpr ⟨sn_iconst (k := 0) (by decide +kernel) (by decide), ?_⟩
  refine List.forall_mem_cons.mpr ⟨⟨rfl, (by decide +kernel : decode prog_2_method_6_code 90 = .ok (.ireturn, 1))⟩, ?_⟩
  refine List.forall_mem_cons.mpr ⟨sn_iload_n (k := 1) (by decide +kernel), ?_⟩
  refine List.forall_mem_cons.mpr ⟨sn_iload_n (k := 2) (by decide +kernel), ?_⟩
  refine List.forall_mem_cons.mpr ⟨sn_icmp_lt (off := 7) (by decide +kernel) (by decide), ?_⟩
  refine List.forall_mem_cons.mpr ⟨sn_iconst (k := 1) (by decide +kernel) (by decide), ?_⟩
  refine List.forall_mem_cons.mpr ⟨sn_goto (off := 4) (by decide +kernel) (by decide), ?_⟩
  refine List.forall_mem_cons.mpr ⟨sn_iconst (k := 0) (by decide +kernel) (by decide), ?_⟩
  refine List.forall_mem_cons.mpr ⟨⟨rfl, (by decide +kernel : decode prog_2_method_6_code 101 = .ok (.ireturn, 1))⟩, ?_⟩
  exact fun _ h => absurd h List.not_mem_nil
set_option maxRecDepth 20000 in
theorem ok_14 : ∀ q ∈ mt_14, mx_ok mx_I0 i_14 q.1 q.2 := by
  refine List.forall_mem_cons.mpr ⟨sn_iload_n (k := 0) (by decide +kernel), ?_⟩
  refine List.forall_mem_cons.mpr ⟨sn_iload_n (k := 1) (by decide +kernel), ?_⟩
  refine List.forall_mem_cons.mpr ⟨sn_iload_n (k := 2) (by decide +kernel), ?_⟩
  refine List.forall_mem_cons.mpr ⟨⟨i_13, rfl, mk_callS (by decide) (by decide) cs_13 (Or.inl tw_534) (by decide +kernel)⟩, ?_⟩
  refine List.forall_mem_cons.mpr ⟨sn_if_eq (off := 7) (by decide +kernel) (by decide), ?_⟩
  refine List.forall_mem_cons.mpr ⟨sn_iconst (k := (-1)) (by decide +kernel) (by decide), ?_⟩
  refine List.forall_mem_cons.mpr ⟨sn_goto (off := 4) (by decide +kernel) (by decide), ?_⟩
  refine List.forall_mem_cons.mpr ⟨sn_iconst (k := 0) (by decide +kernel) (by decide), ?_⟩
  refine List.forall_mem_cons.mpr ⟨⟨rfl, (by decide +kernel : decode prog_2_method_7_code 14 = .ok (.ireturn, 1))⟩, ?_⟩
  exact fun _ h => absurd h List.not_mem_nil
set_option maxRecDepth 20000 in
theorem ok_15 : ∀ q ∈ mt_15, mx_ok mx_I0 i_15 q.1 q.2 := by
  refine List.forall_mem_cons.mpr ⟨sn_iload_n (k := 0) (by decide +kernel), ?_⟩
  refine List.forall_mem_cons.mpr ⟨sn_iconst (k := 2) (by decide +kernel) (by decide), ?_⟩
  refine List.forall_mem_cons.mpr ⟨sn_icmp_ge (off := 9) (by decide +kernel) (by decide), ?_⟩
  refine List.forall_mem_cons.mpr ⟨sn_iconst (k := 1) (by decide +kernel) (by decide), ?_⟩
  refine List.forall_mem_cons.mpr ⟨sn_iload_n (k := 0) (by decide +kernel), ?_⟩
  refine List.forall_mem_cons.mpr ⟨sn_isub (by decide +kernel), ?_⟩
  refine List.forall_mem_cons.mpr ⟨sn_goto (off := 7) (by decide +kernel) (by decide), ?_⟩
  refine List.forall_mem_cons.mpr ⟨sn_bipush (k := 7) (by decide +kernel) (by decide), ?_⟩
  refine List.forall_mem_cons.mpr ⟨sn_iload_n (k := 0) (by decide +kernel), ?_⟩
  refine List.forall_mem_cons.mpr ⟨sn_isub (by decide +kernel), ?_⟩
  refine List.forall_mem_cons.mpr ⟨⟨rfl, (by decide +kernel : decode prog_2_method_8_code 15 = .ok (.ireturn, 1))⟩, ?_⟩
  exact fun _ h => absurd h List.not_mem_nil
set_option maxRecDepth 20000 in
theorem ok_16 : ∀ q ∈ mt_16, mx_ok mx_I0 i_16 q.1 q.2 := by
  refine List.forall_mem_cons.mpr ⟨sn_iload_n (k := 0) (by decide +kernel), ?_⟩
  refine List.forall_mem_cons.mpr ⟨sn_iconst (k := 2) (by decide +kernel) (by decide), ?_⟩
  refine List.forall_mem_cons.mpr ⟨sn_icmp_ge (off := 5) (by decide +kernel) (by decide), ?_⟩
  refine List.forall_mem_cons.mpr ⟨sn_iload_n (k := 0) (by decide +kernel), ?_⟩
  refine List.forall_mem_cons.mpr ⟨⟨rfl, (by decide +kernel : decode prog_2_method_9_code 6 = .ok (.ireturn, 1))⟩, ?_⟩
  refine List.forall_mem_cons.mpr ⟨sn_iload_n (k := 0) (by decide +kernel), ?_⟩
  refine List.forall_mem_cons.mpr ⟨sn_iconst (k := 4) (by decide +kernel) (by decide), ?_⟩
  refine List.forall_mem_cons.mpr ⟨sn_icmp_ge (off := 9) (by decide +kernel) (by decide), ?_⟩
  refine List.forall_mem_cons.mpr ⟨sn_iload_n (k := 0) (by decide +kernel), ?_⟩
  refine List.forall_mem_cons.mpr ⟨sn_iconst (k := 2) (by decide +kernel) (by decide), ?_⟩
  refine List.forall_mem_cons.mpr ⟨sn_iadd (by decide +kernel), ?_⟩
  refine List.forall_mem_cons.mpr ⟨sn_goto (off := 6) (by decide +kernel) (by decide), ?_⟩
  refine List.forall_mem_cons.mpr ⟨sn_iload_n (k := 0) (by decide +kernel), ?_⟩
  refine List.forall_mem_cons.mpr ⟨sn_iconst (k := 2) (by decide +kernel) (by decide), ?_⟩
  refine List.forall_mem_cons.mpr ⟨sn_isub (by decide +kernel), ?_⟩
  refine List.forall_mem_cons.mpr ⟨⟨rfl, (by decide +kernel : decode prog_2_method_9_code 21 = .ok (.ireturn, 1))⟩, ?_⟩
  exact fun _ h => absurd h List.not_mem_nil
set_option maxRecDepth 20000 in
theorem ok_17 : ∀ q ∈ mt_17, mx_ok mx_I0 i_17 q.1 q.2 := by
  refine List.forall_mem_cons.mpr ⟨sn_aload_n (k := 0) (by decide +kernel), ?_⟩
  refine List.forall_mem_cons.mpr ⟨sn_obj (by decide +kernel) tw_219 tw_90 tw_oi (by decide) (by decide), ?_⟩
  refine List.forall_mem_cons.mpr ⟨sn_aload_n (k := 0) (by decide +kernel), ?_⟩
  refine List.forall_mem_cons.mpr ⟨sn_bipush (k := 16) (by decide +kernel) (by decide), ?_⟩
  refine List.forall_mem_cons.mpr ⟨sn_newi (by decide +kernel) tw_111, ?_⟩
  refine List.forall_mem_cons.mpr ⟨sn_putf tyX5 (by decide +kernel) rfl tbX5 tyX5_ok nmX5 (by decide) tw_220 (Or.inr ⟨rfl, rfl, rfl⟩) rfl, ?_⟩
  refine List.forall_mem_cons.mpr ⟨sn_aload_n (k := 0) (by decide +kernel), ?_⟩
  refine List.forall_mem_cons.mpr ⟨sn_bipush (k := 64) (by decide +kernel) (by decide), ?_⟩
  refine List.forall_mem_cons.mpr ⟨sn_newi (by decide +kernel) tw_111, ?_⟩
  refine List.forall_mem_cons.mpr ⟨sn_putf tyX5 (by decide +kernel) rfl tbX5 tyX5_ok nmX5 (by decide) tw_221 (Or.inr ⟨rfl, rfl, rfl⟩) rfl, ?_⟩
  refine List.forall_mem_cons.mpr ⟨⟨rfl, (by decide +kernel : decode prog_7_method_1_code 20 = .ok (.return_, 1))⟩, ?_⟩
  exact fun _ h => absurd h List.not_mem_nil
set_option maxRecDepth 20000 in
theorem ok_18 : ∀ q ∈ mt_18, mx_ok mx_I0 i_18 q.1 q.2 := by
  refine List.forall_mem_cons.mpr ⟨sn_iload_n (k := 0) (by decide +kernel), ?_⟩
  refine List.forall_mem_cons.mpr ⟨sn_if_lt (off := 13) (by decide +kernel) (by decide), ?_⟩
  refine List.forall_mem_cons.mpr ⟨sn_iload_n (k := 0) (by decide +kernel), ?_⟩
  refine List.forall_mem_cons.mpr ⟨sn_bipush (k := 16) (by decide +kernel) (by decide), ?_⟩
  refine List.forall_mem_cons.mpr ⟨sn_icmp_ge (off := 7) (by decide +kernel) (by decide), ?_⟩
  refine List.forall_mem_cons.mpr ⟨sn_iconst (k := 1) (by decide +kernel) (by decide), ?_⟩
  refine List.forall_mem_cons.mpr ⟨sn_goto (off := 4) (by decide +kernel) (by decide), ?_⟩
  refine List.forall_mem_cons.mpr ⟨sn_iconst (k := 0) (by decide +kernel) (by decide), ?_⟩
  refine List.forall_mem_cons.mpr ⟨⟨rfl, (by decide +kernel : decode prog_7_method_2_code 15 = .ok (.ireturn, 1))⟩, ?_⟩
  exact fun _ h => absurd h List.not_mem_nil
set_option maxRecDepth 20000 in
theorem ok_19 : ∀ q ∈ mt_19, mx_ok mx_I0 i_19 q.1 q.2 := by
  refine List.forall_mem_cons.mpr ⟨sn_lload_n (k := 0) (by decide +kernel), ?_⟩
  refine List.forall_mem_cons.mpr ⟨sn_lconst (k := 0) (by decide +kernel) (by decide), ?_⟩
  refine List.forall_mem_cons.mpr ⟨sn_lcmp (by decide +kernel), ?_⟩
  refine List.forall_mem_cons.mpr ⟨sn_if_lt (off := 15) (by decide +kernel) (by decide), ?_⟩
  refine List.forall_mem_cons.mpr ⟨sn_lload_n (k := 0) (by decide +kernel), ?_⟩
  refine List.forall_mem_cons.mpr ⟨sn_ldc2 (by decide +kernel) tw_703, ?_⟩
  refine List.forall_mem_cons.mpr ⟨sn_lcmp (by decide +kernel), ?_⟩
  refine List.forall_mem_cons.mpr ⟨sn_if_ge (off := 7) (by decide +kernel) (by decide), ?_⟩
  refine List.forall_mem_cons.mpr ⟨sn_iconst (k := 1) (by decide +kernel) (by decide), ?_⟩
  refine List.forall_mem_cons.mpr ⟨sn_goto (off := 4) (by decide +kernel) (by decide), ?_⟩
  refine List.forall_mem_cons.mpr ⟨sn_iconst (k := 0) (by decide +kernel) (by decide), ?_⟩
  refine List.forall_mem_cons.mpr ⟨⟨rfl, (by decide +kernel : decode prog_7_method_3_code 19 = .ok (.ireturn, 1))⟩, ?_⟩
  exact fun _ h => absurd h List.not_mem_nil
set_option maxRecDepth 20000 in
theorem ok_20 : ∀ q ∈ mt_20, mx_ok mx_I0 i_20 q.1 q.2 := by
  refine List.forall_mem_cons.mpr ⟨sn_iload_n (k := 1) (by decide +kernel), ?_⟩
  refine List.forall_mem_cons.mpr ⟨⟨i_18, rfl, mk_callS (by decide) (by decide) cs_18 (Or.inl tw_679) (by decide +kernel)⟩, ?_⟩
  refine List.forall_mem_cons.mpr ⟨sn_if_eq (off := 12) (by decide +kernel) (by decide), ?_⟩
  refine List.forall_mem_cons.mpr ⟨sn_aload_n (k := 0) (by decide +kernel), ?_⟩
  refine List.forall_mem_cons.mpr ⟨sn_getf (by decide +kernel) rfl tbX5 (by decide) tw_220, ?_⟩
  refine List.forall_mem_cons.mpr ⟨sn_iload_n (k := 1) (by decide +kernel), ?_⟩
  refine List.forall_mem_cons.mpr ⟨sn_iald (by decide +kernel), ?_⟩
  refine List.forall_mem_cons.mpr ⟨sn_goto (off := 4) (by decide +kernel) (by decide), ?_⟩
  refine List.forall_mem_cons.mpr ⟨sn_iconst (k := 0) (by decide +kernel) (by decide), ?_⟩
  refine List.forall_mem_cons.mpr ⟨⟨rfl, (by decide +kernel : decode prog_7_method_4_code 17 = .ok (.ireturn, 1))⟩, ?_⟩
  exact fun _ h => absurd h List.not_mem_nil
set_option maxRecDepth 20000 in
theorem ok_21 : ∀ q ∈ mt_21, mx_ok mx_I0 i_21 q.1 q.2 := by
  refine List.forall_mem_cons.mpr ⟨sn_iload_n (k := 1) (by decide +kernel), ?_⟩
  refine List.forall_mem_cons.mpr ⟨⟨i_18, rfl, mk_callS (by decide) (by decide) cs_18 (Or.inl tw_679) (by decide +kernel)⟩, ?_⟩
  refine List.forall_mem_cons.mpr ⟨sn_if_eq (off := 10) (by decide +kernel) (by decide), ?_⟩
  refine List.forall_mem_cons.mpr ⟨sn_aload_n (k := 0) (by decide +kernel), ?_⟩
  refine List.forall_mem_cons.mpr ⟨sn_getf (by decide +kernel) rfl tbX5 (by decide) tw_220, ?_⟩
  refine List.forall_mem_cons.mpr ⟨sn_iload_n (k := 1) (by decide +kernel), ?_⟩
  refine List.forall_mem_cons.mpr ⟨sn_iload_n (k := 2) (by decide +kernel), ?_⟩
  refine List.forall_mem_cons.mpr ⟨sn_iast (by decide +kernel), ?_⟩
  refine List.forall_mem_cons.mpr ⟨⟨rfl, (by decide +kernel : decode prog_7_method_5_code 14 = .ok (.return_, 1))⟩, ?_⟩
  exact fun _ h => absurd h List.not_mem_nil
set_option maxRecDepth 20000 in
theorem ok_22 : ∀ q ∈ mt_22, mx_ok mx_I0 i_22 q.1 q.2 := by
  refine List.forall_mem_cons.mpr ⟨sn_iload_n (k := 1) (by decide +kernel), ?_⟩
  refine List.forall_mem_cons.mpr ⟨sn_i2l (by decide +kernel), ?_⟩
  refine List.forall_mem_cons.mpr ⟨⟨i_19, rfl, mk_callS (by decide) (by decide) cs_19 (Or.inl tw_708) (by decide +kernel)⟩, ?_⟩
  refine List.forall_mem_cons.mpr ⟨sn_if_eq (off := 12) (by decide +kernel) (by decide), ?_⟩
  refine List.forall_mem_cons.mpr ⟨sn_aload_n (k := 0) (by decide +kernel), ?_⟩
  refine List.forall_mem_cons.mpr ⟨sn_getf (by decide +kernel) rfl tbX5 (by decide) tw_221, ?_⟩
  refine List.forall_mem_cons.mpr ⟨sn_iload_n (k := 1) (by decide +kernel), ?_⟩
  refine List.forall_mem_cons.mpr ⟨sn_iald (by decide +kernel), ?_⟩
  refine List.forall_mem_cons.mpr ⟨sn_goto (off := 4) (by decide +kernel) (by decide), ?_⟩
  refine List.forall_mem_cons.mpr ⟨sn_iconst (k := 0) (by decide +kernel) (by decide), ?_⟩
  refine List.forall_mem_cons.mpr ⟨⟨rfl, (by decide +kernel : decode prog_7_method_6_code 18 = .ok (.ireturn, 1))⟩, ?_⟩
  exact fun _ h => absurd h List.not_mem_nil
set_option maxRecDepth 20000 in
theorem ok_23 : ∀ q ∈ mt_23, mx_ok mx_I0 i_23 q.1 q.2 := by
  refine List.forall_mem_cons.mpr ⟨sn_iload_n (k := 1) (by decide +kernel), ?_⟩
  refine List.forall_mem_cons.mpr ⟨sn_i2l (by decide +kernel), ?_⟩
  refine List.forall_mem_cons.mpr ⟨⟨i_19, rfl, mk_callS (by decide) (by decide) cs_19 (Or.inl tw_708) (by decide +kernel)⟩, ?_⟩
  refine List.forall_mem_cons.mpr ⟨sn_if_eq (off := 10) (by decide +kernel) (by decide), ?_⟩
  refine List.forall_mem_cons.mpr ⟨sn_aload_n (k := 0) (by decide +kernel), ?_⟩
  refine List.forall_mem_cons.mpr ⟨sn_getf (by decide +kernel) rfl tbX5 (by decide) tw_221, ?_⟩
  refine List.forall_mem_cons.mpr ⟨sn_iload_n (k := 1) (by decide +kernel), ?_⟩
  refine List.forall_mem_cons.mpr ⟨sn_iload_n (k := 2) (by decide +kernel), ?_⟩
  refine List.forall_mem_cons.mpr ⟨sn_iast (by decide +kernel), ?_⟩
  refine List.forall_mem_cons.mpr ⟨⟨rfl, (by decide +kernel : decode prog_7_method_7_code 15 = .ok (.return_, 1))⟩, ?_⟩
  exact fun _ h => absurd h List.not_mem_nil
set_option maxRecDepth 20000 in
theorem ok_24 : ∀ q ∈ mt_24, mx_ok mx_I0 i_24 q.1 q.2 := by
  refine List.forall_mem_cons.mpr ⟨sn_aload_n (k := 0) (by decide +kernel), ?_⟩
  refine List.forall_mem_cons.mpr ⟨sn_obj (by decide +kernel) tw_97 tw_90 tw_oi (by decide) (by decide), ?_⟩
  refine List.forall_mem_cons.mpr ⟨sn_aload_n (k := 0) (by decide +kernel), ?_⟩
  refine List.forall_mem_cons.mpr ⟨sn_new tyX6 (by decide +kernel) rfl tbX6 tyX6_ok tw_98 tw_99 tw_68 rfl (by decide), ?_⟩
  refine List.forall_mem_cons.mpr ⟨sn_dup (by decide +kernel), ?_⟩
  refine List.forall_mem_cons.mpr ⟨⟨i_1, rfl, mk_callI (by decide) (by decide) ci_1 (Or.inr ⟨_, tw_100⟩) (by decide +kernel)⟩, ?_⟩
  refine List.forall_mem_cons.mpr ⟨sn_putf tyX1 (by decide +kernel) rfl tbX1 tyX1_ok nmX1 (by decide) tw_112 (Or.inr ⟨rfl, rfl, rfl⟩) rfl, ?_⟩
  refine List.forall_mem_cons.mpr ⟨sn_aload_n (k := 0) (by decide +kernel), ?_⟩
  refine List.forall_mem_cons.mpr ⟨sn_new tyX6 (by decide +kernel) rfl tbX6 tyX6_ok tw_98 tw_99 tw_68 rfl (by decide), ?_⟩
  refine List.forall_mem_cons.mpr ⟨sn_dup (by decide +kernel), ?_⟩
  refine List.forall_mem_cons.mpr ⟨⟨i_1, rfl, mk_callI (by decide) (by decide) ci_1 (Or.inr ⟨_, tw_100⟩) (by decide +kernel)⟩, ?_⟩
  refine List.forall_mem_cons.mpr ⟨sn_putf tyX1 (by decide +kernel) rfl tbX1 tyX1_ok nmX1 (by decide) tw_113 (Or.inr ⟨rfl, rfl, rfl⟩) rfl, ?_⟩
  refine List.forall_mem_cons.mpr ⟨⟨rfl, (by decide +kernel : decode prog_3_method_1_code 26 = .ok (.return_, 1))⟩, ?_⟩
  exact fun _ h => absurd h List.not_mem_nil
set_option maxRecDepth 20000 in
theorem ok_25 : ∀ q ∈ mt_25, mx_ok mx_I0 i_25 q.1 q.2 := by
  refine List.forall_mem_cons.mpr ⟨sn_aload_n (k := 0) (by decide +kernel), ?_⟩
  refine List.forall_mem_cons.mpr ⟨sn_getf (by decide +kernel) rfl tbX1 (by decide) tw_112, ?_⟩
  refine List.forall_mem_cons.mpr ⟨⟨i_2, rfl, mk_callV (by decide) (by decide) cv_2 (Or.inl tw_319) rfl (by decide +kernel)⟩, ?_⟩
  refine List.forall_mem_cons.mpr ⟨⟨rfl, (by decide +kernel : decode prog_3_method_2_code 7 = .ok (.ireturn, 1))⟩, ?_⟩
  exact fun _ h => absurd h List.not_mem_nil
set_option maxRecDepth 20000 in
theorem ok_26 : ∀ q ∈ mt_26, mx_ok mx_I0 i_26 q.1 q.2 := by
  refine List.forall_mem_cons.mpr ⟨sn_aload_n (k := 0) (by decide +kernel), ?_⟩
  refine List.forall_mem_cons.mpr ⟨sn_getf (by decide +kernel) rfl tbX1 (by decide) tw_112, ?_⟩
  refine List.forall_mem_cons.mpr ⟨sn_iload_n (k := 1) (by decide +kernel), ?_⟩
  refine List.forall_mem_cons.mpr ⟨⟨i_3, rfl, mk_callV (by decide) (by decide) cv_3 (Or.inl tw_365) rfl (by decide +kernel)⟩, ?_⟩
  refine List.forall_mem_cons.mpr ⟨⟨rfl, (by decide +kernel : decode prog_3_method_3_code 8 = .ok (.ireturn, 1))⟩, ?_⟩
  exact fun _ h => absurd h List.not_mem_nil
set_option maxRecDepth 20000 in
theorem ok_27 : ∀ q ∈ mt_27, mx_ok mx_I0 i_27 q.1 q.2 := by
  refine List.forall_mem_cons.mpr ⟨sn_aload_n (k := 0) (by decide +kernel), ?_⟩
  refine List.forall_mem_cons.mpr ⟨sn_getf (by decide +kernel) rfl tbX1 (by decide) tw_113, ?_⟩
  refine List.forall_mem_cons.mpr ⟨sn_iload_n (k := 1) (by decide +kernel), ?_⟩
  refine List.forall_mem_cons.mpr ⟨⟨i_3, rfl, mk_callV (by decide) (by decide) cv_3 (Or.inl tw_365) rfl (by decide +kernel)⟩, ?_⟩
  refine List.forall_mem_cons.mpr ⟨⟨rfl, (by decide +kernel : decode prog_3_method_4_code 8 = .ok (.ireturn, 1))⟩, ?_⟩
  exact fun _ h => absurd h List.not_mem_nil
set_option maxRecDepth 20000 in
theorem ok_28 : ∀ q ∈ mt_28, mx_ok mx_I0 i_28 q.1 q.2 := by
  refine List.forall_mem_cons.mpr ⟨sn_aload_n (k := 0) (by decide +kernel), ?_⟩
  refine List.forall_mem_cons.mpr ⟨sn_getf (by decide +kernel) rfl tbX1 (by decide) tw_112, ?_⟩
  refine List.forall_mem_cons.mpr ⟨sn_iload_n (k := 1) (by decide +kernel), ?_⟩
  refine List.forall_mem_cons.mpr ⟨⟨i_5, rfl, mk_callV (by decide) (by decide) cv_5 (Or.inl tw_327) rfl (by decide +kernel)⟩, ?_⟩
  refine List.forall_mem_cons.mpr ⟨sn_aload_n (k := 0) (by decide +kernel), ?_⟩
  refine List.forall_mem_cons.mpr ⟨sn_getf (by decide +kernel) rfl tbX1 (by decide) tw_113, ?_⟩
  refine List.forall_mem_cons.mpr ⟨sn_iload_n (k := 2) (by decide +kernel), ?_⟩
  refine List.forall_mem_cons.mpr ⟨⟨i_5, rfl, mk_callV (by decide) (by decide) cv_5 (Or.inl tw_327) rfl (by decide +kernel)⟩, ?_⟩
  refine List.forall_mem_cons.mpr ⟨⟨rfl, (by decide +kernel : decode prog_3_method_5_code 16 = .ok (.return_, 1))⟩, ?_⟩
  exact fun _ h => absurd h List.not_mem_nil
set_option maxRecDepth 20000 in
theorem ok_29 : ∀ q ∈ mt_29, mx_ok mx_I0 i_29 q.1 q.2 := by
  refine List.forall_mem_cons.mpr ⟨sn_aload_n (k := 0) (by decide +kernel), ?_⟩
  refine List.forall_mem_cons.mpr ⟨sn_getf (by decide +kernel) rfl tbX1 (by decide) tw_112, ?_⟩
  refine List.forall_mem_cons.mpr ⟨sn_iload_n (k := 1) (by decide +kernel), ?_⟩
  refine List.forall_mem_cons.mpr ⟨⟨i_7, rfl, mk_callV (by decide) (by decide) cv_7 (Or.inl tw_344) rfl (by decide +kernel)⟩, ?_⟩
  refine List.forall_mem_cons.mpr ⟨sn_aload_n (k := 0) (by decide +kernel), ?_⟩
  refine List.forall_mem_cons.mpr ⟨sn_getf (by decide +kernel) rfl tbX1 (by decide) tw_113, ?_⟩
  refine List.forall_mem_cons.mpr ⟨sn_iload_n (k := 1) (by decide +kernel), ?_⟩
  refine List.forall_mem_cons.mpr ⟨⟨i_7, rfl, mk_callV (by decide) (by decide) cv_7 (Or.inl tw_344) rfl (by decide +kernel)⟩, ?_⟩
  refine List.forall_mem_cons.mpr ⟨⟨rfl, (by decide +kernel : decode prog_3_method_6_code 16 = .ok (.return_, 1))⟩, ?_⟩
  exact fun _ h => absurd h List.not_mem_nil
set_option maxRecDepth 20000 in
theorem ok_30 : ∀ q ∈ mt_30, mx_ok mx_I0 i_30 q.1 q.2 := by
  refine List.forall_mem_cons.mpr ⟨sn_aload_n (k := 0) (by decide +kernel), ?_⟩
  refine List.forall_mem_cons.mpr ⟨sn_getf (by decide +kernel) rfl tbX1 (by decide) tw_112, ?_⟩
  refine List.forall_mem_cons.mpr ⟨sn_aload_n (k := 0) (by decide +kernel), ?_⟩
  refine List.forall_mem_cons.mpr ⟨sn_getf (by decide +kernel) rfl tbX1 (by decide) tw_112, ?_⟩
  refine List.forall_mem_cons.mpr ⟨⟨i_2, rfl, mk_callV (by decide) (by decide) cv_2 (Or.inl tw_319) rfl (by decide +kernel)⟩, ?_⟩
  refine List.forall_mem_cons.mpr ⟨sn_iconst (k := 1) (by decide +kernel) (by decide), ?_⟩
  refine List.forall_mem_cons.mpr ⟨sn_isub (by decide +kernel), ?_⟩
  refine List.forall_mem_cons.mpr ⟨sn_iload_n (k := 1) (by decide +kernel), ?_⟩
  refine List.forall_mem_cons.mpr ⟨sn_isub (by decide +kernel), ?_⟩
  refine List.forall_mem_cons.mpr ⟨⟨i_3, rfl, mk_callV (by decide) (by decide) cv_3 (Or.inl tw_365) rfl (by decide +kernel)⟩, ?_⟩
  refine List.forall_mem_cons.mpr ⟨⟨rfl, (by decide +kernel : decode prog_3_method_7_code 18 = .ok (.ireturn, 1))⟩, ?_⟩
  exact fun _ h => absurd h List.not_mem_nil
set_option maxRecDepth 20000 in
theorem ok_31 : ∀ q ∈ mt_31, mx_ok mx_I0 i_31 q.1 q.2 := by
  refine List.forall_mem_cons.mpr ⟨sn_aload_n (k := 0) (by decide +kernel), ?_⟩
  refine List.forall_mem_cons.mpr ⟨sn_getf (by decide +kernel) rfl tbX1 (by decide) tw_113, ?_⟩
  refine List.forall_mem_cons.mpr ⟨sn_aload_n (k := 0) (by decide +kernel), ?_⟩
  refine List.forall_mem_cons.mpr ⟨sn_getf (by decide +kernel) rfl tbX1 (by decide) tw_113, ?_⟩
  refine List.forall_mem_cons.mpr ⟨⟨i_2, rfl, mk_callV (by decide) (by decide) cv_2 (Or.inl tw_319) rfl (by decide +kernel)⟩, ?_⟩
  refine List.forall_mem_cons.mpr ⟨sn_iconst (k := 1) (by decide +kernel) (by decide), ?_⟩
  refine List.forall_mem_cons.mpr ⟨sn_isub (by decide +kernel), ?_⟩
  refine List.forall_mem_cons.mpr ⟨sn_iload_n (k := 1) (by decide +kernel), ?_⟩
  refine List.forall_mem_cons.mpr ⟨sn_isub (by decide +kernel), ?_⟩
  refine List.forall_mem_cons.mpr ⟨⟨i_3, rfl, mk_callV (by decide) (by decide) cv_3 (Or.inl tw_365) rfl (by decide +kernel)⟩, ?_⟩
  refine List.forall_mem_cons.mpr ⟨⟨rfl, (by decide +kernel : decode prog_3_method_8_code 18 = .ok (.ireturn, 1))⟩, ?_⟩
  exact fun _ h => absurd h List.not_mem_nil
set_option maxRecDepth 20000 in
theorem ok_32 : ∀ q ∈ mt_32, mx_ok mx_I0 i_32 q.1 q.2 := by
  refine List.forall_mem_cons.mpr ⟨sn_aload_n (k := 0) (by decide +kernel), ?_⟩
  refine List.forall_mem_cons.mpr ⟨sn_getf (by decide +kernel) rfl tbX1 (by decide) tw_112, ?_⟩
  refine List.forall_mem_cons.mpr ⟨⟨i_6, rfl, mk_callV (by decide) (by decide) cv_6 (Or.inl tw_510) rfl (by decide +kernel)⟩, ?_⟩
  refine List.forall_mem_cons.mpr ⟨sn_pop (by decide +kernel), ?_⟩
  refine List.forall_mem_cons.mpr ⟨sn_aload_n (k := 0) (by decide +kernel), ?_⟩
  refine List.forall_mem_cons.mpr ⟨sn_getf (by decide +kernel) rfl tbX1 (by decide) tw_113, ?_⟩
  refine List.forall_mem_cons.mpr ⟨⟨i_6, rfl, mk_callV (by decide) (by decide) cv_6 (Or.inl tw_510) rfl (by decide +kernel)⟩, ?_⟩
  refine List.forall_mem_cons.mpr ⟨sn_pop (by decide +kernel), ?_⟩
  refine List.forall_mem_cons.mpr ⟨⟨rfl, (by decide +kernel : decode prog_3_method_9_code 16 = .ok (.return_, 1))⟩, ?_⟩
  exact fun _ h => absurd h List.not_mem_nil
set_option maxRecDepth 20000 in
theorem ok_33 : ∀ q ∈ mt_33, mx_ok mx_I0 i_33 q.1 q.2 := by
  refine List.forall_mem_cons.mpr ⟨sn_aload_n (k := 0) (by decide +kernel), ?_⟩
  refine List.forall_mem_cons.mpr ⟨sn_getf (by decide +kernel) rfl tbX1 (by decide) tw_112, ?_⟩
  refine List.forall_mem_cons.mpr ⟨sn_aload_n (k := 0) (by decide +kernel), ?_⟩
  refine List.forall_mem_cons.mpr ⟨sn_getf (by decide +kernel) rfl tbX1 (by decide) tw_112, ?_⟩
  refine List.forall_mem_cons.mpr ⟨⟨i_2, rfl, mk_callV (by decide) (by decide) cv_2 (Or.inl tw_319) rfl (by decide +kernel)⟩, ?_⟩
  refine List.forall_mem_cons.mpr ⟨sn_iload_n (k := 1) (by decide +kernel), ?_⟩
  refine List.forall_mem_cons.mpr ⟨sn_isub (by decide +kernel), ?_⟩
  refine List.forall_mem_cons.mpr ⟨⟨i_7, rfl, mk_callV (by decide) (by decide) cv_7 (Or.inl tw_344) rfl (by decide +kernel)⟩, ?_⟩
  refine List.forall_mem_cons.mpr ⟨sn_aload_n (k := 0) (by decide +kernel), ?_⟩
  refine List.forall_mem_cons.mpr ⟨sn_getf (by decide +kernel) rfl tbX1 (by decide) tw_113, ?_⟩
  refine List.forall_mem_cons.mpr ⟨sn_aload_n (k := 0) (by decide +kernel), ?_⟩
  refine List.forall_mem_cons.mpr ⟨sn_getf (by decide +kernel) rfl tbX1 (by decide) tw_113, ?_⟩
  refine List.forall_mem_cons.mpr ⟨⟨i_2, rfl, mk_callV (by decide) (by decide) cv_2 (Or.inl tw_319) rfl (by decide +kernel)⟩, ?_⟩
  refine List.forall_mem_cons.mpr ⟨sn_iload_n (k := 1) (by decide +kernel), ?_⟩
  refine List.forall_mem_cons.mpr ⟨sn_isub (by decide +kernel), ?_⟩
  refine List.forall_mem_cons.mpr ⟨⟨i_7, rfl, mk_callV (by decide) (by decide) cv_7 (Or.inl tw_344) rfl (by decide +kernel)⟩, ?_⟩
  refine List.forall_mem_cons.mpr ⟨sn_aload_n (k := 0) (by decide +kernel), ?_⟩
  refine List.forall_mem_cons.mpr ⟨sn_getf (by decide +kernel) rfl tbX1 (by decide) tw_112, ?_⟩
  refine List.forall_mem_cons.mpr ⟨sn_iload_n (k := 2) (by decide +kernel), ?_⟩
  refine List.forall_mem_cons.mpr ⟨⟨i_5, rfl, mk_callV (by decide) (by decide) cv_5 (Or.inl tw_327) rfl (by decide +kernel)⟩, ?_⟩
  refine List.forall_mem_cons.mpr ⟨sn_aload_n (k := 0) (by decide +kernel), ?_⟩
  refine List.forall_mem_cons.mpr ⟨sn_getf (by decide +kernel) rfl tbX1 (by decide) tw_113, ?_⟩
  refine List.forall_mem_cons.mpr ⟨sn_iload_n (k := 3) (by decide +kernel), ?_⟩
  refine List.forall_mem_cons.mpr ⟨⟨i_5, rfl, mk_callV (by decide) (by decide) cv_5 (Or.inl tw_327) rfl (by decide +kernel)⟩, ?_⟩
  refine List.forall_mem_cons.mpr ⟨⟨rfl, (by decide +kernel : decode prog_3_method_10_code 48 = .ok (.return_, 1))⟩, ?_⟩
  exact fun _ h => absurd h List.not_mem_nil
set_option maxRecDepth 20000 in
theorem ok_34 : ∀ q ∈ mt_34, mx_ok mx_I0 i_34 q.1 q.2 := by
  refine List.forall_mem_cons.mpr ⟨sn_aload_n (k := 0) (by decide +kernel), ?_⟩
  refine List.forall_mem_cons.mpr ⟨sn_obj (by decide +kernel) tw_201 tw_90 tw_oi (by decide) (by decide), ?_⟩
  refine List.forall_mem_cons.mpr ⟨sn_aload_n (k := 0) (by decide +kernel), ?_⟩
  refine List.forall_mem_cons.mpr ⟨sn_new tyX6 (by decide +kernel) rfl tbX6 tyX6_ok tw_202 tw_99 tw_68 rfl (by decide), ?_⟩
  refine List.forall_mem_cons.mpr ⟨sn_dup (by decide +kernel), ?_⟩
  refine List.forall_mem_cons.mpr ⟨⟨i_1, rfl, mk_callI (by decide) (by decide) ci_1 (Or.inr ⟨_, tw_203⟩) (by decide +kernel)⟩, ?_⟩
  refine List.forall_mem_cons.mpr ⟨sn_putf tyX7 (by decide +kernel) rfl tbX7 tyX7_ok nmX7 (by decide) tw_204 (Or.inr ⟨rfl, rfl, rfl⟩) rfl, ?_⟩
  refine List.forall_mem_cons.mpr ⟨sn_aload_n (k := 0) (by decide +kernel), ?_⟩
  refine List.forall_mem_cons.mpr ⟨sn_new tyX6 (by decide +kernel) rfl tbX6 tyX6_ok tw_202 tw_99 tw_68 rfl (by decide), ?_⟩
  refine List.forall_mem_cons.mpr ⟨sn_dup (by decide +kernel), ?_⟩
  refine List.forall_mem_cons.mpr ⟨⟨i_1, rfl, mk_callI (by decide) (by decide) ci_1 (Or.inr ⟨_, tw_203⟩) (by decide +kernel)⟩, ?_⟩
  refine List.forall_mem_cons.mpr ⟨sn_putf tyX7 (by decide +kernel) rfl tbX7 tyX7_ok nmX7 (by decide) tw_205 (Or.inr ⟨rfl, rfl, rfl⟩) rfl, ?_⟩
  refine List.forall_mem_cons.mpr ⟨sn_aload_n (k := 0) (by decide +kernel), ?_⟩
  refine List.forall_mem_cons.mpr ⟨sn_new tyX6 (by decide +kernel) rfl tbX6 tyX6_ok tw_202 tw_99 tw_68 rfl (by decide), ?_⟩
  refine List.forall_mem_cons.mpr ⟨sn_dup (by decide +kernel), ?_⟩
  refine List.forall_mem_cons.mpr ⟨⟨i_1, rfl, mk_callI (by decide) (by decide) ci_1 (Or.inr ⟨_, tw_203⟩) (by decide +kernel)⟩, ?_⟩
  refine List.forall_mem_cons.mpr ⟨sn_putf tyX7 (by decide +kernel) rfl tbX7 tyX7_ok nmX7 (by decide) tw_206 (Or.inr ⟨rfl, rfl, rfl⟩) rfl, ?_⟩
  refine List.forall_mem_cons.mpr ⟨⟨rfl, (by decide +kernel : decode prog_9_method_1_code 37 = .ok (.return_, 1))⟩, ?_⟩
  exact fun _ h => absurd h List.not_mem_nil
set_option maxRecDepth 20000 in
theorem ok_35 : ∀ q ∈ mt_35, mx_ok mx_I0 i_35 q.1 q.2 := by
  refine List.forall_mem_cons.mpr ⟨sn_aload_n (k := 0) (by decide +kernel), ?_⟩
  refine List.forall_mem_cons.mpr ⟨sn_getf (by decide +kernel) rfl tbX7 (by decide) tw_204, ?_⟩
  refine List.forall_mem_cons.mpr ⟨sn_iconst (k := 0) (by decide +kernel) (by decide), ?_⟩
  refine List.forall_mem_cons.mpr ⟨⟨i_7, rfl, mk_callV (by decide) (by decide) cv_7 (Or.inl tw_645) rfl (by decide +kernel)⟩, ?_⟩
  refine List.forall_mem_cons.mpr ⟨sn_aload_n (k := 0) (by decide +kernel), ?_⟩
  refine List.forall_mem_cons.mpr ⟨sn_getf (by decide +kernel) rfl tbX7 (by decide) tw_205, ?_⟩
  refine List.forall_mem_cons.mpr ⟨sn_iconst (k := 0) (by decide +kernel) (by decide), ?_⟩
  refine List.forall_mem_cons.mpr ⟨⟨i_7, rfl, mk_callV (by decide) (by decide) cv_7 (Or.inl tw_645) rfl (by decide +kernel)⟩, ?_⟩
  refine List.forall_mem_cons.mpr ⟨sn_aload_n (k := 0) (by decide +kernel), ?_⟩
  refine List.forall_mem_cons.mpr ⟨sn_getf (by decide +kernel) rfl tbX7 (by decide) tw_206, ?_⟩
  refine List.forall_mem_cons.mpr ⟨sn_bipush (k := 100) (by decide +kernel) (by decide), ?_⟩
  refine List.forall_mem_cons.mpr ⟨sn_iconst (k := (-1)) (by decide +kernel) (by decide), ?_⟩
  refine List.forall_mem_cons.mpr ⟨⟨i_8, rfl, mk_callV (by decide) (by decide) cv_8 (Or.inl tw_646) rfl (by decide +kernel)⟩, ?_⟩
  refine List.forall_mem_cons.mpr ⟨sn_iconst (k := 0) (by decide +kernel) (by decide), ?_⟩
  refine List.forall_mem_cons.mpr ⟨sn_istore_n (k := 2) (by decide +kernel) (by decide), ?_⟩
  refine List.forall_mem_cons.mpr ⟨sn_iload_n (k := 2) (by decide +kernel), ?_⟩
  refine List.forall_mem_cons.mpr ⟨sn_aload_n (k := 1) (by decide +kernel), ?_⟩
  refine List.forall_mem_cons.mpr ⟨⟨i_2, rfl, mk_callV (by decide) (by decide) cv_2 (Or.inl tw_647) rfl (by decide +kernel)⟩, ?_⟩
  refine List.forall_mem_cons.mpr ⟨sn_icmp_ge (off := 49) (by decide +kernel) (by decide), ?_⟩
  refine List.forall_mem_cons.mpr ⟨sn_aload_n (k := 1) (by decide +kernel), ?_⟩
  refine List.forall_mem_cons.mpr ⟨sn_iload_n (k := 2) (by decide +kernel), ?_⟩
  refine List.forall_mem_cons.mpr ⟨⟨i_3, rfl, mk_callV (by decide) (by decide) cv_3 (Or.inl tw_648) rfl (by decide +kernel)⟩, ?_⟩
  refine List.forall_mem_cons.mpr ⟨sn_istore_n (k := 3) (by decide +kernel) (by decide), ?_⟩
  refine List.forall_mem_cons.mpr ⟨sn_iload_n (k := 3) (by decide +kernel), ?_⟩
  refine List.forall_mem_cons.mpr ⟨sn_bipush (k := 8) (by decide +kernel) (by decide), ?_⟩
  refine List.forall_mem_cons.mpr ⟨sn_ishr (by decide +kernel), ?_⟩
  refine List.forall_mem_cons.mpr ⟨sn_istore (k := 4) (by decide +kernel) (by decide), ?_⟩
  refine List.forall_mem_cons.mpr ⟨sn_iload_n (k := 3) (by decide +kernel), ?_⟩
  refine List.forall_mem_cons.mpr ⟨sn_sipush (k := 128) (by decide +kernel) (by decide), ?_⟩
  refine List.forall_mem_cons.mpr ⟨sn_iand (by decide +kernel), ?_⟩
  refine List.forall_mem_cons.mpr ⟨sn_if_eq (off := 13) (by decide +kernel) (by decide), ?_⟩
  refine List.forall_mem_cons.mpr ⟨sn_iinc (d := 1) (by decide +kernel) (by decide) (by decide), ?_⟩
  refine List.forall_mem_cons.mpr ⟨sn_aload_n (k := 1) (by decide +kernel), ?_⟩
  refine List.forall_mem_cons.mpr ⟨sn_iload_n (k := 2) (by decide +kernel), ?_⟩
  refine List.forall_mem_cons.mpr ⟨⟨i_3, rfl, mk_callV (by decide) (by decide) cv_3 (Or.inl tw_648) rfl (by decide +kernel)⟩, ?_⟩
  refine List.forall_mem_cons.mpr ⟨sn_istore (k := 4) (by decide +kernel) (by decide), ?_⟩
  refine List.forall_mem_cons.mpr ⟨sn_aload_n (k := 0) (by decide +kernel), ?_⟩
  refine List.forall_mem_cons.mpr ⟨sn_iload_n (k := 3) (by decide +kernel), ?_⟩
  refine List.forall_mem_cons.mpr ⟨sn_bipush (k := 127) (by decide +kernel) (by decide), ?_⟩
  refine List.forall_mem_cons.mpr ⟨sn_iand (by decide +kernel), ?_⟩
  refine List.forall_mem_cons.mpr ⟨sn_iload (k := 4) (by decide +kernel), ?_⟩
  refine List.forall_mem_cons.mpr ⟨⟨i_36, rfl, mk_callV (by decide) (by decide) cv_36 (Or.inl tw_649) rfl (by decide +kernel)⟩, ?_⟩
  refine List.forall_mem_cons.mpr ⟨sn_iinc (d := 1) (by decide +kernel) (by decide) (by decide), ?_⟩
  refine List.forall_mem_cons.mpr ⟨sn_goto (off := (-51)) (by decide +kernel) (by decide), ?_⟩
  refine List.forall_mem_cons.mpr ⟨sn_iconst (k := 0) (by decide +kernel) (by decide), ?_⟩
  refine List.forall_mem_cons.mpr ⟨sn_istore_n (k := 2) (by decide +kernel) (by decide), ?_⟩
  refine List.forall_mem_cons.mpr ⟨sn_iload_n (k := 2) (by decide +kernel), ?_⟩
  refine List.forall_mem_cons.mpr ⟨sn_aload_n (k := 0) (by decide +kernel), ?_⟩
  refine List.forall_mem_cons.mpr ⟨sn_getf (by decide +kernel) rfl tbX7 (by decide) tw_204, ?_⟩
  refine List.forall_mem_cons.mpr ⟨⟨i_2, rfl, mk_callV (by decide) (by decide) cv_2 (Or.inl tw_647) rfl (by decide +kernel)⟩, ?_⟩
  refine List.forall_mem_cons.mpr ⟨sn_icmp_ge (off := 45) (by decide +kernel) (by decide), ?_⟩
  refine List.forall_mem_cons.mpr ⟨sn_aload_n (k := 0) (by decide +kernel), ?_⟩
  refine List.forall_mem_cons.mpr ⟨sn_getf (by decide +kernel) rfl tbX7 (by decide) tw_204, ?_⟩
  refine List.forall_mem_cons.mpr ⟨sn_iload_n (k := 2) (by decide +kernel), ?_⟩
  refine List.forall_mem_cons.mpr ⟨⟨i_3, rfl, mk_callV (by decide) (by decide) cv_3 (Or.inl tw_648) rfl (by decide +kernel)⟩, ?_⟩
  refine List.forall_mem_cons.mpr ⟨sn_bipush (k := 20) (by decide +kernel) (by decide), ?_⟩
  refine List.forall_mem_cons.mpr ⟨sn_icmp_lt (off := 26) (by decide +kernel) (by decide), ?_⟩
  refine List.forall_mem_cons.mpr ⟨sn_aload_n (k := 0) (by decide +kernel), ?_⟩
  refine List.forall_mem_cons.mpr ⟨sn_getf (by decide +kernel) rfl tbX7 (by decide) tw_205, ?_⟩
  refine List.forall_mem_cons.mpr ⟨sn_iload_n (k := 2) (by decide +kernel), ?_⟩
  refine List.forall_mem_cons.mpr ⟨sn_aload_n (k := 0) (by decide +kernel), ?_⟩
  refine List.forall_mem_cons.mpr ⟨sn_getf (by decide +kernel) rfl tbX7 (by decide) tw_206, ?_⟩
  refine List.forall_mem_cons.mpr ⟨sn_aload_n (k := 0) (by decide +kernel), ?_⟩
  refine List.forall_mem_cons.mpr ⟨sn_getf (by decide +kernel) rfl tbX7 (by decide) tw_205, ?_⟩
  refine List.forall_mem_cons.mpr ⟨sn_iload_n (k := 2) (by decide +kernel), ?_⟩
  refine List.forall_mem_cons.mpr ⟨⟨i_3, rfl, mk_callV (by decide) (by decide) cv_3 (Or.inl tw_648) rfl (by decide +kernel)⟩, ?_⟩
  refine List.forall_mem_cons.mpr ⟨⟨i_3, rfl, mk_callV (by decide) (by decide) cv_3 (Or.inl tw_648) rfl (by decide +kernel)⟩, ?_⟩
  refine List.forall_mem_cons.mpr ⟨⟨i_4, rfl, mk_callV (by decide) (by decide) cv_4 (Or.inl tw_653) rfl (by decide +kernel)⟩, ?_⟩
  refine List.forall_mem_cons.mpr ⟨sn_iinc (d := 1) (by decide +kernel) (by decide) (by decide), ?_⟩
  refine List.forall_mem_cons.mpr ⟨sn_goto (off := (-50)) (by decide +kernel) (by decide), ?_⟩
  refine List.forall_mem_cons.mpr ⟨⟨rfl, (by decide +kernel : decode prog_9_method_2_code 137 = .ok (.return_, 1))⟩, ?_⟩
  exact fun _ h => absurd h List.not_mem_nil
set_option maxRecDepth 20000 in
theorem ok_36 : ∀ q ∈ mt_36, mx_ok mx_I0 i_36 q.1 q.2 := by
  refine List.forall_mem_cons.mpr ⟨sn_iload_n (k := 1) (by decide +kernel), ?_⟩
  refine List.forall_mem_cons.mpr ⟨sn_if_ne (off := 21) (by decide +kernel) (by decide), ?_⟩
  refine List.forall_mem_cons.mpr ⟨sn_aload_n (k := 0) (by decide +kernel), ?_⟩
  refine List.forall_mem_cons.mpr ⟨sn_getf (by decide +kernel) rfl tbX7 (by decide) tw_206, ?_⟩
  refine List.forall_mem_cons.mpr ⟨sn_iload_n (k := 2) (by decide +kernel), ?_⟩
  refine List.forall_mem_cons.mpr ⟨sn_aload_n (k := 0) (by decide +kernel), ?_⟩
  refine List.forall_mem_cons.mpr ⟨sn_getf (by decide +kernel) rfl tbX7 (by decide) tw_204, ?_⟩
  refine List.forall_mem_cons.mpr ⟨⟨i_2, rfl, mk_callV (by decide) (by decide) cv_2 (Or.inl tw_647) rfl (by decide +kernel)⟩, ?_⟩
  refine List.forall_mem_cons.mpr ⟨⟨i_4, rfl, mk_callV (by decide) (by decide) cv_4 (Or.inl tw_653) rfl (by decide +kernel)⟩, ?_⟩
  refine List.forall_mem_cons.mpr ⟨sn_goto (off := 19) (by decide +kernel) (by decide), ?_⟩
  refine List.forall_mem_cons.mpr ⟨sn_aload_n (k := 0) (by decide +kernel), ?_⟩
  refine List.forall_mem_cons.mpr ⟨sn_getf (by decide +kernel) rfl tbX7 (by decide) tw_204, ?_⟩
  refine List.forall_mem_cons.mpr ⟨sn_iload_n (k := 1) (by decide +kernel), ?_⟩
  refine List.forall_mem_cons.mpr ⟨⟨i_5, rfl, mk_callV (by decide) (by decide) cv_5 (Or.inl tw_654) rfl (by decide +kernel)⟩, ?_⟩
  refine List.forall_mem_cons.mpr ⟨sn_aload_n (k := 0) (by decide +kernel), ?_⟩
  refine List.forall_mem_cons.mpr ⟨sn_getf (by decide +kernel) rfl tbX7 (by decide) tw_205, ?_⟩
  refine List.forall_mem_cons.mpr ⟨sn_iload_n (k := 2) (by decide +kernel), ?_⟩
  refine List.forall_mem_cons.mpr ⟨⟨i_5, rfl, mk_callV (by decide) (by decide) cv_5 (Or.inl tw_654) rfl (by decide +kernel)⟩, ?_⟩
  refine List.forall_mem_cons.mpr ⟨⟨rfl, (by decide +kernel : decode prog_9_method_3_code 38 = .ok (.return_, 1))⟩, ?_⟩
  exact fun _ h => absurd h List.not_mem_nil
set_option maxRecDepth 20000 in
theorem ok_37 : ∀ q ∈ mt_37, mx_ok mx_I0 i_37 q.1 q.2 := by
  refine List.forall_mem_cons.mpr ⟨sn_aload_n (k := 0) (by decide +kernel), ?_⟩
  refine List.forall_mem_cons.mpr ⟨sn_getf (by decide +kernel) rfl tbX7 (by decide) tw_204, ?_⟩
  refine List.forall_mem_cons.mpr ⟨⟨i_2, rfl, mk_callV (by decide) (by decide) cv_2 (Or.inl tw_647) rfl (by decide +kernel)⟩, ?_⟩
  refine List.forall_mem_cons.mpr ⟨⟨rfl, (by decide +kernel : decode prog_9_method_4_code 7 = .ok (.ireturn, 1))⟩, ?_⟩
  exact fun _ h => absurd h List.not_mem_nil
set_option maxRecDepth 20000 in
theorem ok_38 : ∀ q ∈ mt_38, mx_ok mx_I0 i_38 q.1 q.2 := by
  refine List.forall_mem_cons.mpr ⟨sn_aload_n (k := 0) (by decide +kernel), ?_⟩
  refine List.forall_mem_cons.mpr ⟨sn_getf (by decide +kernel) rfl tbX7 (by decide) tw_204, ?_⟩
  refine List.forall_mem_cons.mpr ⟨sn_iload_n (k := 1) (by decide +kernel), ?_⟩
  refine List.forall_mem_cons.mpr ⟨⟨i_3, rfl, mk_callV (by decide) (by decide) cv_3 (Or.inl tw_648) rfl (by decide +kernel)⟩, ?_⟩
  refine List.forall_mem_cons.mpr ⟨⟨rfl, (by decide +kernel : decode prog_9_method_5_code 8 = .ok (.ireturn, 1))⟩, ?_⟩
  exact fun _ h => absurd h List.not_mem_nil
set_option maxRecDepth 20000 in
theorem ok_39 : ∀ q ∈ mt_39, mx_ok mx_I0 i_39 q.1 q.2 := by
  refine List.forall_mem_cons.mpr ⟨sn_aload_n (k := 0) (by decide +kernel), ?_⟩
  refine List.forall_mem_cons.mpr ⟨sn_getf (by decide +kernel) rfl tbX7 (by decide) tw_205, ?_⟩
  refine List.forall_mem_cons.mpr ⟨sn_iload_n (k := 1) (by decide +kernel), ?_⟩
  refine List.forall_mem_cons.mpr ⟨⟨i_3, rfl, mk_callV (by decide) (by decide) cv_3 (Or.inl tw_648) rfl (by decide +kernel)⟩, ?_⟩
  refine List.forall_mem_cons.mpr ⟨⟨rfl, (by decide +kernel : decode prog_9_method_6_code 8 = .ok (.ireturn, 1))⟩, ?_⟩
  exact fun _ h => absurd h List.not_mem_nil
set_option maxRecDepth 20000 in
theorem ok_40 : ∀ q ∈ mt_40, mx_ok mx_I0 i_40 q.1 q.2 := by
  refine List.forall_mem_cons.mpr ⟨sn_aload_n (k := 0) (by decide +kernel), ?_⟩
  refine List.forall_mem_cons.mpr ⟨sn_obj (by decide +kernel) tw_232 tw_90 tw_oi (by decide) (by decide), ?_⟩
  refine List.forall_mem_cons.mpr ⟨sn_aload_n (k := 0) (by decide +kernel), ?_⟩
  refine List.forall_mem_cons.mpr ⟨sn_new tyX6 (by decide +kernel) rfl tbX6 tyX6_ok tw_233 tw_99 tw_68 rfl (by decide), ?_⟩
  refine List.forall_mem_cons.mpr ⟨sn_dup (by decide +kernel), ?_⟩
  refine List.forall_mem_cons.mpr ⟨⟨i_1, rfl, mk_callI (by decide) (by decide) ci_1 (Or.inr ⟨_, tw_234⟩) (by decide +kernel)⟩, ?_⟩
  refine List.forall_mem_cons.mpr ⟨sn_putf tyX4 (by decide +kernel) rfl tbX4 tyX4_ok nmX4 (by decide) tw_260 (Or.inr ⟨rfl, rfl, rfl⟩) rfl, ?_⟩
  refine List.forall_mem_cons.mpr ⟨sn_aload_n (k := 0) (by decide +kernel), ?_⟩
  refine List.forall_mem_cons.mpr ⟨sn_aload_n (k := 1) (by decide +kernel), ?_⟩
  refine List.forall_mem_cons.mpr ⟨sn_putf tyX4 (by decide +kernel) rfl tbX4 tyX4_ok nmX4 (by decide) tw_259 (Or.inr ⟨rfl, rfl, rfl⟩) rfl, ?_⟩
  refine List.forall_mem_cons.mpr ⟨sn_aload_n (k := 0) (by decide +kernel), ?_⟩
  refine List.forall_mem_cons.mpr ⟨sn_getf (by decide +kernel) rfl tbX4 (by decide) tw_260, ?_⟩
  refine List.forall_mem_cons.mpr ⟨sn_bipush (k := 60) (by decide +kernel) (by decide), ?_⟩
  refine List.forall_mem_cons.mpr ⟨sn_iconst (k := 0) (by decide +kernel) (by decide), ?_⟩
  refine List.forall_mem_cons.mpr ⟨⟨i_8, rfl, mk_callV (by decide) (by decide) cv_8 (Or.inl tw_235) rfl (by decide +kernel)⟩, ?_⟩
  refine List.forall_mem_cons.mpr ⟨⟨rfl, (by decide +kernel : decode prog_6_method_1_code 30 = .ok (.return_, 1))⟩, ?_⟩
  exact fun _ h => absurd h List.not_mem_nil
end
section
set_option maxRecDepth 20000 in
theorem ok_41 : ∀ q ∈ mt_41, mx_ok mx_I0 i_41 q.1 q.2 := by
  refine List.forall_mem_cons.mpr ⟨sn_aload_n (k := 0) (by decide +kernel), ?_⟩
  refine List.forall_mem_cons.mpr ⟨sn_iconst (k := 0) (by decide +kernel) (by decide), ?_⟩
  refine List.forall_mem_cons.mpr ⟨sn_putf tyX4 (by decide +kernel) rfl tbX4 tyX4_ok nmX4 (by decide) tw_263 (Or.inl rfl) rfl, ?_⟩
  refine List.forall_mem_cons.mpr ⟨sn_aload_n (k := 0) (by decide +kernel), ?_⟩
  refine List.forall_mem_cons.mpr ⟨sn_iconst (k := 0) (by decide +kernel) (by decide), ?_⟩
  refine List.forall_mem_cons.mpr ⟨sn_putf tyX4 (by decide +kernel) rfl tbX4 tyX4_ok nmX4 (by decide) tw_265 (Or.inl rfl) rfl, ?_⟩
  refine List.forall_mem_cons.mpr ⟨sn_aload_n (k := 0) (by decide +kernel), ?_⟩
  refine List.forall_mem_cons.mpr ⟨sn_iload_n (k := 2) (by decide +kernel), ?_⟩
  refine List.forall_mem_cons.mpr ⟨sn_putf tyX4 (by decide +kernel) rfl tbX4 tyX4_ok nmX4 (by decide) tw_267 (Or.inl rfl) rfl, ?_⟩
  refine List.forall_mem_cons.mpr ⟨sn_aload_n (k := 0) (by decide +kernel), ?_⟩
  refine List.forall_mem_cons.mpr ⟨sn_iconst (k := (-1)) (by decide +kernel) (by decide), ?_⟩
  refine List.forall_mem_cons.mpr ⟨sn_putf tyX4 (by decide +kernel) rfl tbX4 tyX4_ok nmX4 (by decide) tw_264 (Or.inl rfl) rfl, ?_⟩
  refine List.forall_mem_cons.mpr ⟨sn_iload_n (k := 2) (by decide +kernel), ?_⟩
  refine List.forall_mem_cons.mpr ⟨sn_iconst (k := 2) (by decide +kernel) (by decide), ?_⟩
  refine List.forall_mem_cons.mpr ⟨sn_iadd (by decide +kernel), ?_⟩
  refine List.forall_mem_cons.mpr ⟨sn_aload_n (k := 1) (by decide +kernel), ?_⟩
  refine List.forall_mem_cons.mpr ⟨⟨i_37, rfl, mk_callV (by decide) (by decide) cv_37 (Or.inl tw_659) rfl (by decide +kernel)⟩, ?_⟩
  refine List.forall_mem_cons.mpr ⟨sn_iconst (k := 1) (by decide +kernel) (by decide), ?_⟩
  refine List.forall_mem_cons.mpr ⟨sn_iadd (by decide +kernel), ?_⟩
  refine List.forall_mem_cons.mpr ⟨sn_imul (by decide +kernel), ?_⟩
  refine List.forall_mem_cons.mpr ⟨sn_istore_n (k := 3) (by decide +kernel) (by decide), ?_⟩
  refine List.forall_mem_cons.mpr ⟨sn_iconst (k := 0) (by decide +kernel) (by decide), ?_⟩
  refine List.forall_mem_cons.mpr ⟨sn_istore (k := 4) (by decide +kernel) (by decide), ?_⟩
  refine List.forall_mem_cons.mpr ⟨sn_iload (k := 4) (by decide +kernel), ?_⟩
  refine List.forall_mem_cons.mpr ⟨sn_iload_n (k := 3) (by decide +kernel), ?_⟩
  refine List.forall_mem_cons.mpr ⟨sn_icmp_ge (off := 98) (by decide +kernel) (by decide), ?_⟩
  refine List.forall_mem_cons.mpr ⟨sn_aload_n (k := 0) (by decide +kernel), ?_⟩
  refine List.forall_mem_cons.mpr ⟨sn_getf (by decide +kernel) rfl tbX4 (by decide) tw_264, ?_⟩
  refine List.forall_mem_cons.mpr ⟨sn_iconst (k := (-1)) (by decide +kernel) (by decide), ?_⟩
  refine List.forall_mem_cons.mpr ⟨sn_icmp_ne (off := 90) (by decide +kernel) (by decide), ?_⟩
  refine List.forall_mem_cons.mpr ⟨sn_aload_n (k := 1) (by decide +kernel), ?_⟩
  refine List.forall_mem_cons.mpr ⟨sn_aload_n (k := 0) (by decide +kernel), ?_⟩
  refine List.forall_mem_cons.mpr ⟨sn_getf (by decide +kernel) rfl tbX4 (by decide) tw_263, ?_⟩
  refine List.forall_mem_cons.mpr ⟨⟨i_38, rfl, mk_callV (by decide) (by decide) cv_38 (Or.inl tw_663) rfl (by decide +kernel)⟩, ?_⟩
  refine List.forall_mem_cons.mpr ⟨sn_istore (k := 5) (by decide +kernel) (by decide), ?_⟩
  refine List.forall_mem_cons.mpr ⟨sn_aload_n (k := 1) (by decide +kernel), ?_⟩
  refine List.forall_mem_cons.mpr ⟨sn_aload_n (k := 0) (by decide +kernel), ?_⟩
  refine List.forall_mem_cons.mpr ⟨sn_getf (by decide +kernel) rfl tbX4 (by decide) tw_263, ?_⟩
  refine List.forall_mem_cons.mpr ⟨⟨i_39, rfl, mk_callV (by decide) (by decide) cv_39 (Or.inl tw_667) rfl (by decide +kernel)⟩, ?_⟩
  refine List.forall_mem_cons.mpr ⟨sn_istore (k := 6) (by decide +kernel) (by decide), ?_⟩
  refine List.forall_mem_cons.mpr ⟨sn_aload_n (k := 0) (by decide +kernel), ?_⟩
  refine List.forall_mem_cons.mpr ⟨sn_dup (by decide +kernel), ?_⟩
  refine List.forall_mem_cons.mpr ⟨sn_getf (by decide +kernel) rfl tbX4 (by decide) tw_263, ?_⟩
  refine List.forall_mem_cons.mpr ⟨sn_iconst (k := 1) (by decide +kernel) (by decide), ?_⟩
  refine List.forall_mem_cons.mpr ⟨sn_iadd (by decide +kernel), ?_⟩
  refine List.forall_mem_cons.mpr ⟨sn_putf tyX4 (by decide +kernel) rfl tbX4 tyX4_ok nmX4 (by decide) tw_263 (Or.inl rfl) rfl, ?_⟩
  refine List.forall_mem_cons.mpr ⟨sn_iload (k := 5) (by decide +kernel), ?_⟩
  refine List.forall_mem_cons.mpr ⟨sn_bipush (k := 7) (by decide +kernel) (by decide), ?_⟩
  refine List.forall_mem_cons.mpr ⟨sn_icmp_ge (off := 14) (by decide +kernel) (by decide), ?_⟩
  refine List.forall_mem_cons.mpr ⟨sn_aload_n (k := 0) (by decide +kernel), ?_⟩
  refine List.forall_mem_cons.mpr ⟨sn_iload (k := 5) (by decide +kernel), ?_⟩
  refine List.forall_mem_cons.mpr ⟨sn_iload (k := 6) (by decide +kernel), ?_⟩
  refine List.forall_mem_cons.mpr ⟨⟨i_42, rfl, mk_callV (by decide) (by decide) cv_42 (Or.inl tw_671) rfl (by decide +kernel)⟩, ?_⟩
  refine List.forall_mem_cons.mpr ⟨sn_goto (off := 36) (by decide +kernel) (by decide), ?_⟩
  refine List.forall_mem_cons.mpr ⟨sn_iload (k := 5) (by decide +kernel), ?_⟩
  refine List.forall_mem_cons.mpr ⟨sn_bipush (k := 20) (by decide +kernel) (by decide), ?_⟩
  refine List.forall_mem_cons.mpr ⟨sn_icmp_ge (off := 14) (by decide +kernel) (by decide), ?_⟩
  refine List.forall_mem_cons.mpr ⟨sn_aload_n (k := 0) (by decide +kernel), ?_⟩
  refine List.forall_mem_cons.mpr ⟨sn_iload (k := 5) (by decide +kernel), ?_⟩
  refine List.forall_mem_cons.mpr ⟨sn_iload (k := 6) (by decide +kernel), ?_⟩
  refine List.forall_mem_cons.mpr ⟨⟨i_44, rfl, mk_callV (by decide) (by decide) cv_44 (Or.inl tw_684) rfl (by decide +kernel)⟩, ?_⟩
  refine List.forall_mem_cons.mpr ⟨sn_goto (off := 18) (by decide +kernel) (by decide), ?_⟩
  refine List.forall_mem_cons.mpr ⟨sn_aload_n (k := 0) (by decide +kernel), ?_⟩
  refine List.forall_mem_cons.mpr ⟨sn_iload (k := 5) (by decide +kernel), ?_⟩
  refine List.forall_mem_cons.mpr ⟨⟨i_43, rfl, mk_callV (by decide) (by decide) cv_43 (Or.inl tw_744) rfl (by decide +kernel)⟩, ?_⟩
  refine List.forall_mem_cons.mpr ⟨sn_if_eq (off := 9) (by decide +kernel) (by decide), ?_⟩
  refine List.forall_mem_cons.mpr ⟨sn_aload_n (k := 0) (by decide +kernel), ?_⟩
  refine List.forall_mem_cons.mpr ⟨sn_iload (k := 6) (by decide +kernel), ?_⟩
  refine List.forall_mem_cons.mpr ⟨sn_putf tyX4 (by decide +kernel) rfl tbX4 tyX4_ok nmX4 (by decide) tw_263 (Or.inl rfl) rfl, ?_⟩
  refine List.forall_mem_cons.mpr ⟨sn_iinc (d := 1) (by decide +kernel) (by decide) (by decide), ?_⟩
  refine List.forall_mem_cons.mpr ⟨sn_goto (off := (-98)) (by decide +kernel) (by decide), ?_⟩
  refine List.forall_mem_cons.mpr ⟨sn_aload_n (k := 0) (by decide +kernel), ?_⟩
  refine List.forall_mem_cons.mpr ⟨sn_getf (by decide +kernel) rfl tbX4 (by decide) tw_264, ?_⟩
  refine List.forall_mem_cons.mpr ⟨⟨rfl, (by decide +kernel : decode prog_6_method_2_code 139 = .ok (.ireturn, 1))⟩, ?_⟩
  exact fun _ h => absurd h List.not_mem_nil
set_option maxRecDepth 20000 in
theorem ok_42 : ∀ q ∈ mt_42, mx_ok mx_I0 i_42 q.1 q.2 := by
  refine List.forall_mem_cons.mpr ⟨sn_aload_n (k := 0) (by decide +kernel), ?_⟩
  refine List.forall_mem_cons.mpr ⟨sn_getf (by decide +kernel) rfl tbX4 (by decide) tw_261, ?_⟩
  refine List.forall_mem_cons.mpr ⟨sn_istore_n (k := 3) (by decide +kernel) (by decide), ?_⟩
  refine List.forall_mem_cons.mpr ⟨sn_iload_n (k := 1) (by decide +kernel), ?_⟩
  refine List.forall_mem_cons.mpr ⟨sn_table (df := 137) (offs := #[38, 51, 71, 91, 106, 121]) (len := 38) (by decide +kernel) (by decide) (by decide), ?_⟩
  refine List.forall_mem_cons.mpr ⟨sn_aload_n (k := 0) (by decide +kernel), ?_⟩
  refine List.forall_mem_cons.mpr ⟨sn_iload_n (k := 2) (by decide +kernel), ?_⟩
  refine List.forall_mem_cons.mpr ⟨sn_putf tyX4 (by decide +kernel) rfl tbX4 tyX4_ok nmX4 (by decide) tw_261 (Or.inl rfl) rfl, ?_⟩
  refine List.forall_mem_cons.mpr ⟨sn_aload_n (k := 0) (by decide +kernel), ?_⟩
  refine List.forall_mem_cons.mpr ⟨sn_iload_n (k := 3) (by decide +kernel), ?_⟩
  refine List.forall_mem_cons.mpr ⟨sn_putf tyX4 (by decide +kernel) rfl tbX4 tyX4_ok nmX4 (by decide) tw_262 (Or.inl rfl) rfl, ?_⟩
  refine List.forall_mem_cons.mpr ⟨sn_goto (off := 89) (by decide +kernel) (by decide), ?_⟩
  refine List.forall_mem_cons.mpr ⟨sn_aload_n (k := 0) (by decide +kernel), ?_⟩
  refine List.forall_mem_cons.mpr ⟨sn_aload_n (k := 0) (by decide +kernel), ?_⟩
  refine List.forall_mem_cons.mpr ⟨sn_getf (by decide +kernel) rfl tbX4 (by decide) tw_259, ?_⟩
  refine List.forall_mem_cons.mpr ⟨sn_iload_n (k := 2) (by decide +kernel), ?_⟩
  refine List.forall_mem_cons.mpr ⟨⟨i_20, rfl, mk_callV (by decide) (by decide) cv_20 (Or.inl tw_675) rfl (by decide +kernel)⟩, ?_⟩
  refine List.forall_mem_cons.mpr ⟨sn_putf tyX4 (by decide +kernel) rfl tbX4 tyX4_ok nmX4 (by decide) tw_261 (Or.inl rfl) rfl, ?_⟩
  refine List.forall_mem_cons.mpr ⟨sn_aload_n (k := 0) (by decide +kernel), ?_⟩
  refine List.forall_mem_cons.mpr ⟨sn_iload_n (k := 3) (by decide +kernel), ?_⟩
  refine List.forall_mem_cons.mpr ⟨sn_putf tyX4 (by decide +kernel) rfl tbX4 tyX4_ok nmX4 (by decide) tw_262 (Or.inl rfl) rfl, ?_⟩
  refine List.forall_mem_cons.mpr ⟨sn_goto (off := 69) (by decide +kernel) (by decide), ?_⟩
  refine List.forall_mem_cons.mpr ⟨sn_aload_n (k := 0) (by decide +kernel), ?_⟩
  refine List.forall_mem_cons.mpr ⟨sn_aload_n (k := 0) (by decide +kernel), ?_⟩
  refine List.forall_mem_cons.mpr ⟨sn_getf (by decide +kernel) rfl tbX4 (by decide) tw_260, ?_⟩
  refine List.forall_mem_cons.mpr ⟨sn_iload_n (k := 2) (by decide +kernel), ?_⟩
  refine List.forall_mem_cons.mpr ⟨⟨i_3, rfl, mk_callV (by decide) (by decide) cv_3 (Or.inl tw_682) rfl (by decide +kernel)⟩, ?_⟩
  refine List.forall_mem_cons.mpr ⟨sn_putf tyX4 (by decide +kernel) rfl tbX4 tyX4_ok nmX4 (by decide) tw_261 (Or.inl rfl) rfl, ?_⟩
  refine List.forall_mem_cons.mpr ⟨sn_aload_n (k := 0) (by decide +kernel), ?_⟩
  refine List.forall_mem_cons.mpr ⟨sn_iload_n (k := 3) (by decide +kernel), ?_⟩
  refine List.forall_mem_cons.mpr ⟨sn_putf tyX4 (by decide +kernel) rfl tbX4 tyX4_ok nmX4 (by decide) tw_262 (Or.inl rfl) rfl, ?_⟩
  refine List.forall_mem_cons.mpr ⟨sn_goto (off := 49) (by decide +kernel) (by decide), ?_⟩
  refine List.forall_mem_cons.mpr ⟨sn_aload_n (k := 0) (by decide +kernel), ?_⟩
  refine List.forall_mem_cons.mpr ⟨sn_getf (by decide +kernel) rfl tbX4 (by decide) tw_260, ?_⟩
  refine List.forall_mem_cons.mpr ⟨sn_iload_n (k := 2) (by decide +kernel), ?_⟩
  refine List.forall_mem_cons.mpr ⟨sn_aload_n (k := 0) (by decide +kernel), ?_⟩
  refine List.forall_mem_cons.mpr ⟨sn_getf (by decide +kernel) rfl tbX4 (by decide) tw_261, ?_⟩
  refine List.forall_mem_cons.mpr ⟨⟨i_4, rfl, mk_callV (by decide) (by decide) cv_4 (Or.inl tw_683) rfl (by decide +kernel)⟩, ?_⟩
  refine List.forall_mem_cons.mpr ⟨sn_goto (off := 34) (by decide +kernel) (by decide), ?_⟩
  refine List.forall_mem_cons.mpr ⟨sn_aload_n (k := 0) (by decide +kernel), ?_⟩
  refine List.forall_mem_cons.mpr ⟨sn_getf (by decide +kernel) rfl tbX4 (by decide) tw_260, ?_⟩
  refine List.forall_mem_cons.mpr ⟨sn_iload_n (k := 2) (by decide +kernel), ?_⟩
  refine List.forall_mem_cons.mpr ⟨sn_aload_n (k := 0) (by decide +kernel), ?_⟩
  refine List.forall_mem_cons.mpr ⟨sn_getf (by decide +kernel) rfl tbX4 (by decide) tw_262, ?_⟩
  refine List.forall_mem_cons.mpr ⟨⟨i_4, rfl, mk_callV (by decide) (by decide) cv_4 (Or.inl tw_683) rfl (by decide +kernel)⟩, ?_⟩
  refine List.forall_mem_cons.mpr ⟨sn_goto (off := 19) (by decide +kernel) (by decide), ?_⟩
  refine List.forall_mem_cons.mpr ⟨sn_aload_n (k := 0) (by decide +kernel), ?_⟩
  refine List.forall_mem_cons.mpr ⟨sn_aload_n (k := 0) (by decide +kernel), ?_⟩
  refine List.forall_mem_cons.mpr ⟨sn_getf (by decide +kernel) rfl tbX4 (by decide) tw_262, ?_⟩
  refine List.forall_mem_cons.mpr ⟨sn_putf tyX4 (by decide +kernel) rfl tbX4 tyX4_ok nmX4 (by decide) tw_261 (Or.inl rfl) rfl, ?_⟩
  refine List.forall_mem_cons.mpr ⟨sn_aload_n (k := 0) (by decide +kernel), ?_⟩
  refine List.forall_mem_cons.mpr ⟨sn_iload_n (k := 3) (by decide +kernel), ?_⟩
  refine List.forall_mem_cons.mpr ⟨sn_putf tyX4 (by decide +kernel) rfl tbX4 tyX4_ok nmX4 (by decide) tw_262 (Or.inl rfl) rfl, ?_⟩
  refine List.forall_mem_cons.mpr ⟨sn_goto (off := 3) (by decide +kernel) (by decide), ?_⟩
  refine List.forall_mem_cons.mpr ⟨⟨rfl, (by decide +kernel : decode prog_6_method_3_code 143 = .ok (.return_, 1))⟩, ?_⟩
  exact fun _ h => absurd h List.not_mem_nil
set_option maxRecDepth 20000 in
theorem ok_43 : ∀ q ∈ mt_43, mx_ok mx_I0 i_43 q.1 q.2 := by
  refine List.forall_mem_cons.mpr ⟨sn_iload_n (k := 1) (by decide +kernel), ?_⟩
  refine List.forall_mem_cons.mpr ⟨sn_table (df := 55) (offs := #[27, 29, 42]) (len := 27) (by decide +kernel) (by decide) (by decide), ?_⟩
  refine List.forall_mem_cons.mpr ⟨sn_iconst (k := 1) (by decide +kernel) (by decide), ?_⟩
  refine List.forall_mem_cons.mpr ⟨⟨rfl, (by decide +kernel : decode prog_6_method_4_code 29 = .ok (.ireturn, 1))⟩, ?_⟩
  refine List.forall_mem_cons.mpr ⟨sn_aload_n (k := 0) (by decide +kernel), ?_⟩
  refine List.forall_mem_cons.mpr ⟨sn_getf (by decide +kernel) rfl tbX4 (by decide) tw_261, ?_⟩
  refine List.forall_mem_cons.mpr ⟨sn_if_ne (off := 7) (by decide +kernel) (by decide), ?_⟩
  refine List.forall_mem_cons.mpr ⟨sn_iconst (k := 1) (by decide +kernel) (by decide), ?_⟩
  refine List.forall_mem_cons.mpr ⟨sn_goto (off := 4) (by decide +kernel) (by decide), ?_⟩
  refine List.forall_mem_cons.mpr ⟨sn_iconst (k := 0) (by decide +kernel) (by decide), ?_⟩
  refine List.forall_mem_cons.mpr ⟨⟨rfl, (by decide +kernel : decode prog_6_method_4_code 42 = .ok (.ireturn, 1))⟩, ?_⟩
  refine List.forall_mem_cons.mpr ⟨sn_aload_n (k := 0) (by decide +kernel), ?_⟩
  refine List.forall_mem_cons.mpr ⟨sn_getf (by decide +kernel) rfl tbX4 (by decide) tw_261, ?_⟩
  refine List.forall_mem_cons.mpr ⟨sn_if_eq (off := 7) (by decide +kernel) (by decide), ?_⟩
  refine List.forall_mem_cons.mpr ⟨sn_iconst (k := 1) (by decide +kernel) (by decide), ?_⟩
  refine List.forall_mem_cons.mpr ⟨sn_goto (off := 4) (by decide +kernel) (by decide), ?_⟩
  refine List.forall_mem_cons.mpr ⟨sn_iconst (k := 0) (by decide +kernel) (by decide), ?_⟩
  refine List.forall_mem_cons.mpr ⟨⟨rfl, (by decide +kernel : decode prog_6_method_4_code 55 = .ok (.ireturn, 1))⟩, ?_⟩
  refine List.forall_mem_cons.mpr ⟨sn_iload_n (k := 1) (by decide +kernel), ?_⟩
  refine List.forall_mem_cons.mpr ⟨sn_bipush (k := 23) (by decide +kernel) (by decide), ?_⟩
  refine List.forall_mem_cons.mpr ⟨sn_isub (by decide +kernel), ?_⟩
  refine List.forall_mem_cons.mpr ⟨sn_aload_n (k := 0) (by decide +kernel), ?_⟩
  refine List.forall_mem_cons.mpr ⟨sn_getf (by decide +kernel) rfl tbX4 (by decide) tw_262, ?_⟩
  refine List.forall_mem_cons.mpr ⟨sn_aload_n (k := 0) (by decide +kernel), ?_⟩
  refine List.forall_mem_cons.mpr ⟨sn_getf (by decide +kernel) rfl tbX4 (by decide) tw_261, ?_⟩
  refine List.forall_mem_cons.mpr ⟨⟨i_13, rfl, mk_callS (by decide) (by decide) cs_13 (Or.inl tw_748) (by decide +kernel)⟩, ?_⟩
  refine List.forall_mem_cons.mpr ⟨⟨rfl, (by decide +kernel : decode prog_6_method_4_code 71 = .ok (.ireturn, 1))⟩, ?_⟩
  exact fun _ h => absurd h List.not_mem_nil
set_option maxRecDepth 20000 in
theorem ok_44 : ∀ q ∈ mt_44, mx_ok mx_I0 i_44 q.1 q.2 := by
  refine List.forall_mem_cons.mpr ⟨sn_iload_n (k := 1) (by decide +kernel), ?_⟩
  refine List.forall_mem_cons.mpr ⟨sn_table (df := 209) (offs := #[67, 82, 89, 96, 108, 121, 129, 148, 156, 163, 178, 185, 201]) (len := 67) (by decide +kernel) (by decide) (by decide), ?_⟩
  refine List.forall_mem_cons.mpr ⟨sn_aload_n (k := 0) (by decide +kernel), ?_⟩
  refine List.forall_mem_cons.mpr ⟨sn_getf (by decide +kernel) rfl tbX4 (by decide) tw_259, ?_⟩
  refine List.forall_mem_cons.mpr ⟨sn_iload_n (k := 2) (by decide +kernel), ?_⟩
  refine List.forall_mem_cons.mpr ⟨sn_aload_n (k := 0) (by decide +kernel), ?_⟩
  refine List.forall_mem_cons.mpr ⟨sn_getf (by decide +kernel) rfl tbX4 (by decide) tw_261, ?_⟩
  refine List.forall_mem_cons.mpr ⟨⟨i_21, rfl, mk_callV (by decide) (by decide) cv_21 (Or.inl tw_688) rfl (by decide +kernel)⟩, ?_⟩
  refine List.forall_mem_cons.mpr ⟨sn_goto (off := 130) (by decide +kernel) (by decide), ?_⟩
  refine List.forall_mem_cons.mpr ⟨sn_aload_n (k := 0) (by decide +kernel), ?_⟩
  refine List.forall_mem_cons.mpr ⟨⟨i_46, rfl, mk_callV (by decide) (by decide) cv_46 (Or.inl tw_692) rfl (by decide +kernel)⟩, ?_⟩
  refine List.forall_mem_cons.mpr ⟨sn_goto (off := 123) (by decide +kernel) (by decide), ?_⟩
  refine List.forall_mem_cons.mpr ⟨sn_aload_n (k := 0) (by decide +kernel), ?_⟩
  refine List.forall_mem_cons.mpr ⟨⟨i_47, rfl, mk_callV (by decide) (by decide) cv_47 (Or.inl tw_709) rfl (by decide +kernel)⟩, ?_⟩
  refine List.forall_mem_cons.mpr ⟨sn_goto (off := 116) (by decide +kernel) (by decide), ?_⟩
  refine List.forall_mem_cons.mpr ⟨sn_aload_n (k := 0) (by decide +kernel), ?_⟩
  refine List.forall_mem_cons.mpr ⟨sn_aload_n (k := 0) (by decide +kernel), ?_⟩
  refine List.forall_mem_cons.mpr ⟨sn_getf (by decide +kernel) rfl tbX4 (by decide) tw_261, ?_⟩
  refine List.forall_mem_cons.mpr ⟨sn_ineg (by decide +kernel), ?_⟩
  refine List.forall_mem_cons.mpr ⟨sn_putf tyX4 (by decide +kernel) rfl tbX4 tyX4_ok nmX4 (by decide) tw_261 (Or.inl rfl) rfl, ?_⟩
  refine List.forall_mem_cons.mpr ⟨sn_goto (off := 104) (by decide +kernel) (by decide), ?_⟩
  refine List.forall_mem_cons.mpr ⟨sn_aload_n (k := 0) (by decide +kernel), ?_⟩
  refine List.forall_mem_cons.mpr ⟨sn_aload_n (k := 0) (by decide +kernel), ?_⟩
  refine List.forall_mem_cons.mpr ⟨sn_getf (by decide +kernel) rfl tbX4 (by decide) tw_261, ?_⟩
  refine List.forall_mem_cons.mpr ⟨sn_iconst (k := (-1)) (by decide +kernel) (by decide), ?_⟩
  refine List.forall_mem_cons.mpr ⟨sn_ixor (by decide +kernel), ?_⟩
  refine List.forall_mem_cons.mpr ⟨sn_putf tyX4 (by decide +kernel) rfl tbX4 tyX4_ok nmX4 (by decide) tw_261 (Or.inl rfl) rfl, ?_⟩
  refine List.forall_mem_cons.mpr ⟨sn_goto (off := 91) (by decide +kernel) (by decide), ?_⟩
  refine List.forall_mem_cons.mpr ⟨sn_aload_n (k := 0) (by decide +kernel), ?_⟩
  refine List.forall_mem_cons.mpr ⟨sn_iload_n (k := 2) (by decide +kernel), ?_⟩
  refine List.forall_mem_cons.mpr ⟨⟨i_48, rfl, mk_callV (by decide) (by decide) cv_48 (Or.inl tw_717) rfl (by decide +kernel)⟩, ?_⟩
  refine List.forall_mem_cons.mpr ⟨sn_goto (off := 83) (by decide +kernel) (by decide), ?_⟩
  refine List.forall_mem_cons.mpr ⟨sn_aload_n (k := 0) (by decide +kernel), ?_⟩
  refine List.forall_mem_cons.mpr ⟨sn_iload_n (k := 2) (by decide +kernel), ?_⟩
  refine List.forall_mem_cons.mpr ⟨sn_aload_n (k := 0) (by decide +kernel), ?_⟩
  refine List.forall_mem_cons.mpr ⟨sn_getf (by decide +kernel) rfl tbX4 (by decide) tw_262, ?_⟩
  refine List.forall_mem_cons.mpr ⟨sn_aload_n (k := 0) (by decide +kernel), ?_⟩
  refine List.forall_mem_cons.mpr ⟨sn_getf (by decide +kernel) rfl tbX4 (by decide) tw_261, ?_⟩
  refine List.forall_mem_cons.mpr ⟨⟨i_14, rfl, mk_callS (by decide) (by decide) cs_14 (Or.inl tw_723) (by decide +kernel)⟩, ?_⟩
  refine List.forall_mem_cons.mpr ⟨sn_putf tyX4 (by decide +kernel) rfl tbX4 tyX4_ok nmX4 (by decide) tw_261 (Or.inl rfl) rfl, ?_⟩
  refine List.forall_mem_cons.mpr ⟨sn_goto (off := 64) (by decide +kernel) (by decide), ?_⟩
  refine List.forall_mem_cons.mpr ⟨sn_aload_n (k := 0) (by decide +kernel), ?_⟩
  refine List.forall_mem_cons.mpr ⟨sn_iload_n (k := 2) (by decide +kernel), ?_⟩
  refine List.forall_mem_cons.mpr ⟨⟨i_49, rfl, mk_callV (by decide) (by decide) cv_49 (Or.inl tw_724) rfl (by decide +kernel)⟩, ?_⟩
  refine List.forall_mem_cons.mpr ⟨sn_goto (off := 56) (by decide +kernel) (by decide), ?_⟩
  refine List.forall_mem_cons.mpr ⟨sn_aload_n (k := 0) (by decide +kernel), ?_⟩
  refine List.forall_mem_cons.mpr ⟨⟨i_51, rfl, mk_callV (by decide) (by decide) cv_51 (Or.inl tw_728) rfl (by decide +kernel)⟩, ?_⟩
  refine List.forall_mem_cons.mpr ⟨sn_goto (off := 49) (by decide +kernel) (by decide), ?_⟩
  refine List.forall_mem_cons.mpr ⟨sn_aload_n (k := 0) (by decide +kernel), ?_⟩
  refine List.forall_mem_cons.mpr ⟨sn_aload_n (k := 0) (by decide +kernel), ?_⟩
  refine List.forall_mem_cons.mpr ⟨sn_getf (by decide +kernel) rfl tbX4 (by decide) tw_260, ?_⟩
  refine List.forall_mem_cons.mpr ⟨sn_iload_n (k := 2) (by decide +kernel), ?_⟩
  refine List.forall_mem_cons.mpr ⟨⟨i_3, rfl, mk_callV (by decide) (by decide) cv_3 (Or.inl tw_682) rfl (by decide +kernel)⟩, ?_⟩
  refine List.forall_mem_cons.mpr ⟨⟨i_52, rfl, mk_callV (by decide) (by decide) cv_52 (Or.inl tw_736) rfl (by decide +kernel)⟩, ?_⟩
  refine List.forall_mem_cons.mpr ⟨sn_goto (off := 34) (by decide +kernel) (by decide), ?_⟩
  refine List.forall_mem_cons.mpr ⟨sn_aload_n (k := 0) (by decide +kernel), ?_⟩
  refine List.forall_mem_cons.mpr ⟨⟨i_53, rfl, mk_callV (by decide) (by decide) cv_53 (Or.inl tw_740) rfl (by decide +kernel)⟩, ?_⟩
  refine List.forall_mem_cons.mpr ⟨sn_goto (off := 27) (by decide +kernel) (by decide), ?_⟩
  refine List.forall_mem_cons.mpr ⟨sn_aload_n (k := 0) (by decide +kernel), ?_⟩
  refine List.forall_mem_cons.mpr ⟨sn_aload_n (k := 0) (by decide +kernel), ?_⟩
  refine List.forall_mem_cons.mpr ⟨sn_getf (by decide +kernel) rfl tbX4 (by decide) tw_261, ?_⟩
  refine List.forall_mem_cons.mpr ⟨sn_putf tyX4 (by decide +kernel) rfl tbX4 tyX4_ok nmX4 (by decide) tw_265 (Or.inl rfl) rfl, ?_⟩
  refine List.forall_mem_cons.mpr ⟨sn_aload_n (k := 0) (by decide +kernel), ?_⟩
  refine List.forall_mem_cons.mpr ⟨sn_iconst (k := 0) (by decide +kernel) (by decide), ?_⟩
  refine List.forall_mem_cons.mpr ⟨sn_putf tyX4 (by decide +kernel) rfl tbX4 tyX4_ok nmX4 (by decide) tw_264 (Or.inl rfl) rfl, ?_⟩
  refine List.forall_mem_cons.mpr ⟨sn_goto (off := 11) (by decide +kernel) (by decide), ?_⟩
  refine List.forall_mem_cons.mpr ⟨sn_aload_n (k := 0) (by decide +kernel), ?_⟩
  refine List.forall_mem_cons.mpr ⟨sn_iconst (k := 4) (by decide +kernel) (by decide), ?_⟩
  refine List.forall_mem_cons.mpr ⟨sn_putf tyX4 (by decide +kernel) rfl tbX4 tyX4_ok nmX4 (by decide) tw_264 (Or.inl rfl) rfl, ?_⟩
  refine List.forall_mem_cons.mpr ⟨sn_goto (off := 3) (by decide +kernel) (by decide), ?_⟩
  refine List.forall_mem_cons.mpr ⟨⟨rfl, (by decide +kernel : decode prog_6_method_5_code 210 = .ok (.return_, 1))⟩, ?_⟩
  exact fun _ h => absurd h List.not_mem_nil
set_option maxRecDepth 20000 in
theorem ok_45 : ∀ q ∈ mt_45, mx_ok mx_I0 i_45 q.1 q.2 := by
  refine List.forall_mem_cons.mpr ⟨sn_lload_n (k := 1) (by decide +kernel), ?_⟩
  refine List.forall_mem_cons.mpr ⟨⟨i_19, rfl, mk_callS (by decide) (by decide) cs_19 (Or.inl tw_700) (by decide +kernel)⟩, ?_⟩
  refine List.forall_mem_cons.mpr ⟨sn_istore_n (k := 3) (by decide +kernel) (by decide), ?_⟩
  refine List.forall_mem_cons.mpr ⟨sn_iload_n (k := 3) (by decide +kernel), ?_⟩
  refine List.forall_mem_cons.mpr ⟨sn_if_ne (off := 8) (by decide +kernel) (by decide), ?_⟩
  refine List.forall_mem_cons.mpr ⟨sn_aload_n (k := 0) (by decide +kernel), ?_⟩
  refine List.forall_mem_cons.mpr ⟨sn_iconst (k := 2) (by decide +kernel) (by decide), ?_⟩
  refine List.forall_mem_cons.mpr ⟨sn_putf tyX4 (by decide +kernel) rfl tbX4 tyX4_ok nmX4 (by decide) tw_264 (Or.inl rfl) rfl, ?_⟩
  refine List.forall_mem_cons.mpr ⟨sn_iload_n (k := 3) (by decide +kernel), ?_⟩
  refine List.forall_mem_cons.mpr ⟨⟨rfl, (by decide +kernel : decode prog_6_method_6_code 15 = .ok (.ireturn, 1))⟩, ?_⟩
  exact fun _ h => absurd h List.not_mem_nil
set_option maxRecDepth 20000 in
theorem ok_46 : ∀ q ∈ mt_46, mx_ok mx_I0 i_46 q.1 q.2 := by
  refine List.forall_mem_cons.mpr ⟨sn_aload_n (k := 0) (by decide +kernel), ?_⟩
  refine List.forall_mem_cons.mpr ⟨sn_aload_n (k := 0) (by decide +kernel), ?_⟩
  refine List.forall_mem_cons.mpr ⟨sn_getf (by decide +kernel) rfl tbX4 (by decide) tw_261, ?_⟩
  refine List.forall_mem_cons.mpr ⟨sn_i2l (by decide +kernel), ?_⟩
  refine List.forall_mem_cons.mpr ⟨⟨i_45, rfl, mk_callV (by decide) (by decide) cv_45 (Or.inl tw_696) rfl (by decide +kernel)⟩, ?_⟩
  refine List.forall_mem_cons.mpr ⟨sn_if_eq (off := 18) (by decide +kernel) (by decide), ?_⟩
  refine List.forall_mem_cons.mpr ⟨sn_aload_n (k := 0) (by decide +kernel), ?_⟩
  refine List.forall_mem_cons.mpr ⟨sn_aload_n (k := 0) (by decide +kernel), ?_⟩
  refine List.forall_mem_cons.mpr ⟨sn_getf (by decide +kernel) rfl tbX4 (by decide) tw_259, ?_⟩
  refine List.forall_mem_cons.mpr ⟨sn_aload_n (k := 0) (by decide +kernel), ?_⟩
  refine List.forall_mem_cons.mpr ⟨sn_getf (by decide +kernel) rfl tbX4 (by decide) tw_261, ?_⟩
  refine List.forall_mem_cons.mpr ⟨⟨i_22, rfl, mk_callV (by decide) (by decide) cv_22 (Or.inl tw_704) rfl (by decide +kernel)⟩, ?_⟩
  refine List.forall_mem_cons.mpr ⟨sn_putf tyX4 (by decide +kernel) rfl tbX4 tyX4_ok nmX4 (by decide) tw_261 (Or.inl rfl) rfl, ?_⟩
  refine List.forall_mem_cons.mpr ⟨⟨rfl, (by decide +kernel : decode prog_6_method_7_code 27 = .ok (.return_, 1))⟩, ?_⟩
  exact fun _ h => absurd h List.not_mem_nil
set_option maxRecDepth 20000 in
theorem ok_47 : ∀ q ∈ mt_47, mx_ok mx_I0 i_47 q.1 q.2 := by
  refine List.forall_mem_cons.mpr ⟨sn_aload_n (k := 0) (by decide +kernel), ?_⟩
  refine List.forall_mem_cons.mpr ⟨sn_aload_n (k := 0) (by decide +kernel), ?_⟩
  refine List.forall_mem_cons.mpr ⟨sn_getf (by decide +kernel) rfl tbX4 (by decide) tw_261, ?_⟩
  refine List.forall_mem_cons.mpr ⟨sn_i2l (by decide +kernel), ?_⟩
  refine List.forall_mem_cons.mpr ⟨⟨i_45, rfl, mk_callV (by decide) (by decide) cv_45 (Or.inl tw_696) rfl (by decide +kernel)⟩, ?_⟩
  refine List.forall_mem_cons.mpr ⟨sn_if_eq (off := 18) (by decide +kernel) (by decide), ?_⟩
  refine List.forall_mem_cons.mpr ⟨sn_aload_n (k := 0) (by decide +kernel), ?_⟩
  refine List.forall_mem_cons.mpr ⟨sn_getf (by decide +kernel) rfl tbX4 (by decide) tw_259, ?_⟩
  refine List.forall_mem_cons.mpr ⟨sn_aload_n (k := 0) (by decide +kernel), ?_⟩
  refine List.forall_mem_cons.mpr ⟨sn_getf (by decide +kernel) rfl tbX4 (by decide) tw_261, ?_⟩
  refine List.forall_mem_cons.mpr ⟨sn_aload_n (k := 0) (by decide +kernel), ?_⟩
  refine List.forall_mem_cons.mpr ⟨sn_getf (by decide +kernel) rfl tbX4 (by decide) tw_262, ?_⟩
  refine List.forall_mem_cons.mpr ⟨⟨i_23, rfl, mk_callV (by decide) (by decide) cv_23 (Or.inl tw_713) rfl (by decide +kernel)⟩, ?_⟩
  refine List.forall_mem_cons.mpr ⟨⟨rfl, (by decide +kernel : decode prog_6_method_8_code 27 = .ok (.return_, 1))⟩, ?_⟩
  exact fun _ h => absurd h List.not_mem_nil
set_option maxRecDepth 20000 in
theorem ok_48 : ∀ q ∈ mt_48, mx_ok mx_I0 i_48 q.1 q.2 := by
  refine List.forall_mem_cons.mpr ⟨sn_aload_n (k := 0) (by decide +kernel), ?_⟩
  refine List.forall_mem_cons.mpr ⟨sn_getf (by decide +kernel) rfl tbX4 (by decide) tw_261, ?_⟩
  refine List.forall_mem_cons.mpr ⟨sn_if_ne (off := 18) (by decide +kernel) (by decide), ?_⟩
  refine List.forall_mem_cons.mpr ⟨sn_iload_n (k := 1) (by decide +kernel), ?_⟩
  refine List.forall_mem_cons.mpr ⟨⟨i_9, rfl, mk_callS (by decide) (by decide) cs_9 (Or.inl tw_721) (by decide +kernel)⟩, ?_⟩
  refine List.forall_mem_cons.mpr ⟨sn_if_eq (off := 11) (by decide +kernel) (by decide), ?_⟩
  refine List.forall_mem_cons.mpr ⟨sn_aload_n (k := 0) (by decide +kernel), ?_⟩
  refine List.forall_mem_cons.mpr ⟨sn_iconst (k := 3) (by decide +kernel) (by decide), ?_⟩
  refine List.forall_mem_cons.mpr ⟨sn_putf tyX4 (by decide +kernel) rfl tbX4 tyX4_ok nmX4 (by decide) tw_264 (Or.inl rfl) rfl, ?_⟩
  refine List.forall_mem_cons.mpr ⟨sn_goto (off := 19) (by decide +kernel) (by decide), ?_⟩
  refine List.forall_mem_cons.mpr ⟨sn_aload_n (k := 0) (by decide +kernel), ?_⟩
  refine List.forall_mem_cons.mpr ⟨sn_iload_n (k := 1) (by decide +kernel), ?_⟩
  refine List.forall_mem_cons.mpr ⟨sn_aload_n (k := 0) (by decide +kernel), ?_⟩
  refine List.forall_mem_cons.mpr ⟨sn_getf (by decide +kernel) rfl tbX4 (by decide) tw_262, ?_⟩
  refine List.forall_mem_cons.mpr ⟨sn_aload_n (k := 0) (by decide +kernel), ?_⟩
  refine List.forall_mem_cons.mpr ⟨sn_getf (by decide +kernel) rfl tbX4 (by decide) tw_261, ?_⟩
  refine List.forall_mem_cons.mpr ⟨⟨i_10, rfl, mk_callS (by decide) (by decide) cs_10 (Or.inl tw_722) (by decide +kernel)⟩, ?_⟩
  refine List.forall_mem_cons.mpr ⟨sn_putf tyX4 (by decide +kernel) rfl tbX4 tyX4_ok nmX4 (by decide) tw_261 (Or.inl rfl) rfl, ?_⟩
  refine List.forall_mem_cons.mpr ⟨⟨rfl, (by decide +kernel : decode prog_6_method_9_code 38 = .ok (.return_, 1))⟩, ?_⟩
  exact fun _ h => absurd h List.not_mem_nil
set_option maxRecDepth 20000 in
theorem ok_49 : ∀ q ∈ mt_49, mx_ok mx_I0 i_49 q.1 q.2 := by
  refine List.forall_mem_cons.mpr ⟨sn_aload_n (k := 0) (by decide +kernel), ?_⟩
  refine List.forall_mem_cons.mpr ⟨sn_getf (by decide +kernel) rfl tbX4 (by decide) tw_261, ?_⟩
  refine List.forall_mem_cons.mpr ⟨sn_istore_n (k := 2) (by decide +kernel) (by decide), ?_⟩
  refine List.forall_mem_cons.mpr ⟨sn_aload_n (k := 0) (by decide +kernel), ?_⟩
  refine List.forall_mem_cons.mpr ⟨sn_iload_n (k := 1) (by decide +kernel), ?_⟩
  refine List.forall_mem_cons.mpr ⟨sn_aload_n (k := 0) (by decide +kernel), ?_⟩
  refine List.forall_mem_cons.mpr ⟨sn_getf (by decide +kernel) rfl tbX4 (by decide) tw_262, ?_⟩
  refine List.forall_mem_cons.mpr ⟨sn_iload_n (k := 2) (by decide +kernel), ?_⟩
  refine List.forall_mem_cons.mpr ⟨⟨i_14, rfl, mk_callS (by decide) (by decide) cs_14 (Or.inl tw_723) (by decide +kernel)⟩, ?_⟩
  refine List.forall_mem_cons.mpr ⟨sn_putf tyX4 (by decide +kernel) rfl tbX4 tyX4_ok nmX4 (by decide) tw_261 (Or.inl rfl) rfl, ?_⟩
  refine List.forall_mem_cons.mpr ⟨sn_aload_n (k := 0) (by decide +kernel), ?_⟩
  refine List.forall_mem_cons.mpr ⟨sn_iload_n (k := 2) (by decide +kernel), ?_⟩
  refine List.forall_mem_cons.mpr ⟨sn_putf tyX4 (by decide +kernel) rfl tbX4 tyX4_ok nmX4 (by decide) tw_262 (Or.inl rfl) rfl, ?_⟩
  refine List.forall_mem_cons.mpr ⟨⟨rfl, (by decide +kernel : decode prog_6_method_10_code 23 = .ok (.return_, 1))⟩, ?_⟩
  exact fun _ h => absurd h List.not_mem_nil
set_option maxRecDepth 20000 in
theorem ok_50 : ∀ q ∈ mt_50, mx_ok mx_I0 i_50 q.1 q.2 := by
  refine List.forall_mem_cons.mpr ⟨sn_aload_n (k := 0) (by decide +kernel), ?_⟩
  refine List.forall_mem_cons.mpr ⟨sn_getf (by decide +kernel) rfl tbX4 (by decide) tw_262, ?_⟩
  refine List.forall_mem_cons.mpr ⟨sn_i2l (by decide +kernel), ?_⟩
  refine List.forall_mem_cons.mpr ⟨sn_aload_n (k := 0) (by decide +kernel), ?_⟩
  refine List.forall_mem_cons.mpr ⟨sn_getf (by decide +kernel) rfl tbX4 (by decide) tw_261, ?_⟩
  refine List.forall_mem_cons.mpr ⟨sn_iconst (k := 2) (by decide +kernel) (by decide), ?_⟩
  refine List.forall_mem_cons.mpr ⟨sn_ishr (by decide +kernel), ?_⟩
  refine List.forall_mem_cons.mpr ⟨sn_i2l (by decide +kernel), ?_⟩
  refine List.forall_mem_cons.mpr ⟨sn_ladd (by decide +kernel), ?_⟩
  refine List.forall_mem_cons.mpr ⟨⟨rfl, (by decide +kernel : decode prog_6_method_11_code 13 = .ok (.lreturn, 1))⟩, ?_⟩
  exact fun _ h => absurd h List.not_mem_nil
set_option maxRecDepth 20000 in
theorem ok_51 : ∀ q ∈ mt_51, mx_ok mx_I0 i_51 q.1 q.2 := by
  refine List.forall_mem_cons.mpr ⟨sn_aload_n (k := 0) (by decide +kernel), ?_⟩
  refine List.forall_mem_cons.mpr ⟨sn_aload_n (k := 0) (by decide +kernel), ?_⟩
  refine List.forall_mem_cons.mpr ⟨⟨i_50, rfl, mk_callV (by decide) (by decide) cv_50 (Or.inl tw_732) rfl (by decide +kernel)⟩, ?_⟩
  refine List.forall_mem_cons.mpr ⟨⟨i_45, rfl, mk_callV (by decide) (by decide) cv_45 (Or.inl tw_696) rfl (by decide +kernel)⟩, ?_⟩
  refine List.forall_mem_cons.mpr ⟨sn_if_eq (off := 35) (by decide +kernel) (by decide), ?_⟩
  refine List.forall_mem_cons.mpr ⟨sn_aload_n (k := 0) (by decide +kernel), ?_⟩
  refine List.forall_mem_cons.mpr ⟨sn_getf (by decide +kernel) rfl tbX4 (by decide) tw_259, ?_⟩
  refine List.forall_mem_cons.mpr ⟨sn_aload_n (k := 0) (by decide +kernel), ?_⟩
  refine List.forall_mem_cons.mpr ⟨⟨i_50, rfl, mk_callV (by decide) (by decide) cv_50 (Or.inl tw_732) rfl (by decide +kernel)⟩, ?_⟩
  refine List.forall_mem_cons.mpr ⟨sn_l2i (by decide +kernel), ?_⟩
  refine List.forall_mem_cons.mpr ⟨⟨i_22, rfl, mk_callV (by decide) (by decide) cv_22 (Or.inl tw_704) rfl (by decide +kernel)⟩, ?_⟩
  refine List.forall_mem_cons.mpr ⟨sn_istore_n (k := 1) (by decide +kernel) (by decide), ?_⟩
  refine List.forall_mem_cons.mpr ⟨sn_aload_n (k := 0) (by decide +kernel), ?_⟩
  refine List.forall_mem_cons.mpr ⟨sn_iload_n (k := 1) (by decide +kernel), ?_⟩
  refine List.forall_mem_cons.mpr ⟨sn_bipush (k := 8) (by decide +kernel) (by decide), ?_⟩
  refine List.forall_mem_cons.mpr ⟨sn_aload_n (k := 0) (by decide +kernel), ?_⟩
  refine List.forall_mem_cons.mpr ⟨sn_getf (by decide +kernel) rfl tbX4 (by decide) tw_261, ?_⟩
  refine List.forall_mem_cons.mpr ⟨sn_iconst (k := 3) (by decide +kernel) (by decide), ?_⟩
  refine List.forall_mem_cons.mpr ⟨sn_iand (by decide +kernel), ?_⟩
  refine List.forall_mem_cons.mpr ⟨sn_imul (by decide +kernel), ?_⟩
  refine List.forall_mem_cons.mpr ⟨sn_iushr (by decide +kernel), ?_⟩
  refine List.forall_mem_cons.mpr ⟨sn_sipush (k := 255) (by decide +kernel) (by decide), ?_⟩
  refine List.forall_mem_cons.mpr ⟨sn_iand (by decide +kernel), ?_⟩
  refine List.forall_mem_cons.mpr ⟨sn_putf tyX4 (by decide +kernel) rfl tbX4 tyX4_ok nmX4 (by decide) tw_261 (Or.inl rfl) rfl, ?_⟩
  refine List.forall_mem_cons.mpr ⟨⟨rfl, (by decide +kernel : decode prog_6_method_12_code 43 = .ok (.return_, 1))⟩, ?_⟩
  exact fun _ h => absurd h List.not_mem_nil
set_option maxRecDepth 20000 in
theorem ok_52 : ∀ q ∈ mt_52, mx_ok mx_I0 i_52 q.1 q.2 := by
  refine List.forall_mem_cons.mpr ⟨sn_aload_n (k := 0) (by decide +kernel), ?_⟩
  refine List.forall_mem_cons.mpr ⟨sn_aload_n (k := 0) (by decide +kernel), ?_⟩
  refine List.forall_mem_cons.mpr ⟨⟨i_50, rfl, mk_callV (by decide) (by decide) cv_50 (Or.inl tw_732) rfl (by decide +kernel)⟩, ?_⟩
  refine List.forall_mem_cons.mpr ⟨⟨i_45, rfl, mk_callV (by decide) (by decide) cv_45 (Or.inl tw_696) rfl (by decide +kernel)⟩, ?_⟩
  refine List.forall_mem_cons.mpr ⟨sn_if_eq (off := 55) (by decide +kernel) (by decide), ?_⟩
  refine List.forall_mem_cons.mpr ⟨sn_aload_n (k := 0) (by decide +kernel), ?_⟩
  refine List.forall_mem_cons.mpr ⟨⟨i_50, rfl, mk_callV (by decide) (by decide) cv_50 (Or.inl tw_732) rfl (by decide +kernel)⟩, ?_⟩
  refine List.forall_mem_cons.mpr ⟨sn_l2i (by decide +kernel), ?_⟩
  refine List.forall_mem_cons.mpr ⟨sn_istore_n (k := 2) (by decide +kernel) (by decide), ?_⟩
  refine List.forall_mem_cons.mpr ⟨sn_bipush (k := 8) (by decide +kernel) (by decide), ?_⟩
  refine List.forall_mem_cons.mpr ⟨sn_aload_n (k := 0) (by decide +kernel), ?_⟩
  refine List.forall_mem_cons.mpr ⟨sn_getf (by decide +kernel) rfl tbX4 (by decide) tw_261, ?_⟩
  refine List.forall_mem_cons.mpr ⟨sn_iconst (k := 3) (by decide +kernel) (by decide), ?_⟩
  refine List.forall_mem_cons.mpr ⟨sn_iand (by decide +kernel), ?_⟩
  refine List.forall_mem_cons.mpr ⟨sn_imul (by decide +kernel), ?_⟩
  refine List.forall_mem_cons.mpr ⟨sn_istore_n (k := 3) (by decide +kernel) (by decide), ?_⟩
  refine List.forall_mem_cons.mpr ⟨sn_aload_n (k := 0) (by decide +kernel), ?_⟩
  refine List.forall_mem_cons.mpr ⟨sn_getf (by decide +kernel) rfl tbX4 (by decide) tw_259, ?_⟩
  refine List.forall_mem_cons.mpr ⟨sn_iload_n (k := 2) (by decide +kernel), ?_⟩
  refine List.forall_mem_cons.mpr ⟨⟨i_22, rfl, mk_callV (by decide) (by decide) cv_22 (Or.inl tw_704) rfl (by decide +kernel)⟩, ?_⟩
  refine List.forall_mem_cons.mpr ⟨sn_sipush (k := 255) (by decide +kernel) (by decide), ?_⟩
  refine List.forall_mem_cons.mpr ⟨sn_iload_n (k := 3) (by decide +kernel), ?_⟩
  refine List.forall_mem_cons.mpr ⟨sn_ishl (by decide +kernel), ?_⟩
  refine List.forall_mem_cons.mpr ⟨sn_iconst (k := (-1)) (by decide +kernel) (by decide), ?_⟩
  refine List.forall_mem_cons.mpr ⟨sn_ixor (by decide +kernel), ?_⟩
  refine List.forall_mem_cons.mpr ⟨sn_iand (by decide +kernel), ?_⟩
  refine List.forall_mem_cons.mpr ⟨sn_istore (k := 4) (by decide +kernel) (by decide), ?_⟩
  refine List.forall_mem_cons.mpr ⟨sn_aload_n (k := 0) (by decide +kernel), ?_⟩
  refine List.forall_mem_cons.mpr ⟨sn_getf (by decide +kernel) rfl tbX4 (by decide) tw_259, ?_⟩
  refine List.forall_mem_cons.mpr ⟨sn_iload_n (k := 2) (by decide +kernel), ?_⟩
  refine List.forall_mem_cons.mpr ⟨sn_iload (k := 4) (by decide +kernel), ?_⟩
  refine List.forall_mem_cons.mpr ⟨sn_iload_n (k := 1) (by decide +kernel), ?_⟩
  refine List.forall_mem_cons.mpr ⟨sn_sipush (k := 255) (by decide +kernel) (by decide), ?_⟩
  refine List.forall_mem_cons.mpr ⟨sn_iand (by decide +kernel), ?_⟩
  refine List.forall_mem_cons.mpr ⟨sn_iload_n (k := 3) (by decide +kernel), ?_⟩
  refine List.forall_mem_cons.mpr ⟨sn_ishl (by decide +kernel), ?_⟩
  refine List.forall_mem_cons.mpr ⟨sn_ior (by decide +kernel), ?_⟩
  refine List.forall_mem_cons.mpr ⟨⟨i_23, rfl, mk_callV (by decide) (by decide) cv_23 (Or.inl tw_713) rfl (by decide +kernel)⟩, ?_⟩
  refine List.forall_mem_cons.mpr ⟨⟨rfl, (by decide +kernel : decode prog_6_method_13_code 63 = .ok (.return_, 1))⟩, ?_⟩
  exact fun _ h => absurd h List.not_mem_nil
set_option maxRecDepth 20000 in
theorem ok_53 : ∀ q ∈ mt_53, mx_ok mx_I0 i_53 q.1 q.2 := by
  refine List.forall_mem_cons.mpr ⟨sn_aload_n (k := 0) (by decide +kernel), ?_⟩
  refine List.forall_mem_cons.mpr ⟨sn_getf (by decide +kernel) rfl tbX4 (by decide) tw_267, ?_⟩
  refine List.forall_mem_cons.mpr ⟨sn_if_ne (off := 11) (by decide +kernel) (by decide), ?_⟩
  refine List.forall_mem_cons.mpr ⟨sn_aload_n (k := 0) (by decide +kernel), ?_⟩
  refine List.forall_mem_cons.mpr ⟨sn_iconst (k := 1) (by decide +kernel) (by decide), ?_⟩
  refine List.forall_mem_cons.mpr ⟨sn_putf tyX4 (by decide +kernel) rfl tbX4 tyX4_ok nmX4 (by decide) tw_264 (Or.inl rfl) rfl, ?_⟩
  refine List.forall_mem_cons.mpr ⟨sn_goto (off := 13) (by decide +kernel) (by decide), ?_⟩
  refine List.forall_mem_cons.mpr ⟨sn_aload_n (k := 0) (by decide +kernel), ?_⟩
  refine List.forall_mem_cons.mpr ⟨sn_dup (by decide +kernel), ?_⟩
  refine List.forall_mem_cons.mpr ⟨sn_getf (by decide +kernel) rfl tbX4 (by decide) tw_267, ?_⟩
  refine List.forall_mem_cons.mpr ⟨sn_iconst (k := 1) (by decide +kernel) (by decide), ?_⟩
  refine List.forall_mem_cons.mpr ⟨sn_isub (by decide +kernel), ?_⟩
  refine List.forall_mem_cons.mpr ⟨sn_putf tyX4 (by decide +kernel) rfl tbX4 tyX4_ok nmX4 (by decide) tw_267 (Or.inl rfl) rfl, ?_⟩
  refine List.forall_mem_cons.mpr ⟨⟨rfl, (by decide +kernel : decode prog_6_method_14_code 25 = .ok (.return_, 1))⟩, ?_⟩
  exact fun _ h => absurd h List.not_mem_nil
set_option maxRecDepth 20000 in
theorem ok_54 : ∀ q ∈ mt_54, mx_ok mx_I0 i_54 q.1 q.2 := by
  refine List.forall_mem_cons.mpr ⟨sn_aload_n (k := 0) (by decide +kernel), ?_⟩
  refine List.forall_mem_cons.mpr ⟨sn_obj (by decide +kernel) tw_124 tw_90 tw_oi (by decide) (by decide), ?_⟩
  refine List.forall_mem_cons.mpr ⟨sn_aload_n (k := 0) (by decide +kernel), ?_⟩
  refine List.forall_mem_cons.mpr ⟨sn_new tyX6 (by decide +kernel) rfl tbX6 tyX6_ok tw_125 tw_99 tw_68 rfl (by decide), ?_⟩
  refine List.forall_mem_cons.mpr ⟨sn_dup (by decide +kernel), ?_⟩
  refine List.forall_mem_cons.mpr ⟨⟨i_1, rfl, mk_callI (by decide) (by decide) ci_1 (Or.inr ⟨_, tw_126⟩) (by decide +kernel)⟩, ?_⟩
  refine List.forall_mem_cons.mpr ⟨sn_putf tyX3 (by decide +kernel) rfl tbX3 tyX3_ok nmX3 (by decide) tw_128 (Or.inr ⟨rfl, rfl, rfl⟩) rfl, ?_⟩
  refine List.forall_mem_cons.mpr ⟨sn_aload_n (k := 0) (by decide +kernel), ?_⟩
  refine List.forall_mem_cons.mpr ⟨sn_new tyX6 (by decide +kernel) rfl tbX6 tyX6_ok tw_125 tw_99 tw_68 rfl (by decide), ?_⟩
  refine List.forall_mem_cons.mpr ⟨sn_dup (by decide +kernel), ?_⟩
  refine List.forall_mem_cons.mpr ⟨⟨i_1, rfl, mk_callI (by decide) (by decide) ci_1 (Or.inr ⟨_, tw_126⟩) (by decide +kernel)⟩, ?_⟩
  refine List.forall_mem_cons.mpr ⟨sn_putf tyX3 (by decide +kernel) rfl tbX3 tyX3_ok nmX3 (by decide) tw_129 (Or.inr ⟨rfl, rfl, rfl⟩) rfl, ?_⟩
  refine List.forall_mem_cons.mpr ⟨sn_aload_n (k := 0) (by decide +kernel), ?_⟩
  refine List.forall_mem_cons.mpr ⟨sn_new tyX6 (by decide +kernel) rfl tbX6 tyX6_ok tw_125 tw_99 tw_68 rfl (by decide), ?_⟩
  refine List.forall_mem_cons.mpr ⟨sn_dup (by decide +kernel), ?_⟩
  refine List.forall_mem_cons.mpr ⟨⟨i_1, rfl, mk_callI (by decide) (by decide) ci_1 (Or.inr ⟨_, tw_126⟩) (by decide +kernel)⟩, ?_⟩
  refine List.forall_mem_cons.mpr ⟨sn_putf tyX3 (by decide +kernel) rfl tbX3 tyX3_ok nmX3 (by decide) tw_130 (Or.inr ⟨rfl, rfl, rfl⟩) rfl, ?_⟩
  refine List.forall_mem_cons.mpr ⟨sn_aload_n (k := 0) (by decide +kernel), ?_⟩
  refine List.forall_mem_cons.mpr ⟨sn_new tyX6 (by decide +kernel) rfl tbX6 tyX6_ok tw_125 tw_99 tw_68 rfl (by decide), ?_⟩
  refine List.forall_mem_cons.mpr ⟨sn_dup (by decide +kernel), ?_⟩
  refine List.forall_mem_cons.mpr ⟨⟨i_1, rfl, mk_callI (by decide) (by decide) ci_1 (Or.inr ⟨_, tw_126⟩) (by decide +kernel)⟩, ?_⟩
  refine List.forall_mem_cons.mpr ⟨sn_putf tyX3 (by decide +kernel) rfl tbX3 tyX3_ok nmX3 (by decide) tw_131 (Or.inr ⟨rfl, rfl, rfl⟩) rfl, ?_⟩
  refine List.forall_mem_cons.mpr ⟨sn_aload_n (k := 0) (by decide +kernel), ?_⟩
  refine List.forall_mem_cons.mpr ⟨sn_aload_n (k := 1) (by decide +kernel), ?_⟩
  refine List.forall_mem_cons.mpr ⟨sn_putf tyX3 (by decide +kernel) rfl tbX3 tyX3_ok nmX3 (by decide) tw_127 (Or.inr ⟨rfl, rfl, rfl⟩) rfl, ?_⟩
  refine List.forall_mem_cons.mpr ⟨⟨rfl, (by decide +kernel : decode prog_5_method_1_code 53 = .ok (.return_, 1))⟩, ?_⟩
  exact fun _ h => absurd h List.not_mem_nil
set_option maxRecDepth 20000 in
theorem ok_55 : ∀ q ∈ mt_55, mx_ok mx_I0 i_55 q.1 q.2 := by
  refine List.forall_mem_cons.mpr ⟨sn_aload_n (k := 0) (by decide +kernel), ?_⟩
  refine List.forall_mem_cons.mpr ⟨sn_iconst (k := 0) (by decide +kernel) (by decide), ?_⟩
  refine List.forall_mem_cons.mpr ⟨sn_putf tyX3 (by decide +kernel) rfl tbX3 tyX3_ok nmX3 (by decide) tw_132 (Or.inl rfl) rfl, ?_⟩
  refine List.forall_mem_cons.mpr ⟨⟨rfl, (by decide +kernel : decode prog_5_method_2_code 5 = .ok (.return_, 1))⟩, ?_⟩
  exact fun _ h => absurd h List.not_mem_nil
set_option maxRecDepth 20000 in
theorem ok_56 : ∀ q ∈ mt_56, mx_ok mx_I0 i_56 q.1 q.2 := by
  refine List.forall_mem_cons.mpr ⟨sn_aload_n (k := 0) (by decide +kernel), ?_⟩
  refine List.forall_mem_cons.mpr ⟨sn_getf (by decide +kernel) rfl tbX3 (by decide) tw_132, ?_⟩
  refine List.forall_mem_cons.mpr ⟨sn_if_ne (off := 62) (by decide +kernel) (by decide), ?_⟩
  refine List.forall_mem_cons.mpr ⟨sn_aload_n (k := 0) (by decide +kernel), ?_⟩
  refine List.forall_mem_cons.mpr ⟨sn_aload_n (k := 0) (by decide +kernel), ?_⟩
  refine List.forall_mem_cons.mpr ⟨sn_getf (by decide +kernel) rfl tbX3 (by decide) tw_127, ?_⟩
  refine List.forall_mem_cons.mpr ⟨⟨i_25, rfl, mk_callV (by decide) (by decide) cv_25 (Or.inl tw_356) rfl (by decide +kernel)⟩, ?_⟩
  refine List.forall_mem_cons.mpr ⟨sn_if_le (off := 42) (by decide +kernel) (by decide), ?_⟩
  refine List.forall_mem_cons.mpr ⟨sn_aload_n (k := 0) (by decide +kernel), ?_⟩
  refine List.forall_mem_cons.mpr ⟨⟨i_59, rfl, mk_callV (by decide) (by decide) cv_59 (Or.inl tw_357) rfl (by decide +kernel)⟩, ?_⟩
  refine List.forall_mem_cons.mpr ⟨sn_if_eq (off := 35) (by decide +kernel) (by decide), ?_⟩
  refine List.forall_mem_cons.mpr ⟨sn_aload_n (k := 0) (by decide +kernel), ?_⟩
  refine List.forall_mem_cons.mpr ⟨⟨i_60, rfl, mk_callV (by decide) (by decide) cv_60 (Or.inl tw_375) rfl (by decide +kernel)⟩, ?_⟩
  refine List.forall_mem_cons.mpr ⟨sn_if_eq (off := 28) (by decide +kernel) (by decide), ?_⟩
  refine List.forall_mem_cons.mpr ⟨sn_aload_n (k := 0) (by decide +kernel), ?_⟩
  refine List.forall_mem_cons.mpr ⟨⟨i_61, rfl, mk_callV (by decide) (by decide) cv_61 (Or.inl tw_385) rfl (by decide +kernel)⟩, ?_⟩
  refine List.forall_mem_cons.mpr ⟨sn_if_eq (off := 21) (by decide +kernel) (by decide), ?_⟩
  refine List.forall_mem_cons.mpr ⟨sn_aload_n (k := 0) (by decide +kernel), ?_⟩
  refine List.forall_mem_cons.mpr ⟨⟨i_64, rfl, mk_callV (by decide) (by decide) cv_64 (Or.inl tw_395) rfl (by decide +kernel)⟩, ?_⟩
  refine List.forall_mem_cons.mpr ⟨sn_if_eq (off := 14) (by decide +kernel) (by decide), ?_⟩
  refine List.forall_mem_cons.mpr ⟨sn_aload_n (k := 0) (by decide +kernel), ?_⟩
  refine List.forall_mem_cons.mpr ⟨⟨i_67, rfl, mk_callV (by decide) (by decide) cv_67 (Or.inl tw_429) rfl (by decide +kernel)⟩, ?_⟩
  refine List.forall_mem_cons.mpr ⟨sn_if_eq (off := 7) (by decide +kernel) (by decide), ?_⟩
  refine List.forall_mem_cons.mpr ⟨sn_iconst (k := 1) (by decide +kernel) (by decide), ?_⟩
  refine List.forall_mem_cons.mpr ⟨sn_goto (off := 4) (by decide +kernel) (by decide), ?_⟩
  refine List.forall_mem_cons.mpr ⟨sn_iconst (k := 0) (by decide +kernel) (by decide), ?_⟩
  refine List.forall_mem_cons.mpr ⟨sn_putf tyX3 (by decide +kernel) rfl tbX3 tyX3_ok nmX3 (by decide) tw_133 (Or.inl rfl) rfl, ?_⟩
  refine List.forall_mem_cons.mpr ⟨sn_aload_n (k := 0) (by decide +kernel), ?_⟩
  refine List.forall_mem_cons.mpr ⟨sn_iconst (k := 1) (by decide +kernel) (by decide), ?_⟩
  refine List.forall_mem_cons.mpr ⟨sn_putf tyX3 (by decide +kernel) rfl tbX3 tyX3_ok nmX3 (by decide) tw_132 (Or.inl rfl) rfl, ?_⟩
  refine List.forall_mem_cons.mpr ⟨sn_aload_n (k := 0) (by decide +kernel), ?_⟩
  refine List.forall_mem_cons.mpr ⟨sn_getf (by decide +kernel) rfl tbX3 (by decide) tw_133, ?_⟩
  refine List.forall_mem_cons.mpr ⟨⟨rfl, (by decide +kernel : decode prog_5_method_3_code 70 = .ok (.ireturn, 1))⟩, ?_⟩
  exact fun _ h => absurd h List.not_mem_nil
set_option maxRecDepth 20000 in
theorem ok_57 : ∀ q ∈ mt_57, mx_ok mx_I0 i_57 q.1 q.2 := by
  refine List.forall_mem_cons.mpr ⟨sn_aload_n (k := 0) (by decide +kernel), ?_⟩
  refine List.forall_mem_cons.mpr ⟨sn_getf (by decide +kernel) rfl tbX3 (by decide) tw_129, ?_⟩
  refine List.forall_mem_cons.mpr ⟨sn_iload_n (k := 1) (by decide +kernel), ?_⟩
  refine List.forall_mem_cons.mpr ⟨⟨i_3, rfl, mk_callV (by decide) (by decide) cv_3 (Or.inl tw_380) rfl (by decide +kernel)⟩, ?_⟩
  refine List.forall_mem_cons.mpr ⟨sn_iconst (k := (-1)) (by decide +kernel) (by decide), ?_⟩
  refine List.forall_mem_cons.mpr ⟨sn_icmp_eq (off := 7) (by decide +kernel) (by decide), ?_⟩
  refine List.forall_mem_cons.mpr ⟨sn_iconst (k := 1) (by decide +kernel) (by decide), ?_⟩
  refine List.forall_mem_cons.mpr ⟨sn_goto (off := 4) (by decide +kernel) (by decide), ?_⟩
  refine List.forall_mem_cons.mpr ⟨sn_iconst (k := 0) (by decide +kernel) (by decide), ?_⟩
  refine List.forall_mem_cons.mpr ⟨⟨rfl, (by decide +kernel : decode prog_5_method_4_code 17 = .ok (.ireturn, 1))⟩, ?_⟩
  exact fun _ h => absurd h List.not_mem_nil
set_option maxRecDepth 20000 in
theorem ok_58 : ∀ q ∈ mt_58, mx_ok mx_I0 i_58 q.1 q.2 := by
  refine List.forall_mem_cons.mpr ⟨sn_aload_n (k := 0) (by decide +kernel), ?_⟩
  refine List.forall_mem_cons.mpr ⟨sn_getf (by decide +kernel) rfl tbX3 (by decide) tw_129, ?_⟩
  refine List.forall_mem_cons.mpr ⟨sn_aload_n (k := 0) (by decide +kernel), ?_⟩
  refine List.forall_mem_cons.mpr ⟨sn_getf (by decide +kernel) rfl tbX3 (by decide) tw_128, ?_⟩
  refine List.forall_mem_cons.mpr ⟨sn_iload_n (k := 1) (by decide +kernel), ?_⟩
  refine List.forall_mem_cons.mpr ⟨⟨i_3, rfl, mk_callV (by decide) (by decide) cv_3 (Or.inl tw_380) rfl (by decide +kernel)⟩, ?_⟩
  refine List.forall_mem_cons.mpr ⟨⟨i_3, rfl, mk_callV (by decide) (by decide) cv_3 (Or.inl tw_380) rfl (by decide +kernel)⟩, ?_⟩
  refine List.forall_mem_cons.mpr ⟨⟨rfl, (by decide +kernel : decode prog_5_method_5_code 15 = .ok (.ireturn, 1))⟩, ?_⟩
  exact fun _ h => absurd h List.not_mem_nil
set_option maxRecDepth 20000 in
theorem ok_59 : ∀ q ∈ mt_59, mx_ok mx_I0 i_59 q.1 q.2 := by
  refine List.forall_mem_cons.mpr ⟨sn_iconst (k := 0) (by decide +kernel) (by decide), ?_⟩
  refine List.forall_mem_cons.mpr ⟨sn_istore_n (k := 1) (by decide +kernel) (by decide), ?_⟩
  refine List.forall_mem_cons.mpr ⟨sn_iload_n (k := 1) (by decide +kernel), ?_⟩
  refine List.forall_mem_cons.mpr ⟨sn_aload_n (k := 0) (by decide +kernel), ?_⟩
  refine List.forall_mem_cons.mpr ⟨sn_getf (by decide +kernel) rfl tbX3 (by decide) tw_127, ?_⟩
  refine List.forall_mem_cons.mpr ⟨⟨i_25, rfl, mk_callV (by decide) (by decide) cv_25 (Or.inl tw_356) rfl (by decide +kernel)⟩, ?_⟩
  refine List.forall_mem_cons.mpr ⟨sn_icmp_ge (off := 65) (by decide +kernel) (by decide), ?_⟩
  refine List.forall_mem_cons.mpr ⟨sn_aload_n (k := 0) (by decide +kernel), ?_⟩
  refine List.forall_mem_cons.mpr ⟨sn_getf (by decide +kernel) rfl tbX3 (by decide) tw_127, ?_⟩
  refine List.forall_mem_cons.mpr ⟨sn_iload_n (k := 1) (by decide +kernel), ?_⟩
  refine List.forall_mem_cons.mpr ⟨⟨i_26, rfl, mk_callV (by decide) (by decide) cv_26 (Or.inl tw_361) rfl (by decide +kernel)⟩, ?_⟩
  refine List.forall_mem_cons.mpr ⟨sn_istore_n (k := 2) (by decide +kernel) (by decide), ?_⟩
  refine List.forall_mem_cons.mpr ⟨sn_iload_n (k := 2) (by decide +kernel), ?_⟩
  refine List.forall_mem_cons.mpr ⟨sn_if_lt (off := 11) (by decide +kernel) (by decide), ?_⟩
  refine List.forall_mem_cons.mpr ⟨sn_iload_n (k := 2) (by decide +kernel), ?_⟩
  refine List.forall_mem_cons.mpr ⟨sn_getsN (by decide +kernel) rfl tw_369, ?_⟩
  refine List.forall_mem_cons.mpr ⟨sn_alen (by decide +kernel), ?_⟩
  refine List.forall_mem_cons.mpr ⟨sn_icmp_lt (off := 5) (by decide +kernel) (by decide), ?_⟩
  refine List.forall_mem_cons.mpr ⟨sn_iconst (k := 0) (by decide +kernel) (by decide), ?_⟩
  refine List.forall_mem_cons.mpr ⟨⟨rfl, (by decide +kernel : decode prog_5_method_6_code 35 = .ok (.ireturn, 1))⟩, ?_⟩
  refine List.forall_mem_cons.mpr ⟨sn_aload_n (k := 0) (by decide +kernel), ?_⟩
  refine List.forall_mem_cons.mpr ⟨sn_getf (by decide +kernel) rfl tbX3 (by decide) tw_127, ?_⟩
  refine List.forall_mem_cons.mpr ⟨sn_iload_n (k := 1) (by decide +kernel), ?_⟩
  refine List.forall_mem_cons.mpr ⟨⟨i_27, rfl, mk_callV (by decide) (by decide) cv_27 (Or.inl tw_371) rfl (by decide +kernel)⟩, ?_⟩
  refine List.forall_mem_cons.mpr ⟨sn_istore_n (k := 3) (by decide +kernel) (by decide), ?_⟩
  refine List.forall_mem_cons.mpr ⟨sn_getsN (by decide +kernel) rfl tw_369, ?_⟩
  refine List.forall_mem_cons.mpr ⟨sn_iload_n (k := 2) (by decide +kernel), ?_⟩
  refine List.forall_mem_cons.mpr ⟨sn_iald (by decide +kernel), ?_⟩
  refine List.forall_mem_cons.mpr ⟨sn_istore (k := 4) (by decide +kernel) (by decide), ?_⟩
  refine List.forall_mem_cons.mpr ⟨sn_iload (k := 4) (by decide +kernel), ?_⟩
  refine List.forall_mem_cons.mpr ⟨sn_if_lt (off := 15) (by decide +kernel) (by decide), ?_⟩
  refine List.forall_mem_cons.mpr ⟨sn_iload_n (k := 3) (by decide +kernel), ?_⟩
  refine List.forall_mem_cons.mpr ⟨sn_if_lt (off := 9) (by decide +kernel) (by decide), ?_⟩
  refine List.forall_mem_cons.mpr ⟨sn_iload_n (k := 3) (by decide +kernel), ?_⟩
  refine List.forall_mem_cons.mpr ⟨sn_iload (k := 4) (by decide +kernel), ?_⟩
  refine List.forall_mem_cons.mpr ⟨sn_icmp_le (off := 5) (by decide +kernel) (by decide), ?_⟩
  refine List.forall_mem_cons.mpr ⟨sn_iconst (k := 0) (by decide +kernel) (by decide), ?_⟩
  refine List.forall_mem_cons.mpr ⟨⟨rfl, (by decide +kernel : decode prog_5_method_6_code 68 = .ok (.ireturn, 1))⟩, ?_⟩
  refine List.forall_mem_cons.mpr ⟨sn_iinc (d := 1) (by decide +kernel) (by decide) (by decide), ?_⟩
  refine List.forall_mem_cons.mpr ⟨sn_goto (off := (-70)) (by decide +kernel) (by decide), ?_⟩
  refine List.forall_mem_cons.mpr ⟨sn_iconst (k := 1) (by decide +kernel) (by decide), ?_⟩
  refine List.forall_mem_cons.mpr ⟨⟨rfl, (by decide +kernel : decode prog_5_method_6_code 76 = .ok (.ireturn, 1))⟩, ?_⟩
  exact fun _ h => absurd h List.not_mem_nil
set_option maxRecDepth 20000 in
theorem ok_60 : ∀ q ∈ mt_60, mx_ok mx_I0 i_60 q.1 q.2 := by
  refine List.forall_mem_cons.mpr ⟨sn_aload_n (k := 0) (by decide +kernel), ?_⟩
  refine List.forall_mem_cons.mpr ⟨sn_getf (by decide +kernel) rfl tbX3 (by decide) tw_128, ?_⟩
  refine List.forall_mem_cons.mpr ⟨sn_bipush (k := 100) (by decide +kernel) (by decide), ?_⟩
  refine List.forall_mem_cons.mpr ⟨sn_iconst (k := (-1)) (by decide +kernel) (by decide), ?_⟩
  refine List.forall_mem_cons.mpr ⟨⟨i_8, rfl, mk_callV (by decide) (by decide) cv_8 (Or.inl tw_379) rfl (by decide +kernel)⟩, ?_⟩
  refine List.forall_mem_cons.mpr ⟨sn_iconst (k := 0) (by decide +kernel) (by decide), ?_⟩
  refine List.forall_mem_cons.mpr ⟨sn_istore_n (k := 1) (by decide +kernel) (by decide), ?_⟩
  refine List.forall_mem_cons.mpr ⟨sn_iload_n (k := 1) (by decide +kernel), ?_⟩
  refine List.forall_mem_cons.mpr ⟨sn_aload_n (k := 0) (by decide +kernel), ?_⟩
  refine List.forall_mem_cons.mpr ⟨sn_getf (by decide +kernel) rfl tbX3 (by decide) tw_127, ?_⟩
  refine List.forall_mem_cons.mpr ⟨⟨i_25, rfl, mk_callV (by decide) (by decide) cv_25 (Or.inl tw_356) rfl (by decide +kernel)⟩, ?_⟩
  refine List.forall_mem_cons.mpr ⟨sn_icmp_ge (off := 54) (by decide +kernel) (by decide), ?_⟩
  refine List.forall_mem_cons.mpr ⟨sn_aload_n (k := 0) (by decide +kernel), ?_⟩
  refine List.forall_mem_cons.mpr ⟨sn_getf (by decide +kernel) rfl tbX3 (by decide) tw_127, ?_⟩
  refine List.forall_mem_cons.mpr ⟨sn_iload_n (k := 1) (by decide +kernel), ?_⟩
  refine List.forall_mem_cons.mpr ⟨⟨i_26, rfl, mk_callV (by decide) (by decide) cv_26 (Or.inl tw_361) rfl (by decide +kernel)⟩, ?_⟩
  refine List.forall_mem_cons.mpr ⟨sn_bipush (k := 13) (by decide +kernel) (by decide), ?_⟩
  refine List.forall_mem_cons.mpr ⟨sn_icmp_ne (off := 35) (by decide +kernel) (by decide), ?_⟩
  refine List.forall_mem_cons.mpr ⟨sn_aload_n (k := 0) (by decide +kernel), ?_⟩
  refine List.forall_mem_cons.mpr ⟨sn_getf (by decide +kernel) rfl tbX3 (by decide) tw_127, ?_⟩
  refine List.forall_mem_cons.mpr ⟨sn_iload_n (k := 1) (by decide +kernel), ?_⟩
  refine List.forall_mem_cons.mpr ⟨⟨i_27, rfl, mk_callV (by decide) (by decide) cv_27 (Or.inl tw_371) rfl (by decide +kernel)⟩, ?_⟩
  refine List.forall_mem_cons.mpr ⟨sn_istore_n (k := 2) (by decide +kernel) (by decide), ?_⟩
  refine List.forall_mem_cons.mpr ⟨sn_aload_n (k := 0) (by decide +kernel), ?_⟩
  refine List.forall_mem_cons.mpr ⟨sn_getf (by decide +kernel) rfl tbX3 (by decide) tw_128, ?_⟩
  refine List.forall_mem_cons.mpr ⟨sn_iload_n (k := 2) (by decide +kernel), ?_⟩
  refine List.forall_mem_cons.mpr ⟨⟨i_3, rfl, mk_callV (by decide) (by decide) cv_3 (Or.inl tw_380) rfl (by decide +kernel)⟩, ?_⟩
  refine List.forall_mem_cons.mpr ⟨sn_iconst (k := (-1)) (by decide +kernel) (by decide), ?_⟩
  refine List.forall_mem_cons.mpr ⟨sn_icmp_eq (off := 5) (by decide +kernel) (by decide), ?_⟩
  refine List.forall_mem_cons.mpr ⟨sn_iconst (k := 0) (by decide +kernel) (by decide), ?_⟩
  refine List.forall_mem_cons.mpr ⟨⟨rfl, (by decide +kernel : decode prog_5_method_7_code 58 = .ok (.ireturn, 1))⟩, ?_⟩
  refine List.forall_mem_cons.mpr ⟨sn_aload_n (k := 0) (by decide +kernel), ?_⟩
  refine List.forall_mem_cons.mpr ⟨sn_getf (by decide +kernel) rfl tbX3 (by decide) tw_128, ?_⟩
  refine List.forall_mem_cons.mpr ⟨sn_iload_n (k := 2) (by decide +kernel), ?_⟩
  refine List.forall_mem_cons.mpr ⟨sn_iload_n (k := 1) (by decide +kernel), ?_⟩
  refine List.forall_mem_cons.mpr ⟨⟨i_4, rfl, mk_callV (by decide) (by decide) cv_4 (Or.inl tw_381) rfl (by decide +kernel)⟩, ?_⟩
  refine List.forall_mem_cons.mpr ⟨sn_iinc (d := 1) (by decide +kernel) (by decide) (by decide), ?_⟩
  refine List.forall_mem_cons.mpr ⟨sn_goto (off := (-59)) (by decide +kernel) (by decide), ?_⟩
  refine List.forall_mem_cons.mpr ⟨sn_iconst (k := 1) (by decide +kernel) (by decide), ?_⟩
  refine List.forall_mem_cons.mpr ⟨⟨rfl, (by decide +kernel : decode prog_5_method_7_code 75 = .ok (.ireturn, 1))⟩, ?_⟩
  exact fun _ h => absurd h List.not_mem_nil
set_option maxRecDepth 20000 in
theorem ok_61 : ∀ q ∈ mt_61, mx_ok mx_I0 i_61 q.1 q.2 := by
  refine List.forall_mem_cons.mpr ⟨sn_iconst (k := 0) (by decide +kernel) (by decide), ?_⟩
  refine List.forall_mem_cons.mpr ⟨sn_istore_n (k := 1) (by decide +kernel) (by decide), ?_⟩
  refine List.forall_mem_cons.mpr ⟨sn_iload_n (k := 1) (by decide +kernel), ?_⟩
  refine List.forall_mem_cons.mpr ⟨sn_aload_n (k := 0) (by decide +kernel), ?_⟩
  refine List.forall_mem_cons.mpr ⟨sn_getf (by decide +kernel) rfl tbX3 (by decide) tw_127, ?_⟩
  refine List.forall_mem_cons.mpr ⟨⟨i_25, rfl, mk_callV (by decide) (by decide) cv_25 (Or.inl tw_356) rfl (by decide +kernel)⟩, ?_⟩
  refine List.forall_mem_cons.mpr ⟨sn_icmp_ge (off := 69) (by decide +kernel) (by decide), ?_⟩
  refine List.forall_mem_cons.mpr ⟨sn_aload_n (k := 0) (by decide +kernel), ?_⟩
  refine List.forall_mem_cons.mpr ⟨sn_getf (by decide +kernel) rfl tbX3 (by decide) tw_127, ?_⟩
  refine List.forall_mem_cons.mpr ⟨sn_iload_n (k := 1) (by decide +kernel), ?_⟩
  refine List.forall_mem_cons.mpr ⟨⟨i_26, rfl, mk_callV (by decide) (by decide) cv_26 (Or.inl tw_361) rfl (by decide +kernel)⟩, ?_⟩
  refine List.forall_mem_cons.mpr ⟨sn_istore_n (k := 2) (by decide +kernel) (by decide), ?_⟩
  refine List.forall_mem_cons.mpr ⟨sn_iload_n (k := 2) (by decide +kernel), ?_⟩
  refine List.forall_mem_cons.mpr ⟨⟨i_114, rfl, mk_callS (by decide) (by decide) cs_114 (Or.inr ⟨_, tw_389⟩) (by decide +kernel)⟩, ?_⟩
  refine List.forall_mem_cons.mpr ⟨sn_if_eq (off := 24) (by decide +kernel) (by decide), ?_⟩
  refine List.forall_mem_cons.mpr ⟨sn_aload_n (k := 0) (by decide +kernel), ?_⟩
  refine List.forall_mem_cons.mpr ⟨sn_getf (by decide +kernel) rfl tbX3 (by decide) tw_128, ?_⟩
  refine List.forall_mem_cons.mpr ⟨sn_aload_n (k := 0) (by decide +kernel), ?_⟩
  refine List.forall_mem_cons.mpr ⟨sn_getf (by decide +kernel) rfl tbX3 (by decide) tw_127, ?_⟩
  refine List.forall_mem_cons.mpr ⟨sn_iload_n (k := 1) (by decide +kernel), ?_⟩
  refine List.forall_mem_cons.mpr ⟨⟨i_27, rfl, mk_callV (by decide) (by decide) cv_27 (Or.inl tw_371) rfl (by decide +kernel)⟩, ?_⟩
  refine List.forall_mem_cons.mpr ⟨⟨i_3, rfl, mk_callV (by decide) (by decide) cv_3 (Or.inl tw_380) rfl (by decide +kernel)⟩, ?_⟩
  refine List.forall_mem_cons.mpr ⟨sn_iconst (k := (-1)) (by decide +kernel) (by decide), ?_⟩
  refine List.forall_mem_cons.mpr ⟨sn_icmp_ne (off := 5) (by decide +kernel) (by decide), ?_⟩
  refine List.forall_mem_cons.mpr ⟨sn_iconst (k := 0) (by decide +kernel) (by decide), ?_⟩
  refine List.forall_mem_cons.mpr ⟨⟨rfl, (by decide +kernel : decode prog_5_method_8_code 49 = .ok (.ireturn, 1))⟩, ?_⟩
  refine List.forall_mem_cons.mpr ⟨sn_iload_n (k := 2) (by decide +kernel), ?_⟩
  refine List.forall_mem_cons.mpr ⟨sn_bipush (k := 18) (by decide +kernel) (by decide), ?_⟩
  refine List.forall_mem_cons.mpr ⟨sn_icmp_ne (off := 20) (by decide +kernel) (by decide), ?_⟩
  refine List.forall_mem_cons.mpr ⟨sn_aload_n (k := 0) (by decide +kernel), ?_⟩
  refine List.forall_mem_cons.mpr ⟨sn_getf (by decide +kernel) rfl tbX3 (by decide) tw_127, ?_⟩
  refine List.forall_mem_cons.mpr ⟨sn_iload_n (k := 1) (by decide +kernel), ?_⟩
  refine List.forall_mem_cons.mpr ⟨sn_iconst (k := 1) (by decide +kernel) (by decide), ?_⟩
  refine List.forall_mem_cons.mpr ⟨sn_iadd (by decide +kernel), ?_⟩
  refine List.forall_mem_cons.mpr ⟨⟨i_26, rfl, mk_callV (by decide) (by decide) cv_26 (Or.inl tw_361) rfl (by decide +kernel)⟩, ?_⟩
  refine List.forall_mem_cons.mpr ⟨sn_bipush (k := 12) (by decide +kernel) (by decide), ?_⟩
  refine List.forall_mem_cons.mpr ⟨sn_icmp_eq (off := 5) (by decide +kernel) (by decide), ?_⟩
  refine List.forall_mem_cons.mpr ⟨sn_iconst (k := 0) (by decide +kernel) (by decide), ?_⟩
  refine List.forall_mem_cons.mpr ⟨⟨rfl, (by decide +kernel : decode prog_5_method_8_code 72 = .ok (.ireturn, 1))⟩, ?_⟩
  refine List.forall_mem_cons.mpr ⟨sn_iinc (d := 1) (by decide +kernel) (by decide) (by decide), ?_⟩
  refine List.forall_mem_cons.mpr ⟨sn_goto (off := (-74)) (by decide +kernel) (by decide), ?_⟩
  refine List.forall_mem_cons.mpr ⟨sn_iconst (k := 1) (by decide +kernel) (by decide), ?_⟩
  refine List.forall_mem_cons.mpr ⟨⟨rfl, (by decide +kernel : decode prog_5_method_8_code 80 = .ok (.ireturn, 1))⟩, ?_⟩
  exact fun _ h => absurd h List.not_mem_nil
set_option maxRecDepth 20000 in
theorem ok_62 : ∀ q ∈ mt_62, mx_ok mx_I0 i_62 q.1 q.2 := by
  refine List.forall_mem_cons.mpr ⟨sn_aload_n (k := 0) (by decide +kernel), ?_⟩
  refine List.forall_mem_cons.mpr ⟨sn_getf (by decide +kernel) rfl tbX3 (by decide) tw_127, ?_⟩
  refine List.forall_mem_cons.mpr ⟨sn_iload_n (k := 1) (by decide +kernel), ?_⟩
  refine List.forall_mem_cons.mpr ⟨⟨i_26, rfl, mk_callV (by decide) (by decide) cv_26 (Or.inl tw_361) rfl (by decide +kernel)⟩, ?_⟩
  refine List.forall_mem_cons.mpr ⟨sn_istore_n (k := 2) (by decide +kernel) (by decide), ?_⟩
  refine List.forall_mem_cons.mpr ⟨sn_iload_n (k := 2) (by decide +kernel), ?_⟩
  refine List.forall_mem_cons.mpr ⟨⟨i_115, rfl, mk_callS (by decide) (by decide) cs_115 (Or.inr ⟨_, tw_422⟩) (by decide +kernel)⟩, ?_⟩
  refine List.forall_mem_cons.mpr ⟨sn_if_eq (off := 5) (by decide +kernel) (by decide), ?_⟩
  refine List.forall_mem_cons.mpr ⟨sn_iconst (k := (-1)) (by decide +kernel) (by decide), ?_⟩
  refine List.forall_mem_cons.mpr ⟨⟨rfl, (by decide +kernel : decode prog_5_method_9_code 17 = .ok (.ireturn, 1))⟩, ?_⟩
  refine List.forall_mem_cons.mpr ⟨sn_iload_n (k := 2) (by decide +kernel), ?_⟩
  refine List.forall_mem_cons.mpr ⟨sn_bipush (k := 18) (by decide +kernel) (by decide), ?_⟩
  refine List.forall_mem_cons.mpr ⟨sn_icmp_ne (off := 9) (by decide +kernel) (by decide), ?_⟩
  refine List.forall_mem_cons.mpr ⟨sn_iload_n (k := 1) (by decide +kernel), ?_⟩
  refine List.forall_mem_cons.mpr ⟨sn_iconst (k := 2) (by decide +kernel) (by decide), ?_⟩
  refine List.forall_mem_cons.mpr ⟨sn_iadd (by decide +kernel), ?_⟩
  refine List.forall_mem_cons.mpr ⟨sn_goto (off := 6) (by decide +kernel) (by decide), ?_⟩
  refine List.forall_mem_cons.mpr ⟨sn_iload_n (k := 1) (by decide +kernel), ?_⟩
  refine List.forall_mem_cons.mpr ⟨sn_iconst (k := 1) (by decide +kernel) (by decide), ?_⟩
  refine List.forall_mem_cons.mpr ⟨sn_iadd (by decide +kernel), ?_⟩
  refine List.forall_mem_cons.mpr ⟨⟨rfl, (by decide +kernel : decode prog_5_method_9_code 33 = .ok (.ireturn, 1))⟩, ?_⟩
  exact fun _ h => absurd h List.not_mem_nil
set_option maxRecDepth 20000 in
theorem ok_63 : ∀ q ∈ mt_63, mx_ok mx_I0 i_63 q.1 q.2 := by
  refine List.forall_mem_cons.mpr ⟨sn_aload_n (k := 0) (by decide +kernel), ?_⟩
  refine List.forall_mem_cons.mpr ⟨sn_getf (by decide +kernel) rfl tbX3 (by decide) tw_127, ?_⟩
  refine List.forall_mem_cons.mpr ⟨sn_iload_n (k := 1) (by decide +kernel), ?_⟩
  refine List.forall_mem_cons.mpr ⟨⟨i_26, rfl, mk_callV (by decide) (by decide) cv_26 (Or.inl tw_361) rfl (by decide +kernel)⟩, ?_⟩
  refine List.forall_mem_cons.mpr ⟨sn_istore_n (k := 2) (by decide +kernel) (by decide), ?_⟩
  refine List.forall_mem_cons.mpr ⟨sn_iload_n (k := 2) (by decide +kernel), ?_⟩
  refine List.forall_mem_cons.mpr ⟨sn_bipush (k := 18) (by decide +kernel) (by decide), ?_⟩
  refine List.forall_mem_cons.mpr ⟨sn_icmp_ne (off := 21) (by decide +kernel) (by decide), ?_⟩
  refine List.forall_mem_cons.mpr ⟨sn_aload_n (k := 0) (by decide +kernel), ?_⟩
  refine List.forall_mem_cons.mpr ⟨sn_getf (by decide +kernel) rfl tbX3 (by decide) tw_128, ?_⟩
  refine List.forall_mem_cons.mpr ⟨sn_aload_n (k := 0) (by decide +kernel), ?_⟩
  refine List.forall_mem_cons.mpr ⟨sn_getf (by decide +kernel) rfl tbX3 (by decide) tw_127, ?_⟩
  refine List.forall_mem_cons.mpr ⟨sn_iload_n (k := 1) (by decide +kernel), ?_⟩
  refine List.forall_mem_cons.mpr ⟨sn_iconst (k := 1) (by decide +kernel) (by decide), ?_⟩
  refine List.forall_mem_cons.mpr ⟨sn_iadd (by decide +kernel), ?_⟩
  refine List.forall_mem_cons.mpr ⟨⟨i_27, rfl, mk_callV (by decide) (by decide) cv_27 (Or.inl tw_371) rfl (by decide +kernel)⟩, ?_⟩
  refine List.forall_mem_cons.mpr ⟨⟨i_3, rfl, mk_callV (by decide) (by decide) cv_3 (Or.inl tw_380) rfl (by decide +kernel)⟩, ?_⟩
  refine List.forall_mem_cons.mpr ⟨⟨rfl, (by decide +kernel : decode prog_5_method_10_code 32 = .ok (.ireturn, 1))⟩, ?_⟩
  refine List.forall_mem_cons.mpr ⟨sn_iload_n (k := 2) (by decide +kernel), ?_⟩
  refine List.forall_mem_cons.mpr ⟨⟨i_114, rfl, mk_callS (by decide) (by decide) cs_114 (Or.inr ⟨_, tw_389⟩) (by decide +kernel)⟩, ?_⟩
  refine List.forall_mem_cons.mpr ⟨sn_if_eq (off := 21) (by decide +kernel) (by decide), ?_⟩
  refine List.forall_mem_cons.mpr ⟨sn_aload_n (k := 0) (by decide +kernel), ?_⟩
  refine List.forall_mem_cons.mpr ⟨sn_getf (by decide +kernel) rfl tbX3 (by decide) tw_128, ?_⟩
  refine List.forall_mem_cons.mpr ⟨sn_aload_n (k := 0) (by decide +kernel), ?_⟩
  refine List.forall_mem_cons.mpr ⟨sn_getf (by decide +kernel) rfl tbX3 (by decide) tw_127, ?_⟩
  refine List.forall_mem_cons.mpr ⟨sn_iload_n (k := 1) (by decide +kernel), ?_⟩
  refine List.forall_mem_cons.mpr ⟨⟨i_27, rfl, mk_callV (by decide) (by decide) cv_27 (Or.inl tw_371) rfl (by decide +kernel)⟩, ?_⟩
  refine List.forall_mem_cons.mpr ⟨⟨i_3, rfl, mk_callV (by decide) (by decide) cv_3 (Or.inl tw_380) rfl (by decide +kernel)⟩, ?_⟩
  refine List.forall_mem_cons.mpr ⟨sn_goto (off := 4) (by decide +kernel) (by decide), ?_⟩
  refine List.forall_mem_cons.mpr ⟨sn_iconst (k := (-1)) (by decide +kernel) (by decide), ?_⟩
  refine List.forall_mem_cons.mpr ⟨⟨rfl, (by decide +kernel : decode prog_5_method_10_code 59 = .ok (.ireturn, 1))⟩, ?_⟩
  exact fun _ h => absurd h List.not_mem_nil
set_option maxRecDepth 20000 in
theorem ok_64 : ∀ q ∈ mt_64, mx_ok mx_I0 i_64 q.1 q.2 := by
  refine List.forall_mem_cons.mpr ⟨sn_aload_n (k := 0) (by decide +kernel), ?_⟩
  refine List.forall_mem_cons.mpr ⟨sn_getf (by decide +kernel) rfl tbX3 (by decide) tw_129, ?_⟩
  refine List.forall_mem_cons.mpr ⟨sn_aload_n (k := 0) (by decide +kernel), ?_⟩
  refine List.forall_mem_cons.mpr ⟨sn_getf (by decide +kernel) rfl tbX3 (by decide) tw_127, ?_⟩
  refine List.forall_mem_cons.mpr ⟨⟨i_25, rfl, mk_callV (by decide) (by decide) cv_25 (Or.inl tw_356) rfl (by decide +kernel)⟩, ?_⟩
  refine List.forall_mem_cons.mpr ⟨sn_iconst (k := (-1)) (by decide +kernel) (by decide), ?_⟩
  refine List.forall_mem_cons.mpr ⟨⟨i_8, rfl, mk_callV (by decide) (by decide) cv_8 (Or.inl tw_379) rfl (by decide +kernel)⟩, ?_⟩
  refine List.forall_mem_cons.mpr ⟨sn_aload_n (k := 0) (by decide +kernel), ?_⟩
  refine List.forall_mem_cons.mpr ⟨sn_getf (by decide +kernel) rfl tbX3 (by decide) tw_131, ?_⟩
  refine List.forall_mem_cons.mpr ⟨sn_iconst (k := 0) (by decide +kernel) (by decide), ?_⟩
  refine List.forall_mem_cons.mpr ⟨⟨i_7, rfl, mk_callV (by decide) (by decide) cv_7 (Or.inl tw_399) rfl (by decide +kernel)⟩, ?_⟩
  refine List.forall_mem_cons.mpr ⟨sn_aload_n (k := 0) (by decide +kernel), ?_⟩
  refine List.forall_mem_cons.mpr ⟨sn_iconst (k := 0) (by decide +kernel) (by decide), ?_⟩
  refine List.forall_mem_cons.mpr ⟨sn_iconst (k := 0) (by decide +kernel) (by decide), ?_⟩
  refine List.forall_mem_cons.mpr ⟨⟨i_66, rfl, mk_callV (by decide) (by decide) cv_66 (Or.inl tw_400) rfl (by decide +kernel)⟩, ?_⟩
  refine List.forall_mem_cons.mpr ⟨sn_pop (by decide +kernel), ?_⟩
  refine List.forall_mem_cons.mpr ⟨sn_iconst (k := 0) (by decide +kernel) (by decide), ?_⟩
  refine List.forall_mem_cons.mpr ⟨sn_istore_n (k := 1) (by decide +kernel) (by decide), ?_⟩
  refine List.forall_mem_cons.mpr ⟨sn_iload_n (k := 1) (by decide +kernel), ?_⟩
  refine List.forall_mem_cons.mpr ⟨sn_aload_n (k := 0) (by decide +kernel), ?_⟩
  refine List.forall_mem_cons.mpr ⟨sn_getf (by decide +kernel) rfl tbX3 (by decide) tw_127, ?_⟩
  refine List.forall_mem_cons.mpr ⟨⟨i_25, rfl, mk_callV (by decide) (by decide) cv_25 (Or.inl tw_356) rfl (by decide +kernel)⟩, ?_⟩
  refine List.forall_mem_cons.mpr ⟨sn_icmp_ge (off := 35) (by decide +kernel) (by decide), ?_⟩
  refine List.forall_mem_cons.mpr ⟨sn_aload_n (k := 0) (by decide +kernel), ?_⟩
  refine List.forall_mem_cons.mpr ⟨sn_getf (by decide +kernel) rfl tbX3 (by decide) tw_131, ?_⟩
  refine List.forall_mem_cons.mpr ⟨⟨i_2, rfl, mk_callV (by decide) (by decide) cv_2 (Or.inl tw_404) rfl (by decide +kernel)⟩, ?_⟩
  refine List.forall_mem_cons.mpr ⟨sn_if_le (off := 25) (by decide +kernel) (by decide), ?_⟩
  refine List.forall_mem_cons.mpr ⟨sn_aload_n (k := 0) (by decide +kernel), ?_⟩
  refine List.forall_mem_cons.mpr ⟨sn_aload_n (k := 0) (by decide +kernel), ?_⟩
  refine List.forall_mem_cons.mpr ⟨sn_getf (by decide +kernel) rfl tbX3 (by decide) tw_131, ?_⟩
  refine List.forall_mem_cons.mpr ⟨⟨i_6, rfl, mk_callV (by decide) (by decide) cv_6 (Or.inl tw_406) rfl (by decide +kernel)⟩, ?_⟩
  refine List.forall_mem_cons.mpr ⟨⟨i_65, rfl, mk_callV (by decide) (by decide) cv_65 (Or.inl tw_410) rfl (by decide +kernel)⟩, ?_⟩
  refine List.forall_mem_cons.mpr ⟨sn_if_ne (off := 5) (by decide +kernel) (by decide), ?_⟩
  refine List.forall_mem_cons.mpr ⟨sn_iconst (k := 0) (by decide +kernel) (by decide), ?_⟩
  refine List.forall_mem_cons.mpr ⟨⟨rfl, (by decide +kernel : decode prog_5_method_11_code 68 = .ok (.ireturn, 1))⟩, ?_⟩
  refine List.forall_mem_cons.mpr ⟨sn_iinc (d := 1) (by decide +kernel) (by decide) (by decide), ?_⟩
  refine List.forall_mem_cons.mpr ⟨sn_goto (off := (-40)) (by decide +kernel) (by decide), ?_⟩
  refine List.forall_mem_cons.mpr ⟨sn_iconst (k := 1) (by decide +kernel) (by decide), ?_⟩
  refine List.forall_mem_cons.mpr ⟨⟨rfl, (by decide +kernel : decode prog_5_method_11_code 76 = .ok (.ireturn, 1))⟩, ?_⟩
  exact fun _ h => absurd h List.not_mem_nil
end
section
set_option maxRecDepth 20000 in
theorem ok_65 : ∀ q ∈ mt_65, mx_ok mx_I0 i_65 q.1 q.2 := by
  refine List.forall_mem_cons.mpr ⟨sn_aload_n (k := 0) (by decide +kernel), ?_⟩
  refine List.forall_mem_cons.mpr ⟨sn_getf (by decide +kernel) rfl tbX3 (by decide) tw_127, ?_⟩
  refine List.forall_mem_cons.mpr ⟨sn_iload_n (k := 1) (by decide +kernel), ?_⟩
  refine List.forall_mem_cons.mpr ⟨⟨i_26, rfl, mk_callV (by decide) (by decide) cv_26 (Or.inl tw_361) rfl (by decide +kernel)⟩, ?_⟩
  refine List.forall_mem_cons.mpr ⟨sn_istore_n (k := 2) (by decide +kernel) (by decide), ?_⟩
  refine List.forall_mem_cons.mpr ⟨sn_iload_n (k := 2) (by decide +kernel), ?_⟩
  refine List.forall_mem_cons.mpr ⟨sn_if_lt (off := 19) (by decide +kernel) (by decide), ?_⟩
  refine List.forall_mem_cons.mpr ⟨sn_iload_n (k := 2) (by decide +kernel), ?_⟩
  refine List.forall_mem_cons.mpr ⟨sn_getsN (by decide +kernel) rfl tw_414, ?_⟩
  refine List.forall_mem_cons.mpr ⟨sn_alen (by decide +kernel), ?_⟩
  refine List.forall_mem_cons.mpr ⟨sn_icmp_ge (off := 11) (by decide +kernel) (by decide), ?_⟩
  refine List.forall_mem_cons.mpr ⟨sn_iload_n (k := 2) (by decide +kernel), ?_⟩
  refine List.forall_mem_cons.mpr ⟨sn_getsN (by decide +kernel) rfl tw_416, ?_⟩
  refine List.forall_mem_cons.mpr ⟨sn_alen (by decide +kernel), ?_⟩
  refine List.forall_mem_cons.mpr ⟨sn_icmp_lt (off := 5) (by decide +kernel) (by decide), ?_⟩
  refine List.forall_mem_cons.mpr ⟨sn_iconst (k := 0) (by decide +kernel) (by decide), ?_⟩
  refine List.forall_mem_cons.mpr ⟨⟨rfl, (by decide +kernel : decode prog_5_method_12_code 30 = .ok (.ireturn, 1))⟩, ?_⟩
  refine List.forall_mem_cons.mpr ⟨sn_aload_n (k := 0) (by decide +kernel), ?_⟩
  refine List.forall_mem_cons.mpr ⟨sn_getf (by decide +kernel) rfl tbX3 (by decide) tw_129, ?_⟩
  refine List.forall_mem_cons.mpr ⟨sn_iload_n (k := 1) (by decide +kernel), ?_⟩
  refine List.forall_mem_cons.mpr ⟨⟨i_3, rfl, mk_callV (by decide) (by decide) cv_3 (Or.inl tw_380) rfl (by decide +kernel)⟩, ?_⟩
  refine List.forall_mem_cons.mpr ⟨sn_getsN (by decide +kernel) rfl tw_414, ?_⟩
  refine List.forall_mem_cons.mpr ⟨sn_iload_n (k := 2) (by decide +kernel), ?_⟩
  refine List.forall_mem_cons.mpr ⟨sn_iald (by decide +kernel), ?_⟩
  refine List.forall_mem_cons.mpr ⟨sn_isub (by decide +kernel), ?_⟩
  refine List.forall_mem_cons.mpr ⟨sn_istore_n (k := 3) (by decide +kernel) (by decide), ?_⟩
  refine List.forall_mem_cons.mpr ⟨sn_iload_n (k := 3) (by decide +kernel), ?_⟩
  refine List.forall_mem_cons.mpr ⟨sn_getsN (by decide +kernel) rfl tw_416, ?_⟩
  refine List.forall_mem_cons.mpr ⟨sn_iload_n (k := 2) (by decide +kernel), ?_⟩
  refine List.forall_mem_cons.mpr ⟨sn_iald (by decide +kernel), ?_⟩
  refine List.forall_mem_cons.mpr ⟨sn_iadd (by decide +kernel), ?_⟩
  refine List.forall_mem_cons.mpr ⟨sn_istore (k := 4) (by decide +kernel) (by decide), ?_⟩
  refine List.forall_mem_cons.mpr ⟨sn_iload_n (k := 3) (by decide +kernel), ?_⟩
  refine List.forall_mem_cons.mpr ⟨sn_if_lt (off := 10) (by decide +kernel) (by decide), ?_⟩
  refine List.forall_mem_cons.mpr ⟨sn_iload (k := 4) (by decide +kernel), ?_⟩
  refine List.forall_mem_cons.mpr ⟨sn_bipush (k := 60) (by decide +kernel) (by decide), ?_⟩
  refine List.forall_mem_cons.mpr ⟨sn_icmp_le (off := 5) (by decide +kernel) (by decide), ?_⟩
  refine List.forall_mem_cons.mpr ⟨sn_iconst (k := 0) (by decide +kernel) (by decide), ?_⟩
  refine List.forall_mem_cons.mpr ⟨⟨rfl, (by decide +kernel : decode prog_5_method_12_code 67 = .ok (.ireturn, 1))⟩, ?_⟩
  refine List.forall_mem_cons.mpr ⟨sn_aload_n (k := 0) (by decide +kernel), ?_⟩
  refine List.forall_mem_cons.mpr ⟨sn_iload_n (k := 1) (by decide +kernel), ?_⟩
  refine List.forall_mem_cons.mpr ⟨⟨i_62, rfl, mk_callV (by decide) (by decide) cv_62 (Or.inl tw_418) rfl (by decide +kernel)⟩, ?_⟩
  refine List.forall_mem_cons.mpr ⟨sn_istore (k := 5) (by decide +kernel) (by decide), ?_⟩
  refine List.forall_mem_cons.mpr ⟨sn_iload (k := 5) (by decide +kernel), ?_⟩
  refine List.forall_mem_cons.mpr ⟨sn_iconst (k := (-1)) (by decide +kernel) (by decide), ?_⟩
  refine List.forall_mem_cons.mpr ⟨sn_icmp_eq (off := 16) (by decide +kernel) (by decide), ?_⟩
  refine List.forall_mem_cons.mpr ⟨sn_aload_n (k := 0) (by decide +kernel), ?_⟩
  refine List.forall_mem_cons.mpr ⟨sn_iload (k := 5) (by decide +kernel), ?_⟩
  refine List.forall_mem_cons.mpr ⟨sn_iload (k := 4) (by decide +kernel), ?_⟩
  refine List.forall_mem_cons.mpr ⟨⟨i_66, rfl, mk_callV (by decide) (by decide) cv_66 (Or.inl tw_400) rfl (by decide +kernel)⟩, ?_⟩
  refine List.forall_mem_cons.mpr ⟨sn_if_ne (off := 5) (by decide +kernel) (by decide), ?_⟩
  refine List.forall_mem_cons.mpr ⟨sn_iconst (k := 0) (by decide +kernel) (by decide), ?_⟩
  refine List.forall_mem_cons.mpr ⟨⟨rfl, (by decide +kernel : decode prog_5_method_12_code 93 = .ok (.ireturn, 1))⟩, ?_⟩
  refine List.forall_mem_cons.mpr ⟨sn_aload_n (k := 0) (by decide +kernel), ?_⟩
  refine List.forall_mem_cons.mpr ⟨sn_iload_n (k := 1) (by decide +kernel), ?_⟩
  refine List.forall_mem_cons.mpr ⟨⟨i_63, rfl, mk_callV (by decide) (by decide) cv_63 (Or.inl tw_425) rfl (by decide +kernel)⟩, ?_⟩
  refine List.forall_mem_cons.mpr ⟨sn_istore (k := 6) (by decide +kernel) (by decide), ?_⟩
  refine List.forall_mem_cons.mpr ⟨sn_iload (k := 6) (by decide +kernel), ?_⟩
  refine List.forall_mem_cons.mpr ⟨sn_iconst (k := (-1)) (by decide +kernel) (by decide), ?_⟩
  refine List.forall_mem_cons.mpr ⟨sn_icmp_eq (off := 13) (by decide +kernel) (by decide), ?_⟩
  refine List.forall_mem_cons.mpr ⟨sn_aload_n (k := 0) (by decide +kernel), ?_⟩
  refine List.forall_mem_cons.mpr ⟨sn_iload (k := 6) (by decide +kernel), ?_⟩
  refine List.forall_mem_cons.mpr ⟨sn_iload_n (k := 3) (by decide +kernel), ?_⟩
  refine List.forall_mem_cons.mpr ⟨⟨i_66, rfl, mk_callV (by decide) (by decide) cv_66 (Or.inl tw_400) rfl (by decide +kernel)⟩, ?_⟩
  refine List.forall_mem_cons.mpr ⟨sn_if_eq (off := 7) (by decide +kernel) (by decide), ?_⟩
  refine List.forall_mem_cons.mpr ⟨sn_iconst (k := 1) (by decide +kernel) (by decide), ?_⟩
  refine List.forall_mem_cons.mpr ⟨sn_goto (off := 4) (by decide +kernel) (by decide), ?_⟩
  refine List.forall_mem_cons.mpr ⟨sn_iconst (k := 0) (by decide +kernel) (by decide), ?_⟩
  refine List.forall_mem_cons.mpr ⟨⟨rfl, (by decide +kernel : decode prog_5_method_12_code 122 = .ok (.ireturn, 1))⟩, ?_⟩
  exact fun _ h => absurd h List.not_mem_nil
set_option maxRecDepth 20000 in
theorem ok_66 : ∀ q ∈ mt_66, mx_ok mx_I0 i_66 q.1 q.2 := by
  refine List.forall_mem_cons.mpr ⟨sn_iload_n (k := 1) (by decide +kernel), ?_⟩
  refine List.forall_mem_cons.mpr ⟨sn_aload_n (k := 0) (by decide +kernel), ?_⟩
  refine List.forall_mem_cons.mpr ⟨sn_getf (by decide +kernel) rfl tbX3 (by decide) tw_129, ?_⟩
  refine List.forall_mem_cons.mpr ⟨⟨i_2, rfl, mk_callV (by decide) (by decide) cv_2 (Or.inl tw_404) rfl (by decide +kernel)⟩, ?_⟩
  refine List.forall_mem_cons.mpr ⟨sn_icmp_lt (off := 5) (by decide +kernel) (by decide), ?_⟩
  refine List.forall_mem_cons.mpr ⟨sn_iconst (k := 0) (by decide +kernel) (by decide), ?_⟩
  refine List.forall_mem_cons.mpr ⟨⟨rfl, (by decide +kernel : decode prog_5_method_13_code 12 = .ok (.ireturn, 1))⟩, ?_⟩
  refine List.forall_mem_cons.mpr ⟨sn_aload_n (k := 0) (by decide +kernel), ?_⟩
  refine List.forall_mem_cons.mpr ⟨sn_getf (by decide +kernel) rfl tbX3 (by decide) tw_129, ?_⟩
  refine List.forall_mem_cons.mpr ⟨sn_iload_n (k := 1) (by decide +kernel), ?_⟩
  refine List.forall_mem_cons.mpr ⟨⟨i_3, rfl, mk_callV (by decide) (by decide) cv_3 (Or.inl tw_380) rfl (by decide +kernel)⟩, ?_⟩
  refine List.forall_mem_cons.mpr ⟨sn_iconst (k := (-1)) (by decide +kernel) (by decide), ?_⟩
  refine List.forall_mem_cons.mpr ⟨sn_icmp_ne (off := 20) (by decide +kernel) (by decide), ?_⟩
  refine List.forall_mem_cons.mpr ⟨sn_aload_n (k := 0) (by decide +kernel), ?_⟩
  refine List.forall_mem_cons.mpr ⟨sn_getf (by decide +kernel) rfl tbX3 (by decide) tw_129, ?_⟩
  refine List.forall_mem_cons.mpr ⟨sn_iload_n (k := 1) (by decide +kernel), ?_⟩
  refine List.forall_mem_cons.mpr ⟨sn_iload_n (k := 2) (by decide +kernel), ?_⟩
  refine List.forall_mem_cons.mpr ⟨⟨i_4, rfl, mk_callV (by decide) (by decide) cv_4 (Or.inl tw_381) rfl (by decide +kernel)⟩, ?_⟩
  refine List.forall_mem_cons.mpr ⟨sn_aload_n (k := 0) (by decide +kernel), ?_⟩
  refine List.forall_mem_cons.mpr ⟨sn_getf (by decide +kernel) rfl tbX3 (by decide) tw_131, ?_⟩
  refine List.forall_mem_cons.mpr ⟨sn_iload_n (k := 1) (by decide +kernel), ?_⟩
  refine List.forall_mem_cons.mpr ⟨⟨i_5, rfl, mk_callV (by decide) (by decide) cv_5 (Or.inl tw_405) rfl (by decide +kernel)⟩, ?_⟩
  refine List.forall_mem_cons.mpr ⟨sn_aload_n (k := 0) (by decide +kernel), ?_⟩
  refine List.forall_mem_cons.mpr ⟨sn_getf (by decide +kernel) rfl tbX3 (by decide) tw_129, ?_⟩
  refine List.forall_mem_cons.mpr ⟨sn_iload_n (k := 1) (by decide +kernel), ?_⟩
  refine List.forall_mem_cons.mpr ⟨⟨i_3, rfl, mk_callV (by decide) (by decide) cv_3 (Or.inl tw_380) rfl (by decide +kernel)⟩, ?_⟩
  refine List.forall_mem_cons.mpr ⟨sn_iload_n (k := 2) (by decide +kernel), ?_⟩
  refine List.forall_mem_cons.mpr ⟨sn_icmp_ne (off := 7) (by decide +kernel) (by decide), ?_⟩
  refine List.forall_mem_cons.mpr ⟨sn_iconst (k := 1) (by decide +kernel) (by decide), ?_⟩
  refine List.forall_mem_cons.mpr ⟨sn_goto (off := 4) (by decide +kernel) (by decide), ?_⟩
  refine List.forall_mem_cons.mpr ⟨sn_iconst (k := 0) (by decide +kernel) (by decide), ?_⟩
  refine List.forall_mem_cons.mpr ⟨⟨rfl, (by decide +kernel : decode prog_5_method_13_code 59 = .ok (.ireturn, 1))⟩, ?_⟩
  exact fun _ h => absurd h List.not_mem_nil
set_option maxRecDepth 20000 in
theorem ok_67 : ∀ q ∈ mt_67, mx_ok mx_I0 i_67 q.1 q.2 := by
  refine List.forall_mem_cons.mpr ⟨sn_aload_n (k := 0) (by decide +kernel), ?_⟩
  refine List.forall_mem_cons.mpr ⟨sn_getf (by decide +kernel) rfl tbX3 (by decide) tw_130, ?_⟩
  refine List.forall_mem_cons.mpr ⟨sn_aload_n (k := 0) (by decide +kernel), ?_⟩
  refine List.forall_mem_cons.mpr ⟨sn_getf (by decide +kernel) rfl tbX3 (by decide) tw_127, ?_⟩
  refine List.forall_mem_cons.mpr ⟨⟨i_25, rfl, mk_callV (by decide) (by decide) cv_25 (Or.inl tw_356) rfl (by decide +kernel)⟩, ?_⟩
  refine List.forall_mem_cons.mpr ⟨sn_iconst (k := 0) (by decide +kernel) (by decide), ?_⟩
  refine List.forall_mem_cons.mpr ⟨⟨i_8, rfl, mk_callV (by decide) (by decide) cv_8 (Or.inl tw_379) rfl (by decide +kernel)⟩, ?_⟩
  refine List.forall_mem_cons.mpr ⟨sn_iconst (k := 0) (by decide +kernel) (by decide), ?_⟩
  refine List.forall_mem_cons.mpr ⟨sn_istore_n (k := 1) (by decide +kernel) (by decide), ?_⟩
  refine List.forall_mem_cons.mpr ⟨sn_iconst (k := 0) (by decide +kernel) (by decide), ?_⟩
  refine List.forall_mem_cons.mpr ⟨sn_istore_n (k := 2) (by decide +kernel) (by decide), ?_⟩
  refine List.forall_mem_cons.mpr ⟨sn_iload_n (k := 2) (by decide +kernel), ?_⟩
  refine List.forall_mem_cons.mpr ⟨sn_aload_n (k := 0) (by decide +kernel), ?_⟩
  refine List.forall_mem_cons.mpr ⟨sn_getf (by decide +kernel) rfl tbX3 (by decide) tw_127, ?_⟩
  refine List.forall_mem_cons.mpr ⟨⟨i_25, rfl, mk_callV (by decide) (by decide) cv_25 (Or.inl tw_356) rfl (by decide +kernel)⟩, ?_⟩
  refine List.forall_mem_cons.mpr ⟨sn_icmp_ge (off := 38) (by decide +kernel) (by decide), ?_⟩
  refine List.forall_mem_cons.mpr ⟨sn_aload_n (k := 0) (by decide +kernel), ?_⟩
  refine List.forall_mem_cons.mpr ⟨sn_iload_n (k := 2) (by decide +kernel), ?_⟩
  refine List.forall_mem_cons.mpr ⟨⟨i_68, rfl, mk_callV (by decide) (by decide) cv_68 (Or.inl tw_433) rfl (by decide +kernel)⟩, ?_⟩
  refine List.forall_mem_cons.mpr ⟨sn_if_eq (off := 24) (by decide +kernel) (by decide), ?_⟩
  refine List.forall_mem_cons.mpr ⟨sn_iinc (d := 1) (by decide +kernel) (by decide) (by decide), ?_⟩
  refine List.forall_mem_cons.mpr ⟨sn_aload_n (k := 0) (by decide +kernel), ?_⟩
  refine List.forall_mem_cons.mpr ⟨sn_aload_n (k := 0) (by decide +kernel), ?_⟩
  refine List.forall_mem_cons.mpr ⟨sn_iload_n (k := 2) (by decide +kernel), ?_⟩
  refine List.forall_mem_cons.mpr ⟨⟨i_62, rfl, mk_callV (by decide) (by decide) cv_62 (Or.inl tw_418) rfl (by decide +kernel)⟩, ?_⟩
  refine List.forall_mem_cons.mpr ⟨⟨i_69, rfl, mk_callV (by decide) (by decide) cv_69 (Or.inl tw_437) rfl (by decide +kernel)⟩, ?_⟩
  refine List.forall_mem_cons.mpr ⟨sn_aload_n (k := 0) (by decide +kernel), ?_⟩
  refine List.forall_mem_cons.mpr ⟨sn_aload_n (k := 0) (by decide +kernel), ?_⟩
  refine List.forall_mem_cons.mpr ⟨sn_iload_n (k := 2) (by decide +kernel), ?_⟩
  refine List.forall_mem_cons.mpr ⟨⟨i_63, rfl, mk_callV (by decide) (by decide) cv_63 (Or.inl tw_425) rfl (by decide +kernel)⟩, ?_⟩
  refine List.forall_mem_cons.mpr ⟨⟨i_69, rfl, mk_callV (by decide) (by decide) cv_69 (Or.inl tw_437) rfl (by decide +kernel)⟩, ?_⟩
  refine List.forall_mem_cons.mpr ⟨sn_iinc (d := 1) (by decide +kernel) (by decide) (by decide), ?_⟩
  refine List.forall_mem_cons.mpr ⟨sn_goto (off := (-43)) (by decide +kernel) (by decide), ?_⟩
  refine List.forall_mem_cons.mpr ⟨sn_aload_n (k := 0) (by decide +kernel), ?_⟩
  refine List.forall_mem_cons.mpr ⟨sn_getf (by decide +kernel) rfl tbX3 (by decide) tw_131, ?_⟩
  refine List.forall_mem_cons.mpr ⟨sn_iconst (k := 0) (by decide +kernel) (by decide), ?_⟩
  refine List.forall_mem_cons.mpr ⟨⟨i_7, rfl, mk_callV (by decide) (by decide) cv_7 (Or.inl tw_399) rfl (by decide +kernel)⟩, ?_⟩
  refine List.forall_mem_cons.mpr ⟨sn_iconst (k := 0) (by decide +kernel) (by decide), ?_⟩
  refine List.forall_mem_cons.mpr ⟨sn_istore_n (k := 2) (by decide +kernel) (by decide), ?_⟩
  refine List.forall_mem_cons.mpr ⟨sn_iload_n (k := 2) (by decide +kernel), ?_⟩
  refine List.forall_mem_cons.mpr ⟨sn_aload_n (k := 0) (by decide +kernel), ?_⟩
  refine List.forall_mem_cons.mpr ⟨sn_getf (by decide +kernel) rfl tbX3 (by decide) tw_127, ?_⟩
  refine List.forall_mem_cons.mpr ⟨⟨i_25, rfl, mk_callV (by decide) (by decide) cv_25 (Or.inl tw_356) rfl (by decide +kernel)⟩, ?_⟩
  refine List.forall_mem_cons.mpr ⟨sn_icmp_ge (off := 36) (by decide +kernel) (by decide), ?_⟩
  refine List.forall_mem_cons.mpr ⟨sn_aload_n (k := 0) (by decide +kernel), ?_⟩
  refine List.forall_mem_cons.mpr ⟨sn_iload_n (k := 2) (by decide +kernel), ?_⟩
  refine List.forall_mem_cons.mpr ⟨⟨i_68, rfl, mk_callV (by decide) (by decide) cv_68 (Or.inl tw_433) rfl (by decide +kernel)⟩, ?_⟩
  refine List.forall_mem_cons.mpr ⟨sn_if_eq (off := 22) (by decide +kernel) (by decide), ?_⟩
  refine List.forall_mem_cons.mpr ⟨sn_aload_n (k := 0) (by decide +kernel), ?_⟩
  refine List.forall_mem_cons.mpr ⟨sn_getf (by decide +kernel) rfl tbX3 (by decide) tw_130, ?_⟩
  refine List.forall_mem_cons.mpr ⟨sn_iload_n (k := 2) (by decide +kernel), ?_⟩
  refine List.forall_mem_cons.mpr ⟨⟨i_3, rfl, mk_callV (by decide) (by decide) cv_3 (Or.inl tw_380) rfl (by decide +kernel)⟩, ?_⟩
  refine List.forall_mem_cons.mpr ⟨sn_if_ne (off := 11) (by decide +kernel) (by decide), ?_⟩
  refine List.forall_mem_cons.mpr ⟨sn_aload_n (k := 0) (by decide +kernel), ?_⟩
  refine List.forall_mem_cons.mpr ⟨sn_getf (by decide +kernel) rfl tbX3 (by decide) tw_131, ?_⟩
  refine List.forall_mem_cons.mpr ⟨sn_iload_n (k := 2) (by decide +kernel), ?_⟩
  refine List.forall_mem_cons.mpr ⟨⟨i_5, rfl, mk_callV (by decide) (by decide) cv_5 (Or.inl tw_405) rfl (by decide +kernel)⟩, ?_⟩
  refine List.forall_mem_cons.mpr ⟨sn_iinc (d := 1) (by decide +kernel) (by decide) (by decide), ?_⟩
  refine List.forall_mem_cons.mpr ⟨sn_goto (off := (-41)) (by decide +kernel) (by decide), ?_⟩
  refine List.forall_mem_cons.mpr ⟨sn_iconst (k := 0) (by decide +kernel) (by decide), ?_⟩
  refine List.forall_mem_cons.mpr ⟨sn_istore_n (k := 2) (by decide +kernel) (by decide), ?_⟩
  refine List.forall_mem_cons.mpr ⟨sn_iload_n (k := 2) (by decide +kernel), ?_⟩
  refine List.forall_mem_cons.mpr ⟨sn_aload_n (k := 0) (by decide +kernel), ?_⟩
  refine List.forall_mem_cons.mpr ⟨sn_getf (by decide +kernel) rfl tbX3 (by decide) tw_127, ?_⟩
  refine List.forall_mem_cons.mpr ⟨⟨i_25, rfl, mk_callV (by decide) (by decide) cv_25 (Or.inl tw_356) rfl (by decide +kernel)⟩, ?_⟩
  refine List.forall_mem_cons.mpr ⟨sn_icmp_ge (off := 48) (by decide +kernel) (by decide), ?_⟩
  refine List.forall_mem_cons.mpr ⟨sn_aload_n (k := 0) (by decide +kernel), ?_⟩
  refine List.forall_mem_cons.mpr ⟨sn_getf (by decide +kernel) rfl tbX3 (by decide) tw_131, ?_⟩
  refine List.forall_mem_cons.mpr ⟨⟨i_2, rfl, mk_callV (by decide) (by decide) cv_2 (Or.inl tw_404) rfl (by decide +kernel)⟩, ?_⟩
  refine List.forall_mem_cons.mpr ⟨sn_if_le (off := 38) (by decide +kernel) (by decide), ?_⟩
  refine List.forall_mem_cons.mpr ⟨sn_aload_n (k := 0) (by decide +kernel), ?_⟩
  refine List.forall_mem_cons.mpr ⟨sn_getf (by decide +kernel) rfl tbX3 (by decide) tw_131, ?_⟩
  refine List.forall_mem_cons.mpr ⟨⟨i_6, rfl, mk_callV (by decide) (by decide) cv_6 (Or.inl tw_406) rfl (by decide +kernel)⟩, ?_⟩
  refine List.forall_mem_cons.mpr ⟨sn_istore_n (k := 3) (by decide +kernel) (by decide), ?_⟩
  refine List.forall_mem_cons.mpr ⟨sn_iinc (d := (-1)) (by decide +kernel) (by decide) (by decide), ?_⟩
  refine List.forall_mem_cons.mpr ⟨sn_aload_n (k := 0) (by decide +kernel), ?_⟩
  refine List.forall_mem_cons.mpr ⟨sn_aload_n (k := 0) (by decide +kernel), ?_⟩
  refine List.forall_mem_cons.mpr ⟨sn_iload_n (k := 3) (by decide +kernel), ?_⟩
  refine List.forall_mem_cons.mpr ⟨⟨i_62, rfl, mk_callV (by decide) (by decide) cv_62 (Or.inl tw_418) rfl (by decide +kernel)⟩, ?_⟩
  refine List.forall_mem_cons.mpr ⟨⟨i_70, rfl, mk_callV (by decide) (by decide) cv_70 (Or.inl tw_441) rfl (by decide +kernel)⟩, ?_⟩
  refine List.forall_mem_cons.mpr ⟨sn_aload_n (k := 0) (by decide +kernel), ?_⟩
  refine List.forall_mem_cons.mpr ⟨sn_aload_n (k := 0) (by decide +kernel), ?_⟩
  refine List.forall_mem_cons.mpr ⟨sn_iload_n (k := 3) (by decide +kernel), ?_⟩
  refine List.forall_mem_cons.mpr ⟨⟨i_63, rfl, mk_callV (by decide) (by decide) cv_63 (Or.inl tw_425) rfl (by decide +kernel)⟩, ?_⟩
  refine List.forall_mem_cons.mpr ⟨⟨i_70, rfl, mk_callV (by decide) (by decide) cv_70 (Or.inl tw_441) rfl (by decide +kernel)⟩, ?_⟩
  refine List.forall_mem_cons.mpr ⟨sn_iinc (d := 1) (by decide +kernel) (by decide) (by decide), ?_⟩
  refine List.forall_mem_cons.mpr ⟨sn_goto (off := (-53)) (by decide +kernel) (by decide), ?_⟩
  refine List.forall_mem_cons.mpr ⟨sn_iload_n (k := 1) (by decide +kernel), ?_⟩
  refine List.forall_mem_cons.mpr ⟨sn_if_ne (off := 7) (by decide +kernel) (by decide), ?_⟩
  refine List.forall_mem_cons.mpr ⟨sn_iconst (k := 1) (by decide +kernel) (by decide), ?_⟩
  refine List.forall_mem_cons.mpr ⟨sn_goto (off := 4) (by decide +kernel) (by decide), ?_⟩
  refine List.forall_mem_cons.mpr ⟨sn_iconst (k := 0) (by decide +kernel) (by decide), ?_⟩
  refine List.forall_mem_cons.mpr ⟨⟨rfl, (by decide +kernel : decode prog_5_method_14_code 186 = .ok (.ireturn, 1))⟩, ?_⟩
  exact fun _ h => absurd h List.not_mem_nil
set_option maxRecDepth 20000 in
theorem ok_68 : ∀ q ∈ mt_68, mx_ok mx_I0 i_68 q.1 q.2 := by
  refine List.forall_mem_cons.mpr ⟨sn_aload_n (k := 0) (by decide +kernel), ?_⟩
  refine List.forall_mem_cons.mpr ⟨sn_getf (by decide +kernel) rfl tbX3 (by decide) tw_129, ?_⟩
  refine List.forall_mem_cons.mpr ⟨sn_iload_n (k := 1) (by decide +kernel), ?_⟩
  refine List.forall_mem_cons.mpr ⟨⟨i_3, rfl, mk_callV (by decide) (by decide) cv_3 (Or.inl tw_380) rfl (by decide +kernel)⟩, ?_⟩
  refine List.forall_mem_cons.mpr ⟨sn_iconst (k := (-1)) (by decide +kernel) (by decide), ?_⟩
  refine List.forall_mem_cons.mpr ⟨sn_icmp_eq (off := 20) (by decide +kernel) (by decide), ?_⟩
  refine List.forall_mem_cons.mpr ⟨sn_aload_n (k := 0) (by decide +kernel), ?_⟩
  refine List.forall_mem_cons.mpr ⟨sn_getf (by decide +kernel) rfl tbX3 (by decide) tw_127, ?_⟩
  refine List.forall_mem_cons.mpr ⟨sn_iload_n (k := 1) (by decide +kernel), ?_⟩
  refine List.forall_mem_cons.mpr ⟨⟨i_26, rfl, mk_callV (by decide) (by decide) cv_26 (Or.inl tw_361) rfl (by decide +kernel)⟩, ?_⟩
  refine List.forall_mem_cons.mpr ⟨sn_bipush (k := 15) (by decide +kernel) (by decide), ?_⟩
  refine List.forall_mem_cons.mpr ⟨sn_icmp_eq (off := 7) (by decide +kernel) (by decide), ?_⟩
  refine List.forall_mem_cons.mpr ⟨sn_iconst (k := 1) (by decide +kernel) (by decide), ?_⟩
  refine List.forall_mem_cons.mpr ⟨sn_goto (off := 4) (by decide +kernel) (by decide), ?_⟩
  refine List.forall_mem_cons.mpr ⟨sn_iconst (k := 0) (by decide +kernel) (by decide), ?_⟩
  refine List.forall_mem_cons.mpr ⟨⟨rfl, (by decide +kernel : decode prog_5_method_15_code 30 = .ok (.ireturn, 1))⟩, ?_⟩
  exact fun _ h => absurd h List.not_mem_nil
set_option maxRecDepth 20000 in
theorem ok_69 : ∀ q ∈ mt_69, mx_ok mx_I0 i_69 q.1 q.2 := by
  refine List.forall_mem_cons.mpr ⟨sn_aload_n (k := 0) (by decide +kernel), ?_⟩
  refine List.forall_mem_cons.mpr ⟨sn_iload_n (k := 1) (by decide +kernel), ?_⟩
  refine List.forall_mem_cons.mpr ⟨⟨i_68, rfl, mk_callV (by decide) (by decide) cv_68 (Or.inl tw_433) rfl (by decide +kernel)⟩, ?_⟩
  refine List.forall_mem_cons.mpr ⟨sn_if_eq (off := 21) (by decide +kernel) (by decide), ?_⟩
  refine List.forall_mem_cons.mpr ⟨sn_aload_n (k := 0) (by decide +kernel), ?_⟩
  refine List.forall_mem_cons.mpr ⟨sn_getf (by decide +kernel) rfl tbX3 (by decide) tw_130, ?_⟩
  refine List.forall_mem_cons.mpr ⟨sn_iload_n (k := 1) (by decide +kernel), ?_⟩
  refine List.forall_mem_cons.mpr ⟨sn_aload_n (k := 0) (by decide +kernel), ?_⟩
  refine List.forall_mem_cons.mpr ⟨sn_getf (by decide +kernel) rfl tbX3 (by decide) tw_130, ?_⟩
  refine List.forall_mem_cons.mpr ⟨sn_iload_n (k := 1) (by decide +kernel), ?_⟩
  refine List.forall_mem_cons.mpr ⟨⟨i_3, rfl, mk_callV (by decide) (by decide) cv_3 (Or.inl tw_380) rfl (by decide +kernel)⟩, ?_⟩
  refine List.forall_mem_cons.mpr ⟨sn_iconst (k := 1) (by decide +kernel) (by decide), ?_⟩
  refine List.forall_mem_cons.mpr ⟨sn_iadd (by decide +kernel), ?_⟩
  refine List.forall_mem_cons.mpr ⟨⟨i_4, rfl, mk_callV (by decide) (by decide) cv_4 (Or.inl tw_381) rfl (by decide +kernel)⟩, ?_⟩
  refine List.forall_mem_cons.mpr ⟨⟨rfl, (by decide +kernel : decode prog_5_method_16_code 26 = .ok (.return_, 1))⟩, ?_⟩
  exact fun _ h => absurd h List.not_mem_nil
set_option maxRecDepth 20000 in
theorem ok_70 : ∀ q ∈ mt_70, mx_ok mx_I0 i_70 q.1 q.2 := by
  refine List.forall_mem_cons.mpr ⟨sn_aload_n (k := 0) (by decide +kernel), ?_⟩
  refine List.forall_mem_cons.mpr ⟨sn_iload_n (k := 1) (by decide +kernel), ?_⟩
  refine List.forall_mem_cons.mpr ⟨⟨i_68, rfl, mk_callV (by decide) (by decide) cv_68 (Or.inl tw_433) rfl (by decide +kernel)⟩, ?_⟩
  refine List.forall_mem_cons.mpr ⟨sn_if_eq (off := 40) (by decide +kernel) (by decide), ?_⟩
  refine List.forall_mem_cons.mpr ⟨sn_aload_n (k := 0) (by decide +kernel), ?_⟩
  refine List.forall_mem_cons.mpr ⟨sn_getf (by decide +kernel) rfl tbX3 (by decide) tw_130, ?_⟩
  refine List.forall_mem_cons.mpr ⟨sn_iload_n (k := 1) (by decide +kernel), ?_⟩
  refine List.forall_mem_cons.mpr ⟨sn_aload_n (k := 0) (by decide +kernel), ?_⟩
  refine List.forall_mem_cons.mpr ⟨sn_getf (by decide +kernel) rfl tbX3 (by decide) tw_130, ?_⟩
  refine List.forall_mem_cons.mpr ⟨sn_iload_n (k := 1) (by decide +kernel), ?_⟩
  refine List.forall_mem_cons.mpr ⟨⟨i_3, rfl, mk_callV (by decide) (by decide) cv_3 (Or.inl tw_380) rfl (by decide +kernel)⟩, ?_⟩
  refine List.forall_mem_cons.mpr ⟨sn_iconst (k := 1) (by decide +kernel) (by decide), ?_⟩
  refine List.forall_mem_cons.mpr ⟨sn_isub (by decide +kernel), ?_⟩
  refine List.forall_mem_cons.mpr ⟨⟨i_4, rfl, mk_callV (by decide) (by decide) cv_4 (Or.inl tw_381) rfl (by decide +kernel)⟩, ?_⟩
  refine List.forall_mem_cons.mpr ⟨sn_aload_n (k := 0) (by decide +kernel), ?_⟩
  refine List.forall_mem_cons.mpr ⟨sn_getf (by decide +kernel) rfl tbX3 (by decide) tw_130, ?_⟩
  refine List.forall_mem_cons.mpr ⟨sn_iload_n (k := 1) (by decide +kernel), ?_⟩
  refine List.forall_mem_cons.mpr ⟨⟨i_3, rfl, mk_callV (by decide) (by decide) cv_3 (Or.inl tw_380) rfl (by decide +kernel)⟩, ?_⟩
  refine List.forall_mem_cons.mpr ⟨sn_if_ne (off := 11) (by decide +kernel) (by decide), ?_⟩
  refine List.forall_mem_cons.mpr ⟨sn_aload_n (k := 0) (by decide +kernel), ?_⟩
  refine List.forall_mem_cons.mpr ⟨sn_getf (by decide +kernel) rfl tbX3 (by decide) tw_131, ?_⟩
  refine List.forall_mem_cons.mpr ⟨sn_iload_n (k := 1) (by decide +kernel), ?_⟩
  refine List.forall_mem_cons.mpr ⟨⟨i_5, rfl, mk_callV (by decide) (by decide) cv_5 (Or.inl tw_405) rfl (by decide +kernel)⟩, ?_⟩
  refine List.forall_mem_cons.mpr ⟨⟨rfl, (by decide +kernel : decode prog_5_method_17_code 45 = .ok (.return_, 1))⟩, ?_⟩
  exact fun _ h => absurd h List.not_mem_nil
set_option maxRecDepth 20000 in
theorem ok_71 : ∀ q ∈ mt_71, mx_ok mx_I0 i_71 q.1 q.2 := by
  refine List.forall_mem_cons.mpr ⟨sn_aload_n (k := 0) (by decide +kernel), ?_⟩
  refine List.forall_mem_cons.mpr ⟨sn_obj (by decide +kernel) tw_154 tw_90 tw_oi (by decide) (by decide), ?_⟩
  refine List.forall_mem_cons.mpr ⟨sn_aload_n (k := 0) (by decide +kernel), ?_⟩
  refine List.forall_mem_cons.mpr ⟨sn_new tyX6 (by decide +kernel) rfl tbX6 tyX6_ok tw_155 tw_99 tw_68 rfl (by decide), ?_⟩
  refine List.forall_mem_cons.mpr ⟨sn_dup (by decide +kernel), ?_⟩
  refine List.forall_mem_cons.mpr ⟨⟨i_1, rfl, mk_callI (by decide) (by decide) ci_1 (Or.inr ⟨_, tw_156⟩) (by decide +kernel)⟩, ?_⟩
  refine List.forall_mem_cons.mpr ⟨sn_putf tyX2 (by decide +kernel) rfl tbX2 tyX2_ok nmX2 (by decide) tw_159 (Or.inr ⟨rfl, rfl, rfl⟩) rfl, ?_⟩
  refine List.forall_mem_cons.mpr ⟨sn_aload_n (k := 0) (by decide +kernel), ?_⟩
  refine List.forall_mem_cons.mpr ⟨sn_new tyX6 (by decide +kernel) rfl tbX6 tyX6_ok tw_155 tw_99 tw_68 rfl (by decide), ?_⟩
  refine List.forall_mem_cons.mpr ⟨sn_dup (by decide +kernel), ?_⟩
  refine List.forall_mem_cons.mpr ⟨⟨i_1, rfl, mk_callI (by decide) (by decide) ci_1 (Or.inr ⟨_, tw_156⟩) (by decide +kernel)⟩, ?_⟩
  refine List.forall_mem_cons.mpr ⟨sn_putf tyX2 (by decide +kernel) rfl tbX2 tyX2_ok nmX2 (by decide) tw_160 (Or.inr ⟨rfl, rfl, rfl⟩) rfl, ?_⟩
  refine List.forall_mem_cons.mpr ⟨sn_aload_n (k := 0) (by decide +kernel), ?_⟩
  refine List.forall_mem_cons.mpr ⟨sn_new tyX1 (by decide +kernel) rfl tbX1 tyX1_ok tw_157 tw_93 tw_67 rfl (by decide), ?_⟩
  refine List.forall_mem_cons.mpr ⟨sn_dup (by decide +kernel), ?_⟩
  refine List.forall_mem_cons.mpr ⟨⟨i_24, rfl, mk_callI (by decide) (by decide) ci_24 (Or.inr ⟨_, tw_158⟩) (by decide +kernel)⟩, ?_⟩
  refine List.forall_mem_cons.mpr ⟨sn_putf tyX2 (by decide +kernel) rfl tbX2 tyX2_ok nmX2 (by decide) tw_161 (Or.inl rfl) rfl, ?_⟩
  refine List.forall_mem_cons.mpr ⟨sn_aload_n (k := 0) (by decide +kernel), ?_⟩
  refine List.forall_mem_cons.mpr ⟨sn_new tyX1 (by decide +kernel) rfl tbX1 tyX1_ok tw_157 tw_93 tw_67 rfl (by decide), ?_⟩
  refine List.forall_mem_cons.mpr ⟨sn_dup (by decide +kernel), ?_⟩
  refine List.forall_mem_cons.mpr ⟨⟨i_24, rfl, mk_callI (by decide) (by decide) ci_24 (Or.inr ⟨_, tw_158⟩) (by decide +kernel)⟩, ?_⟩
  refine List.forall_mem_cons.mpr ⟨sn_putf tyX2 (by decide +kernel) rfl tbX2 tyX2_ok nmX2 (by decide) tw_162 (Or.inl rfl) rfl, ?_⟩
  refine List.forall_mem_cons.mpr ⟨⟨rfl, (by decide +kernel : decode prog_4_method_1_code 48 = .ok (.return_, 1))⟩, ?_⟩
  exact fun _ h => absurd h List.not_mem_nil
set_option maxRecDepth 20000 in
theorem ok_72 : ∀ q ∈ mt_72, mx_ok mx_I0 i_72 q.1 q.2 := by
  refine List.forall_mem_cons.mpr ⟨sn_aload_n (k := 0) (by decide +kernel), ?_⟩
  refine List.forall_mem_cons.mpr ⟨sn_aload_n (k := 1) (by decide +kernel), ?_⟩
  refine List.forall_mem_cons.mpr ⟨sn_aload_n (k := 2) (by decide +kernel), ?_⟩
  refine List.forall_mem_cons.mpr ⟨⟨i_73, rfl, mk_callV (by decide) (by decide) cv_73 (Or.inl tw_453) rfl (by decide +kernel)⟩, ?_⟩
  refine List.forall_mem_cons.mpr ⟨sn_iconst (k := 0) (by decide +kernel) (by decide), ?_⟩
  refine List.forall_mem_cons.mpr ⟨sn_istore_n (k := 3) (by decide +kernel) (by decide), ?_⟩
  refine List.forall_mem_cons.mpr ⟨sn_iload_n (k := 3) (by decide +kernel), ?_⟩
  refine List.forall_mem_cons.mpr ⟨sn_iconst (k := 4) (by decide +kernel) (by decide), ?_⟩
  refine List.forall_mem_cons.mpr ⟨sn_icmp_ge (off := 41) (by decide +kernel) (by decide), ?_⟩
  refine List.forall_mem_cons.mpr ⟨sn_aload_n (k := 0) (by decide +kernel), ?_⟩
  refine List.forall_mem_cons.mpr ⟨sn_getf (by decide +kernel) rfl tbX2 (by decide) tw_161, ?_⟩
  refine List.forall_mem_cons.mpr ⟨sn_astore (k := 4) (by decide +kernel) (by decide), ?_⟩
  refine List.forall_mem_cons.mpr ⟨sn_aload_n (k := 0) (by decide +kernel), ?_⟩
  refine List.forall_mem_cons.mpr ⟨sn_aload_n (k := 0) (by decide +kernel), ?_⟩
  refine List.forall_mem_cons.mpr ⟨sn_getf (by decide +kernel) rfl tbX2 (by decide) tw_162, ?_⟩
  refine List.forall_mem_cons.mpr ⟨sn_putf tyX2 (by decide +kernel) rfl tbX2 tyX2_ok nmX2 (by decide) tw_161 (Or.inl rfl) rfl, ?_⟩
  refine List.forall_mem_cons.mpr ⟨sn_aload_n (k := 0) (by decide +kernel), ?_⟩
  refine List.forall_mem_cons.mpr ⟨sn_aload (k := 4) (by decide +kernel), ?_⟩
  refine List.forall_mem_cons.mpr ⟨sn_putf tyX2 (by decide +kernel) rfl tbX2 tyX2_ok nmX2 (by decide) tw_162 (Or.inl rfl) rfl, ?_⟩
  refine List.forall_mem_cons.mpr ⟨sn_aload_n (k := 0) (by decide +kernel), ?_⟩
  refine List.forall_mem_cons.mpr ⟨⟨i_74, rfl, mk_callV (by decide) (by decide) cv_74 (Or.inl tw_466) rfl (by decide +kernel)⟩, ?_⟩
  refine List.forall_mem_cons.mpr ⟨sn_aload_n (k := 0) (by decide +kernel), ?_⟩
  refine List.forall_mem_cons.mpr ⟨⟨i_75, rfl, mk_callV (by decide) (by decide) cv_75 (Or.inl tw_472) rfl (by decide +kernel)⟩, ?_⟩
  refine List.forall_mem_cons.mpr ⟨sn_aload_n (k := 0) (by decide +kernel), ?_⟩
  refine List.forall_mem_cons.mpr ⟨⟨i_77, rfl, mk_callV (by decide) (by decide) cv_77 (Or.inl tw_482) rfl (by decide +kernel)⟩, ?_⟩
  refine List.forall_mem_cons.mpr ⟨sn_iinc (d := 1) (by decide +kernel) (by decide) (by decide), ?_⟩
  refine List.forall_mem_cons.mpr ⟨sn_goto (off := (-40)) (by decide +kernel) (by decide), ?_⟩
  refine List.forall_mem_cons.mpr ⟨sn_aload_n (k := 0) (by decide +kernel), ?_⟩
  refine List.forall_mem_cons.mpr ⟨sn_getf (by decide +kernel) rfl tbX2 (by decide) tw_162, ?_⟩
  refine List.forall_mem_cons.mpr ⟨⟨rfl, (by decide +kernel : decode prog_4_method_2_code 55 = .ok (.areturn, 1))⟩, ?_⟩
  exact fun _ h => absurd h List.not_mem_nil
set_option maxRecDepth 20000 in
theorem ok_73 : ∀ q ∈ mt_73, mx_ok mx_I0 i_73 q.1 q.2 := by
  refine List.forall_mem_cons.mpr ⟨sn_aload_n (k := 0) (by decide +kernel), ?_⟩
  refine List.forall_mem_cons.mpr ⟨sn_getf (by decide +kernel) rfl tbX2 (by decide) tw_162, ?_⟩
  refine List.forall_mem_cons.mpr ⟨sn_iconst (k := 0) (by decide +kernel) (by decide), ?_⟩
  refine List.forall_mem_cons.mpr ⟨⟨i_29, rfl, mk_callV (by decide) (by decide) cv_29 (Or.inl tw_457) rfl (by decide +kernel)⟩, ?_⟩
  refine List.forall_mem_cons.mpr ⟨sn_iconst (k := 0) (by decide +kernel) (by decide), ?_⟩
  refine List.forall_mem_cons.mpr ⟨sn_istore_n (k := 3) (by decide +kernel) (by decide), ?_⟩
  refine List.forall_mem_cons.mpr ⟨sn_iload_n (k := 3) (by decide +kernel), ?_⟩
  refine List.forall_mem_cons.mpr ⟨sn_aload_n (k := 1) (by decide +kernel), ?_⟩
  refine List.forall_mem_cons.mpr ⟨⟨i_25, rfl, mk_callV (by decide) (by decide) cv_25 (Or.inl tw_458) rfl (by decide +kernel)⟩, ?_⟩
  refine List.forall_mem_cons.mpr ⟨sn_icmp_ge (off := 68) (by decide +kernel) (by decide), ?_⟩
  refine List.forall_mem_cons.mpr ⟨sn_aload_n (k := 1) (by decide +kernel), ?_⟩
  refine List.forall_mem_cons.mpr ⟨sn_iload_n (k := 3) (by decide +kernel), ?_⟩
  refine List.forall_mem_cons.mpr ⟨sn_iconst (k := 1) (by decide +kernel) (by decide), ?_⟩
  refine List.forall_mem_cons.mpr ⟨sn_isub (by decide +kernel), ?_⟩
  refine List.forall_mem_cons.mpr ⟨⟨i_26, rfl, mk_callV (by decide) (by decide) cv_26 (Or.inl tw_459) rfl (by decide +kernel)⟩, ?_⟩
  refine List.forall_mem_cons.mpr ⟨sn_bipush (k := 18) (by decide +kernel) (by decide), ?_⟩
  refine List.forall_mem_cons.mpr ⟨sn_icmp_ne (off := 17) (by decide +kernel) (by decide), ?_⟩
  refine List.forall_mem_cons.mpr ⟨sn_aload_n (k := 2) (by decide +kernel), ?_⟩
  refine List.forall_mem_cons.mpr ⟨sn_iload_n (k := 3) (by decide +kernel), ?_⟩
  refine List.forall_mem_cons.mpr ⟨sn_iconst (k := 1) (by decide +kernel) (by decide), ?_⟩
  refine List.forall_mem_cons.mpr ⟨sn_isub (by decide +kernel), ?_⟩
  refine List.forall_mem_cons.mpr ⟨⟨i_57, rfl, mk_callV (by decide) (by decide) cv_57 (Or.inl tw_460) rfl (by decide +kernel)⟩, ?_⟩
  refine List.forall_mem_cons.mpr ⟨sn_if_eq (off := 7) (by decide +kernel) (by decide), ?_⟩
  refine List.forall_mem_cons.mpr ⟨sn_iconst (k := 1) (by decide +kernel) (by decide), ?_⟩
  refine List.forall_mem_cons.mpr ⟨sn_goto (off := 4) (by decide +kernel) (by decide), ?_⟩
  refine List.forall_mem_cons.mpr ⟨sn_iconst (k := 0) (by decide +kernel) (by decide), ?_⟩
  refine List.forall_mem_cons.mpr ⟨sn_istore (k := 4) (by decide +kernel) (by decide), ?_⟩
  refine List.forall_mem_cons.mpr ⟨sn_iload (k := 4) (by decide +kernel), ?_⟩
  refine List.forall_mem_cons.mpr ⟨sn_if_ne (off := 11) (by decide +kernel) (by decide), ?_⟩
  refine List.forall_mem_cons.mpr ⟨sn_aload_n (k := 2) (by decide +kernel), ?_⟩
  refine List.forall_mem_cons.mpr ⟨sn_iload_n (k := 3) (by decide +kernel), ?_⟩
  refine List.forall_mem_cons.mpr ⟨⟨i_57, rfl, mk_callV (by decide) (by decide) cv_57 (Or.inl tw_460) rfl (by decide +kernel)⟩, ?_⟩
  refine List.forall_mem_cons.mpr ⟨sn_if_eq (off := 20) (by decide +kernel) (by decide), ?_⟩
  refine List.forall_mem_cons.mpr ⟨sn_aload_n (k := 0) (by decide +kernel), ?_⟩
  refine List.forall_mem_cons.mpr ⟨sn_getf (by decide +kernel) rfl tbX2 (by decide) tw_162, ?_⟩
  refine List.forall_mem_cons.mpr ⟨sn_aload_n (k := 1) (by decide +kernel), ?_⟩
  refine List.forall_mem_cons.mpr ⟨sn_iload_n (k := 3) (by decide +kernel), ?_⟩
  refine List.forall_mem_cons.mpr ⟨⟨i_26, rfl, mk_callV (by decide) (by decide) cv_26 (Or.inl tw_459) rfl (by decide +kernel)⟩, ?_⟩
  refine List.forall_mem_cons.mpr ⟨sn_aload_n (k := 1) (by decide +kernel), ?_⟩
  refine List.forall_mem_cons.mpr ⟨sn_iload_n (k := 3) (by decide +kernel), ?_⟩
  refine List.forall_mem_cons.mpr ⟨⟨i_27, rfl, mk_callV (by decide) (by decide) cv_27 (Or.inl tw_464) rfl (by decide +kernel)⟩, ?_⟩
  refine List.forall_mem_cons.mpr ⟨⟨i_28, rfl, mk_callV (by decide) (by decide) cv_28 (Or.inl tw_465) rfl (by decide +kernel)⟩, ?_⟩
  refine List.forall_mem_cons.mpr ⟨sn_iinc (d := 1) (by decide +kernel) (by decide) (by decide), ?_⟩
  refine List.forall_mem_cons.mpr ⟨sn_goto (off := (-70)) (by decide +kernel) (by decide), ?_⟩
  refine List.forall_mem_cons.mpr ⟨⟨rfl, (by decide +kernel : decode prog_4_method_3_code 83 = .ok (.return_, 1))⟩, ?_⟩
  exact fun _ h => absurd h List.not_mem_nil
set_option maxRecDepth 20000 in
theorem ok_74 : ∀ q ∈ mt_74, mx_ok mx_I0 i_74 q.1 q.2 := by
  refine List.forall_mem_cons.mpr ⟨sn_aload_n (k := 0) (by decide +kernel), ?_⟩
  refine List.forall_mem_cons.mpr ⟨sn_getf (by decide +kernel) rfl tbX2 (by decide) tw_159, ?_⟩
  refine List.forall_mem_cons.mpr ⟨sn_bipush (k := 100) (by decide +kernel) (by decide), ?_⟩
  refine List.forall_mem_cons.mpr ⟨sn_iconst (k := (-1)) (by decide +kernel) (by decide), ?_⟩
  refine List.forall_mem_cons.mpr ⟨⟨i_8, rfl, mk_callV (by decide) (by decide) cv_8 (Or.inl tw_470) rfl (by decide +kernel)⟩, ?_⟩
  refine List.forall_mem_cons.mpr ⟨sn_iconst (k := 0) (by decide +kernel) (by decide), ?_⟩
  refine List.forall_mem_cons.mpr ⟨sn_istore_n (k := 1) (by decide +kernel) (by decide), ?_⟩
  refine List.forall_mem_cons.mpr ⟨sn_iload_n (k := 1) (by decide +kernel), ?_⟩
  refine List.forall_mem_cons.mpr ⟨sn_aload_n (k := 0) (by decide +kernel), ?_⟩
  refine List.forall_mem_cons.mpr ⟨sn_getf (by decide +kernel) rfl tbX2 (by decide) tw_161, ?_⟩
  refine List.forall_mem_cons.mpr ⟨⟨i_25, rfl, mk_callV (by decide) (by decide) cv_25 (Or.inl tw_458) rfl (by decide +kernel)⟩, ?_⟩
  refine List.forall_mem_cons.mpr ⟨sn_icmp_ge (off := 38) (by decide +kernel) (by decide), ?_⟩
  refine List.forall_mem_cons.mpr ⟨sn_aload_n (k := 0) (by decide +kernel), ?_⟩
  refine List.forall_mem_cons.mpr ⟨sn_getf (by decide +kernel) rfl tbX2 (by decide) tw_161, ?_⟩
  refine List.forall_mem_cons.mpr ⟨sn_iload_n (k := 1) (by decide +kernel), ?_⟩
  refine List.forall_mem_cons.mpr ⟨⟨i_26, rfl, mk_callV (by decide) (by decide) cv_26 (Or.inl tw_459) rfl (by decide +kernel)⟩, ?_⟩
  refine List.forall_mem_cons.mpr ⟨sn_bipush (k := 13) (by decide +kernel) (by decide), ?_⟩
  refine List.forall_mem_cons.mpr ⟨sn_icmp_ne (off := 19) (by decide +kernel) (by decide), ?_⟩
  refine List.forall_mem_cons.mpr ⟨sn_aload_n (k := 0) (by decide +kernel), ?_⟩
  refine List.forall_mem_cons.mpr ⟨sn_getf (by decide +kernel) rfl tbX2 (by decide) tw_159, ?_⟩
  refine List.forall_mem_cons.mpr ⟨sn_aload_n (k := 0) (by decide +kernel), ?_⟩
  refine List.forall_mem_cons.mpr ⟨sn_getf (by decide +kernel) rfl tbX2 (by decide) tw_161, ?_⟩
  refine List.forall_mem_cons.mpr ⟨sn_iload_n (k := 1) (by decide +kernel), ?_⟩
  refine List.forall_mem_cons.mpr ⟨⟨i_27, rfl, mk_callV (by decide) (by decide) cv_27 (Or.inl tw_464) rfl (by decide +kernel)⟩, ?_⟩
  refine List.forall_mem_cons.mpr ⟨sn_iload_n (k := 1) (by decide +kernel), ?_⟩
  refine List.forall_mem_cons.mpr ⟨⟨i_4, rfl, mk_callV (by decide) (by decide) cv_4 (Or.inl tw_471) rfl (by decide +kernel)⟩, ?_⟩
  refine List.forall_mem_cons.mpr ⟨sn_iinc (d := 1) (by decide +kernel) (by decide) (by decide), ?_⟩
  refine List.forall_mem_cons.mpr ⟨sn_goto (off := (-43)) (by decide +kernel) (by decide), ?_⟩
  refine List.forall_mem_cons.mpr ⟨⟨rfl, (by decide +kernel : decode prog_4_method_4_code 58 = .ok (.return_, 1))⟩, ?_⟩
  exact fun _ h => absurd h List.not_mem_nil
set_option maxRecDepth 20000 in
theorem ok_75 : ∀ q ∈ mt_75, mx_ok mx_I0 i_75 q.1 q.2 := by
  refine List.forall_mem_cons.mpr ⟨sn_aload_n (k := 0) (by decide +kernel), ?_⟩
  refine List.forall_mem_cons.mpr ⟨sn_getf (by decide +kernel) rfl tbX2 (by decide) tw_160, ?_⟩
  refine List.forall_mem_cons.mpr ⟨sn_bipush (k := 100) (by decide +kernel) (by decide), ?_⟩
  refine List.forall_mem_cons.mpr ⟨sn_iconst (k := 0) (by decide +kernel) (by decide), ?_⟩
  refine List.forall_mem_cons.mpr ⟨⟨i_8, rfl, mk_callV (by decide) (by decide) cv_8 (Or.inl tw_470) rfl (by decide +kernel)⟩, ?_⟩
  refine List.forall_mem_cons.mpr ⟨sn_iconst (k := 0) (by decide +kernel) (by decide), ?_⟩
  refine List.forall_mem_cons.mpr ⟨sn_istore_n (k := 1) (by decide +kernel) (by decide), ?_⟩
  refine List.forall_mem_cons.mpr ⟨sn_iload_n (k := 1) (by decide +kernel), ?_⟩
  refine List.forall_mem_cons.mpr ⟨sn_aload_n (k := 0) (by decide +kernel), ?_⟩
  refine List.forall_mem_cons.mpr ⟨sn_getf (by decide +kernel) rfl tbX2 (by decide) tw_161, ?_⟩
  refine List.forall_mem_cons.mpr ⟨⟨i_25, rfl, mk_callV (by decide) (by decide) cv_25 (Or.inl tw_458) rfl (by decide +kernel)⟩, ?_⟩
  refine List.forall_mem_cons.mpr ⟨sn_icmp_ge (off := 54) (by decide +kernel) (by decide), ?_⟩
  refine List.forall_mem_cons.mpr ⟨sn_aload_n (k := 0) (by decide +kernel), ?_⟩
  refine List.forall_mem_cons.mpr ⟨sn_getf (by decide +kernel) rfl tbX2 (by decide) tw_161, ?_⟩
  refine List.forall_mem_cons.mpr ⟨sn_iload_n (k := 1) (by decide +kernel), ?_⟩
  refine List.forall_mem_cons.mpr ⟨⟨i_26, rfl, mk_callV (by decide) (by decide) cv_26 (Or.inl tw_459) rfl (by decide +kernel)⟩, ?_⟩
  refine List.forall_mem_cons.mpr ⟨⟨i_114, rfl, mk_callS (by decide) (by decide) cs_114 (Or.inr ⟨_, tw_476⟩) (by decide +kernel)⟩, ?_⟩
  refine List.forall_mem_cons.mpr ⟨sn_if_eq (off := 34) (by decide +kernel) (by decide), ?_⟩
  refine List.forall_mem_cons.mpr ⟨sn_aload_n (k := 0) (by decide +kernel), ?_⟩
  refine List.forall_mem_cons.mpr ⟨sn_aload_n (k := 0) (by decide +kernel), ?_⟩
  refine List.forall_mem_cons.mpr ⟨sn_getf (by decide +kernel) rfl tbX2 (by decide) tw_161, ?_⟩
  refine List.forall_mem_cons.mpr ⟨sn_iload_n (k := 1) (by decide +kernel), ?_⟩
  refine List.forall_mem_cons.mpr ⟨⟨i_27, rfl, mk_callV (by decide) (by decide) cv_27 (Or.inl tw_464) rfl (by decide +kernel)⟩, ?_⟩
  refine List.forall_mem_cons.mpr ⟨⟨i_76, rfl, mk_callV (by decide) (by decide) cv_76 (Or.inl tw_477) rfl (by decide +kernel)⟩, ?_⟩
  refine List.forall_mem_cons.mpr ⟨sn_istore_n (k := 2) (by decide +kernel) (by decide), ?_⟩
  refine List.forall_mem_cons.mpr ⟨sn_aload_n (k := 0) (by decide +kernel), ?_⟩
  refine List.forall_mem_cons.mpr ⟨sn_getf (by decide +kernel) rfl tbX2 (by decide) tw_160, ?_⟩
  refine List.forall_mem_cons.mpr ⟨sn_iload_n (k := 2) (by decide +kernel), ?_⟩
  refine List.forall_mem_cons.mpr ⟨sn_aload_n (k := 0) (by decide +kernel), ?_⟩
  refine List.forall_mem_cons.mpr ⟨sn_getf (by decide +kernel) rfl tbX2 (by decide) tw_160, ?_⟩
  refine List.forall_mem_cons.mpr ⟨sn_iload_n (k := 2) (by decide +kernel), ?_⟩
  refine List.forall_mem_cons.mpr ⟨⟨i_3, rfl, mk_callV (by decide) (by decide) cv_3 (Or.inl tw_481) rfl (by decide +kernel)⟩, ?_⟩
  refine List.forall_mem_cons.mpr ⟨sn_iconst (k := 1) (by decide +kernel) (by decide), ?_⟩
  refine List.forall_mem_cons.mpr ⟨sn_iadd (by decide +kernel), ?_⟩
  refine List.forall_mem_cons.mpr ⟨⟨i_4, rfl, mk_callV (by decide) (by decide) cv_4 (Or.inl tw_471) rfl (by decide +kernel)⟩, ?_⟩
  refine List.forall_mem_cons.mpr ⟨sn_iinc (d := 1) (by decide +kernel) (by decide) (by decide), ?_⟩
  refine List.forall_mem_cons.mpr ⟨sn_goto (off := (-59)) (by decide +kernel) (by decide), ?_⟩
  refine List.forall_mem_cons.mpr ⟨⟨rfl, (by decide +kernel : decode prog_4_method_5_code 74 = .ok (.return_, 1))⟩, ?_⟩
  exact fun _ h => absurd h List.not_mem_nil
set_option maxRecDepth 20000 in
theorem ok_76 : ∀ q ∈ mt_76, mx_ok mx_I0 i_76 q.1 q.2 := by
  refine List.forall_mem_cons.mpr ⟨sn_iload_n (k := 1) (by decide +kernel), ?_⟩
  refine List.forall_mem_cons.mpr ⟨sn_istore_n (k := 2) (by decide +kernel) (by decide), ?_⟩
  refine List.forall_mem_cons.mpr ⟨sn_iconst (k := 0) (by decide +kernel) (by decide), ?_⟩
  refine List.forall_mem_cons.mpr ⟨sn_istore_n (k := 3) (by decide +kernel) (by decide), ?_⟩
  refine List.forall_mem_cons.mpr ⟨sn_iload_n (k := 3) (by decide +kernel), ?_⟩
  refine List.forall_mem_cons.mpr ⟨sn_bipush (k := 100) (by decide +kernel) (by decide), ?_⟩
  refine List.forall_mem_cons.mpr ⟨sn_icmp_ge (off := 58) (by decide +kernel) (by decide), ?_⟩
  refine List.forall_mem_cons.mpr ⟨sn_aload_n (k := 0) (by decide +kernel), ?_⟩
  refine List.forall_mem_cons.mpr ⟨sn_getf (by decide +kernel) rfl tbX2 (by decide) tw_159, ?_⟩
  refine List.forall_mem_cons.mpr ⟨sn_iload_n (k := 2) (by decide +kernel), ?_⟩
  refine List.forall_mem_cons.mpr ⟨⟨i_3, rfl, mk_callV (by decide) (by decide) cv_3 (Or.inl tw_481) rfl (by decide +kernel)⟩, ?_⟩
  refine List.forall_mem_cons.mpr ⟨sn_iconst (k := 1) (by decide +kernel) (by decide), ?_⟩
  refine List.forall_mem_cons.mpr ⟨sn_iadd (by decide +kernel), ?_⟩
  refine List.forall_mem_cons.mpr ⟨sn_istore (k := 4) (by decide +kernel) (by decide), ?_⟩
  refine List.forall_mem_cons.mpr ⟨sn_aload_n (k := 0) (by decide +kernel), ?_⟩
  refine List.forall_mem_cons.mpr ⟨sn_getf (by decide +kernel) rfl tbX2 (by decide) tw_161, ?_⟩
  refine List.forall_mem_cons.mpr ⟨sn_iload (k := 4) (by decide +kernel), ?_⟩
  refine List.forall_mem_cons.mpr ⟨⟨i_26, rfl, mk_callV (by decide) (by decide) cv_26 (Or.inl tw_459) rfl (by decide +kernel)⟩, ?_⟩
  refine List.forall_mem_cons.mpr ⟨sn_istore (k := 5) (by decide +kernel) (by decide), ?_⟩
  refine List.forall_mem_cons.mpr ⟨sn_iload (k := 5) (by decide +kernel), ?_⟩
  refine List.forall_mem_cons.mpr ⟨sn_bipush (k := 13) (by decide +kernel) (by decide), ?_⟩
  refine List.forall_mem_cons.mpr ⟨sn_icmp_eq (off := 12) (by decide +kernel) (by decide), ?_⟩
  refine List.forall_mem_cons.mpr ⟨sn_iload (k := 5) (by decide +kernel), ?_⟩
  refine List.forall_mem_cons.mpr ⟨sn_bipush (k := 10) (by decide +kernel) (by decide), ?_⟩
  refine List.forall_mem_cons.mpr ⟨sn_icmp_eq (off := 5) (by decide +kernel) (by decide), ?_⟩
  refine List.forall_mem_cons.mpr ⟨sn_iload_n (k := 2) (by decide +kernel), ?_⟩
  refine List.forall_mem_cons.mpr ⟨⟨rfl, (by decide +kernel : decode prog_4_method_6_code 48 = .ok (.ireturn, 1))⟩, ?_⟩
  refine List.forall_mem_cons.mpr ⟨sn_aload_n (k := 0) (by decide +kernel), ?_⟩
  refine List.forall_mem_cons.mpr ⟨sn_getf (by decide +kernel) rfl tbX2 (by decide) tw_161, ?_⟩
  refine List.forall_mem_cons.mpr ⟨sn_iload (k := 4) (by decide +kernel), ?_⟩
  refine List.forall_mem_cons.mpr ⟨⟨i_27, rfl, mk_callV (by decide) (by decide) cv_27 (Or.inl tw_464) rfl (by decide +kernel)⟩, ?_⟩
  refine List.forall_mem_cons.mpr ⟨sn_istore_n (k := 2) (by decide +kernel) (by decide), ?_⟩
  refine List.forall_mem_cons.mpr ⟨sn_iinc (d := 1) (by decide +kernel) (by decide) (by decide), ?_⟩
  refine List.forall_mem_cons.mpr ⟨sn_goto (off := (-58)) (by decide +kernel) (by decide), ?_⟩
  refine List.forall_mem_cons.mpr ⟨sn_iload_n (k := 2) (by decide +kernel), ?_⟩
  refine List.forall_mem_cons.mpr ⟨⟨rfl, (by decide +kernel : decode prog_4_method_6_code 66 = .ok (.ireturn, 1))⟩, ?_⟩
  exact fun _ h => absurd h List.not_mem_nil
set_option maxRecDepth 20000 in
theorem ok_77 : ∀ q ∈ mt_77, mx_ok mx_I0 i_77 q.1 q.2 := by
  refine List.forall_mem_cons.mpr ⟨sn_aload_n (k := 0) (by decide +kernel), ?_⟩
  refine List.forall_mem_cons.mpr ⟨sn_getf (by decide +kernel) rfl tbX2 (by decide) tw_162, ?_⟩
  refine List.forall_mem_cons.mpr ⟨sn_iconst (k := 0) (by decide +kernel) (by decide), ?_⟩
  refine List.forall_mem_cons.mpr ⟨⟨i_29, rfl, mk_callV (by decide) (by decide) cv_29 (Or.inl tw_457) rfl (by decide +kernel)⟩, ?_⟩
  refine List.forall_mem_cons.mpr ⟨sn_iconst (k := 0) (by decide +kernel) (by decide), ?_⟩
  refine List.forall_mem_cons.mpr ⟨sn_istore_n (k := 1) (by decide +kernel) (by decide), ?_⟩
  refine List.forall_mem_cons.mpr ⟨sn_iconst (k := 0) (by decide +kernel) (by decide), ?_⟩
  refine List.forall_mem_cons.mpr ⟨sn_istore_n (k := 2) (by decide +kernel) (by decide), ?_⟩
  refine List.forall_mem_cons.mpr ⟨sn_iload_n (k := 2) (by decide +kernel), ?_⟩
  refine List.forall_mem_cons.mpr ⟨sn_aload_n (k := 0) (by decide +kernel), ?_⟩
  refine List.forall_mem_cons.mpr ⟨sn_getf (by decide +kernel) rfl tbX2 (by decide) tw_161, ?_⟩
  refine List.forall_mem_cons.mpr ⟨⟨i_25, rfl, mk_callV (by decide) (by decide) cv_25 (Or.inl tw_458) rfl (by decide +kernel)⟩, ?_⟩
  refine List.forall_mem_cons.mpr ⟨sn_icmp_ge (off := 114) (by decide +kernel) (by decide), ?_⟩
  refine List.forall_mem_cons.mpr ⟨sn_aload_n (k := 0) (by decide +kernel), ?_⟩
  refine List.forall_mem_cons.mpr ⟨sn_getf (by decide +kernel) rfl tbX2 (by decide) tw_161, ?_⟩
  refine List.forall_mem_cons.mpr ⟨sn_iload_n (k := 2) (by decide +kernel), ?_⟩
  refine List.forall_mem_cons.mpr ⟨⟨i_26, rfl, mk_callV (by decide) (by decide) cv_26 (Or.inl tw_459) rfl (by decide +kernel)⟩, ?_⟩
  refine List.forall_mem_cons.mpr ⟨sn_istore_n (k := 3) (by decide +kernel) (by decide), ?_⟩
  refine List.forall_mem_cons.mpr ⟨sn_aload_n (k := 0) (by decide +kernel), ?_⟩
  refine List.forall_mem_cons.mpr ⟨sn_getf (by decide +kernel) rfl tbX2 (by decide) tw_161, ?_⟩
  refine List.forall_mem_cons.mpr ⟨sn_iload_n (k := 2) (by decide +kernel), ?_⟩
  refine List.forall_mem_cons.mpr ⟨⟨i_27, rfl, mk_callV (by decide) (by decide) cv_27 (Or.inl tw_464) rfl (by decide +kernel)⟩, ?_⟩
  refine List.forall_mem_cons.mpr ⟨sn_istore (k := 4) (by decide +kernel) (by decide), ?_⟩
  refine List.forall_mem_cons.mpr ⟨sn_iload_n (k := 3) (by decide +kernel), ?_⟩
  refine List.forall_mem_cons.mpr ⟨sn_bipush (k := 13) (by decide +kernel) (by decide), ?_⟩
  refine List.forall_mem_cons.mpr ⟨sn_icmp_ne (off := 18) (by decide +kernel) (by decide), ?_⟩
  refine List.forall_mem_cons.mpr ⟨sn_aload_n (k := 0) (by decide +kernel), ?_⟩
  refine List.forall_mem_cons.mpr ⟨sn_getf (by decide +kernel) rfl tbX2 (by decide) tw_160, ?_⟩
  refine List.forall_mem_cons.mpr ⟨sn_iload (k := 4) (by decide +kernel), ?_⟩
  refine List.forall_mem_cons.mpr ⟨⟨i_3, rfl, mk_callV (by decide) (by decide) cv_3 (Or.inl tw_481) rfl (by decide +kernel)⟩, ?_⟩
  refine List.forall_mem_cons.mpr ⟨sn_if_ne (off := 6) (by decide +kernel) (by decide), ?_⟩
  refine List.forall_mem_cons.mpr ⟨sn_goto (off := 68) (by decide +kernel) (by decide), ?_⟩
  refine List.forall_mem_cons.mpr ⟨sn_iload_n (k := 1) (by decide +kernel), ?_⟩
  refine List.forall_mem_cons.mpr ⟨sn_if_eq (off := 12) (by decide +kernel) (by decide), ?_⟩
  refine List.forall_mem_cons.mpr ⟨sn_iload_n (k := 3) (by decide +kernel), ?_⟩
  refine List.forall_mem_cons.mpr ⟨sn_bipush (k := 13) (by decide +kernel) (by decide), ?_⟩
  refine List.forall_mem_cons.mpr ⟨sn_icmp_eq (off := 6) (by decide +kernel) (by decide), ?_⟩
  refine List.forall_mem_cons.mpr ⟨sn_goto (off := 55) (by decide +kernel) (by decide), ?_⟩
  refine List.forall_mem_cons.mpr ⟨sn_iload_n (k := 3) (by decide +kernel), ?_⟩
  refine List.forall_mem_cons.mpr ⟨⟨i_114, rfl, mk_callS (by decide) (by decide) cs_114 (Or.inr ⟨_, tw_476⟩) (by decide +kernel)⟩, ?_⟩
  refine List.forall_mem_cons.mpr ⟨sn_if_eq (off := 12) (by decide +kernel) (by decide), ?_⟩
  refine List.forall_mem_cons.mpr ⟨sn_aload_n (k := 0) (by decide +kernel), ?_⟩
  refine List.forall_mem_cons.mpr ⟨sn_iload (k := 4) (by decide +kernel), ?_⟩
  refine List.forall_mem_cons.mpr ⟨⟨i_76, rfl, mk_callV (by decide) (by decide) cv_76 (Or.inl tw_477) rfl (by decide +kernel)⟩, ?_⟩
  refine List.forall_mem_cons.mpr ⟨sn_goto (off := 5) (by decide +kernel) (by decide), ?_⟩
  refine List.forall_mem_cons.mpr ⟨sn_iload (k := 4) (by decide +kernel), ?_⟩
  refine List.forall_mem_cons.mpr ⟨sn_istore (k := 5) (by decide +kernel) (by decide), ?_⟩
  refine List.forall_mem_cons.mpr ⟨sn_aload_n (k := 0) (by decide +kernel), ?_⟩
  refine List.forall_mem_cons.mpr ⟨sn_iload_n (k := 3) (by decide +kernel), ?_⟩
  refine List.forall_mem_cons.mpr ⟨sn_iload (k := 5) (by decide +kernel), ?_⟩
  refine List.forall_mem_cons.mpr ⟨⟨i_78, rfl, mk_callV (by decide) (by decide) cv_78 (Or.inl tw_486) rfl (by decide +kernel)⟩, ?_⟩
  refine List.forall_mem_cons.mpr ⟨sn_if_ne (off := 13) (by decide +kernel) (by decide), ?_⟩
  refine List.forall_mem_cons.mpr ⟨sn_aload_n (k := 0) (by decide +kernel), ?_⟩
  refine List.forall_mem_cons.mpr ⟨sn_getf (by decide +kernel) rfl tbX2 (by decide) tw_162, ?_⟩
  refine List.forall_mem_cons.mpr ⟨sn_iload_n (k := 3) (by decide +kernel), ?_⟩
  refine List.forall_mem_cons.mpr ⟨sn_iload (k := 5) (by decide +kernel), ?_⟩
  refine List.forall_mem_cons.mpr ⟨⟨i_28, rfl, mk_callV (by decide) (by decide) cv_28 (Or.inl tw_465) rfl (by decide +kernel)⟩, ?_⟩
  refine List.forall_mem_cons.mpr ⟨sn_aload_n (k := 0) (by decide +kernel), ?_⟩
  refine List.forall_mem_cons.mpr ⟨sn_getf (by decide +kernel) rfl tbX2 (by decide) tw_162, ?_⟩
  refine List.forall_mem_cons.mpr ⟨sn_iconst (k := 0) (by decide +kernel) (by decide), ?_⟩
  refine List.forall_mem_cons.mpr ⟨⟨i_30, rfl, mk_callV (by decide) (by decide) cv_30 (Or.inl tw_494) rfl (by decide +kernel)⟩, ?_⟩
  refine List.forall_mem_cons.mpr ⟨⟨i_115, rfl, mk_callS (by decide) (by decide) cs_115 (Or.inr ⟨_, tw_553⟩) (by decide +kernel)⟩, ?_⟩
  refine List.forall_mem_cons.mpr ⟨sn_istore_n (k := 1) (by decide +kernel) (by decide), ?_⟩
  refine List.forall_mem_cons.mpr ⟨sn_iinc (d := 1) (by decide +kernel) (by decide) (by decide), ?_⟩
  refine List.forall_mem_cons.mpr ⟨sn_goto (off := (-119)) (by decide +kernel) (by decide), ?_⟩
  refine List.forall_mem_cons.mpr ⟨⟨rfl, (by decide +kernel : decode prog_4_method_7_code 134 = .ok (.return_, 1))⟩, ?_⟩
  exact fun _ h => absurd h List.not_mem_nil
set_option maxRecDepth 20000 in
theorem ok_78 : ∀ q ∈ mt_78, mx_ok mx_I0 i_78 q.1 q.2 := by
  refine List.forall_mem_cons.mpr ⟨sn_iload_n (k := 1) (by decide +kernel), ?_⟩
  refine List.forall_mem_cons.mpr ⟨sn_table (df := 92) (offs := #[55, 55, 61, 67, 92, 92, 78, 78, 85, 73]) (len := 55) (by decide +kernel) (by decide) (by decide), ?_⟩
  refine List.forall_mem_cons.mpr ⟨sn_aload_n (k := 0) (by decide +kernel), ?_⟩
  refine List.forall_mem_cons.mpr ⟨sn_iload_n (k := 1) (by decide +kernel), ?_⟩
  refine List.forall_mem_cons.mpr ⟨⟨i_79, rfl, mk_callV (by decide) (by decide) cv_79 (Or.inl tw_490) rfl (by decide +kernel)⟩, ?_⟩
  refine List.forall_mem_cons.mpr ⟨⟨rfl, (by decide +kernel : decode prog_4_method_8_code 61 = .ok (.ireturn, 1))⟩, ?_⟩
  refine List.forall_mem_cons.mpr ⟨sn_aload_n (k := 0) (by decide +kernel), ?_⟩
  refine List.forall_mem_cons.mpr ⟨sn_iload_n (k := 2) (by decide +kernel), ?_⟩
  refine List.forall_mem_cons.mpr ⟨⟨i_80, rfl, mk_callV (by decide) (by decide) cv_80 (Or.inl tw_514) rfl (by decide +kernel)⟩, ?_⟩
  refine List.forall_mem_cons.mpr ⟨⟨rfl, (by decide +kernel : decode prog_4_method_8_code 67 = .ok (.ireturn, 1))⟩, ?_⟩
  refine List.forall_mem_cons.mpr ⟨sn_aload_n (k := 0) (by decide +kernel), ?_⟩
  refine List.forall_mem_cons.mpr ⟨sn_iload_n (k := 2) (by decide +kernel), ?_⟩
  refine List.forall_mem_cons.mpr ⟨⟨i_81, rfl, mk_callV (by decide) (by decide) cv_81 (Or.inl tw_527) rfl (by decide +kernel)⟩, ?_⟩
  refine List.forall_mem_cons.mpr ⟨⟨rfl, (by decide +kernel : decode prog_4_method_8_code 73 = .ok (.ireturn, 1))⟩, ?_⟩
  refine List.forall_mem_cons.mpr ⟨sn_aload_n (k := 0) (by decide +kernel), ?_⟩
  refine List.forall_mem_cons.mpr ⟨⟨i_82, rfl, mk_callV (by decide) (by decide) cv_82 (Or.inl tw_537) rfl (by decide +kernel)⟩, ?_⟩
  refine List.forall_mem_cons.mpr ⟨⟨rfl, (by decide +kernel : decode prog_4_method_8_code 78 = .ok (.ireturn, 1))⟩, ?_⟩
  refine List.forall_mem_cons.mpr ⟨sn_aload_n (k := 0) (by decide +kernel), ?_⟩
  refine List.forall_mem_cons.mpr ⟨sn_iload_n (k := 1) (by decide +kernel), ?_⟩
  refine List.forall_mem_cons.mpr ⟨sn_iload_n (k := 2) (by decide +kernel), ?_⟩
  refine List.forall_mem_cons.mpr ⟨⟨i_83, rfl, mk_callV (by decide) (by decide) cv_83 (Or.inl tw_541) rfl (by decide +kernel)⟩, ?_⟩
  refine List.forall_mem_cons.mpr ⟨⟨rfl, (by decide +kernel : decode prog_4_method_8_code 85 = .ok (.ireturn, 1))⟩, ?_⟩
  refine List.forall_mem_cons.mpr ⟨sn_aload_n (k := 0) (by decide +kernel), ?_⟩
  refine List.forall_mem_cons.mpr ⟨sn_iload_n (k := 2) (by decide +kernel), ?_⟩
  refine List.forall_mem_cons.mpr ⟨⟨i_85, rfl, mk_callV (by decide) (by decide) cv_85 (Or.inl tw_548) rfl (by decide +kernel)⟩, ?_⟩
  refine List.forall_mem_cons.mpr ⟨sn_iconst (k := 0) (by decide +kernel) (by decide), ?_⟩
  refine List.forall_mem_cons.mpr ⟨⟨rfl, (by decide +kernel : decode prog_4_method_8_code 92 = .ok (.ireturn, 1))⟩, ?_⟩
  refine List.forall_mem_cons.mpr ⟨sn_iconst (k := 0) (by decide +kernel) (by decide), ?_⟩
  refine List.forall_mem_cons.mpr ⟨⟨rfl, (by decide +kernel : decode prog_4_method_8_code 94 = .ok (.ireturn, 1))⟩, ?_⟩
  exact fun _ h => absurd h List.not_mem_nil
set_option maxRecDepth 20000 in
theorem ok_79 : ∀ q ∈ mt_79, mx_ok mx_I0 i_79 q.1 q.2 := by
  refine List.forall_mem_cons.mpr ⟨sn_aload_n (k := 0) (by decide +kernel), ?_⟩
  refine List.forall_mem_cons.mpr ⟨sn_getf (by decide +kernel) rfl tbX2 (by decide) tw_162, ?_⟩
  refine List.forall_mem_cons.mpr ⟨sn_iconst (k := 0) (by decide +kernel) (by decide), ?_⟩
  refine List.forall_mem_cons.mpr ⟨⟨i_30, rfl, mk_callV (by decide) (by decide) cv_30 (Or.inl tw_494) rfl (by decide +kernel)⟩, ?_⟩
  refine List.forall_mem_cons.mpr ⟨sn_istore_n (k := 2) (by decide +kernel) (by decide), ?_⟩
  refine List.forall_mem_cons.mpr ⟨sn_iload_n (k := 2) (by decide +kernel), ?_⟩
  refine List.forall_mem_cons.mpr ⟨sn_if_ne (off := 36) (by decide +kernel) (by decide), ?_⟩
  refine List.forall_mem_cons.mpr ⟨sn_aload_n (k := 0) (by decide +kernel), ?_⟩
  refine List.forall_mem_cons.mpr ⟨sn_getf (by decide +kernel) rfl tbX2 (by decide) tw_162, ?_⟩
  refine List.forall_mem_cons.mpr ⟨sn_iconst (k := 0) (by decide +kernel) (by decide), ?_⟩
  refine List.forall_mem_cons.mpr ⟨⟨i_31, rfl, mk_callV (by decide) (by decide) cv_31 (Or.inl tw_498) rfl (by decide +kernel)⟩, ?_⟩
  refine List.forall_mem_cons.mpr ⟨sn_istore_n (k := 3) (by decide +kernel) (by decide), ?_⟩
  refine List.forall_mem_cons.mpr ⟨sn_aload_n (k := 0) (by decide +kernel), ?_⟩
  refine List.forall_mem_cons.mpr ⟨sn_getf (by decide +kernel) rfl tbX2 (by decide) tw_162, ?_⟩
  refine List.forall_mem_cons.mpr ⟨sn_iconst (k := 1) (by decide +kernel) (by decide), ?_⟩
  refine List.forall_mem_cons.mpr ⟨sn_iconst (k := 0) (by decide +kernel) (by decide), ?_⟩
  refine List.forall_mem_cons.mpr ⟨sn_iload_n (k := 1) (by decide +kernel), ?_⟩
  refine List.forall_mem_cons.mpr ⟨sn_iconst (k := 5) (by decide +kernel) (by decide), ?_⟩
  refine List.forall_mem_cons.mpr ⟨sn_icmp_ne (off := 8) (by decide +kernel) (by decide), ?_⟩
  refine List.forall_mem_cons.mpr ⟨sn_iload_n (k := 3) (by decide +kernel), ?_⟩
  refine List.forall_mem_cons.mpr ⟨sn_ineg (by decide +kernel), ?_⟩
  refine List.forall_mem_cons.mpr ⟨sn_goto (off := 6) (by decide +kernel) (by decide), ?_⟩
  refine List.forall_mem_cons.mpr ⟨sn_iload_n (k := 3) (by decide +kernel), ?_⟩
  refine List.forall_mem_cons.mpr ⟨sn_iconst (k := (-1)) (by decide +kernel) (by decide), ?_⟩
  refine List.forall_mem_cons.mpr ⟨sn_ixor (by decide +kernel), ?_⟩
  refine List.forall_mem_cons.mpr ⟨⟨i_33, rfl, mk_callV (by decide) (by decide) cv_33 (Or.inl tw_502) rfl (by decide +kernel)⟩, ?_⟩
  refine List.forall_mem_cons.mpr ⟨sn_iconst (k := 1) (by decide +kernel) (by decide), ?_⟩
  refine List.forall_mem_cons.mpr ⟨⟨rfl, (by decide +kernel : decode prog_4_method_9_code 45 = .ok (.ireturn, 1))⟩, ?_⟩
  refine List.forall_mem_cons.mpr ⟨sn_iload_n (k := 2) (by decide +kernel), ?_⟩
  refine List.forall_mem_cons.mpr ⟨sn_iload_n (k := 1) (by decide +kernel), ?_⟩
  refine List.forall_mem_cons.mpr ⟨sn_icmp_ne (off := 12) (by decide +kernel) (by decide), ?_⟩
  refine List.forall_mem_cons.mpr ⟨sn_aload_n (k := 0) (by decide +kernel), ?_⟩
  refine List.forall_mem_cons.mpr ⟨sn_getf (by decide +kernel) rfl tbX2 (by decide) tw_162, ?_⟩
  refine List.forall_mem_cons.mpr ⟨⟨i_32, rfl, mk_callV (by decide) (by decide) cv_32 (Or.inl tw_506) rfl (by decide +kernel)⟩, ?_⟩
  refine List.forall_mem_cons.mpr ⟨sn_iconst (k := 1) (by decide +kernel) (by decide), ?_⟩
  refine List.forall_mem_cons.mpr ⟨⟨rfl, (by decide +kernel : decode prog_4_method_9_code 59 = .ok (.ireturn, 1))⟩, ?_⟩
  refine List.forall_mem_cons.mpr ⟨sn_iload_n (k := 2) (by decide +kernel), ?_⟩
  refine List.forall_mem_cons.mpr ⟨sn_bipush (k := 8) (by decide +kernel) (by decide), ?_⟩
  refine List.forall_mem_cons.mpr ⟨sn_icmp_ne (off := 32) (by decide +kernel) (by decide), ?_⟩
  refine List.forall_mem_cons.mpr ⟨sn_iload_n (k := 1) (by decide +kernel), ?_⟩
  refine List.forall_mem_cons.mpr ⟨sn_bipush (k := 6) (by decide +kernel) (by decide), ?_⟩
  refine List.forall_mem_cons.mpr ⟨sn_icmp_ne (off := 26) (by decide +kernel) (by decide), ?_⟩
  refine List.forall_mem_cons.mpr ⟨sn_aload_n (k := 0) (by decide +kernel), ?_⟩
  refine List.forall_mem_cons.mpr ⟨sn_getf (by decide +kernel) rfl tbX2 (by decide) tw_162, ?_⟩
  refine List.forall_mem_cons.mpr ⟨sn_iconst (k := 1) (by decide +kernel) (by decide), ?_⟩
  refine List.forall_mem_cons.mpr ⟨sn_bipush (k := 8) (by decide +kernel) (by decide), ?_⟩
  refine List.forall_mem_cons.mpr ⟨sn_aload_n (k := 0) (by decide +kernel), ?_⟩
  refine List.forall_mem_cons.mpr ⟨sn_getf (by decide +kernel) rfl tbX2 (by decide) tw_162, ?_⟩
  refine List.forall_mem_cons.mpr ⟨sn_iconst (k := 0) (by decide +kernel) (by decide), ?_⟩
  refine List.forall_mem_cons.mpr ⟨⟨i_31, rfl, mk_callV (by decide) (by decide) cv_31 (Or.inl tw_498) rfl (by decide +kernel)⟩, ?_⟩
  refine List.forall_mem_cons.mpr ⟨⟨i_15, rfl, mk_callS (by decide) (by decide) cs_15 (Or.inl tw_511) (by decide +kernel)⟩, ?_⟩
  refine List.forall_mem_cons.mpr ⟨⟨i_33, rfl, mk_callV (by decide) (by decide) cv_33 (Or.inl tw_502) rfl (by decide +kernel)⟩, ?_⟩
  refine List.forall_mem_cons.mpr ⟨sn_iconst (k := 1) (by decide +kernel) (by decide), ?_⟩
  refine List.forall_mem_cons.mpr ⟨⟨rfl, (by decide +kernel : decode prog_4_method_9_code 94 = .ok (.ireturn, 1))⟩, ?_⟩
  refine List.forall_mem_cons.mpr ⟨sn_iconst (k := 0) (by decide +kernel) (by decide), ?_⟩
  refine List.forall_mem_cons.mpr ⟨⟨rfl, (by decide +kernel : decode prog_4_method_9_code 96 = .ok (.ireturn, 1))⟩, ?_⟩
  exact fun _ h => absurd h List.not_mem_nil
set_option maxRecDepth 20000 in
theorem ok_80 : ∀ q ∈ mt_80, mx_ok mx_I0 i_80 q.1 q.2 := by
  refine List.forall_mem_cons.mpr ⟨sn_aload_n (k := 0) (by decide +kernel), ?_⟩
  refine List.forall_mem_cons.mpr ⟨sn_getf (by decide +kernel) rfl tbX2 (by decide) tw_162, ?_⟩
  refine List.forall_mem_cons.mpr ⟨sn_iconst (k := 0) (by decide +kernel) (by decide), ?_⟩
  refine List.forall_mem_cons.mpr ⟨⟨i_30, rfl, mk_callV (by decide) (by decide) cv_30 (Or.inl tw_494) rfl (by decide +kernel)⟩, ?_⟩
  refine List.forall_mem_cons.mpr ⟨sn_if_eq (off := 5) (by decide +kernel) (by decide), ?_⟩
  refine List.forall_mem_cons.mpr ⟨sn_iconst (k := 0) (by decide +kernel) (by decide), ?_⟩
  refine List.forall_mem_cons.mpr ⟨⟨rfl, (by decide +kernel : decode prog_4_method_10_code 12 = .ok (.ireturn, 1))⟩, ?_⟩
  refine List.forall_mem_cons.mpr ⟨sn_aload_n (k := 0) (by decide +kernel), ?_⟩
  refine List.forall_mem_cons.mpr ⟨sn_getf (by decide +kernel) rfl tbX2 (by decide) tw_162, ?_⟩
  refine List.forall_mem_cons.mpr ⟨sn_iconst (k := 0) (by decide +kernel) (by decide), ?_⟩
  refine List.forall_mem_cons.mpr ⟨⟨i_31, rfl, mk_callV (by decide) (by decide) cv_31 (Or.inl tw_498) rfl (by decide +kernel)⟩, ?_⟩
  refine List.forall_mem_cons.mpr ⟨sn_istore_n (k := 2) (by decide +kernel) (by decide), ?_⟩
  refine List.forall_mem_cons.mpr ⟨sn_iload_n (k := 1) (by decide +kernel), ?_⟩
  refine List.forall_mem_cons.mpr ⟨sn_iload_n (k := 2) (by decide +kernel), ?_⟩
  refine List.forall_mem_cons.mpr ⟨⟨i_12, rfl, mk_callS (by decide) (by decide) cs_12 (Or.inl tw_518) (by decide +kernel)⟩, ?_⟩
  refine List.forall_mem_cons.mpr ⟨sn_if_eq (off := 12) (by decide +kernel) (by decide), ?_⟩
  refine List.forall_mem_cons.mpr ⟨sn_aload_n (k := 0) (by decide +kernel), ?_⟩
  refine List.forall_mem_cons.mpr ⟨sn_getf (by decide +kernel) rfl tbX2 (by decide) tw_162, ?_⟩
  refine List.forall_mem_cons.mpr ⟨⟨i_32, rfl, mk_callV (by decide) (by decide) cv_32 (Or.inl tw_506) rfl (by decide +kernel)⟩, ?_⟩
  refine List.forall_mem_cons.mpr ⟨sn_iconst (k := 1) (by decide +kernel) (by decide), ?_⟩
  refine List.forall_mem_cons.mpr ⟨⟨rfl, (by decide +kernel : decode prog_4_method_10_code 38 = .ok (.ireturn, 1))⟩, ?_⟩
  refine List.forall_mem_cons.mpr ⟨sn_aload_n (k := 0) (by decide +kernel), ?_⟩
  refine List.forall_mem_cons.mpr ⟨sn_getf (by decide +kernel) rfl tbX2 (by decide) tw_162, ?_⟩
  refine List.forall_mem_cons.mpr ⟨sn_iconst (k := 1) (by decide +kernel) (by decide), ?_⟩
  refine List.forall_mem_cons.mpr ⟨⟨i_30, rfl, mk_callV (by decide) (by decide) cv_30 (Or.inl tw_494) rfl (by decide +kernel)⟩, ?_⟩
  refine List.forall_mem_cons.mpr ⟨sn_if_ne (off := 14) (by decide +kernel) (by decide), ?_⟩
  refine List.forall_mem_cons.mpr ⟨sn_iload_n (k := 2) (by decide +kernel), ?_⟩
  refine List.forall_mem_cons.mpr ⟨sn_if_ne (off := 12) (by decide +kernel) (by decide), ?_⟩
  refine List.forall_mem_cons.mpr ⟨sn_iload_n (k := 1) (by decide +kernel), ?_⟩
  refine List.forall_mem_cons.mpr ⟨⟨i_9, rfl, mk_callS (by decide) (by decide) cs_9 (Or.inl tw_521) (by decide +kernel)⟩, ?_⟩
  refine List.forall_mem_cons.mpr ⟨sn_if_eq (off := 5) (by decide +kernel) (by decide), ?_⟩
  refine List.forall_mem_cons.mpr ⟨sn_iconst (k := 0) (by decide +kernel) (by decide), ?_⟩
  refine List.forall_mem_cons.mpr ⟨⟨rfl, (by decide +kernel : decode prog_4_method_10_code 62 = .ok (.ireturn, 1))⟩, ?_⟩
  refine List.forall_mem_cons.mpr ⟨sn_aload_n (k := 0) (by decide +kernel), ?_⟩
  refine List.forall_mem_cons.mpr ⟨sn_getf (by decide +kernel) rfl tbX2 (by decide) tw_162, ?_⟩
  refine List.forall_mem_cons.mpr ⟨sn_iconst (k := 2) (by decide +kernel) (by decide), ?_⟩
  refine List.forall_mem_cons.mpr ⟨sn_iconst (k := 0) (by decide +kernel) (by decide), ?_⟩
  refine List.forall_mem_cons.mpr ⟨sn_iload_n (k := 1) (by decide +kernel), ?_⟩
  refine List.forall_mem_cons.mpr ⟨sn_aload_n (k := 0) (by decide +kernel), ?_⟩
  refine List.forall_mem_cons.mpr ⟨sn_getf (by decide +kernel) rfl tbX2 (by decide) tw_162, ?_⟩
  refine List.forall_mem_cons.mpr ⟨sn_iconst (k := 1) (by decide +kernel) (by decide), ?_⟩
  refine List.forall_mem_cons.mpr ⟨⟨i_31, rfl, mk_callV (by decide) (by decide) cv_31 (Or.inl tw_498) rfl (by decide +kernel)⟩, ?_⟩
  refine List.forall_mem_cons.mpr ⟨sn_iload_n (k := 2) (by decide +kernel), ?_⟩
  refine List.forall_mem_cons.mpr ⟨⟨i_10, rfl, mk_callS (by decide) (by decide) cs_10 (Or.inl tw_524) (by decide +kernel)⟩, ?_⟩
  refine List.forall_mem_cons.mpr ⟨⟨i_33, rfl, mk_callV (by decide) (by decide) cv_33 (Or.inl tw_502) rfl (by decide +kernel)⟩, ?_⟩
  refine List.forall_mem_cons.mpr ⟨sn_iconst (k := 1) (by decide +kernel) (by decide), ?_⟩
  refine List.forall_mem_cons.mpr ⟨⟨rfl, (by decide +kernel : decode prog_4_method_10_code 86 = .ok (.ireturn, 1))⟩, ?_⟩
  exact fun _ h => absurd h List.not_mem_nil
end
section
set_option maxRecDepth 20000 in
theorem ok_81 : ∀ q ∈ mt_81, mx_ok mx_I0 i_81 q.1 q.2 := by
  refine List.forall_mem_cons.mpr ⟨sn_aload_n (k := 0) (by decide +kernel), ?_⟩
  refine List.forall_mem_cons.mpr ⟨sn_getf (by decide +kernel) rfl tbX2 (by decide) tw_162, ?_⟩
  refine List.forall_mem_cons.mpr ⟨sn_iconst (k := 0) (by decide +kernel) (by decide), ?_⟩
  refine List.forall_mem_cons.mpr ⟨⟨i_30, rfl, mk_callV (by decide) (by decide) cv_30 (Or.inl tw_494) rfl (by decide +kernel)⟩, ?_⟩
  refine List.forall_mem_cons.mpr ⟨sn_if_eq (off := 5) (by decide +kernel) (by decide), ?_⟩
  refine List.forall_mem_cons.mpr ⟨sn_iconst (k := 0) (by decide +kernel) (by decide), ?_⟩
  refine List.forall_mem_cons.mpr ⟨⟨rfl, (by decide +kernel : decode prog_4_method_11_code 12 = .ok (.ireturn, 1))⟩, ?_⟩
  refine List.forall_mem_cons.mpr ⟨sn_aload_n (k := 0) (by decide +kernel), ?_⟩
  refine List.forall_mem_cons.mpr ⟨sn_getf (by decide +kernel) rfl tbX2 (by decide) tw_162, ?_⟩
  refine List.forall_mem_cons.mpr ⟨sn_iconst (k := 0) (by decide +kernel) (by decide), ?_⟩
  refine List.forall_mem_cons.mpr ⟨⟨i_31, rfl, mk_callV (by decide) (by decide) cv_31 (Or.inl tw_498) rfl (by decide +kernel)⟩, ?_⟩
  refine List.forall_mem_cons.mpr ⟨sn_istore_n (k := 2) (by decide +kernel) (by decide), ?_⟩
  refine List.forall_mem_cons.mpr ⟨sn_aload_n (k := 0) (by decide +kernel), ?_⟩
  refine List.forall_mem_cons.mpr ⟨sn_getf (by decide +kernel) rfl tbX2 (by decide) tw_162, ?_⟩
  refine List.forall_mem_cons.mpr ⟨sn_iconst (k := 1) (by decide +kernel) (by decide), ?_⟩
  refine List.forall_mem_cons.mpr ⟨⟨i_30, rfl, mk_callV (by decide) (by decide) cv_30 (Or.inl tw_494) rfl (by decide +kernel)⟩, ?_⟩
  refine List.forall_mem_cons.mpr ⟨sn_if_ne (off := 27) (by decide +kernel) (by decide), ?_⟩
  refine List.forall_mem_cons.mpr ⟨sn_aload_n (k := 0) (by decide +kernel), ?_⟩
  refine List.forall_mem_cons.mpr ⟨sn_getf (by decide +kernel) rfl tbX2 (by decide) tw_162, ?_⟩
  refine List.forall_mem_cons.mpr ⟨sn_iconst (k := 2) (by decide +kernel) (by decide), ?_⟩
  refine List.forall_mem_cons.mpr ⟨sn_iconst (k := 0) (by decide +kernel) (by decide), ?_⟩
  refine List.forall_mem_cons.mpr ⟨sn_iload_n (k := 1) (by decide +kernel), ?_⟩
  refine List.forall_mem_cons.mpr ⟨sn_aload_n (k := 0) (by decide +kernel), ?_⟩
  refine List.forall_mem_cons.mpr ⟨sn_getf (by decide +kernel) rfl tbX2 (by decide) tw_162, ?_⟩
  refine List.forall_mem_cons.mpr ⟨sn_iconst (k := 1) (by decide +kernel) (by decide), ?_⟩
  refine List.forall_mem_cons.mpr ⟨⟨i_31, rfl, mk_callV (by decide) (by decide) cv_31 (Or.inl tw_498) rfl (by decide +kernel)⟩, ?_⟩
  refine List.forall_mem_cons.mpr ⟨sn_iload_n (k := 2) (by decide +kernel), ?_⟩
  refine List.forall_mem_cons.mpr ⟨⟨i_14, rfl, mk_callS (by decide) (by decide) cs_14 (Or.inl tw_531) (by decide +kernel)⟩, ?_⟩
  refine List.forall_mem_cons.mpr ⟨⟨i_33, rfl, mk_callV (by decide) (by decide) cv_33 (Or.inl tw_502) rfl (by decide +kernel)⟩, ?_⟩
  refine List.forall_mem_cons.mpr ⟨sn_iconst (k := 1) (by decide +kernel) (by decide), ?_⟩
  refine List.forall_mem_cons.mpr ⟨⟨rfl, (by decide +kernel : decode prog_4_method_11_code 56 = .ok (.ireturn, 1))⟩, ?_⟩
  refine List.forall_mem_cons.mpr ⟨sn_aload_n (k := 0) (by decide +kernel), ?_⟩
  refine List.forall_mem_cons.mpr ⟨sn_getf (by decide +kernel) rfl tbX2 (by decide) tw_162, ?_⟩
  refine List.forall_mem_cons.mpr ⟨sn_iconst (k := 1) (by decide +kernel) (by decide), ?_⟩
  refine List.forall_mem_cons.mpr ⟨⟨i_30, rfl, mk_callV (by decide) (by decide) cv_30 (Or.inl tw_494) rfl (by decide +kernel)⟩, ?_⟩
  refine List.forall_mem_cons.mpr ⟨sn_bipush (k := 8) (by decide +kernel) (by decide), ?_⟩
  refine List.forall_mem_cons.mpr ⟨sn_icmp_ne (off := 45) (by decide +kernel) (by decide), ?_⟩
  refine List.forall_mem_cons.mpr ⟨sn_iload_n (k := 2) (by decide +kernel), ?_⟩
  refine List.forall_mem_cons.mpr ⟨sn_if_ne (off := 41) (by decide +kernel) (by decide), ?_⟩
  refine List.forall_mem_cons.mpr ⟨sn_iload_n (k := 1) (by decide +kernel), ?_⟩
  refine List.forall_mem_cons.mpr ⟨sn_iconst (k := 2) (by decide +kernel) (by decide), ?_⟩
  refine List.forall_mem_cons.mpr ⟨sn_icmp_ge (off := 36) (by decide +kernel) (by decide), ?_⟩
  refine List.forall_mem_cons.mpr ⟨sn_aload_n (k := 0) (by decide +kernel), ?_⟩
  refine List.forall_mem_cons.mpr ⟨sn_getf (by decide +kernel) rfl tbX2 (by decide) tw_162, ?_⟩
  refine List.forall_mem_cons.mpr ⟨sn_iconst (k := 1) (by decide +kernel) (by decide), ?_⟩
  refine List.forall_mem_cons.mpr ⟨⟨i_31, rfl, mk_callV (by decide) (by decide) cv_31 (Or.inl tw_498) rfl (by decide +kernel)⟩, ?_⟩
  refine List.forall_mem_cons.mpr ⟨sn_istore_n (k := 3) (by decide +kernel) (by decide), ?_⟩
  refine List.forall_mem_cons.mpr ⟨sn_aload_n (k := 0) (by decide +kernel), ?_⟩
  refine List.forall_mem_cons.mpr ⟨sn_getf (by decide +kernel) rfl tbX2 (by decide) tw_162, ?_⟩
  refine List.forall_mem_cons.mpr ⟨sn_iconst (k := 2) (by decide +kernel) (by decide), ?_⟩
  refine List.forall_mem_cons.mpr ⟨sn_bipush (k := 8) (by decide +kernel) (by decide), ?_⟩
  refine List.forall_mem_cons.mpr ⟨sn_iload_n (k := 1) (by decide +kernel), ?_⟩
  refine List.forall_mem_cons.mpr ⟨sn_if_ne (off := 10) (by decide +kernel) (by decide), ?_⟩
  refine List.forall_mem_cons.mpr ⟨sn_iload_n (k := 3) (by decide +kernel), ?_⟩
  refine List.forall_mem_cons.mpr ⟨⟨i_15, rfl, mk_callS (by decide) (by decide) cs_15 (Or.inl tw_511) (by decide +kernel)⟩, ?_⟩
  refine List.forall_mem_cons.mpr ⟨sn_goto (off := 4) (by decide +kernel) (by decide), ?_⟩
  refine List.forall_mem_cons.mpr ⟨sn_iload_n (k := 3) (by decide +kernel), ?_⟩
  refine List.forall_mem_cons.mpr ⟨⟨i_33, rfl, mk_callV (by decide) (by decide) cv_33 (Or.inl tw_502) rfl (by decide +kernel)⟩, ?_⟩
  refine List.forall_mem_cons.mpr ⟨sn_iconst (k := 1) (by decide +kernel) (by decide), ?_⟩
  refine List.forall_mem_cons.mpr ⟨⟨rfl, (by decide +kernel : decode prog_4_method_11_code 111 = .ok (.ireturn, 1))⟩, ?_⟩
  refine List.forall_mem_cons.mpr ⟨sn_iconst (k := 0) (by decide +kernel) (by decide), ?_⟩
  refine List.forall_mem_cons.mpr ⟨⟨rfl, (by decide +kernel : decode prog_4_method_11_code 113 = .ok (.ireturn, 1))⟩, ?_⟩
  exact fun _ h => absurd h List.not_mem_nil
set_option maxRecDepth 20000 in
theorem ok_82 : ∀ q ∈ mt_82, mx_ok mx_I0 i_82 q.1 q.2 := by
  refine List.forall_mem_cons.mpr ⟨sn_aload_n (k := 0) (by decide +kernel), ?_⟩
  refine List.forall_mem_cons.mpr ⟨sn_getf (by decide +kernel) rfl tbX2 (by decide) tw_162, ?_⟩
  refine List.forall_mem_cons.mpr ⟨sn_iconst (k := 0) (by decide +kernel) (by decide), ?_⟩
  refine List.forall_mem_cons.mpr ⟨⟨i_30, rfl, mk_callV (by decide) (by decide) cv_30 (Or.inl tw_494) rfl (by decide +kernel)⟩, ?_⟩
  refine List.forall_mem_cons.mpr ⟨sn_istore_n (k := 1) (by decide +kernel) (by decide), ?_⟩
  refine List.forall_mem_cons.mpr ⟨sn_iload_n (k := 1) (by decide +kernel), ?_⟩
  refine List.forall_mem_cons.mpr ⟨sn_iconst (k := 5) (by decide +kernel) (by decide), ?_⟩
  refine List.forall_mem_cons.mpr ⟨sn_icmp_eq (off := 9) (by decide +kernel) (by decide), ?_⟩
  refine List.forall_mem_cons.mpr ⟨sn_iload_n (k := 1) (by decide +kernel), ?_⟩
  refine List.forall_mem_cons.mpr ⟨sn_bipush (k := 6) (by decide +kernel) (by decide), ?_⟩
  refine List.forall_mem_cons.mpr ⟨sn_icmp_ne (off := 12) (by decide +kernel) (by decide), ?_⟩
  refine List.forall_mem_cons.mpr ⟨sn_aload_n (k := 0) (by decide +kernel), ?_⟩
  refine List.forall_mem_cons.mpr ⟨sn_getf (by decide +kernel) rfl tbX2 (by decide) tw_162, ?_⟩
  refine List.forall_mem_cons.mpr ⟨⟨i_32, rfl, mk_callV (by decide) (by decide) cv_32 (Or.inl tw_506) rfl (by decide +kernel)⟩, ?_⟩
  refine List.forall_mem_cons.mpr ⟨sn_iconst (k := 0) (by decide +kernel) (by decide), ?_⟩
  refine List.forall_mem_cons.mpr ⟨⟨rfl, (by decide +kernel : decode prog_4_method_12_code 28 = .ok (.ireturn, 1))⟩, ?_⟩
  refine List.forall_mem_cons.mpr ⟨sn_iload_n (k := 1) (by decide +kernel), ?_⟩
  refine List.forall_mem_cons.mpr ⟨sn_if_eq (off := 8) (by decide +kernel) (by decide), ?_⟩
  refine List.forall_mem_cons.mpr ⟨sn_iload_n (k := 1) (by decide +kernel), ?_⟩
  refine List.forall_mem_cons.mpr ⟨sn_iconst (k := 1) (by decide +kernel) (by decide), ?_⟩
  refine List.forall_mem_cons.mpr ⟨sn_icmp_ne (off := 12) (by decide +kernel) (by decide), ?_⟩
  refine List.forall_mem_cons.mpr ⟨sn_aload_n (k := 0) (by decide +kernel), ?_⟩
  refine List.forall_mem_cons.mpr ⟨sn_getf (by decide +kernel) rfl tbX2 (by decide) tw_162, ?_⟩
  refine List.forall_mem_cons.mpr ⟨⟨i_32, rfl, mk_callV (by decide) (by decide) cv_32 (Or.inl tw_506) rfl (by decide +kernel)⟩, ?_⟩
  refine List.forall_mem_cons.mpr ⟨sn_iconst (k := 1) (by decide +kernel) (by decide), ?_⟩
  refine List.forall_mem_cons.mpr ⟨⟨rfl, (by decide +kernel : decode prog_4_method_12_code 46 = .ok (.ireturn, 1))⟩, ?_⟩
  refine List.forall_mem_cons.mpr ⟨sn_iconst (k := 0) (by decide +kernel) (by decide), ?_⟩
  refine List.forall_mem_cons.mpr ⟨⟨rfl, (by decide +kernel : decode prog_4_method_12_code 48 = .ok (.ireturn, 1))⟩, ?_⟩
  exact fun _ h => absurd h List.not_mem_nil
set_option maxRecDepth 20000 in
theorem ok_83 : ∀ q ∈ mt_83, mx_ok mx_I0 i_83 q.1 q.2 := by
  refine List.forall_mem_cons.mpr ⟨sn_aload_n (k := 0) (by decide +kernel), ?_⟩
  refine List.forall_mem_cons.mpr ⟨sn_getf (by decide +kernel) rfl tbX2 (by decide) tw_162, ?_⟩
  refine List.forall_mem_cons.mpr ⟨sn_iconst (k := 0) (by decide +kernel) (by decide), ?_⟩
  refine List.forall_mem_cons.mpr ⟨⟨i_30, rfl, mk_callV (by decide) (by decide) cv_30 (Or.inl tw_494) rfl (by decide +kernel)⟩, ?_⟩
  refine List.forall_mem_cons.mpr ⟨sn_if_ne (off := 54) (by decide +kernel) (by decide), ?_⟩
  refine List.forall_mem_cons.mpr ⟨sn_aload_n (k := 0) (by decide +kernel), ?_⟩
  refine List.forall_mem_cons.mpr ⟨sn_getf (by decide +kernel) rfl tbX2 (by decide) tw_162, ?_⟩
  refine List.forall_mem_cons.mpr ⟨sn_iconst (k := 0) (by decide +kernel) (by decide), ?_⟩
  refine List.forall_mem_cons.mpr ⟨⟨i_31, rfl, mk_callV (by decide) (by decide) cv_31 (Or.inl tw_498) rfl (by decide +kernel)⟩, ?_⟩
  refine List.forall_mem_cons.mpr ⟨sn_if_ne (off := 7) (by decide +kernel) (by decide), ?_⟩
  refine List.forall_mem_cons.mpr ⟨sn_iconst (k := 1) (by decide +kernel) (by decide), ?_⟩
  refine List.forall_mem_cons.mpr ⟨sn_goto (off := 4) (by decide +kernel) (by decide), ?_⟩
  refine List.forall_mem_cons.mpr ⟨sn_iconst (k := 0) (by decide +kernel) (by decide), ?_⟩
  refine List.forall_mem_cons.mpr ⟨sn_istore_n (k := 3) (by decide +kernel) (by decide), ?_⟩
  refine List.forall_mem_cons.mpr ⟨sn_aload_n (k := 0) (by decide +kernel), ?_⟩
  refine List.forall_mem_cons.mpr ⟨sn_getf (by decide +kernel) rfl tbX2 (by decide) tw_162, ?_⟩
  refine List.forall_mem_cons.mpr ⟨⟨i_32, rfl, mk_callV (by decide) (by decide) cv_32 (Or.inl tw_506) rfl (by decide +kernel)⟩, ?_⟩
  refine List.forall_mem_cons.mpr ⟨sn_iload_n (k := 3) (by decide +kernel), ?_⟩
  refine List.forall_mem_cons.mpr ⟨sn_iload_n (k := 1) (by decide +kernel), ?_⟩
  refine List.forall_mem_cons.mpr ⟨sn_bipush (k := 11) (by decide +kernel) (by decide), ?_⟩
  refine List.forall_mem_cons.mpr ⟨sn_icmp_ne (off := 7) (by decide +kernel) (by decide), ?_⟩
  refine List.forall_mem_cons.mpr ⟨sn_iconst (k := 1) (by decide +kernel) (by decide), ?_⟩
  refine List.forall_mem_cons.mpr ⟨sn_goto (off := 4) (by decide +kernel) (by decide), ?_⟩
  refine List.forall_mem_cons.mpr ⟨sn_iconst (k := 0) (by decide +kernel) (by decide), ?_⟩
  refine List.forall_mem_cons.mpr ⟨sn_icmp_ne (off := 13) (by decide +kernel) (by decide), ?_⟩
  refine List.forall_mem_cons.mpr ⟨sn_aload_n (k := 0) (by decide +kernel), ?_⟩
  refine List.forall_mem_cons.mpr ⟨sn_getf (by decide +kernel) rfl tbX2 (by decide) tw_162, ?_⟩
  refine List.forall_mem_cons.mpr ⟨sn_bipush (k := 10) (by decide +kernel) (by decide), ?_⟩
  refine List.forall_mem_cons.mpr ⟨sn_iload_n (k := 2) (by decide +kernel), ?_⟩
  refine List.forall_mem_cons.mpr ⟨⟨i_28, rfl, mk_callV (by decide) (by decide) cv_28 (Or.inl tw_465) rfl (by decide +kernel)⟩, ?_⟩
  refine List.forall_mem_cons.mpr ⟨sn_iconst (k := 1) (by decide +kernel) (by decide), ?_⟩
  refine List.forall_mem_cons.mpr ⟨⟨rfl, (by decide +kernel : decode prog_4_method_13_code 61 = .ok (.ireturn, 1))⟩, ?_⟩
  refine List.forall_mem_cons.mpr ⟨sn_aload_n (k := 0) (by decide +kernel), ?_⟩
  refine List.forall_mem_cons.mpr ⟨sn_getf (by decide +kernel) rfl tbX2 (by decide) tw_162, ?_⟩
  refine List.forall_mem_cons.mpr ⟨sn_iconst (k := 0) (by decide +kernel) (by decide), ?_⟩
  refine List.forall_mem_cons.mpr ⟨⟨i_30, rfl, mk_callV (by decide) (by decide) cv_30 (Or.inl tw_494) rfl (by decide +kernel)⟩, ?_⟩
  refine List.forall_mem_cons.mpr ⟨sn_iconst (k := 5) (by decide +kernel) (by decide), ?_⟩
  refine List.forall_mem_cons.mpr ⟨sn_icmp_ne (off := 12) (by decide +kernel) (by decide), ?_⟩
  refine List.forall_mem_cons.mpr ⟨sn_aload_n (k := 0) (by decide +kernel), ?_⟩
  refine List.forall_mem_cons.mpr ⟨sn_getf (by decide +kernel) rfl tbX2 (by decide) tw_162, ?_⟩
  refine List.forall_mem_cons.mpr ⟨⟨i_32, rfl, mk_callV (by decide) (by decide) cv_32 (Or.inl tw_506) rfl (by decide +kernel)⟩, ?_⟩
  refine List.forall_mem_cons.mpr ⟨sn_iconst (k := 0) (by decide +kernel) (by decide), ?_⟩
  refine List.forall_mem_cons.mpr ⟨⟨rfl, (by decide +kernel : decode prog_4_method_13_code 82 = .ok (.ireturn, 1))⟩, ?_⟩
  refine List.forall_mem_cons.mpr ⟨sn_aload_n (k := 0) (by decide +kernel), ?_⟩
  refine List.forall_mem_cons.mpr ⟨sn_getf (by decide +kernel) rfl tbX2 (by decide) tw_162, ?_⟩
  refine List.forall_mem_cons.mpr ⟨sn_iconst (k := 0) (by decide +kernel) (by decide), ?_⟩
  refine List.forall_mem_cons.mpr ⟨⟨i_30, rfl, mk_callV (by decide) (by decide) cv_30 (Or.inl tw_494) rfl (by decide +kernel)⟩, ?_⟩
  refine List.forall_mem_cons.mpr ⟨sn_bipush (k := 8) (by decide +kernel) (by decide), ?_⟩
  refine List.forall_mem_cons.mpr ⟨sn_icmp_ne (off := 41) (by decide +kernel) (by decide), ?_⟩
  refine List.forall_mem_cons.mpr ⟨sn_aload_n (k := 0) (by decide +kernel), ?_⟩
  refine List.forall_mem_cons.mpr ⟨sn_getf (by decide +kernel) rfl tbX2 (by decide) tw_162, ?_⟩
  refine List.forall_mem_cons.mpr ⟨sn_iconst (k := 0) (by decide +kernel) (by decide), ?_⟩
  refine List.forall_mem_cons.mpr ⟨⟨i_31, rfl, mk_callV (by decide) (by decide) cv_31 (Or.inl tw_498) rfl (by decide +kernel)⟩, ?_⟩
  refine List.forall_mem_cons.mpr ⟨sn_iconst (k := 2) (by decide +kernel) (by decide), ?_⟩
  refine List.forall_mem_cons.mpr ⟨sn_icmp_ge (off := 29) (by decide +kernel) (by decide), ?_⟩
  refine List.forall_mem_cons.mpr ⟨sn_aload_n (k := 0) (by decide +kernel), ?_⟩
  refine List.forall_mem_cons.mpr ⟨sn_getf (by decide +kernel) rfl tbX2 (by decide) tw_162, ?_⟩
  refine List.forall_mem_cons.mpr ⟨sn_iconst (k := 1) (by decide +kernel) (by decide), ?_⟩
  refine List.forall_mem_cons.mpr ⟨⟨i_30, rfl, mk_callV (by decide) (by decide) cv_30 (Or.inl tw_494) rfl (by decide +kernel)⟩, ?_⟩
  refine List.forall_mem_cons.mpr ⟨sn_if_ne (off := 18) (by decide +kernel) (by decide), ?_⟩
  refine List.forall_mem_cons.mpr ⟨sn_aload_n (k := 0) (by decide +kernel), ?_⟩
  refine List.forall_mem_cons.mpr ⟨sn_getf (by decide +kernel) rfl tbX2 (by decide) tw_162, ?_⟩
  refine List.forall_mem_cons.mpr ⟨sn_iconst (k := 1) (by decide +kernel) (by decide), ?_⟩
  refine List.forall_mem_cons.mpr ⟨⟨i_31, rfl, mk_callV (by decide) (by decide) cv_31 (Or.inl tw_498) rfl (by decide +kernel)⟩, ?_⟩
  refine List.forall_mem_cons.mpr ⟨sn_if_ne (off := 7) (by decide +kernel) (by decide), ?_⟩
  refine List.forall_mem_cons.mpr ⟨sn_iconst (k := 1) (by decide +kernel) (by decide), ?_⟩
  refine List.forall_mem_cons.mpr ⟨sn_goto (off := 4) (by decide +kernel) (by decide), ?_⟩
  refine List.forall_mem_cons.mpr ⟨sn_iconst (k := 0) (by decide +kernel) (by decide), ?_⟩
  refine List.forall_mem_cons.mpr ⟨sn_istore_n (k := 3) (by decide +kernel) (by decide), ?_⟩
  refine List.forall_mem_cons.mpr ⟨sn_iload_n (k := 3) (by decide +kernel), ?_⟩
  refine List.forall_mem_cons.mpr ⟨sn_if_eq (off := 31) (by decide +kernel) (by decide), ?_⟩
  refine List.forall_mem_cons.mpr ⟨sn_aload_n (k := 0) (by decide +kernel), ?_⟩
  refine List.forall_mem_cons.mpr ⟨sn_getf (by decide +kernel) rfl tbX2 (by decide) tw_162, ?_⟩
  refine List.forall_mem_cons.mpr ⟨sn_iconst (k := 2) (by decide +kernel) (by decide), ?_⟩
  refine List.forall_mem_cons.mpr ⟨sn_aload_n (k := 0) (by decide +kernel), ?_⟩
  refine List.forall_mem_cons.mpr ⟨sn_getf (by decide +kernel) rfl tbX2 (by decide) tw_162, ?_⟩
  refine List.forall_mem_cons.mpr ⟨sn_iconst (k := 0) (by decide +kernel) (by decide), ?_⟩
  refine List.forall_mem_cons.mpr ⟨⟨i_31, rfl, mk_callV (by decide) (by decide) cv_31 (Or.inl tw_498) rfl (by decide +kernel)⟩, ?_⟩
  refine List.forall_mem_cons.mpr ⟨sn_if_ne (off := 10) (by decide +kernel) (by decide), ?_⟩
  refine List.forall_mem_cons.mpr ⟨sn_iload_n (k := 1) (by decide +kernel), ?_⟩
  refine List.forall_mem_cons.mpr ⟨⟨i_84, rfl, mk_callS (by decide) (by decide) cs_84 (Or.inl tw_545) (by decide +kernel)⟩, ?_⟩
  refine List.forall_mem_cons.mpr ⟨sn_goto (off := 4) (by decide +kernel) (by decide), ?_⟩
  refine List.forall_mem_cons.mpr ⟨sn_iload_n (k := 1) (by decide +kernel), ?_⟩
  refine List.forall_mem_cons.mpr ⟨sn_iload_n (k := 2) (by decide +kernel), ?_⟩
  refine List.forall_mem_cons.mpr ⟨⟨i_33, rfl, mk_callV (by decide) (by decide) cv_33 (Or.inl tw_502) rfl (by decide +kernel)⟩, ?_⟩
  refine List.forall_mem_cons.mpr ⟨sn_iload_n (k := 3) (by decide +kernel), ?_⟩
  refine List.forall_mem_cons.mpr ⟨⟨rfl, (by decide +kernel : decode prog_4_method_13_code 169 = .ok (.ireturn, 1))⟩, ?_⟩
  exact fun _ h => absurd h List.not_mem_nil
set_option maxRecDepth 20000 in
theorem ok_84 : ∀ q ∈ mt_84, mx_ok mx_I0 i_84 q.1 q.2 := by
  refine List.forall_mem_cons.mpr ⟨sn_iload_n (k := 0) (by decide +kernel), ?_⟩
  refine List.forall_mem_cons.mpr ⟨sn_bipush (k := 11) (by decide +kernel) (by decide), ?_⟩
  refine List.forall_mem_cons.mpr ⟨sn_icmp_ne (off := 8) (by decide +kernel) (by decide), ?_⟩
  refine List.forall_mem_cons.mpr ⟨sn_bipush (k := 12) (by decide +kernel) (by decide), ?_⟩
  refine List.forall_mem_cons.mpr ⟨sn_goto (off := 5) (by decide +kernel) (by decide), ?_⟩
  refine List.forall_mem_cons.mpr ⟨sn_bipush (k := 11) (by decide +kernel) (by decide), ?_⟩
  refine List.forall_mem_cons.mpr ⟨⟨rfl, (by decide +kernel : decode prog_4_method_14_code 13 = .ok (.ireturn, 1))⟩, ?_⟩
  exact fun _ h => absurd h List.not_mem_nil
set_option maxRecDepth 20000 in
theorem ok_85 : ∀ q ∈ mt_85, mx_ok mx_I0 i_85 q.1 q.2 := by
  refine List.forall_mem_cons.mpr ⟨sn_aload_n (k := 0) (by decide +kernel), ?_⟩
  refine List.forall_mem_cons.mpr ⟨sn_getf (by decide +kernel) rfl tbX2 (by decide) tw_162, ?_⟩
  refine List.forall_mem_cons.mpr ⟨sn_iconst (k := 0) (by decide +kernel) (by decide), ?_⟩
  refine List.forall_mem_cons.mpr ⟨⟨i_30, rfl, mk_callV (by decide) (by decide) cv_30 (Or.inl tw_494) rfl (by decide +kernel)⟩, ?_⟩
  refine List.forall_mem_cons.mpr ⟨sn_bipush (k := 10) (by decide +kernel) (by decide), ?_⟩
  refine List.forall_mem_cons.mpr ⟨sn_icmp_ne (off := 7) (by decide +kernel) (by decide), ?_⟩
  refine List.forall_mem_cons.mpr ⟨sn_iconst (k := 1) (by decide +kernel) (by decide), ?_⟩
  refine List.forall_mem_cons.mpr ⟨sn_goto (off := 4) (by decide +kernel) (by decide), ?_⟩
  refine List.forall_mem_cons.mpr ⟨sn_iconst (k := 0) (by decide +kernel) (by decide), ?_⟩
  refine List.forall_mem_cons.mpr ⟨sn_istore_n (k := 2) (by decide +kernel) (by decide), ?_⟩
  refine List.forall_mem_cons.mpr ⟨sn_iload_n (k := 2) (by decide +kernel), ?_⟩
  refine List.forall_mem_cons.mpr ⟨sn_if_eq (off := 7) (by decide +kernel) (by decide), ?_⟩
  refine List.forall_mem_cons.mpr ⟨sn_iconst (k := 1) (by decide +kernel) (by decide), ?_⟩
  refine List.forall_mem_cons.mpr ⟨sn_goto (off := 4) (by decide +kernel) (by decide), ?_⟩
  refine List.forall_mem_cons.mpr ⟨sn_iconst (k := 0) (by decide +kernel) (by decide), ?_⟩
  refine List.forall_mem_cons.mpr ⟨sn_istore_n (k := 3) (by decide +kernel) (by decide), ?_⟩
  refine List.forall_mem_cons.mpr ⟨sn_aload_n (k := 0) (by decide +kernel), ?_⟩
  refine List.forall_mem_cons.mpr ⟨sn_getf (by decide +kernel) rfl tbX2 (by decide) tw_162, ?_⟩
  refine List.forall_mem_cons.mpr ⟨sn_iload_n (k := 3) (by decide +kernel), ?_⟩
  refine List.forall_mem_cons.mpr ⟨⟨i_30, rfl, mk_callV (by decide) (by decide) cv_30 (Or.inl tw_494) rfl (by decide +kernel)⟩, ?_⟩
  refine List.forall_mem_cons.mpr ⟨⟨i_113, rfl, mk_callS (by decide) (by decide) cs_113 (Or.inr ⟨_, tw_552⟩) (by decide +kernel)⟩, ?_⟩
  refine List.forall_mem_cons.mpr ⟨sn_if_eq (off := 34) (by decide +kernel) (by decide), ?_⟩
  refine List.forall_mem_cons.mpr ⟨sn_aload_n (k := 0) (by decide +kernel), ?_⟩
  refine List.forall_mem_cons.mpr ⟨sn_getf (by decide +kernel) rfl tbX2 (by decide) tw_162, ?_⟩
  refine List.forall_mem_cons.mpr ⟨sn_iload_n (k := 3) (by decide +kernel), ?_⟩
  refine List.forall_mem_cons.mpr ⟨⟨i_31, rfl, mk_callV (by decide) (by decide) cv_31 (Or.inl tw_498) rfl (by decide +kernel)⟩, ?_⟩
  refine List.forall_mem_cons.mpr ⟨sn_iload_n (k := 1) (by decide +kernel), ?_⟩
  refine List.forall_mem_cons.mpr ⟨sn_icmp_ne (off := 22) (by decide +kernel) (by decide), ?_⟩
  refine List.forall_mem_cons.mpr ⟨sn_aload_n (k := 0) (by decide +kernel), ?_⟩
  refine List.forall_mem_cons.mpr ⟨sn_getf (by decide +kernel) rfl tbX2 (by decide) tw_162, ?_⟩
  refine List.forall_mem_cons.mpr ⟨sn_iload_n (k := 3) (by decide +kernel), ?_⟩
  refine List.forall_mem_cons.mpr ⟨sn_iconst (k := 1) (by decide +kernel) (by decide), ?_⟩
  refine List.forall_mem_cons.mpr ⟨sn_iadd (by decide +kernel), ?_⟩
  refine List.forall_mem_cons.mpr ⟨⟨i_30, rfl, mk_callV (by decide) (by decide) cv_30 (Or.inl tw_494) rfl (by decide +kernel)⟩, ?_⟩
  refine List.forall_mem_cons.mpr ⟨sn_bipush (k := 18) (by decide +kernel) (by decide), ?_⟩
  refine List.forall_mem_cons.mpr ⟨sn_icmp_eq (off := 7) (by decide +kernel) (by decide), ?_⟩
  refine List.forall_mem_cons.mpr ⟨sn_iconst (k := 1) (by decide +kernel) (by decide), ?_⟩
  refine List.forall_mem_cons.mpr ⟨sn_goto (off := 4) (by decide +kernel) (by decide), ?_⟩
  refine List.forall_mem_cons.mpr ⟨sn_iconst (k := 0) (by decide +kernel) (by decide), ?_⟩
  refine List.forall_mem_cons.mpr ⟨sn_istore (k := 4) (by decide +kernel) (by decide), ?_⟩
  refine List.forall_mem_cons.mpr ⟨sn_iload_n (k := 2) (by decide +kernel), ?_⟩
  refine List.forall_mem_cons.mpr ⟨sn_if_eq (off := 25) (by decide +kernel) (by decide), ?_⟩
  refine List.forall_mem_cons.mpr ⟨sn_aload_n (k := 0) (by decide +kernel), ?_⟩
  refine List.forall_mem_cons.mpr ⟨sn_getf (by decide +kernel) rfl tbX2 (by decide) tw_162, ?_⟩
  refine List.forall_mem_cons.mpr ⟨sn_iconst (k := 0) (by decide +kernel) (by decide), ?_⟩
  refine List.forall_mem_cons.mpr ⟨⟨i_31, rfl, mk_callV (by decide) (by decide) cv_31 (Or.inl tw_498) rfl (by decide +kernel)⟩, ?_⟩
  refine List.forall_mem_cons.mpr ⟨sn_iload_n (k := 1) (by decide +kernel), ?_⟩
  refine List.forall_mem_cons.mpr ⟨sn_icmp_ne (off := 13) (by decide +kernel) (by decide), ?_⟩
  refine List.forall_mem_cons.mpr ⟨sn_aload_n (k := 0) (by decide +kernel), ?_⟩
  refine List.forall_mem_cons.mpr ⟨sn_getf (by decide +kernel) rfl tbX2 (by decide) tw_162, ?_⟩
  refine List.forall_mem_cons.mpr ⟨⟨i_32, rfl, mk_callV (by decide) (by decide) cv_32 (Or.inl tw_506) rfl (by decide +kernel)⟩, ?_⟩
  refine List.forall_mem_cons.mpr ⟨sn_goto (off := 58) (by decide +kernel) (by decide), ?_⟩
  refine List.forall_mem_cons.mpr ⟨sn_iload_n (k := 2) (by decide +kernel), ?_⟩
  refine List.forall_mem_cons.mpr ⟨sn_if_eq (off := 38) (by decide +kernel) (by decide), ?_⟩
  refine List.forall_mem_cons.mpr ⟨sn_iload (k := 4) (by decide +kernel), ?_⟩
  refine List.forall_mem_cons.mpr ⟨sn_if_eq (off := 33) (by decide +kernel) (by decide), ?_⟩
  refine List.forall_mem_cons.mpr ⟨sn_aload_n (k := 0) (by decide +kernel), ?_⟩
  refine List.forall_mem_cons.mpr ⟨sn_getf (by decide +kernel) rfl tbX2 (by decide) tw_162, ?_⟩
  refine List.forall_mem_cons.mpr ⟨sn_iconst (k := 2) (by decide +kernel) (by decide), ?_⟩
  refine List.forall_mem_cons.mpr ⟨sn_aload_n (k := 0) (by decide +kernel), ?_⟩
  refine List.forall_mem_cons.mpr ⟨sn_getf (by decide +kernel) rfl tbX2 (by decide) tw_162, ?_⟩
  refine List.forall_mem_cons.mpr ⟨sn_iconst (k := 1) (by decide +kernel) (by decide), ?_⟩
  refine List.forall_mem_cons.mpr ⟨⟨i_30, rfl, mk_callV (by decide) (by decide) cv_30 (Or.inl tw_494) rfl (by decide +kernel)⟩, ?_⟩
  refine List.forall_mem_cons.mpr ⟨⟨i_84, rfl, mk_callS (by decide) (by decide) cs_84 (Or.inl tw_545) (by decide +kernel)⟩, ?_⟩
  refine List.forall_mem_cons.mpr ⟨sn_aload_n (k := 0) (by decide +kernel), ?_⟩
  refine List.forall_mem_cons.mpr ⟨sn_getf (by decide +kernel) rfl tbX2 (by decide) tw_162, ?_⟩
  refine List.forall_mem_cons.mpr ⟨sn_iconst (k := 0) (by decide +kernel) (by decide), ?_⟩
  refine List.forall_mem_cons.mpr ⟨⟨i_31, rfl, mk_callV (by decide) (by decide) cv_31 (Or.inl tw_498) rfl (by decide +kernel)⟩, ?_⟩
  refine List.forall_mem_cons.mpr ⟨⟨i_33, rfl, mk_callV (by decide) (by decide) cv_33 (Or.inl tw_502) rfl (by decide +kernel)⟩, ?_⟩
  refine List.forall_mem_cons.mpr ⟨sn_goto (off := 19) (by decide +kernel) (by decide), ?_⟩
  refine List.forall_mem_cons.mpr ⟨sn_iload (k := 4) (by decide +kernel), ?_⟩
  refine List.forall_mem_cons.mpr ⟨sn_if_eq (off := 14) (by decide +kernel) (by decide), ?_⟩
  refine List.forall_mem_cons.mpr ⟨sn_aload_n (k := 0) (by decide +kernel), ?_⟩
  refine List.forall_mem_cons.mpr ⟨sn_getf (by decide +kernel) rfl tbX2 (by decide) tw_162, ?_⟩
  refine List.forall_mem_cons.mpr ⟨sn_iconst (k := 1) (by decide +kernel) (by decide), ?_⟩
  refine List.forall_mem_cons.mpr ⟨sn_bipush (k := 14) (by decide +kernel) (by decide), ?_⟩
  refine List.forall_mem_cons.mpr ⟨sn_iconst (k := 0) (by decide +kernel) (by decide), ?_⟩
  refine List.forall_mem_cons.mpr ⟨⟨i_33, rfl, mk_callV (by decide) (by decide) cv_33 (Or.inl tw_502) rfl (by decide +kernel)⟩, ?_⟩
  refine List.forall_mem_cons.mpr ⟨⟨rfl, (by decide +kernel : decode prog_4_method_15_code 158 = .ok (.return_, 1))⟩, ?_⟩
  exact fun _ h => absurd h List.not_mem_nil
set_option maxRecDepth 20000 in
theorem ok_86 : ∀ q ∈ mt_86, mx_ok mx_I0 i_86 q.1 q.2 := by
  refine List.forall_mem_cons.mpr ⟨sn_aload_n (k := 0) (by decide +kernel), ?_⟩
  refine List.forall_mem_cons.mpr ⟨sn_obj (by decide +kernel) tw_177 tw_90 tw_oi (by decide) (by decide), ?_⟩
  refine List.forall_mem_cons.mpr ⟨sn_aload_n (k := 0) (by decide +kernel), ?_⟩
  refine List.forall_mem_cons.mpr ⟨sn_new tyX6 (by decide +kernel) rfl tbX6 tyX6_ok tw_178 tw_99 tw_68 rfl (by decide), ?_⟩
  refine List.forall_mem_cons.mpr ⟨sn_dup (by decide +kernel), ?_⟩
  refine List.forall_mem_cons.mpr ⟨⟨i_1, rfl, mk_callI (by decide) (by decide) ci_1 (Or.inr ⟨_, tw_179⟩) (by decide +kernel)⟩, ?_⟩
  refine List.forall_mem_cons.mpr ⟨sn_putf tyX8 (by decide +kernel) rfl tbX8 tyX8_ok nmX8 (by decide) tw_180 (Or.inr ⟨rfl, rfl, rfl⟩) rfl, ?_⟩
  refine List.forall_mem_cons.mpr ⟨sn_aload_n (k := 0) (by decide +kernel), ?_⟩
  refine List.forall_mem_cons.mpr ⟨sn_new tyX6 (by decide +kernel) rfl tbX6 tyX6_ok tw_178 tw_99 tw_68 rfl (by decide), ?_⟩
  refine List.forall_mem_cons.mpr ⟨sn_dup (by decide +kernel), ?_⟩
  refine List.forall_mem_cons.mpr ⟨⟨i_1, rfl, mk_callI (by decide) (by decide) ci_1 (Or.inr ⟨_, tw_179⟩) (by decide +kernel)⟩, ?_⟩
  refine List.forall_mem_cons.mpr ⟨sn_putf tyX8 (by decide +kernel) rfl tbX8 tyX8_ok nmX8 (by decide) tw_181 (Or.inr ⟨rfl, rfl, rfl⟩) rfl, ?_⟩
  refine List.forall_mem_cons.mpr ⟨sn_aload_n (k := 0) (by decide +kernel), ?_⟩
  refine List.forall_mem_cons.mpr ⟨sn_new tyX6 (by decide +kernel) rfl tbX6 tyX6_ok tw_178 tw_99 tw_68 rfl (by decide), ?_⟩
  refine List.forall_mem_cons.mpr ⟨sn_dup (by decide +kernel), ?_⟩
  refine List.forall_mem_cons.mpr ⟨⟨i_1, rfl, mk_callI (by decide) (by decide) ci_1 (Or.inr ⟨_, tw_179⟩) (by decide +kernel)⟩, ?_⟩
  refine List.forall_mem_cons.mpr ⟨sn_putf tyX8 (by decide +kernel) rfl tbX8 tyX8_ok nmX8 (by decide) tw_182 (Or.inr ⟨rfl, rfl, rfl⟩) rfl, ?_⟩
  refine List.forall_mem_cons.mpr ⟨⟨rfl, (by decide +kernel : decode prog_10_method_1_code 37 = .ok (.return_, 1))⟩, ?_⟩
  exact fun _ h => absurd h List.not_mem_nil
set_option maxRecDepth 20000 in
theorem ok_87 : ∀ q ∈ mt_87, mx_ok mx_I0 i_87 q.1 q.2 := by
  refine List.forall_mem_cons.mpr ⟨sn_aload_n (k := 0) (by decide +kernel), ?_⟩
  refine List.forall_mem_cons.mpr ⟨sn_getf (by decide +kernel) rfl tbX8 (by decide) tw_180, ?_⟩
  refine List.forall_mem_cons.mpr ⟨sn_iconst (k := 0) (by decide +kernel) (by decide), ?_⟩
  refine List.forall_mem_cons.mpr ⟨⟨i_7, rfl, mk_callV (by decide) (by decide) cv_7 (Or.inl tw_558) rfl (by decide +kernel)⟩, ?_⟩
  refine List.forall_mem_cons.mpr ⟨sn_aload_n (k := 0) (by decide +kernel), ?_⟩
  refine List.forall_mem_cons.mpr ⟨sn_iconst (k := 0) (by decide +kernel) (by decide), ?_⟩
  refine List.forall_mem_cons.mpr ⟨⟨i_89, rfl, mk_callV (by decide) (by decide) cv_89 (Or.inl tw_559) rfl (by decide +kernel)⟩, ?_⟩
  refine List.forall_mem_cons.mpr ⟨sn_iconst (k := 0) (by decide +kernel) (by decide), ?_⟩
  refine List.forall_mem_cons.mpr ⟨sn_istore_n (k := 3) (by decide +kernel) (by decide), ?_⟩
  refine List.forall_mem_cons.mpr ⟨sn_iload_n (k := 3) (by decide +kernel), ?_⟩
  refine List.forall_mem_cons.mpr ⟨sn_aload_n (k := 1) (by decide +kernel), ?_⟩
  refine List.forall_mem_cons.mpr ⟨⟨i_25, rfl, mk_callV (by decide) (by decide) cv_25 (Or.inl tw_564) rfl (by decide +kernel)⟩, ?_⟩
  refine List.forall_mem_cons.mpr ⟨sn_icmp_ge (off := 486) (by decide +kernel) (by decide), ?_⟩
  refine List.forall_mem_cons.mpr ⟨sn_aload_n (k := 1) (by decide +kernel), ?_⟩
  refine List.forall_mem_cons.mpr ⟨sn_iload_n (k := 3) (by decide +kernel), ?_⟩
  refine List.forall_mem_cons.mpr ⟨⟨i_26, rfl, mk_callV (by decide) (by decide) cv_26 (Or.inl tw_565) rfl (by decide +kernel)⟩, ?_⟩
  refine List.forall_mem_cons.mpr ⟨sn_istore (k := 4) (by decide +kernel) (by decide), ?_⟩
  refine List.forall_mem_cons.mpr ⟨sn_aload_n (k := 1) (by decide +kernel), ?_⟩
  refine List.forall_mem_cons.mpr ⟨sn_iload_n (k := 3) (by decide +kernel), ?_⟩
  refine List.forall_mem_cons.mpr ⟨⟨i_27, rfl, mk_callV (by decide) (by decide) cv_27 (Or.inl tw_566) rfl (by decide +kernel)⟩, ?_⟩
  refine List.forall_mem_cons.mpr ⟨sn_istore (k := 5) (by decide +kernel) (by decide), ?_⟩
  refine List.forall_mem_cons.mpr ⟨sn_iload (k := 4) (by decide +kernel), ?_⟩
  refine List.forall_mem_cons.mpr ⟨sn_table (df := 461) (offs := #[97, 107, 117, 126, 135, 156, 165, 174, 199, 265, 274, 302, 313, 324, 356, 364, 374, 402, 417, 434, 454]) (len := 97) (by decide +kernel) (by decide) (by decide), ?_⟩
  refine List.forall_mem_cons.mpr ⟨sn_aload_n (k := 0) (by decide +kernel), ?_⟩
  refine List.forall_mem_cons.mpr ⟨sn_iconst (k := 2) (by decide +kernel) (by decide), ?_⟩
  refine List.forall_mem_cons.mpr ⟨sn_iload (k := 5) (by decide +kernel), ?_⟩
  refine List.forall_mem_cons.mpr ⟨⟨i_90, rfl, mk_callV (by decide) (by decide) cv_90 (Or.inl tw_567) rfl (by decide +kernel)⟩, ?_⟩
  refine List.forall_mem_cons.mpr ⟨sn_goto (off := 357) (by decide +kernel) (by decide), ?_⟩
  refine List.forall_mem_cons.mpr ⟨sn_aload_n (k := 0) (by decide +kernel), ?_⟩
  refine List.forall_mem_cons.mpr ⟨sn_iconst (k := 3) (by decide +kernel) (by decide), ?_⟩
  refine List.forall_mem_cons.mpr ⟨sn_iload (k := 5) (by decide +kernel), ?_⟩
  refine List.forall_mem_cons.mpr ⟨⟨i_90, rfl, mk_callV (by decide) (by decide) cv_90 (Or.inl tw_567) rfl (by decide +kernel)⟩, ?_⟩
  refine List.forall_mem_cons.mpr ⟨sn_goto (off := 347) (by decide +kernel) (by decide), ?_⟩
  refine List.forall_mem_cons.mpr ⟨sn_aload_n (k := 0) (by decide +kernel), ?_⟩
  refine List.forall_mem_cons.mpr ⟨sn_iload (k := 5) (by decide +kernel), ?_⟩
  refine List.forall_mem_cons.mpr ⟨⟨i_98, rfl, mk_callV (by decide) (by decide) cv_98 (Or.inl tw_572) rfl (by decide +kernel)⟩, ?_⟩
  refine List.forall_mem_cons.mpr ⟨sn_goto (off := 338) (by decide +kernel) (by decide), ?_⟩
  refine List.forall_mem_cons.mpr ⟨sn_aload_n (k := 0) (by decide +kernel), ?_⟩
  refine List.forall_mem_cons.mpr ⟨sn_bipush (k := 8) (by decide +kernel) (by decide), ?_⟩
  refine List.forall_mem_cons.mpr ⟨⟨i_96, rfl, mk_callV (by decide) (by decide) cv_96 (Or.inl tw_597) rfl (by decide +kernel)⟩, ?_⟩
  refine List.forall_mem_cons.mpr ⟨sn_goto (off := 329) (by decide +kernel) (by decide), ?_⟩
  refine List.forall_mem_cons.mpr ⟨sn_aload_n (k := 0) (by decide +kernel), ?_⟩
  refine List.forall_mem_cons.mpr ⟨sn_iconst (k := 0) (by decide +kernel) (by decide), ?_⟩
  refine List.forall_mem_cons.mpr ⟨⟨i_95, rfl, mk_callV (by decide) (by decide) cv_95 (Or.inl tw_601) rfl (by decide +kernel)⟩, ?_⟩
  refine List.forall_mem_cons.mpr ⟨sn_pop (by decide +kernel), ?_⟩
  refine List.forall_mem_cons.mpr ⟨sn_aload_n (k := 0) (by decide +kernel), ?_⟩
  refine List.forall_mem_cons.mpr ⟨sn_bipush (k := 9) (by decide +kernel) (by decide), ?_⟩
  refine List.forall_mem_cons.mpr ⟨sn_iconst (k := 0) (by decide +kernel) (by decide), ?_⟩
  refine List.forall_mem_cons.mpr ⟨⟨i_88, rfl, mk_callV (by decide) (by decide) cv_88 (Or.inl tw_582) rfl (by decide +kernel)⟩, ?_⟩
  refine List.forall_mem_cons.mpr ⟨sn_aload_n (k := 0) (by decide +kernel), ?_⟩
  refine List.forall_mem_cons.mpr ⟨sn_iconst (k := 2) (by decide +kernel) (by decide), ?_⟩
  refine List.forall_mem_cons.mpr ⟨⟨i_91, rfl, mk_callV (by decide) (by decide) cv_91 (Or.inl tw_593) rfl (by decide +kernel)⟩, ?_⟩
  refine List.forall_mem_cons.mpr ⟨sn_goto (off := 308) (by decide +kernel) (by decide), ?_⟩
  refine List.forall_mem_cons.mpr ⟨sn_aload_n (k := 0) (by decide +kernel), ?_⟩
  refine List.forall_mem_cons.mpr ⟨sn_bipush (k := 10) (by decide +kernel) (by decide), ?_⟩
  refine List.forall_mem_cons.mpr ⟨⟨i_96, rfl, mk_callV (by decide) (by decide) cv_96 (Or.inl tw_597) rfl (by decide +kernel)⟩, ?_⟩
  refine List.forall_mem_cons.mpr ⟨sn_goto (off := 299) (by decide +kernel) (by decide), ?_⟩
  refine List.forall_mem_cons.mpr ⟨sn_aload_n (k := 0) (by decide +kernel), ?_⟩
  refine List.forall_mem_cons.mpr ⟨sn_bipush (k := 11) (by decide +kernel) (by decide), ?_⟩
  refine List.forall_mem_cons.mpr ⟨⟨i_96, rfl, mk_callV (by decide) (by decide) cv_96 (Or.inl tw_597) rfl (by decide +kernel)⟩, ?_⟩
  refine List.forall_mem_cons.mpr ⟨sn_goto (off := 290) (by decide +kernel) (by decide), ?_⟩
  refine List.forall_mem_cons.mpr ⟨sn_aload_n (k := 0) (by decide +kernel), ?_⟩
  refine List.forall_mem_cons.mpr ⟨sn_iload (k := 5) (by decide +kernel), ?_⟩
  refine List.forall_mem_cons.mpr ⟨⟨i_11, rfl, mk_callS (by decide) (by decide) cs_11 (Or.inl tw_605) (by decide +kernel)⟩, ?_⟩
  refine List.forall_mem_cons.mpr ⟨⟨i_95, rfl, mk_callV (by decide) (by decide) cv_95 (Or.inl tw_601) rfl (by decide +kernel)⟩, ?_⟩
  refine List.forall_mem_cons.mpr ⟨sn_pop (by decide +kernel), ?_⟩
  refine List.forall_mem_cons.mpr ⟨sn_aload_n (k := 0) (by decide +kernel), ?_⟩
  refine List.forall_mem_cons.mpr ⟨sn_bipush (k := 12) (by decide +kernel) (by decide), ?_⟩
  refine List.forall_mem_cons.mpr ⟨sn_iload (k := 5) (by decide +kernel), ?_⟩
  refine List.forall_mem_cons.mpr ⟨⟨i_88, rfl, mk_callV (by decide) (by decide) cv_88 (Or.inl tw_582) rfl (by decide +kernel)⟩, ?_⟩
  refine List.forall_mem_cons.mpr ⟨sn_aload_n (k := 0) (by decide +kernel), ?_⟩
  refine List.forall_mem_cons.mpr ⟨⟨i_92, rfl, mk_callV (by decide) (by decide) cv_92 (Or.inl tw_608) rfl (by decide +kernel)⟩, ?_⟩
  refine List.forall_mem_cons.mpr ⟨sn_goto (off := 265) (by decide +kernel) (by decide), ?_⟩
  refine List.forall_mem_cons.mpr ⟨sn_aload_n (k := 1) (by decide +kernel), ?_⟩
  refine List.forall_mem_cons.mpr ⟨sn_iload_n (k := 3) (by decide +kernel), ?_⟩
  refine List.forall_mem_cons.mpr ⟨sn_iconst (k := 1) (by decide +kernel) (by decide), ?_⟩
  refine List.forall_mem_cons.mpr ⟨sn_iadd (by decide +kernel), ?_⟩
  refine List.forall_mem_cons.mpr ⟨⟨i_26, rfl, mk_callV (by decide) (by decide) cv_26 (Or.inl tw_565) rfl (by decide +kernel)⟩, ?_⟩
  refine List.forall_mem_cons.mpr ⟨⟨i_113, rfl, mk_callS (by decide) (by decide) cs_113 (Or.inr ⟨_, tw_612⟩) (by decide +kernel)⟩, ?_⟩
  refine List.forall_mem_cons.mpr ⟨sn_if_eq (off := 25) (by decide +kernel) (by decide), ?_⟩
  refine List.forall_mem_cons.mpr ⟨sn_iinc (d := 1) (by decide +kernel) (by decide) (by decide), ?_⟩
  refine List.forall_mem_cons.mpr ⟨sn_aload_n (k := 0) (by decide +kernel), ?_⟩
  refine List.forall_mem_cons.mpr ⟨sn_iload (k := 5) (by decide +kernel), ?_⟩
  refine List.forall_mem_cons.mpr ⟨sn_aload_n (k := 1) (by decide +kernel), ?_⟩
  refine List.forall_mem_cons.mpr ⟨sn_iload_n (k := 3) (by decide +kernel), ?_⟩
  refine List.forall_mem_cons.mpr ⟨⟨i_26, rfl, mk_callV (by decide) (by decide) cv_26 (Or.inl tw_565) rfl (by decide +kernel)⟩, ?_⟩
  refine List.forall_mem_cons.mpr ⟨sn_aload_n (k := 1) (by decide +kernel), ?_⟩
  refine List.forall_mem_cons.mpr ⟨sn_iload_n (k := 3) (by decide +kernel), ?_⟩
  refine List.forall_mem_cons.mpr ⟨⟨i_27, rfl, mk_callV (by decide) (by decide) cv_27 (Or.inl tw_566) rfl (by decide +kernel)⟩, ?_⟩
  refine List.forall_mem_cons.mpr ⟨⟨i_101, rfl, mk_callV (by decide) (by decide) cv_101 (Or.inl tw_613) rfl (by decide +kernel)⟩, ?_⟩
  refine List.forall_mem_cons.mpr ⟨sn_goto (off := 230) (by decide +kernel) (by decide), ?_⟩
  refine List.forall_mem_cons.mpr ⟨sn_aload_n (k := 0) (by decide +kernel), ?_⟩
  refine List.forall_mem_cons.mpr ⟨sn_bipush (k := 13) (by decide +kernel) (by decide), ?_⟩
  refine List.forall_mem_cons.mpr ⟨sn_aload_n (k := 0) (by decide +kernel), ?_⟩
  refine List.forall_mem_cons.mpr ⟨sn_iconst (k := 1) (by decide +kernel) (by decide), ?_⟩
  refine List.forall_mem_cons.mpr ⟨⟨i_95, rfl, mk_callV (by decide) (by decide) cv_95 (Or.inl tw_601) rfl (by decide +kernel)⟩, ?_⟩
  refine List.forall_mem_cons.mpr ⟨sn_if_eq (off := 11) (by decide +kernel) (by decide), ?_⟩
  refine List.forall_mem_cons.mpr ⟨sn_iload (k := 5) (by decide +kernel), ?_⟩
  refine List.forall_mem_cons.mpr ⟨⟨i_16, rfl, mk_callS (by decide) (by decide) cs_16 (Or.inl tw_617) (by decide +kernel)⟩, ?_⟩
  refine List.forall_mem_cons.mpr ⟨sn_goto (off := 5) (by decide +kernel) (by decide), ?_⟩
  refine List.forall_mem_cons.mpr ⟨sn_iload (k := 5) (by decide +kernel), ?_⟩
  refine List.forall_mem_cons.mpr ⟨⟨i_88, rfl, mk_callV (by decide) (by decide) cv_88 (Or.inl tw_582) rfl (by decide +kernel)⟩, ?_⟩
  refine List.forall_mem_cons.mpr ⟨sn_aload_n (k := 0) (by decide +kernel), ?_⟩
  refine List.forall_mem_cons.mpr ⟨⟨i_92, rfl, mk_callV (by decide) (by decide) cv_92 (Or.inl tw_608) rfl (by decide +kernel)⟩, ?_⟩
  refine List.forall_mem_cons.mpr ⟨sn_goto (off := 199) (by decide +kernel) (by decide), ?_⟩
  refine List.forall_mem_cons.mpr ⟨sn_aload_n (k := 0) (by decide +kernel), ?_⟩
  refine List.forall_mem_cons.mpr ⟨sn_iload (k := 5) (by decide +kernel), ?_⟩
  refine List.forall_mem_cons.mpr ⟨⟨i_97, rfl, mk_callV (by decide) (by decide) cv_97 (Or.inl tw_621) rfl (by decide +kernel)⟩, ?_⟩
  refine List.forall_mem_cons.mpr ⟨sn_goto (off := 190) (by decide +kernel) (by decide), ?_⟩
  refine List.forall_mem_cons.mpr ⟨sn_aload_n (k := 0) (by decide +kernel), ?_⟩
  refine List.forall_mem_cons.mpr ⟨sn_iconst (k := 0) (by decide +kernel) (by decide), ?_⟩
  refine List.forall_mem_cons.mpr ⟨sn_aload_n (k := 0) (by decide +kernel), ?_⟩
  refine List.forall_mem_cons.mpr ⟨sn_getf (by decide +kernel) rfl tbX8 (by decide) tw_181, ?_⟩
  refine List.forall_mem_cons.mpr ⟨⟨i_2, rfl, mk_callV (by decide) (by decide) cv_2 (Or.inl tw_576) rfl (by decide +kernel)⟩, ?_⟩
  refine List.forall_mem_cons.mpr ⟨⟨i_94, rfl, mk_callV (by decide) (by decide) cv_94 (Or.inl tw_578) rfl (by decide +kernel)⟩, ?_⟩
  refine List.forall_mem_cons.mpr ⟨sn_aload_n (k := 0) (by decide +kernel), ?_⟩
  refine List.forall_mem_cons.mpr ⟨sn_bipush (k := 20) (by decide +kernel) (by decide), ?_⟩
  refine List.forall_mem_cons.mpr ⟨sn_iload (k := 5) (by decide +kernel), ?_⟩
  refine List.forall_mem_cons.mpr ⟨⟨i_88, rfl, mk_callV (by decide) (by decide) cv_88 (Or.inl tw_582) rfl (by decide +kernel)⟩, ?_⟩
  refine List.forall_mem_cons.mpr ⟨sn_aload_n (k := 0) (by decide +kernel), ?_⟩
  refine List.forall_mem_cons.mpr ⟨sn_iconst (k := 0) (by decide +kernel) (by decide), ?_⟩
  refine List.forall_mem_cons.mpr ⟨⟨i_89, rfl, mk_callV (by decide) (by decide) cv_89 (Or.inl tw_559) rfl (by decide +kernel)⟩, ?_⟩
  refine List.forall_mem_cons.mpr ⟨sn_goto (off := 162) (by decide +kernel) (by decide), ?_⟩
  refine List.forall_mem_cons.mpr ⟨sn_aload_n (k := 0) (by decide +kernel), ?_⟩
  refine List.forall_mem_cons.mpr ⟨sn_bipush (k := 21) (by decide +kernel) (by decide), ?_⟩
  refine List.forall_mem_cons.mpr ⟨sn_iload (k := 5) (by decide +kernel), ?_⟩
  refine List.forall_mem_cons.mpr ⟨⟨i_100, rfl, mk_callV (by decide) (by decide) cv_100 (Or.inl tw_625) rfl (by decide +kernel)⟩, ?_⟩
  refine List.forall_mem_cons.mpr ⟨sn_goto (off := 151) (by decide +kernel) (by decide), ?_⟩
  refine List.forall_mem_cons.mpr ⟨sn_aload_n (k := 0) (by decide +kernel), ?_⟩
  refine List.forall_mem_cons.mpr ⟨sn_bipush (k := 22) (by decide +kernel) (by decide), ?_⟩
  refine List.forall_mem_cons.mpr ⟨sn_iload (k := 5) (by decide +kernel), ?_⟩
  refine List.forall_mem_cons.mpr ⟨⟨i_100, rfl, mk_callV (by decide) (by decide) cv_100 (Or.inl tw_625) rfl (by decide +kernel)⟩, ?_⟩
  refine List.forall_mem_cons.mpr ⟨sn_goto (off := 140) (by decide +kernel) (by decide), ?_⟩
  refine List.forall_mem_cons.mpr ⟨sn_aload_n (k := 0) (by decide +kernel), ?_⟩
  refine List.forall_mem_cons.mpr ⟨sn_iconst (k := 0) (by decide +kernel) (by decide), ?_⟩
  refine List.forall_mem_cons.mpr ⟨sn_aload_n (k := 0) (by decide +kernel), ?_⟩
  refine List.forall_mem_cons.mpr ⟨sn_getf (by decide +kernel) rfl tbX8 (by decide) tw_181, ?_⟩
  refine List.forall_mem_cons.mpr ⟨⟨i_2, rfl, mk_callV (by decide) (by decide) cv_2 (Or.inl tw_576) rfl (by decide +kernel)⟩, ?_⟩
  refine List.forall_mem_cons.mpr ⟨⟨i_94, rfl, mk_callV (by decide) (by decide) cv_94 (Or.inl tw_578) rfl (by decide +kernel)⟩, ?_⟩
  refine List.forall_mem_cons.mpr ⟨sn_aload_n (k := 0) (by decide +kernel), ?_⟩
  refine List.forall_mem_cons.mpr ⟨sn_iconst (k := 0) (by decide +kernel) (by decide), ?_⟩
  refine List.forall_mem_cons.mpr ⟨sn_iload (k := 5) (by decide +kernel), ?_⟩
  refine List.forall_mem_cons.mpr ⟨⟨i_88, rfl, mk_callV (by decide) (by decide) cv_88 (Or.inl tw_582) rfl (by decide +kernel)⟩, ?_⟩
  refine List.forall_mem_cons.mpr ⟨sn_aload_n (k := 0) (by decide +kernel), ?_⟩
  refine List.forall_mem_cons.mpr ⟨sn_aload_n (k := 2) (by decide +kernel), ?_⟩
  refine List.forall_mem_cons.mpr ⟨sn_iload (k := 5) (by decide +kernel), ?_⟩
  refine List.forall_mem_cons.mpr ⟨⟨i_58, rfl, mk_callV (by decide) (by decide) cv_58 (Or.inl tw_629) rfl (by decide +kernel)⟩, ?_⟩
  refine List.forall_mem_cons.mpr ⟨⟨i_89, rfl, mk_callV (by decide) (by decide) cv_89 (Or.inl tw_559) rfl (by decide +kernel)⟩, ?_⟩
  refine List.forall_mem_cons.mpr ⟨sn_goto (off := 108) (by decide +kernel) (by decide), ?_⟩
  refine List.forall_mem_cons.mpr ⟨sn_aload_n (k := 0) (by decide +kernel), ?_⟩
  refine List.forall_mem_cons.mpr ⟨sn_iconst (k := 1) (by decide +kernel) (by decide), ?_⟩
  refine List.forall_mem_cons.mpr ⟨⟨i_91, rfl, mk_callV (by decide) (by decide) cv_91 (Or.inl tw_593) rfl (by decide +kernel)⟩, ?_⟩
  refine List.forall_mem_cons.mpr ⟨sn_goto (off := 100) (by decide +kernel) (by decide), ?_⟩
  refine List.forall_mem_cons.mpr ⟨sn_aload_n (k := 0) (by decide +kernel), ?_⟩
  refine List.forall_mem_cons.mpr ⟨sn_bipush (k := 17) (by decide +kernel) (by decide), ?_⟩
  refine List.forall_mem_cons.mpr ⟨sn_iconst (k := 0) (by decide +kernel) (by decide), ?_⟩
  refine List.forall_mem_cons.mpr ⟨⟨i_88, rfl, mk_callV (by decide) (by decide) cv_88 (Or.inl tw_582) rfl (by decide +kernel)⟩, ?_⟩
  refine List.forall_mem_cons.mpr ⟨sn_goto (off := 90) (by decide +kernel) (by decide), ?_⟩
  refine List.forall_mem_cons.mpr ⟨sn_aload_n (k := 0) (by decide +kernel), ?_⟩
  refine List.forall_mem_cons.mpr ⟨sn_aload_n (k := 0) (by decide +kernel), ?_⟩
  refine List.forall_mem_cons.mpr ⟨sn_getf (by decide +kernel) rfl tbX8 (by decide) tw_181, ?_⟩
  refine List.forall_mem_cons.mpr ⟨⟨i_2, rfl, mk_callV (by decide) (by decide) cv_2 (Or.inl tw_576) rfl (by decide +kernel)⟩, ?_⟩
  refine List.forall_mem_cons.mpr ⟨sn_iconst (k := 1) (by decide +kernel) (by decide), ?_⟩
  refine List.forall_mem_cons.mpr ⟨sn_isub (by decide +kernel), ?_⟩
  refine List.forall_mem_cons.mpr ⟨⟨i_93, rfl, mk_callV (by decide) (by decide) cv_93 (Or.inl tw_588) rfl (by decide +kernel)⟩, ?_⟩
  refine List.forall_mem_cons.mpr ⟨sn_aload_n (k := 0) (by decide +kernel), ?_⟩
  refine List.forall_mem_cons.mpr ⟨sn_bipush (k := 18) (by decide +kernel) (by decide), ?_⟩
  refine List.forall_mem_cons.mpr ⟨sn_iconst (k := 0) (by decide +kernel) (by decide), ?_⟩
  refine List.forall_mem_cons.mpr ⟨⟨i_88, rfl, mk_callV (by decide) (by decide) cv_88 (Or.inl tw_582) rfl (by decide +kernel)⟩, ?_⟩
  refine List.forall_mem_cons.mpr ⟨sn_aload_n (k := 0) (by decide +kernel), ?_⟩
  refine List.forall_mem_cons.mpr ⟨sn_iconst (k := 0) (by decide +kernel) (by decide), ?_⟩
  refine List.forall_mem_cons.mpr ⟨⟨i_89, rfl, mk_callV (by decide) (by decide) cv_89 (Or.inl tw_559) rfl (by decide +kernel)⟩, ?_⟩
  refine List.forall_mem_cons.mpr ⟨sn_goto (off := 62) (by decide +kernel) (by decide), ?_⟩
  refine List.forall_mem_cons.mpr ⟨sn_aload_n (k := 0) (by decide +kernel), ?_⟩
  refine List.forall_mem_cons.mpr ⟨sn_bipush (k := 19) (by decide +kernel) (by decide), ?_⟩
  refine List.forall_mem_cons.mpr ⟨sn_iconst (k := 0) (by decide +kernel) (by decide), ?_⟩
  refine List.forall_mem_cons.mpr ⟨⟨i_88, rfl, mk_callV (by decide) (by decide) cv_88 (Or.inl tw_582) rfl (by decide +kernel)⟩, ?_⟩
  refine List.forall_mem_cons.mpr ⟨sn_aload_n (k := 0) (by decide +kernel), ?_⟩
  refine List.forall_mem_cons.mpr ⟨sn_iconst (k := 0) (by decide +kernel) (by decide), ?_⟩
  refine List.forall_mem_cons.mpr ⟨⟨i_89, rfl, mk_callV (by decide) (by decide) cv_89 (Or.inl tw_559) rfl (by decide +kernel)⟩, ?_⟩
  refine List.forall_mem_cons.mpr ⟨sn_goto (off := 47) (by decide +kernel) (by decide), ?_⟩
  refine List.forall_mem_cons.mpr ⟨sn_iinc (d := 1) (by decide +kernel) (by decide) (by decide), ?_⟩
  refine List.forall_mem_cons.mpr ⟨sn_aload_n (k := 0) (by decide +kernel), ?_⟩
  refine List.forall_mem_cons.mpr ⟨sn_iload (k := 5) (by decide +kernel), ?_⟩
  refine List.forall_mem_cons.mpr ⟨sn_aload_n (k := 1) (by decide +kernel), ?_⟩
  refine List.forall_mem_cons.mpr ⟨sn_iload_n (k := 3) (by decide +kernel), ?_⟩
  refine List.forall_mem_cons.mpr ⟨⟨i_27, rfl, mk_callV (by decide) (by decide) cv_27 (Or.inl tw_566) rfl (by decide +kernel)⟩, ?_⟩
  refine List.forall_mem_cons.mpr ⟨⟨i_102, rfl, mk_callV (by decide) (by decide) cv_102 (Or.inl tw_633) rfl (by decide +kernel)⟩, ?_⟩
  refine List.forall_mem_cons.mpr ⟨sn_goto (off := 30) (by decide +kernel) (by decide), ?_⟩
  refine List.forall_mem_cons.mpr ⟨sn_aload_n (k := 0) (by decide +kernel), ?_⟩
  refine List.forall_mem_cons.mpr ⟨sn_iconst (k := 0) (by decide +kernel) (by decide), ?_⟩
  refine List.forall_mem_cons.mpr ⟨⟨i_95, rfl, mk_callV (by decide) (by decide) cv_95 (Or.inl tw_601) rfl (by decide +kernel)⟩, ?_⟩
  refine List.forall_mem_cons.mpr ⟨sn_pop (by decide +kernel), ?_⟩
  refine List.forall_mem_cons.mpr ⟨sn_aload_n (k := 0) (by decide +kernel), ?_⟩
  refine List.forall_mem_cons.mpr ⟨sn_bipush (k := 15) (by decide +kernel) (by decide), ?_⟩
  refine List.forall_mem_cons.mpr ⟨sn_iconst (k := 0) (by decide +kernel) (by decide), ?_⟩
  refine List.forall_mem_cons.mpr ⟨⟨i_88, rfl, mk_callV (by decide) (by decide) cv_88 (Or.inl tw_582) rfl (by decide +kernel)⟩, ?_⟩
  refine List.forall_mem_cons.mpr ⟨sn_aload_n (k := 0) (by decide +kernel), ?_⟩
  refine List.forall_mem_cons.mpr ⟨⟨i_92, rfl, mk_callV (by decide) (by decide) cv_92 (Or.inl tw_608) rfl (by decide +kernel)⟩, ?_⟩
  refine List.forall_mem_cons.mpr ⟨sn_goto (off := 10) (by decide +kernel) (by decide), ?_⟩
  refine List.forall_mem_cons.mpr ⟨sn_aload_n (k := 0) (by decide +kernel), ?_⟩
  refine List.forall_mem_cons.mpr ⟨⟨i_99, rfl, mk_callV (by decide) (by decide) cv_99 (Or.inl tw_637) rfl (by decide +kernel)⟩, ?_⟩
  refine List.forall_mem_cons.mpr ⟨sn_goto (off := 3) (by decide +kernel) (by decide), ?_⟩
  refine List.forall_mem_cons.mpr ⟨sn_iinc (d := 1) (by decide +kernel) (by decide) (by decide), ?_⟩
  refine List.forall_mem_cons.mpr ⟨sn_goto (off := (-488)) (by decide +kernel) (by decide), ?_⟩
  refine List.forall_mem_cons.mpr ⟨sn_aload_n (k := 0) (by decide +kernel), ?_⟩
  refine List.forall_mem_cons.mpr ⟨sn_getf (by decide +kernel) rfl tbX8 (by decide) tw_180, ?_⟩
  refine List.forall_mem_cons.mpr ⟨⟨rfl, (by decide +kernel : decode prog_10_method_2_code 510 = .ok (.areturn, 1))⟩, ?_⟩
  exact fun _ h => absurd h List.not_mem_nil
set_option maxRecDepth 20000 in
theorem ok_88 : ∀ q ∈ mt_88, mx_ok mx_I0 i_88 q.1 q.2 := by
  refine List.forall_mem_cons.mpr ⟨sn_iload_n (k := 2) (by decide +kernel), ?_⟩
  refine List.forall_mem_cons.mpr ⟨sn_ldc (by decide +kernel) tw_586, ?_⟩
  refine List.forall_mem_cons.mpr ⟨sn_icmp_lt (off := 25) (by decide +kernel) (by decide), ?_⟩
  refine List.forall_mem_cons.mpr ⟨sn_iload_n (k := 2) (by decide +kernel), ?_⟩
  refine List.forall_mem_cons.mpr ⟨sn_ldc (by decide +kernel) tw_587, ?_⟩
  refine List.forall_mem_cons.mpr ⟨sn_icmp_ge (off := 19) (by decide +kernel) (by decide), ?_⟩
  refine List.forall_mem_cons.mpr ⟨sn_aload_n (k := 0) (by decide +kernel), ?_⟩
  refine List.forall_mem_cons.mpr ⟨sn_getf (by decide +kernel) rfl tbX8 (by decide) tw_180, ?_⟩
  refine List.forall_mem_cons.mpr ⟨sn_iload_n (k := 2) (by decide +kernel), ?_⟩
  refine List.forall_mem_cons.mpr ⟨sn_bipush (k := 8) (by decide +kernel) (by decide), ?_⟩
  refine List.forall_mem_cons.mpr ⟨sn_ishl (by decide +kernel), ?_⟩
  refine List.forall_mem_cons.mpr ⟨sn_iload_n (k := 1) (by decide +kernel), ?_⟩
  refine List.forall_mem_cons.mpr ⟨sn_ior (by decide +kernel), ?_⟩
  refine List.forall_mem_cons.mpr ⟨⟨i_5, rfl, mk_callV (by decide) (by decide) cv_5 (Or.inl tw_571) rfl (by decide +kernel)⟩, ?_⟩
  refine List.forall_mem_cons.mpr ⟨sn_goto (off := 23) (by decide +kernel) (by decide), ?_⟩
  refine List.forall_mem_cons.mpr ⟨sn_aload_n (k := 0) (by decide +kernel), ?_⟩
  refine List.forall_mem_cons.mpr ⟨sn_getf (by decide +kernel) rfl tbX8 (by decide) tw_180, ?_⟩
  refine List.forall_mem_cons.mpr ⟨sn_sipush (k := 128) (by decide +kernel) (by decide), ?_⟩
  refine List.forall_mem_cons.mpr ⟨sn_iload_n (k := 1) (by decide +kernel), ?_⟩
  refine List.forall_mem_cons.mpr ⟨sn_ior (by decide +kernel), ?_⟩
  refine List.forall_mem_cons.mpr ⟨⟨i_5, rfl, mk_callV (by decide) (by decide) cv_5 (Or.inl tw_571) rfl (by decide +kernel)⟩, ?_⟩
  refine List.forall_mem_cons.mpr ⟨sn_aload_n (k := 0) (by decide +kernel), ?_⟩
  refine List.forall_mem_cons.mpr ⟨sn_getf (by decide +kernel) rfl tbX8 (by decide) tw_180, ?_⟩
  refine List.forall_mem_cons.mpr ⟨sn_iload_n (k := 2) (by decide +kernel), ?_⟩
  refine List.forall_mem_cons.mpr ⟨⟨i_5, rfl, mk_callV (by decide) (by decide) cv_5 (Or.inl tw_571) rfl (by decide +kernel)⟩, ?_⟩
  refine List.forall_mem_cons.mpr ⟨⟨rfl, (by decide +kernel : decode prog_10_method_3_code 48 = .ok (.return_, 1))⟩, ?_⟩
  exact fun _ h => absurd h List.not_mem_nil
set_option maxRecDepth 20000 in
theorem ok_89 : ∀ q ∈ mt_89, mx_ok mx_I0 i_89 q.1 q.2 := by
  refine List.forall_mem_cons.mpr ⟨sn_aload_n (k := 0) (by decide +kernel), ?_⟩
  refine List.forall_mem_cons.mpr ⟨sn_getf (by decide +kernel) rfl tbX8 (by decide) tw_181, ?_⟩
  refine List.forall_mem_cons.mpr ⟨sn_iload_n (k := 1) (by decide +kernel), ?_⟩
  refine List.forall_mem_cons.mpr ⟨sn_iconst (k := 0) (by decide +kernel) (by decide), ?_⟩
  refine List.forall_mem_cons.mpr ⟨⟨i_8, rfl, mk_callV (by decide) (by decide) cv_8 (Or.inl tw_563) rfl (by decide +kernel)⟩, ?_⟩
  refine List.forall_mem_cons.mpr ⟨sn_aload_n (k := 0) (by decide +kernel), ?_⟩
  refine List.forall_mem_cons.mpr ⟨sn_getf (by decide +kernel) rfl tbX8 (by decide) tw_182, ?_⟩
  refine List.forall_mem_cons.mpr ⟨sn_iload_n (k := 1) (by decide +kernel), ?_⟩
  refine List.forall_mem_cons.mpr ⟨sn_iconst (k := 0) (by decide +kernel) (by decide), ?_⟩
  refine List.forall_mem_cons.mpr ⟨⟨i_8, rfl, mk_callV (by decide) (by decide) cv_8 (Or.inl tw_563) rfl (by decide +kernel)⟩, ?_⟩
  refine List.forall_mem_cons.mpr ⟨sn_aload_n (k := 0) (by decide +kernel), ?_⟩
  refine List.forall_mem_cons.mpr ⟨sn_iconst (k := (-1)) (by decide +kernel) (by decide), ?_⟩
  refine List.forall_mem_cons.mpr ⟨sn_putf tyX8 (by decide +kernel) rfl tbX8 tyX8_ok nmX8 (by decide) tw_183 (Or.inl rfl) rfl, ?_⟩
  refine List.forall_mem_cons.mpr ⟨sn_aload_n (k := 0) (by decide +kernel), ?_⟩
  refine List.forall_mem_cons.mpr ⟨sn_iconst (k := (-1)) (by decide +kernel) (by decide), ?_⟩
  refine List.forall_mem_cons.mpr ⟨sn_putf tyX8 (by decide +kernel) rfl tbX8 tyX8_ok nmX8 (by decide) tw_184 (Or.inl rfl) rfl, ?_⟩
  refine List.forall_mem_cons.mpr ⟨⟨rfl, (by decide +kernel : decode prog_10_method_4_code 28 = .ok (.return_, 1))⟩, ?_⟩
  exact fun _ h => absurd h List.not_mem_nil
set_option maxRecDepth 20000 in
theorem ok_90 : ∀ q ∈ mt_90, mx_ok mx_I0 i_90 q.1 q.2 := by
  refine List.forall_mem_cons.mpr ⟨sn_aload_n (k := 0) (by decide +kernel), ?_⟩
  refine List.forall_mem_cons.mpr ⟨sn_getf (by decide +kernel) rfl tbX8 (by decide) tw_181, ?_⟩
  refine List.forall_mem_cons.mpr ⟨sn_iload_n (k := 1) (by decide +kernel), ?_⟩
  refine List.forall_mem_cons.mpr ⟨⟨i_5, rfl, mk_callV (by decide) (by decide) cv_5 (Or.inl tw_571) rfl (by decide +kernel)⟩, ?_⟩
  refine List.forall_mem_cons.mpr ⟨sn_aload_n (k := 0) (by decide +kernel), ?_⟩
  refine List.forall_mem_cons.mpr ⟨sn_getf (by decide +kernel) rfl tbX8 (by decide) tw_182, ?_⟩
  refine List.forall_mem_cons.mpr ⟨sn_iload_n (k := 2) (by decide +kernel), ?_⟩
  refine List.forall_mem_cons.mpr ⟨⟨i_5, rfl, mk_callV (by decide) (by decide) cv_5 (Or.inl tw_571) rfl (by decide +kernel)⟩, ?_⟩
  refine List.forall_mem_cons.mpr ⟨⟨rfl, (by decide +kernel : decode prog_10_method_5_code 16 = .ok (.return_, 1))⟩, ?_⟩
  exact fun _ h => absurd h List.not_mem_nil
set_option maxRecDepth 20000 in
theorem ok_91 : ∀ q ∈ mt_91, mx_ok mx_I0 i_91 q.1 q.2 := by
  refine List.forall_mem_cons.mpr ⟨sn_aload_n (k := 0) (by decide +kernel), ?_⟩
  refine List.forall_mem_cons.mpr ⟨sn_getf (by decide +kernel) rfl tbX8 (by decide) tw_181, ?_⟩
  refine List.forall_mem_cons.mpr ⟨sn_aload_n (k := 0) (by decide +kernel), ?_⟩
  refine List.forall_mem_cons.mpr ⟨sn_getf (by decide +kernel) rfl tbX8 (by decide) tw_181, ?_⟩
  refine List.forall_mem_cons.mpr ⟨⟨i_2, rfl, mk_callV (by decide) (by decide) cv_2 (Or.inl tw_576) rfl (by decide +kernel)⟩, ?_⟩
  refine List.forall_mem_cons.mpr ⟨sn_iload_n (k := 1) (by decide +kernel), ?_⟩
  refine List.forall_mem_cons.mpr ⟨sn_isub (by decide +kernel), ?_⟩
  refine List.forall_mem_cons.mpr ⟨⟨i_7, rfl, mk_callV (by decide) (by decide) cv_7 (Or.inl tw_558) rfl (by decide +kernel)⟩, ?_⟩
  refine List.forall_mem_cons.mpr ⟨sn_aload_n (k := 0) (by decide +kernel), ?_⟩
  refine List.forall_mem_cons.mpr ⟨sn_getf (by decide +kernel) rfl tbX8 (by decide) tw_182, ?_⟩
  refine List.forall_mem_cons.mpr ⟨sn_aload_n (k := 0) (by decide +kernel), ?_⟩
  refine List.forall_mem_cons.mpr ⟨sn_getf (by decide +kernel) rfl tbX8 (by decide) tw_182, ?_⟩
  refine List.forall_mem_cons.mpr ⟨⟨i_2, rfl, mk_callV (by decide) (by decide) cv_2 (Or.inl tw_576) rfl (by decide +kernel)⟩, ?_⟩
  refine List.forall_mem_cons.mpr ⟨sn_iload_n (k := 1) (by decide +kernel), ?_⟩
  refine List.forall_mem_cons.mpr ⟨sn_isub (by decide +kernel), ?_⟩
  refine List.forall_mem_cons.mpr ⟨⟨i_7, rfl, mk_callV (by decide) (by decide) cv_7 (Or.inl tw_558) rfl (by decide +kernel)⟩, ?_⟩
  refine List.forall_mem_cons.mpr ⟨sn_aload_n (k := 0) (by decide +kernel), ?_⟩
  refine List.forall_mem_cons.mpr ⟨sn_aload_n (k := 0) (by decide +kernel), ?_⟩
  refine List.forall_mem_cons.mpr ⟨sn_getf (by decide +kernel) rfl tbX8 (by decide) tw_183, ?_⟩
  refine List.forall_mem_cons.mpr ⟨sn_aload_n (k := 0) (by decide +kernel), ?_⟩
  refine List.forall_mem_cons.mpr ⟨sn_getf (by decide +kernel) rfl tbX8 (by decide) tw_181, ?_⟩
  refine List.forall_mem_cons.mpr ⟨⟨i_2, rfl, mk_callV (by decide) (by decide) cv_2 (Or.inl tw_576) rfl (by decide +kernel)⟩, ?_⟩
  refine List.forall_mem_cons.mpr ⟨sn_icmp_ge (off := 10) (by decide +kernel) (by decide), ?_⟩
  refine List.forall_mem_cons.mpr ⟨sn_aload_n (k := 0) (by decide +kernel), ?_⟩
  refine List.forall_mem_cons.mpr ⟨sn_getf (by decide +kernel) rfl tbX8 (by decide) tw_183, ?_⟩
  refine List.forall_mem_cons.mpr ⟨sn_goto (off := 4) (by decide +kernel) (by decide), ?_⟩
  refine List.forall_mem_cons.mpr ⟨sn_iconst (k := (-1)) (by decide +kernel) (by decide), ?_⟩
  refine List.forall_mem_cons.mpr ⟨sn_putf tyX8 (by decide +kernel) rfl tbX8 tyX8_ok nmX8 (by decide) tw_183 (Or.inl rfl) rfl, ?_⟩
  refine List.forall_mem_cons.mpr ⟨sn_aload_n (k := 0) (by decide +kernel), ?_⟩
  refine List.forall_mem_cons.mpr ⟨sn_aload_n (k := 0) (by decide +kernel), ?_⟩
  refine List.forall_mem_cons.mpr ⟨sn_getf (by decide +kernel) rfl tbX8 (by decide) tw_184, ?_⟩
  refine List.forall_mem_cons.mpr ⟨sn_aload_n (k := 0) (by decide +kernel), ?_⟩
  refine List.forall_mem_cons.mpr ⟨sn_getf (by decide +kernel) rfl tbX8 (by decide) tw_181, ?_⟩
  refine List.forall_mem_cons.mpr ⟨⟨i_2, rfl, mk_callV (by decide) (by decide) cv_2 (Or.inl tw_576) rfl (by decide +kernel)⟩, ?_⟩
  refine List.forall_mem_cons.mpr ⟨sn_icmp_ge (off := 10) (by decide +kernel) (by decide), ?_⟩
  refine List.forall_mem_cons.mpr ⟨sn_aload_n (k := 0) (by decide +kernel), ?_⟩
  refine List.forall_mem_cons.mpr ⟨sn_getf (by decide +kernel) rfl tbX8 (by decide) tw_184, ?_⟩
  refine List.forall_mem_cons.mpr ⟨sn_goto (off := 4) (by decide +kernel) (by decide), ?_⟩
  refine List.forall_mem_cons.mpr ⟨sn_iconst (k := (-1)) (by decide +kernel) (by decide), ?_⟩
  refine List.forall_mem_cons.mpr ⟨sn_putf tyX8 (by decide +kernel) rfl tbX8 tyX8_ok nmX8 (by decide) tw_184 (Or.inl rfl) rfl, ?_⟩
  refine List.forall_mem_cons.mpr ⟨⟨rfl, (by decide +kernel : decode prog_10_method_6_code 84 = .ok (.return_, 1))⟩, ?_⟩
  exact fun _ h => absurd h List.not_mem_nil
set_option maxRecDepth 20000 in
theorem ok_92 : ∀ q ∈ mt_92, mx_ok mx_I0 i_92 q.1 q.2 := by
  refine List.forall_mem_cons.mpr ⟨sn_aload_n (k := 0) (by decide +kernel), ?_⟩
  refine List.forall_mem_cons.mpr ⟨sn_iconst (k := 2) (by decide +kernel) (by decide), ?_⟩
  refine List.forall_mem_cons.mpr ⟨⟨i_91, rfl, mk_callV (by decide) (by decide) cv_91 (Or.inl tw_593) rfl (by decide +kernel)⟩, ?_⟩
  refine List.forall_mem_cons.mpr ⟨sn_aload_n (k := 0) (by decide +kernel), ?_⟩
  refine List.forall_mem_cons.mpr ⟨sn_iconst (k := 1) (by decide +kernel) (by decide), ?_⟩
  refine List.forall_mem_cons.mpr ⟨sn_iconst (k := 0) (by decide +kernel) (by decide), ?_⟩
  refine List.forall_mem_cons.mpr ⟨⟨i_90, rfl, mk_callV (by decide) (by decide) cv_90 (Or.inl tw_567) rfl (by decide +kernel)⟩, ?_⟩
  refine List.forall_mem_cons.mpr ⟨sn_aload_n (k := 0) (by decide +kernel), ?_⟩
  refine List.forall_mem_cons.mpr ⟨sn_aload_n (k := 0) (by decide +kernel), ?_⟩
  refine List.forall_mem_cons.mpr ⟨sn_getf (by decide +kernel) rfl tbX8 (by decide) tw_181, ?_⟩
  refine List.forall_mem_cons.mpr ⟨⟨i_2, rfl, mk_callV (by decide) (by decide) cv_2 (Or.inl tw_576) rfl (by decide +kernel)⟩, ?_⟩
  refine List.forall_mem_cons.mpr ⟨sn_iconst (k := 1) (by decide +kernel) (by decide), ?_⟩
  refine List.forall_mem_cons.mpr ⟨sn_isub (by decide +kernel), ?_⟩
  refine List.forall_mem_cons.mpr ⟨sn_putf tyX8 (by decide +kernel) rfl tbX8 tyX8_ok nmX8 (by decide) tw_183 (Or.inl rfl) rfl, ?_⟩
  refine List.forall_mem_cons.mpr ⟨⟨rfl, (by decide +kernel : decode prog_10_method_7_code 24 = .ok (.return_, 1))⟩, ?_⟩
  exact fun _ h => absurd h List.not_mem_nil
set_option maxRecDepth 20000 in
theorem ok_93 : ∀ q ∈ mt_93, mx_ok mx_I0 i_93 q.1 q.2 := by
  refine List.forall_mem_cons.mpr ⟨sn_aload_n (k := 0) (by decide +kernel), ?_⟩
  refine List.forall_mem_cons.mpr ⟨sn_getf (by decide +kernel) rfl tbX8 (by decide) tw_183, ?_⟩
  refine List.forall_mem_cons.mpr ⟨sn_iload_n (k := 1) (by decide +kernel), ?_⟩
  refine List.forall_mem_cons.mpr ⟨sn_icmp_ne (off := 4) (by decide +kernel) (by decide), ?_⟩
  refine List.forall_mem_cons.mpr ⟨⟨rfl, (by decide +kernel : decode prog_10_method_8_code 8 = .ok (.return_, 1))⟩, ?_⟩
  refine List.forall_mem_cons.mpr ⟨sn_aload_n (k := 0) (by decide +kernel), ?_⟩
  refine List.forall_mem_cons.mpr ⟨sn_getf (by decide +kernel) rfl tbX8 (by decide) tw_184, ?_⟩
  refine List.forall_mem_cons.mpr ⟨sn_iload_n (k := 1) (by decide +kernel), ?_⟩
  refine List.forall_mem_cons.mpr ⟨sn_icmp_ne (off := 13) (by decide +kernel) (by decide), ?_⟩
  refine List.forall_mem_cons.mpr ⟨sn_aload_n (k := 0) (by decide +kernel), ?_⟩
  refine List.forall_mem_cons.mpr ⟨sn_bipush (k := 6) (by decide +kernel) (by decide), ?_⟩
  refine List.forall_mem_cons.mpr ⟨sn_iconst (k := 0) (by decide +kernel) (by decide), ?_⟩
  refine List.forall_mem_cons.mpr ⟨⟨i_88, rfl, mk_callV (by decide) (by decide) cv_88 (Or.inl tw_582) rfl (by decide +kernel)⟩, ?_⟩
  refine List.forall_mem_cons.mpr ⟨sn_goto (off := 85) (by decide +kernel) (by decide), ?_⟩
  refine List.forall_mem_cons.mpr ⟨sn_aload_n (k := 0) (by decide +kernel), ?_⟩
  refine List.forall_mem_cons.mpr ⟨sn_getf (by decide +kernel) rfl tbX8 (by decide) tw_184, ?_⟩
  refine List.forall_mem_cons.mpr ⟨sn_iconst (k := (-1)) (by decide +kernel) (by decide), ?_⟩
  refine List.forall_mem_cons.mpr ⟨sn_icmp_eq (off := 24) (by decide +kernel) (by decide), ?_⟩
  refine List.forall_mem_cons.mpr ⟨sn_aload_n (k := 0) (by decide +kernel), ?_⟩
  refine List.forall_mem_cons.mpr ⟨sn_iconst (k := 5) (by decide +kernel) (by decide), ?_⟩
  refine List.forall_mem_cons.mpr ⟨sn_aload_n (k := 0) (by decide +kernel), ?_⟩
  refine List.forall_mem_cons.mpr ⟨sn_getf (by decide +kernel) rfl tbX8 (by decide) tw_184, ?_⟩
  refine List.forall_mem_cons.mpr ⟨⟨i_88, rfl, mk_callV (by decide) (by decide) cv_88 (Or.inl tw_582) rfl (by decide +kernel)⟩, ?_⟩
  refine List.forall_mem_cons.mpr ⟨sn_aload_n (k := 0) (by decide +kernel), ?_⟩
  refine List.forall_mem_cons.mpr ⟨sn_getf (by decide +kernel) rfl tbX8 (by decide) tw_181, ?_⟩
  refine List.forall_mem_cons.mpr ⟨sn_aload_n (k := 0) (by decide +kernel), ?_⟩
  refine List.forall_mem_cons.mpr ⟨sn_getf (by decide +kernel) rfl tbX8 (by decide) tw_184, ?_⟩
  refine List.forall_mem_cons.mpr ⟨sn_iconst (k := 0) (by decide +kernel) (by decide), ?_⟩
  refine List.forall_mem_cons.mpr ⟨⟨i_4, rfl, mk_callV (by decide) (by decide) cv_4 (Or.inl tw_592) rfl (by decide +kernel)⟩, ?_⟩
  refine List.forall_mem_cons.mpr ⟨sn_aload_n (k := 0) (by decide +kernel), ?_⟩
  refine List.forall_mem_cons.mpr ⟨sn_getf (by decide +kernel) rfl tbX8 (by decide) tw_181, ?_⟩
  refine List.forall_mem_cons.mpr ⟨sn_iload_n (k := 1) (by decide +kernel), ?_⟩
  refine List.forall_mem_cons.mpr ⟨⟨i_3, rfl, mk_callV (by decide) (by decide) cv_3 (Or.inl tw_577) rfl (by decide +kernel)⟩, ?_⟩
  refine List.forall_mem_cons.mpr ⟨sn_istore_n (k := 2) (by decide +kernel) (by decide), ?_⟩
  refine List.forall_mem_cons.mpr ⟨sn_iload_n (k := 2) (by decide +kernel), ?_⟩
  refine List.forall_mem_cons.mpr ⟨sn_if_ne (off := 12) (by decide +kernel) (by decide), ?_⟩
  refine List.forall_mem_cons.mpr ⟨sn_aload_n (k := 0) (by decide +kernel), ?_⟩
  refine List.forall_mem_cons.mpr ⟨sn_iconst (k := 3) (by decide +kernel) (by decide), ?_⟩
  refine List.forall_mem_cons.mpr ⟨sn_iload_n (k := 1) (by decide +kernel), ?_⟩
  refine List.forall_mem_cons.mpr ⟨⟨i_88, rfl, mk_callV (by decide) (by decide) cv_88 (Or.inl tw_582) rfl (by decide +kernel)⟩, ?_⟩
  refine List.forall_mem_cons.mpr ⟨sn_goto (off := 25) (by decide +kernel) (by decide), ?_⟩
  refine List.forall_mem_cons.mpr ⟨sn_aload_n (k := 0) (by decide +kernel), ?_⟩
  refine List.forall_mem_cons.mpr ⟨sn_iload_n (k := 2) (by decide +kernel), ?_⟩
  refine List.forall_mem_cons.mpr ⟨sn_iconst (k := 2) (by decide +kernel) (by decide), ?_⟩
  refine List.forall_mem_cons.mpr ⟨sn_icmp_ne (off := 7) (by decide +kernel) (by decide), ?_⟩
  refine List.forall_mem_cons.mpr ⟨sn_iconst (k := 1) (by decide +kernel) (by decide), ?_⟩
  refine List.forall_mem_cons.mpr ⟨sn_goto (off := 4) (by decide +kernel) (by decide), ?_⟩
  refine List.forall_mem_cons.mpr ⟨sn_iconst (k := 2) (by decide +kernel) (by decide), ?_⟩
  refine List.forall_mem_cons.mpr ⟨sn_aload_n (k := 0) (by decide +kernel), ?_⟩
  refine List.forall_mem_cons.mpr ⟨sn_getf (by decide +kernel) rfl tbX8 (by decide) tw_182, ?_⟩
  refine List.forall_mem_cons.mpr ⟨sn_iload_n (k := 1) (by decide +kernel), ?_⟩
  refine List.forall_mem_cons.mpr ⟨⟨i_3, rfl, mk_callV (by decide) (by decide) cv_3 (Or.inl tw_577) rfl (by decide +kernel)⟩, ?_⟩
  refine List.forall_mem_cons.mpr ⟨⟨i_88, rfl, mk_callV (by decide) (by decide) cv_88 (Or.inl tw_582) rfl (by decide +kernel)⟩, ?_⟩
  refine List.forall_mem_cons.mpr ⟨sn_aload_n (k := 0) (by decide +kernel), ?_⟩
  refine List.forall_mem_cons.mpr ⟨sn_getf (by decide +kernel) rfl tbX8 (by decide) tw_181, ?_⟩
  refine List.forall_mem_cons.mpr ⟨sn_iload_n (k := 1) (by decide +kernel), ?_⟩
  refine List.forall_mem_cons.mpr ⟨sn_iconst (k := 1) (by decide +kernel) (by decide), ?_⟩
  refine List.forall_mem_cons.mpr ⟨⟨i_4, rfl, mk_callV (by decide) (by decide) cv_4 (Or.inl tw_592) rfl (by decide +kernel)⟩, ?_⟩
  refine List.forall_mem_cons.mpr ⟨sn_aload_n (k := 0) (by decide +kernel), ?_⟩
  refine List.forall_mem_cons.mpr ⟨sn_aload_n (k := 0) (by decide +kernel), ?_⟩
  refine List.forall_mem_cons.mpr ⟨sn_getf (by decide +kernel) rfl tbX8 (by decide) tw_183, ?_⟩
  refine List.forall_mem_cons.mpr ⟨sn_putf tyX8 (by decide +kernel) rfl tbX8 tyX8_ok nmX8 (by decide) tw_184 (Or.inl rfl) rfl, ?_⟩
  refine List.forall_mem_cons.mpr ⟨sn_aload_n (k := 0) (by decide +kernel), ?_⟩
  refine List.forall_mem_cons.mpr ⟨sn_iload_n (k := 1) (by decide +kernel), ?_⟩
  refine List.forall_mem_cons.mpr ⟨sn_putf tyX8 (by decide +kernel) rfl tbX8 tyX8_ok nmX8 (by decide) tw_183 (Or.inl rfl) rfl, ?_⟩
  refine List.forall_mem_cons.mpr ⟨⟨rfl, (by decide +kernel : decode prog_10_method_8_code 122 = .ok (.return_, 1))⟩, ?_⟩
  exact fun _ h => absurd h List.not_mem_nil
end
section
set_option maxRecDepth 20000 in
theorem ok_94 : ∀ q ∈ mt_94, mx_ok mx_I0 i_94 q.1 q.2 := by
  refine List.forall_mem_cons.mpr ⟨sn_iload_n (k := 1) (by decide +kernel), ?_⟩
  refine List.forall_mem_cons.mpr ⟨sn_istore_n (k := 3) (by decide +kernel) (by decide), ?_⟩
  refine List.forall_mem_cons.mpr ⟨sn_iload_n (k := 3) (by decide +kernel), ?_⟩
  refine List.forall_mem_cons.mpr ⟨sn_iload_n (k := 2) (by decide +kernel), ?_⟩
  refine List.forall_mem_cons.mpr ⟨sn_icmp_ge (off := 70) (by decide +kernel) (by decide), ?_⟩
  refine List.forall_mem_cons.mpr ⟨sn_aload_n (k := 0) (by decide +kernel), ?_⟩
  refine List.forall_mem_cons.mpr ⟨sn_getf (by decide +kernel) rfl tbX8 (by decide) tw_181, ?_⟩
  refine List.forall_mem_cons.mpr ⟨sn_iload_n (k := 3) (by decide +kernel), ?_⟩
  refine List.forall_mem_cons.mpr ⟨⟨i_3, rfl, mk_callV (by decide) (by decide) cv_3 (Or.inl tw_577) rfl (by decide +kernel)⟩, ?_⟩
  refine List.forall_mem_cons.mpr ⟨sn_if_ne (off := 6) (by decide +kernel) (by decide), ?_⟩
  refine List.forall_mem_cons.mpr ⟨sn_goto (off := 50) (by decide +kernel) (by decide), ?_⟩
  refine List.forall_mem_cons.mpr ⟨sn_aload_n (k := 0) (by decide +kernel), ?_⟩
  refine List.forall_mem_cons.mpr ⟨sn_getf (by decide +kernel) rfl tbX8 (by decide) tw_184, ?_⟩
  refine List.forall_mem_cons.mpr ⟨sn_iload_n (k := 3) (by decide +kernel), ?_⟩
  refine List.forall_mem_cons.mpr ⟨sn_icmp_ne (off := 17) (by decide +kernel) (by decide), ?_⟩
  refine List.forall_mem_cons.mpr ⟨sn_aload_n (k := 0) (by decide +kernel), ?_⟩
  refine List.forall_mem_cons.mpr ⟨sn_iconst (k := 5) (by decide +kernel) (by decide), ?_⟩
  refine List.forall_mem_cons.mpr ⟨sn_iload_n (k := 3) (by decide +kernel), ?_⟩
  refine List.forall_mem_cons.mpr ⟨⟨i_88, rfl, mk_callV (by decide) (by decide) cv_88 (Or.inl tw_582) rfl (by decide +kernel)⟩, ?_⟩
  refine List.forall_mem_cons.mpr ⟨sn_aload_n (k := 0) (by decide +kernel), ?_⟩
  refine List.forall_mem_cons.mpr ⟨sn_iconst (k := (-1)) (by decide +kernel) (by decide), ?_⟩
  refine List.forall_mem_cons.mpr ⟨sn_putf tyX8 (by decide +kernel) rfl tbX8 tyX8_ok nmX8 (by decide) tw_184 (Or.inl rfl) rfl, ?_⟩
  refine List.forall_mem_cons.mpr ⟨sn_goto (off := 19) (by decide +kernel) (by decide), ?_⟩
  refine List.forall_mem_cons.mpr ⟨sn_aload_n (k := 0) (by decide +kernel), ?_⟩
  refine List.forall_mem_cons.mpr ⟨sn_iload_n (k := 3) (by decide +kernel), ?_⟩
  refine List.forall_mem_cons.mpr ⟨⟨i_93, rfl, mk_callV (by decide) (by decide) cv_93 (Or.inl tw_588) rfl (by decide +kernel)⟩, ?_⟩
  refine List.forall_mem_cons.mpr ⟨sn_aload_n (k := 0) (by decide +kernel), ?_⟩
  refine List.forall_mem_cons.mpr ⟨sn_iconst (k := 4) (by decide +kernel) (by decide), ?_⟩
  refine List.forall_mem_cons.mpr ⟨sn_iload_n (k := 3) (by decide +kernel), ?_⟩
  refine List.forall_mem_cons.mpr ⟨⟨i_88, rfl, mk_callV (by decide) (by decide) cv_88 (Or.inl tw_582) rfl (by decide +kernel)⟩, ?_⟩
  refine List.forall_mem_cons.mpr ⟨sn_aload_n (k := 0) (by decide +kernel), ?_⟩
  refine List.forall_mem_cons.mpr ⟨sn_iconst (k := (-1)) (by decide +kernel) (by decide), ?_⟩
  refine List.forall_mem_cons.mpr ⟨sn_putf tyX8 (by decide +kernel) rfl tbX8 tyX8_ok nmX8 (by decide) tw_183 (Or.inl rfl) rfl, ?_⟩
  refine List.forall_mem_cons.mpr ⟨sn_aload_n (k := 0) (by decide +kernel), ?_⟩
  refine List.forall_mem_cons.mpr ⟨sn_getf (by decide +kernel) rfl tbX8 (by decide) tw_181, ?_⟩
  refine List.forall_mem_cons.mpr ⟨sn_iload_n (k := 3) (by decide +kernel), ?_⟩
  refine List.forall_mem_cons.mpr ⟨sn_iconst (k := 0) (by decide +kernel) (by decide), ?_⟩
  refine List.forall_mem_cons.mpr ⟨⟨i_4, rfl, mk_callV (by decide) (by decide) cv_4 (Or.inl tw_592) rfl (by decide +kernel)⟩, ?_⟩
  refine List.forall_mem_cons.mpr ⟨sn_iinc (d := 1) (by decide +kernel) (by decide) (by decide), ?_⟩
  refine List.forall_mem_cons.mpr ⟨sn_goto (off := (-69)) (by decide +kernel) (by decide), ?_⟩
  refine List.forall_mem_cons.mpr ⟨⟨rfl, (by decide +kernel : decode prog_10_method_9_code 74 = .ok (.return_, 1))⟩, ?_⟩
  exact fun _ h => absurd h List.not_mem_nil
set_option maxRecDepth 20000 in
theorem ok_95 : ∀ q ∈ mt_95, mx_ok mx_I0 i_95 q.1 q.2 := by
  refine List.forall_mem_cons.mpr ⟨sn_aload_n (k := 0) (by decide +kernel), ?_⟩
  refine List.forall_mem_cons.mpr ⟨sn_getf (by decide +kernel) rfl tbX8 (by decide) tw_181, ?_⟩
  refine List.forall_mem_cons.mpr ⟨⟨i_2, rfl, mk_callV (by decide) (by decide) cv_2 (Or.inl tw_576) rfl (by decide +kernel)⟩, ?_⟩
  refine List.forall_mem_cons.mpr ⟨sn_iconst (k := 1) (by decide +kernel) (by decide), ?_⟩
  refine List.forall_mem_cons.mpr ⟨sn_isub (by decide +kernel), ?_⟩
  refine List.forall_mem_cons.mpr ⟨sn_istore_n (k := 2) (by decide +kernel) (by decide), ?_⟩
  refine List.forall_mem_cons.mpr ⟨sn_iload_n (k := 2) (by decide +kernel), ?_⟩
  refine List.forall_mem_cons.mpr ⟨sn_iconst (k := 1) (by decide +kernel) (by decide), ?_⟩
  refine List.forall_mem_cons.mpr ⟨sn_isub (by decide +kernel), ?_⟩
  refine List.forall_mem_cons.mpr ⟨sn_istore_n (k := 3) (by decide +kernel) (by decide), ?_⟩
  refine List.forall_mem_cons.mpr ⟨sn_aload_n (k := 0) (by decide +kernel), ?_⟩
  refine List.forall_mem_cons.mpr ⟨sn_getf (by decide +kernel) rfl tbX8 (by decide) tw_183, ?_⟩
  refine List.forall_mem_cons.mpr ⟨sn_iload_n (k := 2) (by decide +kernel), ?_⟩
  refine List.forall_mem_cons.mpr ⟨sn_icmp_ne (off := 13) (by decide +kernel) (by decide), ?_⟩
  refine List.forall_mem_cons.mpr ⟨sn_aload_n (k := 0) (by decide +kernel), ?_⟩
  refine List.forall_mem_cons.mpr ⟨sn_getf (by decide +kernel) rfl tbX8 (by decide) tw_184, ?_⟩
  refine List.forall_mem_cons.mpr ⟨sn_iload_n (k := 3) (by decide +kernel), ?_⟩
  refine List.forall_mem_cons.mpr ⟨sn_icmp_ne (off := 5) (by decide +kernel) (by decide), ?_⟩
  refine List.forall_mem_cons.mpr ⟨sn_iconst (k := 0) (by decide +kernel) (by decide), ?_⟩
  refine List.forall_mem_cons.mpr ⟨⟨rfl, (by decide +kernel : decode prog_10_method_10_code 31 = .ok (.ireturn, 1))⟩, ?_⟩
  refine List.forall_mem_cons.mpr ⟨sn_aload_n (k := 0) (by decide +kernel), ?_⟩
  refine List.forall_mem_cons.mpr ⟨sn_getf (by decide +kernel) rfl tbX8 (by decide) tw_183, ?_⟩
  refine List.forall_mem_cons.mpr ⟨sn_iload_n (k := 2) (by decide +kernel), ?_⟩
  refine List.forall_mem_cons.mpr ⟨sn_icmp_eq (off := 23) (by decide +kernel) (by decide), ?_⟩
  refine List.forall_mem_cons.mpr ⟨sn_aload_n (k := 0) (by decide +kernel), ?_⟩
  refine List.forall_mem_cons.mpr ⟨sn_getf (by decide +kernel) rfl tbX8 (by decide) tw_184, ?_⟩
  refine List.forall_mem_cons.mpr ⟨sn_iload_n (k := 2) (by decide +kernel), ?_⟩
  refine List.forall_mem_cons.mpr ⟨sn_icmp_eq (off := 15) (by decide +kernel) (by decide), ?_⟩
  refine List.forall_mem_cons.mpr ⟨sn_aload_n (k := 0) (by decide +kernel), ?_⟩
  refine List.forall_mem_cons.mpr ⟨sn_iload_n (k := 3) (by decide +kernel), ?_⟩
  refine List.forall_mem_cons.mpr ⟨⟨i_93, rfl, mk_callV (by decide) (by decide) cv_93 (Or.inl tw_588) rfl (by decide +kernel)⟩, ?_⟩
  refine List.forall_mem_cons.mpr ⟨sn_aload_n (k := 0) (by decide +kernel), ?_⟩
  refine List.forall_mem_cons.mpr ⟨sn_iload_n (k := 2) (by decide +kernel), ?_⟩
  refine List.forall_mem_cons.mpr ⟨⟨i_93, rfl, mk_callV (by decide) (by decide) cv_93 (Or.inl tw_588) rfl (by decide +kernel)⟩, ?_⟩
  refine List.forall_mem_cons.mpr ⟨sn_iconst (k := 0) (by decide +kernel) (by decide), ?_⟩
  refine List.forall_mem_cons.mpr ⟨⟨rfl, (by decide +kernel : decode prog_10_method_10_code 59 = .ok (.ireturn, 1))⟩, ?_⟩
  refine List.forall_mem_cons.mpr ⟨sn_aload_n (k := 0) (by decide +kernel), ?_⟩
  refine List.forall_mem_cons.mpr ⟨sn_getf (by decide +kernel) rfl tbX8 (by decide) tw_183, ?_⟩
  refine List.forall_mem_cons.mpr ⟨sn_iload_n (k := 3) (by decide +kernel), ?_⟩
  refine List.forall_mem_cons.mpr ⟨sn_icmp_eq (off := 13) (by decide +kernel) (by decide), ?_⟩
  refine List.forall_mem_cons.mpr ⟨sn_aload_n (k := 0) (by decide +kernel), ?_⟩
  refine List.forall_mem_cons.mpr ⟨sn_iload_n (k := 2) (by decide +kernel), ?_⟩
  refine List.forall_mem_cons.mpr ⟨⟨i_93, rfl, mk_callV (by decide) (by decide) cv_93 (Or.inl tw_588) rfl (by decide +kernel)⟩, ?_⟩
  refine List.forall_mem_cons.mpr ⟨sn_aload_n (k := 0) (by decide +kernel), ?_⟩
  refine List.forall_mem_cons.mpr ⟨sn_iload_n (k := 3) (by decide +kernel), ?_⟩
  refine List.forall_mem_cons.mpr ⟨⟨i_93, rfl, mk_callV (by decide) (by decide) cv_93 (Or.inl tw_588) rfl (by decide +kernel)⟩, ?_⟩
  refine List.forall_mem_cons.mpr ⟨sn_iload_n (k := 1) (by decide +kernel), ?_⟩
  refine List.forall_mem_cons.mpr ⟨sn_if_ne (off := 8) (by decide +kernel) (by decide), ?_⟩
  refine List.forall_mem_cons.mpr ⟨sn_aload_n (k := 0) (by decide +kernel), ?_⟩
  refine List.forall_mem_cons.mpr ⟨sn_iload_n (k := 2) (by decide +kernel), ?_⟩
  refine List.forall_mem_cons.mpr ⟨⟨i_93, rfl, mk_callV (by decide) (by decide) cv_93 (Or.inl tw_588) rfl (by decide +kernel)⟩, ?_⟩
  refine List.forall_mem_cons.mpr ⟨sn_iload_n (k := 1) (by decide +kernel), ?_⟩
  refine List.forall_mem_cons.mpr ⟨⟨rfl, (by decide +kernel : decode prog_10_method_10_code 88 = .ok (.ireturn, 1))⟩, ?_⟩
  exact fun _ h => absurd h List.not_mem_nil
set_option maxRecDepth 20000 in
theorem ok_96 : ∀ q ∈ mt_96, mx_ok mx_I0 i_96 q.1 q.2 := by
  refine List.forall_mem_cons.mpr ⟨sn_aload_n (k := 0) (by decide +kernel), ?_⟩
  refine List.forall_mem_cons.mpr ⟨sn_aload_n (k := 0) (by decide +kernel), ?_⟩
  refine List.forall_mem_cons.mpr ⟨sn_getf (by decide +kernel) rfl tbX8 (by decide) tw_181, ?_⟩
  refine List.forall_mem_cons.mpr ⟨⟨i_2, rfl, mk_callV (by decide) (by decide) cv_2 (Or.inl tw_576) rfl (by decide +kernel)⟩, ?_⟩
  refine List.forall_mem_cons.mpr ⟨sn_iconst (k := 1) (by decide +kernel) (by decide), ?_⟩
  refine List.forall_mem_cons.mpr ⟨sn_isub (by decide +kernel), ?_⟩
  refine List.forall_mem_cons.mpr ⟨⟨i_93, rfl, mk_callV (by decide) (by decide) cv_93 (Or.inl tw_588) rfl (by decide +kernel)⟩, ?_⟩
  refine List.forall_mem_cons.mpr ⟨sn_aload_n (k := 0) (by decide +kernel), ?_⟩
  refine List.forall_mem_cons.mpr ⟨sn_iload_n (k := 1) (by decide +kernel), ?_⟩
  refine List.forall_mem_cons.mpr ⟨sn_iconst (k := 0) (by decide +kernel) (by decide), ?_⟩
  refine List.forall_mem_cons.mpr ⟨⟨i_88, rfl, mk_callV (by decide) (by decide) cv_88 (Or.inl tw_582) rfl (by decide +kernel)⟩, ?_⟩
  refine List.forall_mem_cons.mpr ⟨⟨rfl, (by decide +kernel : decode prog_10_method_11_code 19 = .ok (.return_, 1))⟩, ?_⟩
  exact fun _ h => absurd h List.not_mem_nil
set_option maxRecDepth 20000 in
theorem ok_97 : ∀ q ∈ mt_97, mx_ok mx_I0 i_97 q.1 q.2 := by
  refine List.forall_mem_cons.mpr ⟨sn_aload_n (k := 0) (by decide +kernel), ?_⟩
  refine List.forall_mem_cons.mpr ⟨sn_iconst (k := 1) (by decide +kernel) (by decide), ?_⟩
  refine List.forall_mem_cons.mpr ⟨⟨i_95, rfl, mk_callV (by decide) (by decide) cv_95 (Or.inl tw_601) rfl (by decide +kernel)⟩, ?_⟩
  refine List.forall_mem_cons.mpr ⟨sn_if_eq (off := 16) (by decide +kernel) (by decide), ?_⟩
  refine List.forall_mem_cons.mpr ⟨sn_aload_n (k := 0) (by decide +kernel), ?_⟩
  refine List.forall_mem_cons.mpr ⟨sn_bipush (k := 13) (by decide +kernel) (by decide), ?_⟩
  refine List.forall_mem_cons.mpr ⟨sn_iload_n (k := 1) (by decide +kernel), ?_⟩
  refine List.forall_mem_cons.mpr ⟨⟨i_16, rfl, mk_callS (by decide) (by decide) cs_16 (Or.inl tw_617) (by decide +kernel)⟩, ?_⟩
  refine List.forall_mem_cons.mpr ⟨⟨i_88, rfl, mk_callV (by decide) (by decide) cv_88 (Or.inl tw_582) rfl (by decide +kernel)⟩, ?_⟩
  refine List.forall_mem_cons.mpr ⟨sn_goto (off := 10) (by decide +kernel) (by decide), ?_⟩
  refine List.forall_mem_cons.mpr ⟨sn_aload_n (k := 0) (by decide +kernel), ?_⟩
  refine List.forall_mem_cons.mpr ⟨sn_bipush (k := 14) (by decide +kernel) (by decide), ?_⟩
  refine List.forall_mem_cons.mpr ⟨sn_iload_n (k := 1) (by decide +kernel), ?_⟩
  refine List.forall_mem_cons.mpr ⟨⟨i_88, rfl, mk_callV (by decide) (by decide) cv_88 (Or.inl tw_582) rfl (by decide +kernel)⟩, ?_⟩
  refine List.forall_mem_cons.mpr ⟨sn_aload_n (k := 0) (by decide +kernel), ?_⟩
  refine List.forall_mem_cons.mpr ⟨sn_aload_n (k := 0) (by decide +kernel), ?_⟩
  refine List.forall_mem_cons.mpr ⟨sn_getf (by decide +kernel) rfl tbX8 (by decide) tw_181, ?_⟩
  refine List.forall_mem_cons.mpr ⟨⟨i_2, rfl, mk_callV (by decide) (by decide) cv_2 (Or.inl tw_576) rfl (by decide +kernel)⟩, ?_⟩
  refine List.forall_mem_cons.mpr ⟨sn_iconst (k := 1) (by decide +kernel) (by decide), ?_⟩
  refine List.forall_mem_cons.mpr ⟨sn_isub (by decide +kernel), ?_⟩
  refine List.forall_mem_cons.mpr ⟨sn_putf tyX8 (by decide +kernel) rfl tbX8 tyX8_ok nmX8 (by decide) tw_183 (Or.inl rfl) rfl, ?_⟩
  refine List.forall_mem_cons.mpr ⟨sn_aload_n (k := 0) (by decide +kernel), ?_⟩
  refine List.forall_mem_cons.mpr ⟨sn_aload_n (k := 0) (by decide +kernel), ?_⟩
  refine List.forall_mem_cons.mpr ⟨sn_getf (by decide +kernel) rfl tbX8 (by decide) tw_183, ?_⟩
  refine List.forall_mem_cons.mpr ⟨sn_iconst (k := 1) (by decide +kernel) (by decide), ?_⟩
  refine List.forall_mem_cons.mpr ⟨sn_isub (by decide +kernel), ?_⟩
  refine List.forall_mem_cons.mpr ⟨sn_putf tyX8 (by decide +kernel) rfl tbX8 tyX8_ok nmX8 (by decide) tw_184 (Or.inl rfl) rfl, ?_⟩
  refine List.forall_mem_cons.mpr ⟨⟨rfl, (by decide +kernel : decode prog_10_method_12_code 51 = .ok (.return_, 1))⟩, ?_⟩
  exact fun _ h => absurd h List.not_mem_nil
set_option maxRecDepth 20000 in
theorem ok_98 : ∀ q ∈ mt_98, mx_ok mx_I0 i_98 q.1 q.2 := by
  refine List.forall_mem_cons.mpr ⟨sn_aload_n (k := 0) (by decide +kernel), ?_⟩
  refine List.forall_mem_cons.mpr ⟨sn_getf (by decide +kernel) rfl tbX8 (by decide) tw_181, ?_⟩
  refine List.forall_mem_cons.mpr ⟨⟨i_2, rfl, mk_callV (by decide) (by decide) cv_2 (Or.inl tw_576) rfl (by decide +kernel)⟩, ?_⟩
  refine List.forall_mem_cons.mpr ⟨sn_iconst (k := 1) (by decide +kernel) (by decide), ?_⟩
  refine List.forall_mem_cons.mpr ⟨sn_isub (by decide +kernel), ?_⟩
  refine List.forall_mem_cons.mpr ⟨sn_istore_n (k := 2) (by decide +kernel) (by decide), ?_⟩
  refine List.forall_mem_cons.mpr ⟨sn_iconst (k := 0) (by decide +kernel) (by decide), ?_⟩
  refine List.forall_mem_cons.mpr ⟨sn_istore_n (k := 3) (by decide +kernel) (by decide), ?_⟩
  refine List.forall_mem_cons.mpr ⟨sn_iload_n (k := 3) (by decide +kernel), ?_⟩
  refine List.forall_mem_cons.mpr ⟨sn_iload_n (k := 2) (by decide +kernel), ?_⟩
  refine List.forall_mem_cons.mpr ⟨sn_icmp_ge (off := 41) (by decide +kernel) (by decide), ?_⟩
  refine List.forall_mem_cons.mpr ⟨sn_aload_n (k := 0) (by decide +kernel), ?_⟩
  refine List.forall_mem_cons.mpr ⟨sn_getf (by decide +kernel) rfl tbX8 (by decide) tw_181, ?_⟩
  refine List.forall_mem_cons.mpr ⟨sn_iload_n (k := 3) (by decide +kernel), ?_⟩
  refine List.forall_mem_cons.mpr ⟨⟨i_3, rfl, mk_callV (by decide) (by decide) cv_3 (Or.inl tw_577) rfl (by decide +kernel)⟩, ?_⟩
  refine List.forall_mem_cons.mpr ⟨sn_iconst (k := 3) (by decide +kernel) (by decide), ?_⟩
  refine List.forall_mem_cons.mpr ⟨sn_icmp_ne (off := 23) (by decide +kernel) (by decide), ?_⟩
  refine List.forall_mem_cons.mpr ⟨sn_aload_n (k := 0) (by decide +kernel), ?_⟩
  refine List.forall_mem_cons.mpr ⟨sn_getf (by decide +kernel) rfl tbX8 (by decide) tw_182, ?_⟩
  refine List.forall_mem_cons.mpr ⟨sn_iload_n (k := 3) (by decide +kernel), ?_⟩
  refine List.forall_mem_cons.mpr ⟨⟨i_3, rfl, mk_callV (by decide) (by decide) cv_3 (Or.inl tw_577) rfl (by decide +kernel)⟩, ?_⟩
  refine List.forall_mem_cons.mpr ⟨sn_iload_n (k := 1) (by decide +kernel), ?_⟩
  refine List.forall_mem_cons.mpr ⟨sn_icmp_ne (off := 11) (by decide +kernel) (by decide), ?_⟩
  refine List.forall_mem_cons.mpr ⟨sn_aload_n (k := 0) (by decide +kernel), ?_⟩
  refine List.forall_mem_cons.mpr ⟨sn_iload_n (k := 3) (by decide +kernel), ?_⟩
  refine List.forall_mem_cons.mpr ⟨sn_iload_n (k := 3) (by decide +kernel), ?_⟩
  refine List.forall_mem_cons.mpr ⟨sn_iconst (k := 1) (by decide +kernel) (by decide), ?_⟩
  refine List.forall_mem_cons.mpr ⟨sn_iadd (by decide +kernel), ?_⟩
  refine List.forall_mem_cons.mpr ⟨⟨i_94, rfl, mk_callV (by decide) (by decide) cv_94 (Or.inl tw_578) rfl (by decide +kernel)⟩, ?_⟩
  refine List.forall_mem_cons.mpr ⟨sn_iinc (d := 1) (by decide +kernel) (by decide) (by decide), ?_⟩
  refine List.forall_mem_cons.mpr ⟨sn_goto (off := (-40)) (by decide +kernel) (by decide), ?_⟩
  refine List.forall_mem_cons.mpr ⟨sn_aload_n (k := 0) (by decide +kernel), ?_⟩
  refine List.forall_mem_cons.mpr ⟨sn_iload_n (k := 2) (by decide +kernel), ?_⟩
  refine List.forall_mem_cons.mpr ⟨⟨i_93, rfl, mk_callV (by decide) (by decide) cv_93 (Or.inl tw_588) rfl (by decide +kernel)⟩, ?_⟩
  refine List.forall_mem_cons.mpr ⟨sn_aload_n (k := 0) (by decide +kernel), ?_⟩
  refine List.forall_mem_cons.mpr ⟨sn_bipush (k := 7) (by decide +kernel) (by decide), ?_⟩
  refine List.forall_mem_cons.mpr ⟨sn_iload_n (k := 1) (by decide +kernel), ?_⟩
  refine List.forall_mem_cons.mpr ⟨⟨i_88, rfl, mk_callV (by decide) (by decide) cv_88 (Or.inl tw_582) rfl (by decide +kernel)⟩, ?_⟩
  refine List.forall_mem_cons.mpr ⟨sn_aload_n (k := 0) (by decide +kernel), ?_⟩
  refine List.forall_mem_cons.mpr ⟨sn_iconst (k := 1) (by decide +kernel) (by decide), ?_⟩
  refine List.forall_mem_cons.mpr ⟨⟨i_91, rfl, mk_callV (by decide) (by decide) cv_91 (Or.inl tw_593) rfl (by decide +kernel)⟩, ?_⟩
  refine List.forall_mem_cons.mpr ⟨⟨rfl, (by decide +kernel : decode prog_10_method_13_code 72 = .ok (.return_, 1))⟩, ?_⟩
  exact fun _ h => absurd h List.not_mem_nil
set_option maxRecDepth 20000 in
theorem ok_99 : ∀ q ∈ mt_99, mx_ok mx_I0 i_99 q.1 q.2 := by
  refine List.forall_mem_cons.mpr ⟨sn_aload_n (k := 0) (by decide +kernel), ?_⟩
  refine List.forall_mem_cons.mpr ⟨sn_getf (by decide +kernel) rfl tbX8 (by decide) tw_181, ?_⟩
  refine List.forall_mem_cons.mpr ⟨⟨i_2, rfl, mk_callV (by decide) (by decide) cv_2 (Or.inl tw_576) rfl (by decide +kernel)⟩, ?_⟩
  refine List.forall_mem_cons.mpr ⟨sn_iconst (k := 3) (by decide +kernel) (by decide), ?_⟩
  refine List.forall_mem_cons.mpr ⟨sn_isub (by decide +kernel), ?_⟩
  refine List.forall_mem_cons.mpr ⟨sn_istore_n (k := 1) (by decide +kernel) (by decide), ?_⟩
  refine List.forall_mem_cons.mpr ⟨sn_aload_n (k := 0) (by decide +kernel), ?_⟩
  refine List.forall_mem_cons.mpr ⟨sn_iload_n (k := 1) (by decide +kernel), ?_⟩
  refine List.forall_mem_cons.mpr ⟨sn_iload_n (k := 1) (by decide +kernel), ?_⟩
  refine List.forall_mem_cons.mpr ⟨sn_iconst (k := 1) (by decide +kernel) (by decide), ?_⟩
  refine List.forall_mem_cons.mpr ⟨sn_iadd (by decide +kernel), ?_⟩
  refine List.forall_mem_cons.mpr ⟨⟨i_94, rfl, mk_callV (by decide) (by decide) cv_94 (Or.inl tw_578) rfl (by decide +kernel)⟩, ?_⟩
  refine List.forall_mem_cons.mpr ⟨sn_aload_n (k := 0) (by decide +kernel), ?_⟩
  refine List.forall_mem_cons.mpr ⟨sn_iconst (k := 0) (by decide +kernel) (by decide), ?_⟩
  refine List.forall_mem_cons.mpr ⟨⟨i_95, rfl, mk_callV (by decide) (by decide) cv_95 (Or.inl tw_601) rfl (by decide +kernel)⟩, ?_⟩
  refine List.forall_mem_cons.mpr ⟨sn_pop (by decide +kernel), ?_⟩
  refine List.forall_mem_cons.mpr ⟨sn_aload_n (k := 0) (by decide +kernel), ?_⟩
  refine List.forall_mem_cons.mpr ⟨sn_bipush (k := 16) (by decide +kernel) (by decide), ?_⟩
  refine List.forall_mem_cons.mpr ⟨sn_iload_n (k := 1) (by decide +kernel), ?_⟩
  refine List.forall_mem_cons.mpr ⟨⟨i_88, rfl, mk_callV (by decide) (by decide) cv_88 (Or.inl tw_582) rfl (by decide +kernel)⟩, ?_⟩
  refine List.forall_mem_cons.mpr ⟨sn_aload_n (k := 0) (by decide +kernel), ?_⟩
  refine List.forall_mem_cons.mpr ⟨sn_iconst (k := 3) (by decide +kernel) (by decide), ?_⟩
  refine List.forall_mem_cons.mpr ⟨⟨i_91, rfl, mk_callV (by decide) (by decide) cv_91 (Or.inl tw_593) rfl (by decide +kernel)⟩, ?_⟩
  refine List.forall_mem_cons.mpr ⟨⟨rfl, (by decide +kernel : decode prog_10_method_14_code 36 = .ok (.return_, 1))⟩, ?_⟩
  exact fun _ h => absurd h List.not_mem_nil
set_option maxRecDepth 20000 in
theorem ok_100 : ∀ q ∈ mt_100, mx_ok mx_I0 i_100 q.1 q.2 := by
  refine List.forall_mem_cons.mpr ⟨sn_aload_n (k := 0) (by decide +kernel), ?_⟩
  refine List.forall_mem_cons.mpr ⟨sn_getf (by decide +kernel) rfl tbX8 (by decide) tw_181, ?_⟩
  refine List.forall_mem_cons.mpr ⟨⟨i_2, rfl, mk_callV (by decide) (by decide) cv_2 (Or.inl tw_576) rfl (by decide +kernel)⟩, ?_⟩
  refine List.forall_mem_cons.mpr ⟨sn_iconst (k := 1) (by decide +kernel) (by decide), ?_⟩
  refine List.forall_mem_cons.mpr ⟨sn_isub (by decide +kernel), ?_⟩
  refine List.forall_mem_cons.mpr ⟨sn_istore_n (k := 3) (by decide +kernel) (by decide), ?_⟩
  refine List.forall_mem_cons.mpr ⟨sn_aload_n (k := 0) (by decide +kernel), ?_⟩
  refine List.forall_mem_cons.mpr ⟨sn_iconst (k := 0) (by decide +kernel) (by decide), ?_⟩
  refine List.forall_mem_cons.mpr ⟨sn_iload_n (k := 3) (by decide +kernel), ?_⟩
  refine List.forall_mem_cons.mpr ⟨⟨i_94, rfl, mk_callV (by decide) (by decide) cv_94 (Or.inl tw_578) rfl (by decide +kernel)⟩, ?_⟩
  refine List.forall_mem_cons.mpr ⟨sn_aload_n (k := 0) (by decide +kernel), ?_⟩
  refine List.forall_mem_cons.mpr ⟨sn_iload_n (k := 3) (by decide +kernel), ?_⟩
  refine List.forall_mem_cons.mpr ⟨⟨i_93, rfl, mk_callV (by decide) (by decide) cv_93 (Or.inl tw_588) rfl (by decide +kernel)⟩, ?_⟩
  refine List.forall_mem_cons.mpr ⟨sn_aload_n (k := 0) (by decide +kernel), ?_⟩
  refine List.forall_mem_cons.mpr ⟨sn_iload_n (k := 1) (by decide +kernel), ?_⟩
  refine List.forall_mem_cons.mpr ⟨sn_iload_n (k := 2) (by decide +kernel), ?_⟩
  refine List.forall_mem_cons.mpr ⟨⟨i_88, rfl, mk_callV (by decide) (by decide) cv_88 (Or.inl tw_582) rfl (by decide +kernel)⟩, ?_⟩
  refine List.forall_mem_cons.mpr ⟨sn_aload_n (k := 0) (by decide +kernel), ?_⟩
  refine List.forall_mem_cons.mpr ⟨sn_iconst (k := 1) (by decide +kernel) (by decide), ?_⟩
  refine List.forall_mem_cons.mpr ⟨⟨i_91, rfl, mk_callV (by decide) (by decide) cv_91 (Or.inl tw_593) rfl (by decide +kernel)⟩, ?_⟩
  refine List.forall_mem_cons.mpr ⟨⟨rfl, (by decide +kernel : decode prog_10_method_15_code 32 = .ok (.return_, 1))⟩, ?_⟩
  exact fun _ h => absurd h List.not_mem_nil
set_option maxRecDepth 20000 in
theorem ok_101 : ∀ q ∈ mt_101, mx_ok mx_I0 i_101 q.1 q.2 := by
  refine List.forall_mem_cons.mpr ⟨sn_aload_n (k := 0) (by decide +kernel), ?_⟩
  refine List.forall_mem_cons.mpr ⟨sn_iconst (k := 0) (by decide +kernel) (by decide), ?_⟩
  refine List.forall_mem_cons.mpr ⟨sn_aload_n (k := 0) (by decide +kernel), ?_⟩
  refine List.forall_mem_cons.mpr ⟨sn_getf (by decide +kernel) rfl tbX8 (by decide) tw_181, ?_⟩
  refine List.forall_mem_cons.mpr ⟨⟨i_2, rfl, mk_callV (by decide) (by decide) cv_2 (Or.inl tw_576) rfl (by decide +kernel)⟩, ?_⟩
  refine List.forall_mem_cons.mpr ⟨sn_iconst (k := 2) (by decide +kernel) (by decide), ?_⟩
  refine List.forall_mem_cons.mpr ⟨sn_isub (by decide +kernel), ?_⟩
  refine List.forall_mem_cons.mpr ⟨⟨i_94, rfl, mk_callV (by decide) (by decide) cv_94 (Or.inl tw_578) rfl (by decide +kernel)⟩, ?_⟩
  refine List.forall_mem_cons.mpr ⟨sn_aload_n (k := 0) (by decide +kernel), ?_⟩
  refine List.forall_mem_cons.mpr ⟨sn_iconst (k := 1) (by decide +kernel) (by decide), ?_⟩
  refine List.forall_mem_cons.mpr ⟨⟨i_95, rfl, mk_callV (by decide) (by decide) cv_95 (Or.inl tw_601) rfl (by decide +kernel)⟩, ?_⟩
  refine List.forall_mem_cons.mpr ⟨sn_if_eq (off := 10) (by decide +kernel) (by decide), ?_⟩
  refine List.forall_mem_cons.mpr ⟨sn_iload_n (k := 1) (by decide +kernel), ?_⟩
  refine List.forall_mem_cons.mpr ⟨⟨i_16, rfl, mk_callS (by decide) (by decide) cs_16 (Or.inl tw_617) (by decide +kernel)⟩, ?_⟩
  refine List.forall_mem_cons.mpr ⟨sn_goto (off := 4) (by decide +kernel) (by decide), ?_⟩
  refine List.forall_mem_cons.mpr ⟨sn_iload_n (k := 1) (by decide +kernel), ?_⟩
  refine List.forall_mem_cons.mpr ⟨sn_istore (k := 4) (by decide +kernel) (by decide), ?_⟩
  refine List.forall_mem_cons.mpr ⟨sn_aload_n (k := 0) (by decide +kernel), ?_⟩
  refine List.forall_mem_cons.mpr ⟨sn_bipush (k := 23) (by decide +kernel) (by decide), ?_⟩
  refine List.forall_mem_cons.mpr ⟨sn_iload_n (k := 2) (by decide +kernel), ?_⟩
  refine List.forall_mem_cons.mpr ⟨sn_bipush (k := 11) (by decide +kernel) (by decide), ?_⟩
  refine List.forall_mem_cons.mpr ⟨sn_icmp_ne (off := 11) (by decide +kernel) (by decide), ?_⟩
  refine List.forall_mem_cons.mpr ⟨sn_iload (k := 4) (by decide +kernel), ?_⟩
  refine List.forall_mem_cons.mpr ⟨⟨i_15, rfl, mk_callS (by decide) (by decide) cs_15 (Or.inl tw_620) (by decide +kernel)⟩, ?_⟩
  refine List.forall_mem_cons.mpr ⟨sn_goto (off := 5) (by decide +kernel) (by decide), ?_⟩
  refine List.forall_mem_cons.mpr ⟨sn_iload (k := 4) (by decide +kernel), ?_⟩
  refine List.forall_mem_cons.mpr ⟨sn_iadd (by decide +kernel), ?_⟩
  refine List.forall_mem_cons.mpr ⟨sn_iload_n (k := 3) (by decide +kernel), ?_⟩
  refine List.forall_mem_cons.mpr ⟨⟨i_88, rfl, mk_callV (by decide) (by decide) cv_88 (Or.inl tw_582) rfl (by decide +kernel)⟩, ?_⟩
  refine List.forall_mem_cons.mpr ⟨sn_aload_n (k := 0) (by decide +kernel), ?_⟩
  refine List.forall_mem_cons.mpr ⟨sn_iconst (k := 2) (by decide +kernel) (by decide), ?_⟩
  refine List.forall_mem_cons.mpr ⟨⟨i_91, rfl, mk_callV (by decide) (by decide) cv_91 (Or.inl tw_593) rfl (by decide +kernel)⟩, ?_⟩
  refine List.forall_mem_cons.mpr ⟨⟨rfl, (by decide +kernel : decode prog_10_method_16_code 61 = .ok (.return_, 1))⟩, ?_⟩
  exact fun _ h => absurd h List.not_mem_nil
set_option maxRecDepth 20000 in
theorem ok_102 : ∀ q ∈ mt_102, mx_ok mx_I0 i_102 q.1 q.2 := by
  refine List.forall_mem_cons.mpr ⟨sn_aload_n (k := 0) (by decide +kernel), ?_⟩
  refine List.forall_mem_cons.mpr ⟨sn_getf (by decide +kernel) rfl tbX8 (by decide) tw_181, ?_⟩
  refine List.forall_mem_cons.mpr ⟨⟨i_2, rfl, mk_callV (by decide) (by decide) cv_2 (Or.inl tw_576) rfl (by decide +kernel)⟩, ?_⟩
  refine List.forall_mem_cons.mpr ⟨sn_iconst (k := 1) (by decide +kernel) (by decide), ?_⟩
  refine List.forall_mem_cons.mpr ⟨sn_isub (by decide +kernel), ?_⟩
  refine List.forall_mem_cons.mpr ⟨sn_istore_n (k := 3) (by decide +kernel) (by decide), ?_⟩
  refine List.forall_mem_cons.mpr ⟨sn_aload_n (k := 0) (by decide +kernel), ?_⟩
  refine List.forall_mem_cons.mpr ⟨sn_iconst (k := 0) (by decide +kernel) (by decide), ?_⟩
  refine List.forall_mem_cons.mpr ⟨sn_iload_n (k := 3) (by decide +kernel), ?_⟩
  refine List.forall_mem_cons.mpr ⟨⟨i_94, rfl, mk_callV (by decide) (by decide) cv_94 (Or.inl tw_578) rfl (by decide +kernel)⟩, ?_⟩
  refine List.forall_mem_cons.mpr ⟨sn_aload_n (k := 0) (by decide +kernel), ?_⟩
  refine List.forall_mem_cons.mpr ⟨sn_iload_n (k := 3) (by decide +kernel), ?_⟩
  refine List.forall_mem_cons.mpr ⟨⟨i_93, rfl, mk_callV (by decide) (by decide) cv_93 (Or.inl tw_588) rfl (by decide +kernel)⟩, ?_⟩
  refine List.forall_mem_cons.mpr ⟨sn_aload_n (k := 0) (by decide +kernel), ?_⟩
  refine List.forall_mem_cons.mpr ⟨sn_iconst (k := 1) (by decide +kernel) (by decide), ?_⟩
  refine List.forall_mem_cons.mpr ⟨sn_iload_n (k := 1) (by decide +kernel), ?_⟩
  refine List.forall_mem_cons.mpr ⟨⟨i_88, rfl, mk_callV (by decide) (by decide) cv_88 (Or.inl tw_582) rfl (by decide +kernel)⟩, ?_⟩
  refine List.forall_mem_cons.mpr ⟨sn_aload_n (k := 0) (by decide +kernel), ?_⟩
  refine List.forall_mem_cons.mpr ⟨sn_iload_n (k := 3) (by decide +kernel), ?_⟩
  refine List.forall_mem_cons.mpr ⟨sn_putf tyX8 (by decide +kernel) rfl tbX8 tyX8_ok nmX8 (by decide) tw_184 (Or.inl rfl) rfl, ?_⟩
  refine List.forall_mem_cons.mpr ⟨sn_aload_n (k := 0) (by decide +kernel), ?_⟩
  refine List.forall_mem_cons.mpr ⟨sn_iconst (k := (-1)) (by decide +kernel) (by decide), ?_⟩
  refine List.forall_mem_cons.mpr ⟨sn_putf tyX8 (by decide +kernel) rfl tbX8 tyX8_ok nmX8 (by decide) tw_183 (Or.inl rfl) rfl, ?_⟩
  refine List.forall_mem_cons.mpr ⟨sn_aload_n (k := 0) (by decide +kernel), ?_⟩
  refine List.forall_mem_cons.mpr ⟨sn_bipush (k := 23) (by decide +kernel) (by decide), ?_⟩
  refine List.forall_mem_cons.mpr ⟨sn_iload_n (k := 2) (by decide +kernel), ?_⟩
  refine List.forall_mem_cons.mpr ⟨⟨i_88, rfl, mk_callV (by decide) (by decide) cv_88 (Or.inl tw_582) rfl (by decide +kernel)⟩, ?_⟩
  refine List.forall_mem_cons.mpr ⟨⟨rfl, (by decide +kernel : decode prog_10_method_17_code 44 = .ok (.return_, 1))⟩, ?_⟩
  exact fun _ h => absurd h List.not_mem_nil
set_option maxRecDepth 20000 in
theorem ok_103 : ∀ q ∈ mt_103, mx_ok mx_I0 i_103 q.1 q.2 := by
  refine List.forall_mem_cons.mpr ⟨sn_aload_n (k := 0) (by decide +kernel), ?_⟩
  refine List.forall_mem_cons.mpr ⟨sn_obj (by decide +kernel) tw_89 tw_90 tw_oi (by decide) (by decide), ?_⟩
  refine List.forall_mem_cons.mpr ⟨sn_aload_n (k := 0) (by decide +kernel), ?_⟩
  refine List.forall_mem_cons.mpr ⟨sn_new tyX1 (by decide +kernel) rfl tbX1 tyX1_ok tw_92 tw_93 tw_67 rfl (by decide), ?_⟩
  refine List.forall_mem_cons.mpr ⟨sn_dup (by decide +kernel), ?_⟩
  refine List.forall_mem_cons.mpr ⟨⟨i_24, rfl, mk_callI (by decide) (by decide) ci_24 (Or.inr ⟨_, tw_94⟩) (by decide +kernel)⟩, ?_⟩
  refine List.forall_mem_cons.mpr ⟨sn_putf tyX9 (by decide +kernel) rfl tbX9 tyX9_ok nmX9 (by decide) tw_286 (Or.inr ⟨rfl, rfl, rfl⟩) rfl, ?_⟩
  refine List.forall_mem_cons.mpr ⟨sn_aload_n (k := 0) (by decide +kernel), ?_⟩
  refine List.forall_mem_cons.mpr ⟨sn_new tyX3 (by decide +kernel) rfl tbX3 tyX3_ok tw_119 tw_120 tw_69 rfl (by decide), ?_⟩
  refine List.forall_mem_cons.mpr ⟨sn_dup (by decide +kernel), ?_⟩
  refine List.forall_mem_cons.mpr ⟨sn_aload_n (k := 0) (by decide +kernel), ?_⟩
  refine List.forall_mem_cons.mpr ⟨sn_getf (by decide +kernel) rfl tbX9 (by decide) tw_286, ?_⟩
  refine List.forall_mem_cons.mpr ⟨⟨i_54, rfl, mk_callI (by decide) (by decide) ci_54 (Or.inl tw_121) (by decide +kernel)⟩, ?_⟩
  refine List.forall_mem_cons.mpr ⟨sn_putf tyX9 (by decide +kernel) rfl tbX9 tyX9_ok nmX9 (by decide) tw_287 (Or.inr ⟨rfl, rfl, rfl⟩) rfl, ?_⟩
  refine List.forall_mem_cons.mpr ⟨sn_aload_n (k := 0) (by decide +kernel), ?_⟩
  refine List.forall_mem_cons.mpr ⟨sn_new tyX2 (by decide +kernel) rfl tbX2 tyX2_ok tw_149 tw_150 tw_70 rfl (by decide), ?_⟩
  refine List.forall_mem_cons.mpr ⟨sn_dup (by decide +kernel), ?_⟩
  refine List.forall_mem_cons.mpr ⟨⟨i_71, rfl, mk_callI (by decide) (by decide) ci_71 (Or.inr ⟨_, tw_151⟩) (by decide +kernel)⟩, ?_⟩
  refine List.forall_mem_cons.mpr ⟨sn_putf tyX9 (by decide +kernel) rfl tbX9 tyX9_ok nmX9 (by decide) tw_288 (Or.inr ⟨rfl, rfl, rfl⟩) rfl, ?_⟩
  refine List.forall_mem_cons.mpr ⟨sn_aload_n (k := 0) (by decide +kernel), ?_⟩
  refine List.forall_mem_cons.mpr ⟨sn_new tyX8 (by decide +kernel) rfl tbX8 tyX8_ok tw_172 tw_173 tw_71 rfl (by decide), ?_⟩
  refine List.forall_mem_cons.mpr ⟨sn_dup (by decide +kernel), ?_⟩
  refine List.forall_mem_cons.mpr ⟨⟨i_86, rfl, mk_callI (by decide) (by decide) ci_86 (Or.inr ⟨_, tw_174⟩) (by decide +kernel)⟩, ?_⟩
  refine List.forall_mem_cons.mpr ⟨sn_putf tyX9 (by decide +kernel) rfl tbX9 tyX9_ok nmX9 (by decide) tw_289 (Or.inr ⟨rfl, rfl, rfl⟩) rfl, ?_⟩
  refine List.forall_mem_cons.mpr ⟨sn_aload_n (k := 0) (by decide +kernel), ?_⟩
  refine List.forall_mem_cons.mpr ⟨sn_new tyX7 (by decide +kernel) rfl tbX7 tyX7_ok tw_196 tw_197 tw_72 rfl (by decide), ?_⟩
  refine List.forall_mem_cons.mpr ⟨sn_dup (by decide +kernel), ?_⟩
  refine List.forall_mem_cons.mpr ⟨⟨i_34, rfl, mk_callI (by decide) (by decide) ci_34 (Or.inr ⟨_, tw_198⟩) (by decide +kernel)⟩, ?_⟩
  refine List.forall_mem_cons.mpr ⟨sn_putf tyX9 (by decide +kernel) rfl tbX9 tyX9_ok nmX9 (by decide) tw_290 (Or.inr ⟨rfl, rfl, rfl⟩) rfl, ?_⟩
  refine List.forall_mem_cons.mpr ⟨sn_aload_n (k := 0) (by decide +kernel), ?_⟩
  refine List.forall_mem_cons.mpr ⟨sn_new tyX5 (by decide +kernel) rfl tbX5 tyX5_ok tw_214 tw_215 tw_73 rfl (by decide), ?_⟩
  refine List.forall_mem_cons.mpr ⟨sn_dup (by decide +kernel), ?_⟩
  refine List.forall_mem_cons.mpr ⟨⟨i_17, rfl, mk_callI (by decide) (by decide) ci_17 (Or.inr ⟨_, tw_216⟩) (by decide +kernel)⟩, ?_⟩
  refine List.forall_mem_cons.mpr ⟨sn_putf tyX9 (by decide +kernel) rfl tbX9 tyX9_ok nmX9 (by decide) tw_291 (Or.inr ⟨rfl, rfl, rfl⟩) rfl, ?_⟩
  refine List.forall_mem_cons.mpr ⟨sn_aload_n (k := 0) (by decide +kernel), ?_⟩
  refine List.forall_mem_cons.mpr ⟨sn_new tyX4 (by decide +kernel) rfl tbX4 tyX4_ok tw_227 tw_228 tw_74 rfl (by decide), ?_⟩
  refine List.forall_mem_cons.mpr ⟨sn_dup (by decide +kernel), ?_⟩
  refine List.forall_mem_cons.mpr ⟨sn_aload_n (k := 0) (by decide +kernel), ?_⟩
  refine List.forall_mem_cons.mpr ⟨sn_getf (by decide +kernel) rfl tbX9 (by decide) tw_291, ?_⟩
  refine List.forall_mem_cons.mpr ⟨⟨i_40, rfl, mk_callI (by decide) (by decide) ci_40 (Or.inl tw_229) (by decide +kernel)⟩, ?_⟩
  refine List.forall_mem_cons.mpr ⟨sn_putf tyX9 (by decide +kernel) rfl tbX9 tyX9_ok nmX9 (by decide) tw_292 (Or.inr ⟨rfl, rfl, rfl⟩) rfl, ?_⟩
  refine List.forall_mem_cons.mpr ⟨⟨rfl, (by decide +kernel : decode prog_1_method_1_code 89 = .ok (.return_, 1))⟩, ?_⟩
  exact fun _ h => absurd h List.not_mem_nil
set_option maxRecDepth 20000 in
theorem ok_104 : ∀ q ∈ mt_104, mx_ok mx_I0 i_104 q.1 q.2 := by
  refine List.forall_mem_cons.mpr ⟨sn_aload_n (k := 0) (by decide +kernel), ?_⟩
  refine List.forall_mem_cons.mpr ⟨sn_getf (by decide +kernel) rfl tbX9 (by decide) tw_286, ?_⟩
  refine List.forall_mem_cons.mpr ⟨⟨i_25, rfl, mk_callV (by decide) (by decide) cv_25 (Or.inl tw_315) rfl (by decide +kernel)⟩, ?_⟩
  refine List.forall_mem_cons.mpr ⟨sn_sipush (k := 400) (by decide +kernel) (by decide), ?_⟩
  refine List.forall_mem_cons.mpr ⟨sn_icmp_lt (off := 5) (by decide +kernel) (by decide), ?_⟩
  refine List.forall_mem_cons.mpr ⟨sn_iconst (k := (-1)) (by decide +kernel) (by decide), ?_⟩
  refine List.forall_mem_cons.mpr ⟨⟨rfl, (by decide +kernel : decode prog_1_method_2_code 14 = .ok (.ireturn, 1))⟩, ?_⟩
  refine List.forall_mem_cons.mpr ⟨sn_aload_n (k := 0) (by decide +kernel), ?_⟩
  refine List.forall_mem_cons.mpr ⟨sn_getf (by decide +kernel) rfl tbX9 (by decide) tw_286, ?_⟩
  refine List.forall_mem_cons.mpr ⟨sn_iload_n (k := 1) (by decide +kernel), ?_⟩
  refine List.forall_mem_cons.mpr ⟨sn_iload_n (k := 2) (by decide +kernel), ?_⟩
  refine List.forall_mem_cons.mpr ⟨⟨i_28, rfl, mk_callV (by decide) (by decide) cv_28 (Or.inl tw_323) rfl (by decide +kernel)⟩, ?_⟩
  refine List.forall_mem_cons.mpr ⟨sn_aload_n (k := 0) (by decide +kernel), ?_⟩
  refine List.forall_mem_cons.mpr ⟨⟨i_112, rfl, mk_callV (by decide) (by decide) cv_112 (Or.inl tw_328) rfl (by decide +kernel)⟩, ?_⟩
  refine List.forall_mem_cons.mpr ⟨sn_aload_n (k := 0) (by decide +kernel), ?_⟩
  refine List.forall_mem_cons.mpr ⟨sn_getf (by decide +kernel) rfl tbX9 (by decide) tw_286, ?_⟩
  refine List.forall_mem_cons.mpr ⟨⟨i_25, rfl, mk_callV (by decide) (by decide) cv_25 (Or.inl tw_315) rfl (by decide +kernel)⟩, ?_⟩
  refine List.forall_mem_cons.mpr ⟨⟨rfl, (by decide +kernel : decode prog_1_method_2_code 35 = .ok (.ireturn, 1))⟩, ?_⟩
  exact fun _ h => absurd h List.not_mem_nil
set_option maxRecDepth 20000 in
theorem ok_105 : ∀ q ∈ mt_105, mx_ok mx_I0 i_105 q.1 q.2 := by
  refine List.forall_mem_cons.mpr ⟨sn_aload_n (k := 0) (by decide +kernel), ?_⟩
  refine List.forall_mem_cons.mpr ⟨sn_getf (by decide +kernel) rfl tbX9 (by decide) tw_286, ?_⟩
  refine List.forall_mem_cons.mpr ⟨sn_iconst (k := 0) (by decide +kernel) (by decide), ?_⟩
  refine List.forall_mem_cons.mpr ⟨⟨i_29, rfl, mk_callV (by decide) (by decide) cv_29 (Or.inl tw_340) rfl (by decide +kernel)⟩, ?_⟩
  refine List.forall_mem_cons.mpr ⟨sn_aload_n (k := 0) (by decide +kernel), ?_⟩
  refine List.forall_mem_cons.mpr ⟨⟨i_112, rfl, mk_callV (by decide) (by decide) cv_112 (Or.inl tw_328) rfl (by decide +kernel)⟩, ?_⟩
  refine List.forall_mem_cons.mpr ⟨⟨rfl, (by decide +kernel : decode prog_1_method_3_code 12 = .ok (.return_, 1))⟩, ?_⟩
  exact fun _ h => absurd h List.not_mem_nil
set_option maxRecDepth 20000 in
theorem ok_106 : ∀ q ∈ mt_106, mx_ok mx_I0 i_106 q.1 q.2 := by
  refine List.forall_mem_cons.mpr ⟨sn_aload_n (k := 0) (by decide +kernel), ?_⟩
  refine List.forall_mem_cons.mpr ⟨sn_getf (by decide +kernel) rfl tbX9 (by decide) tw_287, ?_⟩
  refine List.forall_mem_cons.mpr ⟨⟨i_56, rfl, mk_callV (by decide) (by decide) cv_56 (Or.inl tw_352) rfl (by decide +kernel)⟩, ?_⟩
  refine List.forall_mem_cons.mpr ⟨⟨rfl, (by decide +kernel : decode prog_1_method_4_code 7 = .ok (.ireturn, 1))⟩, ?_⟩
  exact fun _ h => absurd h List.not_mem_nil
set_option maxRecDepth 20000 in
theorem ok_107 : ∀ q ∈ mt_107, mx_ok mx_I0 i_107 q.1 q.2 := by
  refine List.forall_mem_cons.mpr ⟨sn_iload_n (k := 1) (by decide +kernel), ?_⟩
  refine List.forall_mem_cons.mpr ⟨sn_if_lt (off := 20) (by decide +kernel) (by decide), ?_⟩
  refine List.forall_mem_cons.mpr ⟨sn_iload_n (k := 1) (by decide +kernel), ?_⟩
  refine List.forall_mem_cons.mpr ⟨sn_sipush (k := 20000) (by decide +kernel) (by decide), ?_⟩
  refine List.forall_mem_cons.mpr ⟨sn_icmp_gt (off := 13) (by decide +kernel) (by decide), ?_⟩
  refine List.forall_mem_cons.mpr ⟨sn_aload_n (k := 0) (by decide +kernel), ?_⟩
  refine List.forall_mem_cons.mpr ⟨sn_getf (by decide +kernel) rfl tbX9 (by decide) tw_287, ?_⟩
  refine List.forall_mem_cons.mpr ⟨⟨i_56, rfl, mk_callV (by decide) (by decide) cv_56 (Or.inl tw_352) rfl (by decide +kernel)⟩, ?_⟩
  refine List.forall_mem_cons.mpr ⟨sn_if_ne (off := 5) (by decide +kernel) (by decide), ?_⟩
  refine List.forall_mem_cons.mpr ⟨sn_iconst (k := (-1)) (by decide +kernel) (by decide), ?_⟩
  refine List.forall_mem_cons.mpr ⟨⟨rfl, (by decide +kernel : decode prog_1_method_5_code 22 = .ok (.ireturn, 1))⟩, ?_⟩
  refine List.forall_mem_cons.mpr ⟨sn_aload_n (k := 0) (by decide +kernel), ?_⟩
  refine List.forall_mem_cons.mpr ⟨sn_getf (by decide +kernel) rfl tbX9 (by decide) tw_293, ?_⟩
  refine List.forall_mem_cons.mpr ⟨sn_if_ne (off := 43) (by decide +kernel) (by decide), ?_⟩
  refine List.forall_mem_cons.mpr ⟨sn_aload_n (k := 0) (by decide +kernel), ?_⟩
  refine List.forall_mem_cons.mpr ⟨sn_getf (by decide +kernel) rfl tbX9 (by decide) tw_288, ?_⟩
  refine List.forall_mem_cons.mpr ⟨sn_aload_n (k := 0) (by decide +kernel), ?_⟩
  refine List.forall_mem_cons.mpr ⟨sn_getf (by decide +kernel) rfl tbX9 (by decide) tw_286, ?_⟩
  refine List.forall_mem_cons.mpr ⟨sn_aload_n (k := 0) (by decide +kernel), ?_⟩
  refine List.forall_mem_cons.mpr ⟨sn_getf (by decide +kernel) rfl tbX9 (by decide) tw_287, ?_⟩
  refine List.forall_mem_cons.mpr ⟨⟨i_72, rfl, mk_callV (by decide) (by decide) cv_72 (Or.inl tw_449) rfl (by decide +kernel)⟩, ?_⟩
  refine List.forall_mem_cons.mpr ⟨sn_astore_n (k := 2) (by decide +kernel) (by decide), ?_⟩
  refine List.forall_mem_cons.mpr ⟨sn_aload_n (k := 0) (by decide +kernel), ?_⟩
  refine List.forall_mem_cons.mpr ⟨sn_getf (by decide +kernel) rfl tbX9 (by decide) tw_290, ?_⟩
  refine List.forall_mem_cons.mpr ⟨sn_aload_n (k := 0) (by decide +kernel), ?_⟩
  refine List.forall_mem_cons.mpr ⟨sn_getf (by decide +kernel) rfl tbX9 (by decide) tw_289, ?_⟩
  refine List.forall_mem_cons.mpr ⟨sn_aload_n (k := 2) (by decide +kernel), ?_⟩
  refine List.forall_mem_cons.mpr ⟨sn_aload_n (k := 0) (by decide +kernel), ?_⟩
  refine List.forall_mem_cons.mpr ⟨sn_getf (by decide +kernel) rfl tbX9 (by decide) tw_287, ?_⟩
  refine List.forall_mem_cons.mpr ⟨⟨i_87, rfl, mk_callV (by decide) (by decide) cv_87 (Or.inl tw_554) rfl (by decide +kernel)⟩, ?_⟩
  refine List.forall_mem_cons.mpr ⟨⟨i_35, rfl, mk_callV (by decide) (by decide) cv_35 (Or.inl tw_641) rfl (by decide +kernel)⟩, ?_⟩
  refine List.forall_mem_cons.mpr ⟨sn_aload_n (k := 0) (by decide +kernel), ?_⟩
  refine List.forall_mem_cons.mpr ⟨sn_iconst (k := 1) (by decide +kernel) (by decide), ?_⟩
  refine List.forall_mem_cons.mpr ⟨sn_putf tyX9 (by decide +kernel) rfl tbX9 tyX9_ok nmX9 (by decide) tw_293 (Or.inl rfl) rfl, ?_⟩
  refine List.forall_mem_cons.mpr ⟨sn_aload_n (k := 0) (by decide +kernel), ?_⟩
  refine List.forall_mem_cons.mpr ⟨sn_getf (by decide +kernel) rfl tbX9 (by decide) tw_292, ?_⟩
  refine List.forall_mem_cons.mpr ⟨sn_aload_n (k := 0) (by decide +kernel), ?_⟩
  refine List.forall_mem_cons.mpr ⟨sn_getf (by decide +kernel) rfl tbX9 (by decide) tw_290, ?_⟩
  refine List.forall_mem_cons.mpr ⟨sn_iload_n (k := 1) (by decide +kernel), ?_⟩
  refine List.forall_mem_cons.mpr ⟨⟨i_41, rfl, mk_callV (by decide) (by decide) cv_41 (Or.inl tw_655) rfl (by decide +kernel)⟩, ?_⟩
  refine List.forall_mem_cons.mpr ⟨⟨rfl, (by decide +kernel : decode prog_1_method_5_code 82 = .ok (.ireturn, 1))⟩, ?_⟩
  exact fun _ h => absurd h List.not_mem_nil
set_option maxRecDepth 20000 in
theorem ok_108 : ∀ q ∈ mt_108, mx_ok mx_I0 i_108 q.1 q.2 := by
  refine List.forall_mem_cons.mpr ⟨sn_aload_n (k := 0) (by decide +kernel), ?_⟩
  refine List.forall_mem_cons.mpr ⟨sn_getf (by decide +kernel) rfl tbX9 (by decide) tw_292, ?_⟩
  refine List.forall_mem_cons.mpr ⟨sn_getfN (by decide +kernel) rfl tbX4 (by decide) tw_266, ?_⟩
  refine List.forall_mem_cons.mpr ⟨⟨rfl, (by decide +kernel : decode prog_1_method_6_code 7 = .ok (.ireturn, 1))⟩, ?_⟩
  exact fun _ h => absurd h List.not_mem_nil
set_option maxRecDepth 20000 in
theorem ok_109 : ∀ q ∈ mt_109, mx_ok mx_I0 i_109 q.1 q.2 := by
  refine List.forall_mem_cons.mpr ⟨sn_aload_n (k := 0) (by decide +kernel), ?_⟩
  refine List.forall_mem_cons.mpr ⟨sn_getf (by decide +kernel) rfl tbX9 (by decide) tw_292, ?_⟩
  refine List.forall_mem_cons.mpr ⟨sn_getfN (by decide +kernel) rfl tbX4 (by decide) tw_268, ?_⟩
  refine List.forall_mem_cons.mpr ⟨⟨rfl, (by decide +kernel : decode prog_1_method_7_code 7 = .ok (.ireturn, 1))⟩, ?_⟩
  exact fun _ h => absurd h List.not_mem_nil
set_option maxRecDepth 20000 in
theorem ok_110 : ∀ q ∈ mt_110, mx_ok mx_I0 i_110 q.1 q.2 := by
  refine List.forall_mem_cons.mpr ⟨sn_aload_n (k := 0) (by decide +kernel), ?_⟩
  refine List.forall_mem_cons.mpr ⟨sn_getf (by decide +kernel) rfl tbX9 (by decide) tw_291, ?_⟩
  refine List.forall_mem_cons.mpr ⟨sn_iload_n (k := 1) (by decide +kernel), ?_⟩
  refine List.forall_mem_cons.mpr ⟨⟨i_20, rfl, mk_callV (by decide) (by decide) cv_20 (Or.inl tw_761) rfl (by decide +kernel)⟩, ?_⟩
  refine List.forall_mem_cons.mpr ⟨sn_istore_n (k := 3) (by decide +kernel) (by decide), ?_⟩
  refine List.forall_mem_cons.mpr ⟨sn_aload_n (k := 0) (by decide +kernel), ?_⟩
  refine List.forall_mem_cons.mpr ⟨sn_getf (by decide +kernel) rfl tbX9 (by decide) tw_291, ?_⟩
  refine List.forall_mem_cons.mpr ⟨sn_iload_n (k := 1) (by decide +kernel), ?_⟩
  refine List.forall_mem_cons.mpr ⟨sn_iload_n (k := 2) (by decide +kernel), ?_⟩
  refine List.forall_mem_cons.mpr ⟨⟨i_21, rfl, mk_callV (by decide) (by decide) cv_21 (Or.inl tw_762) rfl (by decide +kernel)⟩, ?_⟩
  refine List.forall_mem_cons.mpr ⟨sn_iload_n (k := 3) (by decide +kernel), ?_⟩
  refine List.forall_mem_cons.mpr ⟨⟨rfl, (by decide +kernel : decode prog_1_method_8_code 19 = .ok (.ireturn, 1))⟩, ?_⟩
  exact fun _ h => absurd h List.not_mem_nil
set_option maxRecDepth 20000 in
theorem ok_111 : ∀ q ∈ mt_111, mx_ok mx_I0 i_111 q.1 q.2 := by
  refine List.forall_mem_cons.mpr ⟨sn_aload_n (k := 0) (by decide +kernel), ?_⟩
  refine List.forall_mem_cons.mpr ⟨sn_getf (by decide +kernel) rfl tbX9 (by decide) tw_291, ?_⟩
  refine List.forall_mem_cons.mpr ⟨sn_iload_n (k := 1) (by decide +kernel), ?_⟩
  refine List.forall_mem_cons.mpr ⟨⟨i_22, rfl, mk_callV (by decide) (by decide) cv_22 (Or.inl tw_767) rfl (by decide +kernel)⟩, ?_⟩
  refine List.forall_mem_cons.mpr ⟨sn_istore_n (k := 3) (by decide +kernel) (by decide), ?_⟩
  refine List.forall_mem_cons.mpr ⟨sn_aload_n (k := 0) (by decide +kernel), ?_⟩
  refine List.forall_mem_cons.mpr ⟨sn_getf (by decide +kernel) rfl tbX9 (by decide) tw_291, ?_⟩
  refine List.forall_mem_cons.mpr ⟨sn_iload_n (k := 1) (by decide +kernel), ?_⟩
  refine List.forall_mem_cons.mpr ⟨sn_iload_n (k := 2) (by decide +kernel), ?_⟩
  refine List.forall_mem_cons.mpr ⟨⟨i_23, rfl, mk_callV (by decide) (by decide) cv_23 (Or.inl tw_768) rfl (by decide +kernel)⟩, ?_⟩
  refine List.forall_mem_cons.mpr ⟨sn_iload_n (k := 3) (by decide +kernel), ?_⟩
  refine List.forall_mem_cons.mpr ⟨⟨rfl, (by decide +kernel : decode prog_1_method_10_code 19 = .ok (.ireturn, 1))⟩, ?_⟩
  exact fun _ h => absurd h List.not_mem_nil
set_option maxRecDepth 20000 in
theorem ok_112 : ∀ q ∈ mt_112, mx_ok mx_I0 i_112 q.1 q.2 := by
  refine List.forall_mem_cons.mpr ⟨sn_aload_n (k := 0) (by decide +kernel), ?_⟩
  refine List.forall_mem_cons.mpr ⟨sn_getf (by decide +kernel) rfl tbX9 (by decide) tw_287, ?_⟩
  refine List.forall_mem_cons.mpr ⟨⟨i_55, rfl, mk_callV (by decide) (by decide) cv_55 (Or.inl tw_332) rfl (by decide +kernel)⟩, ?_⟩
  refine List.forall_mem_cons.mpr ⟨sn_aload_n (k := 0) (by decide +kernel), ?_⟩
  refine List.forall_mem_cons.mpr ⟨sn_iconst (k := 0) (by decide +kernel) (by decide), ?_⟩
  refine List.forall_mem_cons.mpr ⟨sn_putf tyX9 (by decide +kernel) rfl tbX9 tyX9_ok nmX9 (by decide) tw_293 (Or.inl rfl) rfl, ?_⟩
  refine List.forall_mem_cons.mpr ⟨⟨rfl, (by decide +kernel : decode prog_1_method_12_code 12 = .ok (.return_, 1))⟩, ?_⟩
  exact fun _ h => absurd h List.not_mem_nil
set_option maxRecDepth 20000 in
theorem ok_113 : ∀ q ∈ mt_113, mx_ok mx_I0 i_113 q.1 q.2 := by
  refine List.forall_mem_cons.mpr ⟨sn_iload_n (k := 0) (by decide +kernel), ?_⟩
  refine List.forall_mem_cons.mpr ⟨sn_bipush (k := 11) (by decide +kernel) (by decide), ?_⟩
  refine List.forall_mem_cons.mpr ⟨sn_icmp_eq (off := 9) (by decide +kernel) (by decide), ?_⟩
  refine List.forall_mem_cons.mpr ⟨sn_iload_n (k := 0) (by decide +kernel), ?_⟩
  refine List.forall_mem_cons.mpr ⟨sn_bipush (k := 12) (by decide +kernel) (by decide), ?_⟩
  refine List.forall_mem_cons.mpr ⟨sn_icmp_ne (off := 7) (by decide +kernel) (by decide), ?_⟩
  refine List.forall_mem_cons.mpr ⟨sn_iconst (k := 1) (by decide +kernel) (by decide), ?_⟩
  refine List.forall_mem_cons.mpr ⟨sn_goto (off := 4) (by decide +kernel) (by decide), ?_⟩
  refine List.forall_mem_cons.mpr ⟨sn_iconst (k := 0) (by decide +kernel) (by decide), ?_⟩
  refine List.forall_mem_cons.mpr ⟨⟨rfl, (by decide +kernel : decode prog_1_method_13_code 17 = .ok (.ireturn, 1))⟩, ?_⟩
  exact fun _ h => absurd h List.not_mem_nil
set_option maxRecDepth 20000 in
theorem ok_114 : ∀ q ∈ mt_114, mx_ok mx_I0 i_114 q.1 q.2 := by
  refine List.forall_mem_cons.mpr ⟨sn_iload_n (k := 0) (by decide +kernel), ?_⟩
  refine List.forall_mem_cons.mpr ⟨sn_bipush (k := 10) (by decide +kernel) (by decide), ?_⟩
  refine List.forall_mem_cons.mpr ⟨sn_icmp_eq (off := 10) (by decide +kernel) (by decide), ?_⟩
  refine List.forall_mem_cons.mpr ⟨sn_iload_n (k := 0) (by decide +kernel), ?_⟩
  refine List.forall_mem_cons.mpr ⟨⟨i_113, rfl, mk_callS (by decide) (by decide) cs_113 (Or.inl tw_392) (by decide +kernel)⟩, ?_⟩
  refine List.forall_mem_cons.mpr ⟨sn_if_eq (off := 7) (by decide +kernel) (by decide), ?_⟩
  refine List.forall_mem_cons.mpr ⟨sn_iconst (k := 1) (by decide +kernel) (by decide), ?_⟩
  refine List.forall_mem_cons.mpr ⟨sn_goto (off := 4) (by decide +kernel) (by decide), ?_⟩
  refine List.forall_mem_cons.mpr ⟨sn_iconst (k := 0) (by decide +kernel) (by decide), ?_⟩
  refine List.forall_mem_cons.mpr ⟨⟨rfl, (by decide +kernel : decode prog_1_method_14_code 18 = .ok (.ireturn, 1))⟩, ?_⟩
  exact fun _ h => absurd h List.not_mem_nil
set_option maxRecDepth 20000 in
theorem ok_115 : ∀ q ∈ mt_115, mx_ok mx_I0 i_115 q.1 q.2 := by
  refine List.forall_mem_cons.mpr ⟨sn_iload_n (k := 0) (by decide +kernel), ?_⟩
  refine List.forall_mem_cons.mpr ⟨sn_bipush (k := 10) (by decide +kernel) (by decide), ?_⟩
  refine List.forall_mem_cons.mpr ⟨sn_icmp_eq (off := 15) (by decide +kernel) (by decide), ?_⟩
  refine List.forall_mem_cons.mpr ⟨sn_iload_n (k := 0) (by decide +kernel), ?_⟩
  refine List.forall_mem_cons.mpr ⟨sn_bipush (k := 16) (by decide +kernel) (by decide), ?_⟩
  refine List.forall_mem_cons.mpr ⟨sn_icmp_eq (off := 9) (by decide +kernel) (by decide), ?_⟩
  refine List.forall_mem_cons.mpr ⟨sn_iload_n (k := 0) (by decide +kernel), ?_⟩
  refine List.forall_mem_cons.mpr ⟨sn_bipush (k := 17) (by decide +kernel) (by decide), ?_⟩
  refine List.forall_mem_cons.mpr ⟨sn_icmp_ne (off := 7) (by decide +kernel) (by decide), ?_⟩
  refine List.forall_mem_cons.mpr ⟨sn_iconst (k := 1) (by decide +kernel) (by decide), ?_⟩
  refine List.forall_mem_cons.mpr ⟨sn_goto (off := 4) (by decide +kernel) (by decide), ?_⟩
  refine List.forall_mem_cons.mpr ⟨sn_iconst (k := 0) (by decide +kernel) (by decide), ?_⟩
  refine List.forall_mem_cons.mpr ⟨⟨rfl, (by decide +kernel : decode prog_1_method_15_code 23 = .ok (.ireturn, 1))⟩, ?_⟩
  exact fun _ h => absurd h List.not_mem_nil
set_option maxRecDepth 20000 in
theorem ok_116 : ∀ q ∈ mt_116, mx_ok mx_I0 i_116 q.1 q.2 := by
  refine List.forall_mem_cons.mpr ⟨sn_aload_n (k := 0) (by decide +kernel), ?_⟩
  refine List.forall_mem_cons.mpr ⟨sn_obj (by decide +kernel) tw_858 tw_90 tw_oi (by decide) (by decide), ?_⟩
  refine List.forall_mem_cons.mpr ⟨sn_aload_n (k := 0) (by decide +kernel), ?_⟩
  refine List.forall_mem_cons.mpr ⟨sn_sipush (k := 400) (by decide +kernel) (by decide), ?_⟩
  refine List.forall_mem_cons.mpr ⟨sn_newi (by decide +kernel) tw_111, ?_⟩
  refine List.forall_mem_cons.mpr ⟨sn_putf tyX10 (by decide +kernel) rfl tbX10 tyX10_ok nmX10 (by decide) tw_861 (Or.inr ⟨rfl, rfl, rfl⟩) rfl, ?_⟩
  refine List.forall_mem_cons.mpr ⟨sn_aload_n (k := 0) (by decide +kernel), ?_⟩
  refine List.forall_mem_cons.mpr ⟨sn_sipush (k := 400) (by decide +kernel) (by decide), ?_⟩
  refine List.forall_mem_cons.mpr ⟨sn_newi (by decide +kernel) tw_111, ?_⟩
  refine List.forall_mem_cons.mpr ⟨sn_putf tyX10 (by decide +kernel) rfl tbX10 tyX10_ok nmX10 (by decide) tw_862 (Or.inr ⟨rfl, rfl, rfl⟩) rfl, ?_⟩
  refine List.forall_mem_cons.mpr ⟨sn_aload_n (k := 0) (by decide +kernel), ?_⟩
  refine List.forall_mem_cons.mpr ⟨sn_bipush (k := 16) (by decide +kernel) (by decide), ?_⟩
  refine List.forall_mem_cons.mpr ⟨sn_newi (by decide +kernel) tw_111, ?_⟩
  refine List.forall_mem_cons.mpr ⟨sn_putf tyX10 (by decide +kernel) rfl tbX10 tyX10_ok nmX10 (by decide) tw_863 (Or.inr ⟨rfl, rfl, rfl⟩) rfl, ?_⟩
  refine List.forall_mem_cons.mpr ⟨sn_aload_n (k := 0) (by decide +kernel), ?_⟩
  refine List.forall_mem_cons.mpr ⟨sn_bipush (k := 64) (by decide +kernel) (by decide), ?_⟩
  refine List.forall_mem_cons.mpr ⟨sn_newi (by decide +kernel) tw_111, ?_⟩
  refine List.forall_mem_cons.mpr ⟨sn_putf tyX10 (by decide +kernel) rfl tbX10 tyX10_ok nmX10 (by decide) tw_864 (Or.inr ⟨rfl, rfl, rfl⟩) rfl, ?_⟩
  refine List.forall_mem_cons.mpr ⟨sn_aload_n (k := 0) (by decide +kernel), ?_⟩
  refine List.forall_mem_cons.mpr ⟨sn_sipush (k := 400) (by decide +kernel) (by decide), ?_⟩
  refine List.forall_mem_cons.mpr ⟨sn_newi (by decide +kernel) tw_111, ?_⟩
  refine List.forall_mem_cons.mpr ⟨sn_putf tyX10 (by decide +kernel) rfl tbX10 tyX10_ok nmX10 (by decide) tw_867 (Or.inr ⟨rfl, rfl, rfl⟩) rfl, ?_⟩
  refine List.forall_mem_cons.mpr ⟨sn_aload_n (k := 0) (by decide +kernel), ?_⟩
  refine List.forall_mem_cons.mpr ⟨sn_sipush (k := 400) (by decide +kernel) (by decide), ?_⟩
  refine List.forall_mem_cons.mpr ⟨sn_newz (by decide +kernel) tw_896, ?_⟩
  refine List.forall_mem_cons.mpr ⟨sn_putf tyX10 (by decide +kernel) rfl tbX10 tyX10_ok nmX10 (by decide) tw_868 (Or.inr ⟨rfl, rfl, rfl⟩) rfl, ?_⟩
  refine List.forall_mem_cons.mpr ⟨sn_aload_n (k := 0) (by decide +kernel), ?_⟩
  refine List.forall_mem_cons.mpr ⟨sn_bipush (k := 61) (by decide +kernel) (by decide), ?_⟩
  refine List.forall_mem_cons.mpr ⟨sn_newi (by decide +kernel) tw_111, ?_⟩
  refine List.forall_mem_cons.mpr ⟨sn_putf tyX10 (by decide +kernel) rfl tbX10 tyX10_ok nmX10 (by decide) tw_869 (Or.inr ⟨rfl, rfl, rfl⟩) rfl, ?_⟩
  refine List.forall_mem_cons.mpr ⟨⟨rfl, (by decide +kernel : decode prog_12_method_1_code 64 = .ok (.return_, 1))⟩, ?_⟩
  exact fun _ h => absurd h List.not_mem_nil
set_option maxRecDepth 20000 in
theorem ok_117 : ∀ q ∈ mt_117, mx_ok mx_I0 i_117 q.1 q.2 := by
  refine List.forall_mem_cons.mpr ⟨sn_aload_n (k := 0) (by decide +kernel), ?_⟩
  refine List.forall_mem_cons.mpr ⟨sn_getf (by decide +kernel) rfl tbX10 (by decide) tw_859, ?_⟩
  refine List.forall_mem_cons.mpr ⟨⟨rfl, (by decide +kernel : decode prog_12_method_2_code 4 = .ok (.ireturn, 1))⟩, ?_⟩
  exact fun _ h => absurd h List.not_mem_nil
set_option maxRecDepth 20000 in
theorem ok_118 : ∀ q ∈ mt_118, mx_ok mx_I0 i_118 q.1 q.2 := by
  refine List.forall_mem_cons.mpr ⟨sn_aload_n (k := 0) (by decide +kernel), ?_⟩
  refine List.forall_mem_cons.mpr ⟨sn_iconst (k := 0) (by decide +kernel) (by decide), ?_⟩
  refine List.forall_mem_cons.mpr ⟨sn_putf tyX10 (by decide +kernel) rfl tbX10 tyX10_ok nmX10 (by decide) tw_859 (Or.inl rfl) rfl, ?_⟩
  refine List.forall_mem_cons.mpr ⟨sn_aload_n (k := 0) (by decide +kernel), ?_⟩
  refine List.forall_mem_cons.mpr ⟨sn_getf (by decide +kernel) rfl tbX10 (by decide) tw_860, ?_⟩
  refine List.forall_mem_cons.mpr ⟨sn_sipush (k := 400) (by decide +kernel) (by decide), ?_⟩
  refine List.forall_mem_cons.mpr ⟨sn_icmp_ne (off := 5) (by decide +kernel) (by decide), ?_⟩
  refine List.forall_mem_cons.mpr ⟨sn_iconst (k := (-1)) (by decide +kernel) (by decide), ?_⟩
  refine List.forall_mem_cons.mpr ⟨⟨rfl, (by decide +kernel : decode prog_12_method_3_code 16 = .ok (.ireturn, 1))⟩, ?_⟩
  refine List.forall_mem_cons.mpr ⟨sn_aload_n (k := 0) (by decide +kernel), ?_⟩
  refine List.forall_mem_cons.mpr ⟨sn_getf (by decide +kernel) rfl tbX10 (by decide) tw_861, ?_⟩
  refine List.forall_mem_cons.mpr ⟨sn_aload_n (k := 0) (by decide +kernel), ?_⟩
  refine List.forall_mem_cons.mpr ⟨sn_getf (by decide +kernel) rfl tbX10 (by decide) tw_860, ?_⟩
  refine List.forall_mem_cons.mpr ⟨sn_iload_n (k := 1) (by decide +kernel), ?_⟩
  refine List.forall_mem_cons.mpr ⟨sn_iast (by decide +kernel), ?_⟩
  refine List.forall_mem_cons.mpr ⟨sn_aload_n (k := 0) (by decide +kernel), ?_⟩
  refine List.forall_mem_cons.mpr ⟨sn_getf (by decide +kernel) rfl tbX10 (by decide) tw_862, ?_⟩
  refine List.forall_mem_cons.mpr ⟨sn_aload_n (k := 0) (by decide +kernel), ?_⟩
  refine List.forall_mem_cons.mpr ⟨sn_getf (by decide +kernel) rfl tbX10 (by decide) tw_860, ?_⟩
  refine List.forall_mem_cons.mpr ⟨sn_iload_n (k := 2) (by decide +kernel), ?_⟩
  refine List.forall_mem_cons.mpr ⟨sn_iast (by decide +kernel), ?_⟩
  refine List.forall_mem_cons.mpr ⟨sn_aload_n (k := 0) (by decide +kernel), ?_⟩
  refine List.forall_mem_cons.mpr ⟨sn_dup (by decide +kernel), ?_⟩
  refine List.forall_mem_cons.mpr ⟨sn_getf (by decide +kernel) rfl tbX10 (by decide) tw_860, ?_⟩
  refine List.forall_mem_cons.mpr ⟨sn_iconst (k := 1) (by decide +kernel) (by decide), ?_⟩
  refine List.forall_mem_cons.mpr ⟨sn_iadd (by decide +kernel), ?_⟩
  refine List.forall_mem_cons.mpr ⟨sn_putf tyX10 (by decide +kernel) rfl tbX10 tyX10_ok nmX10 (by decide) tw_860 (Or.inl rfl) rfl, ?_⟩
  refine List.forall_mem_cons.mpr ⟨sn_aload_n (k := 0) (by decide +kernel), ?_⟩
  refine List.forall_mem_cons.mpr ⟨sn_getf (by decide +kernel) rfl tbX10 (by decide) tw_860, ?_⟩
  refine List.forall_mem_cons.mpr ⟨⟨rfl, (by decide +kernel : decode prog_12_method_3_code 51 = .ok (.ireturn, 1))⟩, ?_⟩
  exact fun _ h => absurd h List.not_mem_nil
set_option maxRecDepth 20000 in
theorem ok_119 : ∀ q ∈ mt_119, mx_ok mx_I0 i_119 q.1 q.2 := by
  refine List.forall_mem_cons.mpr ⟨sn_aload_n (k := 0) (by decide +kernel), ?_⟩
  refine List.forall_mem_cons.mpr ⟨sn_iconst (k := 0) (by decide +kernel) (by decide), ?_⟩
  refine List.forall_mem_cons.mpr ⟨sn_putf tyX10 (by decide +kernel) rfl tbX10 tyX10_ok nmX10 (by decide) tw_859 (Or.inl rfl) rfl, ?_⟩
  refine List.forall_mem_cons.mpr ⟨sn_aload_n (k := 0) (by decide +kernel), ?_⟩
  refine List.forall_mem_cons.mpr ⟨sn_iconst (k := 0) (by decide +kernel) (by decide), ?_⟩
  refine List.forall_mem_cons.mpr ⟨sn_putf tyX10 (by decide +kernel) rfl tbX10 tyX10_ok nmX10 (by decide) tw_860 (Or.inl rfl) rfl, ?_⟩
  refine List.forall_mem_cons.mpr ⟨⟨rfl, (by decide +kernel : decode prog_12_method_4_code 10 = .ok (.return_, 1))⟩, ?_⟩
  exact fun _ h => absurd h List.not_mem_nil
set_option maxRecDepth 20000 in
theorem ok_120 : ∀ q ∈ mt_120, mx_ok mx_I0 i_120 q.1 q.2 := by
  refine List.forall_mem_cons.mpr ⟨sn_iload_n (k := 0) (by decide +kernel), ?_⟩
  refine List.forall_mem_cons.mpr ⟨sn_iload_n (k := 1) (by decide +kernel), ?_⟩
  refine List.forall_mem_cons.mpr ⟨sn_icmp_lt (off := 12) (by decide +kernel) (by decide), ?_⟩
  refine List.forall_mem_cons.mpr ⟨sn_iload_n (k := 0) (by decide +kernel), ?_⟩
  refine List.forall_mem_cons.mpr ⟨sn_iload_n (k := 2) (by decide +kernel), ?_⟩
  refine List.forall_mem_cons.mpr ⟨sn_icmp_gt (off := 7) (by decide +kernel) (by decide), ?_⟩
  refine List.forall_mem_cons.mpr ⟨sn_iconst (k := 1) (by decide +kernel) (by decide), ?_⟩
  refine List.forall_mem_cons.mpr ⟨sn_goto (off := 4) (by decide +kernel) (by decide), ?_⟩
  refine List.forall_mem_cons.mpr ⟨sn_iconst (k := 0) (by decide +kernel) (by decide), ?_⟩
  refine List.forall_mem_cons.mpr ⟨⟨rfl, (by decide +kernel : decode prog_12_method_5_code 15 = .ok (.ireturn, 1))⟩, ?_⟩
  exact fun _ h => absurd h List.not_mem_nil
set_option maxRecDepth 20000 in
theorem ok_121 : ∀ q ∈ mt_121, mx_ok mx_I0 i_121 q.1 q.2 := by
  refine List.forall_mem_cons.mpr ⟨sn_iload_n (k := 0) (by decide +kernel), ?_⟩
  refine List.forall_mem_cons.mpr ⟨sn_table (df := 98) (offs := #[67, 67, 98, 98, 98, 98, 75, 83, 83, 90, 90, 90, 90]) (len := 67) (by decide +kernel) (by decide) (by decide), ?_⟩
  refine List.forall_mem_cons.mpr ⟨sn_iload_n (k := 1) (by decide +kernel), ?_⟩
  refine List.forall_mem_cons.mpr ⟨sn_iconst (k := 0) (by decide +kernel) (by decide), ?_⟩
  refine List.forall_mem_cons.mpr ⟨sn_bipush (k := 15) (by decide +kernel) (by decide), ?_⟩
  refine List.forall_mem_cons.mpr ⟨⟨i_120, rfl, mk_callS (by decide) (by decide) cs_120 (Or.inl tw_920) (by decide +kernel)⟩, ?_⟩
  refine List.forall_mem_cons.mpr ⟨⟨rfl, (by decide +kernel : decode prog_12_method_6_code 75 = .ok (.ireturn, 1))⟩, ?_⟩
  refine List.forall_mem_cons.mpr ⟨sn_iload_n (k := 1) (by decide +kernel), ?_⟩
  refine List.forall_mem_cons.mpr ⟨sn_iconst (k := 0) (by decide +kernel) (by decide), ?_⟩
  refine List.forall_mem_cons.mpr ⟨sn_bipush (k := 10) (by decide +kernel) (by decide), ?_⟩
  refine List.forall_mem_cons.mpr ⟨⟨i_120, rfl, mk_callS (by decide) (by decide) cs_120 (Or.inl tw_920) (by decide +kernel)⟩, ?_⟩
  refine List.forall_mem_cons.mpr ⟨⟨rfl, (by decide +kernel : decode prog_12_method_6_code 83 = .ok (.ireturn, 1))⟩, ?_⟩
  refine List.forall_mem_cons.mpr ⟨sn_iload_n (k := 1) (by decide +kernel), ?_⟩
  refine List.forall_mem_cons.mpr ⟨sn_iconst (k := 0) (by decide +kernel) (by decide), ?_⟩
  refine List.forall_mem_cons.mpr ⟨sn_iconst (k := 5) (by decide +kernel) (by decide), ?_⟩
  refine List.forall_mem_cons.mpr ⟨⟨i_120, rfl, mk_callS (by decide) (by decide) cs_120 (Or.inl tw_920) (by decide +kernel)⟩, ?_⟩
  refine List.forall_mem_cons.mpr ⟨⟨rfl, (by decide +kernel : decode prog_12_method_6_code 90 = .ok (.ireturn, 1))⟩, ?_⟩
  refine List.forall_mem_cons.mpr ⟨sn_iload_n (k := 1) (by decide +kernel), ?_⟩
  refine List.forall_mem_cons.mpr ⟨sn_iconst (k := 0) (by decide +kernel) (by decide), ?_⟩
  refine List.forall_mem_cons.mpr ⟨sn_bipush (k := 99) (by decide +kernel) (by decide), ?_⟩
  refine List.forall_mem_cons.mpr ⟨⟨i_120, rfl, mk_callS (by decide) (by decide) cs_120 (Or.inl tw_920) (by decide +kernel)⟩, ?_⟩
  refine List.forall_mem_cons.mpr ⟨⟨rfl, (by decide +kernel : decode prog_12_method_6_code 98 = .ok (.ireturn, 1))⟩, ?_⟩
  refine List.forall_mem_cons.mpr ⟨sn_iload_n (k := 0) (by decide +kernel), ?_⟩
  refine List.forall_mem_cons.mpr ⟨sn_iconst (k := 0) (by decide +kernel) (by decide), ?_⟩
  refine List.forall_mem_cons.mpr ⟨sn_bipush (k := 20) (by decide +kernel) (by decide), ?_⟩
  refine List.forall_mem_cons.mpr ⟨⟨i_120, rfl, mk_callS (by decide) (by decide) cs_120 (Or.inl tw_920) (by decide +kernel)⟩, ?_⟩
  refine List.forall_mem_cons.mpr ⟨⟨rfl, (by decide +kernel : decode prog_12_method_6_code 106 = .ok (.ireturn, 1))⟩, ?_⟩
  exact fun _ h => absurd h List.not_mem_nil
set_option maxRecDepth 20000 in
theorem ok_122 : ∀ q ∈ mt_122, mx_ok mx_I0 i_122 q.1 q.2 := by
  refine List.forall_mem_cons.mpr ⟨sn_iconst (k := 0) (by decide +kernel) (by decide), ?_⟩
  refine List.forall_mem_cons.mpr ⟨sn_istore_n (k := 2) (by decide +kernel) (by decide), ?_⟩
  refine List.forall_mem_cons.mpr ⟨sn_iload_n (k := 2) (by decide +kernel), ?_⟩
  refine List.forall_mem_cons.mpr ⟨sn_aload_n (k := 0) (by decide +kernel), ?_⟩
  refine List.forall_mem_cons.mpr ⟨sn_getf (by decide +kernel) rfl tbX10 (by decide) tw_860, ?_⟩
  refine List.forall_mem_cons.mpr ⟨sn_icmp_ge (off := 32) (by decide +kernel) (by decide), ?_⟩
  refine List.forall_mem_cons.mpr ⟨sn_aload_n (k := 0) (by decide +kernel), ?_⟩
  refine List.forall_mem_cons.mpr ⟨sn_getf (by decide +kernel) rfl tbX10 (by decide) tw_861, ?_⟩
  refine List.forall_mem_cons.mpr ⟨sn_iload_n (k := 2) (by decide +kernel), ?_⟩
  refine List.forall_mem_cons.mpr ⟨sn_iald (by decide +kernel), ?_⟩
  refine List.forall_mem_cons.mpr ⟨sn_bipush (k := 13) (by decide +kernel) (by decide), ?_⟩
  refine List.forall_mem_cons.mpr ⟨sn_icmp_ne (off := 15) (by decide +kernel) (by decide), ?_⟩
  refine List.forall_mem_cons.mpr ⟨sn_aload_n (k := 0) (by decide +kernel), ?_⟩
  refine List.forall_mem_cons.mpr ⟨sn_getf (by decide +kernel) rfl tbX10 (by decide) tw_862, ?_⟩
  refine List.forall_mem_cons.mpr ⟨sn_iload_n (k := 2) (by decide +kernel), ?_⟩
  refine List.forall_mem_cons.mpr ⟨sn_iald (by decide +kernel), ?_⟩
  refine List.forall_mem_cons.mpr ⟨sn_iload_n (k := 1) (by decide +kernel), ?_⟩
  refine List.forall_mem_cons.mpr ⟨sn_icmp_ne (off := 5) (by decide +kernel) (by decide), ?_⟩
  refine List.forall_mem_cons.mpr ⟨sn_iload_n (k := 2) (by decide +kernel), ?_⟩
  refine List.forall_mem_cons.mpr ⟨⟨rfl, (by decide +kernel : decode prog_12_method_7_code 32 = .ok (.ireturn, 1))⟩, ?_⟩
  refine List.forall_mem_cons.mpr ⟨sn_iinc (d := 1) (by decide +kernel) (by decide) (by decide), ?_⟩
  refine List.forall_mem_cons.mpr ⟨sn_goto (off := (-34)) (by decide +kernel) (by decide), ?_⟩
  refine List.forall_mem_cons.mpr ⟨sn_iconst (k := (-1)) (by decide +kernel) (by decide), ?_⟩
  refine List.forall_mem_cons.mpr ⟨⟨rfl, (by decide +kernel : decode prog_12_method_7_code 40 = .ok (.ireturn, 1))⟩, ?_⟩
  exact fun _ h => absurd h List.not_mem_nil
set_option maxRecDepth 20000 in
theorem ok_123 : ∀ q ∈ mt_123, mx_ok mx_I0 i_123 q.1 q.2 := by
  refine List.forall_mem_cons.mpr ⟨sn_iconst (k := 1) (by decide +kernel) (by decide), ?_⟩
  refine List.forall_mem_cons.mpr ⟨sn_istore_n (k := 1) (by decide +kernel) (by decide), ?_⟩
  refine List.forall_mem_cons.mpr ⟨sn_iconst (k := 0) (by decide +kernel) (by decide), ?_⟩
  refine List.forall_mem_cons.mpr ⟨sn_istore_n (k := 2) (by decide +kernel) (by decide), ?_⟩
  refine List.forall_mem_cons.mpr ⟨sn_iload_n (k := 2) (by decide +kernel), ?_⟩
  refine List.forall_mem_cons.mpr ⟨sn_aload_n (k := 0) (by decide +kernel), ?_⟩
  refine List.forall_mem_cons.mpr ⟨sn_getf (by decide +kernel) rfl tbX10 (by decide) tw_860, ?_⟩
  refine List.forall_mem_cons.mpr ⟨sn_icmp_ge (off := 144) (by decide +kernel) (by decide), ?_⟩
  refine List.forall_mem_cons.mpr ⟨sn_aload_n (k := 0) (by decide +kernel), ?_⟩
  refine List.forall_mem_cons.mpr ⟨sn_getf (by decide +kernel) rfl tbX10 (by decide) tw_861, ?_⟩
  refine List.forall_mem_cons.mpr ⟨sn_iload_n (k := 2) (by decide +kernel), ?_⟩
  refine List.forall_mem_cons.mpr ⟨sn_iald (by decide +kernel), ?_⟩
  refine List.forall_mem_cons.mpr ⟨sn_istore_n (k := 3) (by decide +kernel) (by decide), ?_⟩
  refine List.forall_mem_cons.mpr ⟨sn_iload_n (k := 1) (by decide +kernel), ?_⟩
  refine List.forall_mem_cons.mpr ⟨sn_if_eq (off := 20) (by decide +kernel) (by decide), ?_⟩
  refine List.forall_mem_cons.mpr ⟨sn_iload_n (k := 3) (by decide +kernel), ?_⟩
  refine List.forall_mem_cons.mpr ⟨sn_aload_n (k := 0) (by decide +kernel), ?_⟩
  refine List.forall_mem_cons.mpr ⟨sn_getf (by decide +kernel) rfl tbX10 (by decide) tw_862, ?_⟩
  refine List.forall_mem_cons.mpr ⟨sn_iload_n (k := 2) (by decide +kernel), ?_⟩
  refine List.forall_mem_cons.mpr ⟨sn_iald (by decide +kernel), ?_⟩
  refine List.forall_mem_cons.mpr ⟨⟨i_121, rfl, mk_callS (by decide) (by decide) cs_121 (Or.inl tw_917) (by decide +kernel)⟩, ?_⟩
  refine List.forall_mem_cons.mpr ⟨sn_if_eq (off := 7) (by decide +kernel) (by decide), ?_⟩
  refine List.forall_mem_cons.mpr ⟨sn_iconst (k := 1) (by decide +kernel) (by decide), ?_⟩
  refine List.forall_mem_cons.mpr ⟨sn_goto (off := 4) (by decide +kernel) (by decide), ?_⟩
  refine List.forall_mem_cons.mpr ⟨sn_iconst (k := 0) (by decide +kernel) (by decide), ?_⟩
  refine List.forall_mem_cons.mpr ⟨sn_istore_n (k := 1) (by decide +kernel) (by decide), ?_⟩
  refine List.forall_mem_cons.mpr ⟨sn_iload_n (k := 1) (by decide +kernel), ?_⟩
  refine List.forall_mem_cons.mpr ⟨sn_if_eq (off := 27) (by decide +kernel) (by decide), ?_⟩
  refine List.forall_mem_cons.mpr ⟨sn_iload_n (k := 3) (by decide +kernel), ?_⟩
  refine List.forall_mem_cons.mpr ⟨sn_bipush (k := 13) (by decide +kernel) (by decide), ?_⟩
  refine List.forall_mem_cons.mpr ⟨sn_icmp_ne (off := 17) (by decide +kernel) (by decide), ?_⟩
  refine List.forall_mem_cons.mpr ⟨sn_aload_n (k := 0) (by decide +kernel), ?_⟩
  refine List.forall_mem_cons.mpr ⟨sn_aload_n (k := 0) (by decide +kernel), ?_⟩
  refine List.forall_mem_cons.mpr ⟨sn_getf (by decide +kernel) rfl tbX10 (by decide) tw_862, ?_⟩
  refine List.forall_mem_cons.mpr ⟨sn_iload_n (k := 2) (by decide +kernel), ?_⟩
  refine List.forall_mem_cons.mpr ⟨sn_iald (by decide +kernel), ?_⟩
  refine List.forall_mem_cons.mpr ⟨⟨i_122, rfl, mk_callV (by decide) (by decide) cv_122 (Or.inl tw_923) rfl (by decide +kernel)⟩, ?_⟩
  refine List.forall_mem_cons.mpr ⟨sn_iload_n (k := 2) (by decide +kernel), ?_⟩
  refine List.forall_mem_cons.mpr ⟨sn_icmp_ne (off := 7) (by decide +kernel) (by decide), ?_⟩
  refine List.forall_mem_cons.mpr ⟨sn_iconst (k := 1) (by decide +kernel) (by decide), ?_⟩
  refine List.forall_mem_cons.mpr ⟨sn_goto (off := 4) (by decide +kernel) (by decide), ?_⟩
  refine List.forall_mem_cons.mpr ⟨sn_iconst (k := 0) (by decide +kernel) (by decide), ?_⟩
  refine List.forall_mem_cons.mpr ⟨sn_istore_n (k := 1) (by decide +kernel) (by decide), ?_⟩
  refine List.forall_mem_cons.mpr ⟨sn_iload_n (k := 1) (by decide +kernel), ?_⟩
  refine List.forall_mem_cons.mpr ⟨sn_if_eq (off := 33) (by decide +kernel) (by decide), ?_⟩
  refine List.forall_mem_cons.mpr ⟨sn_iload_n (k := 3) (by decide +kernel), ?_⟩
  refine List.forall_mem_cons.mpr ⟨sn_bipush (k := 10) (by decide +kernel) (by decide), ?_⟩
  refine List.forall_mem_cons.mpr ⟨sn_icmp_lt (off := 23) (by decide +kernel) (by decide), ?_⟩
  refine List.forall_mem_cons.mpr ⟨sn_iload_n (k := 3) (by decide +kernel), ?_⟩
  refine List.forall_mem_cons.mpr ⟨sn_bipush (k := 12) (by decide +kernel) (by decide), ?_⟩
  refine List.forall_mem_cons.mpr ⟨sn_icmp_gt (off := 17) (by decide +kernel) (by decide), ?_⟩
  refine List.forall_mem_cons.mpr ⟨sn_aload_n (k := 0) (by decide +kernel), ?_⟩
  refine List.forall_mem_cons.mpr ⟨sn_aload_n (k := 0) (by decide +kernel), ?_⟩
  refine List.forall_mem_cons.mpr ⟨sn_getf (by decide +kernel) rfl tbX10 (by decide) tw_862, ?_⟩
  refine List.forall_mem_cons.mpr ⟨sn_iload_n (k := 2) (by decide +kernel), ?_⟩
  refine List.forall_mem_cons.mpr ⟨sn_iald (by decide +kernel), ?_⟩
  refine List.forall_mem_cons.mpr ⟨⟨i_122, rfl, mk_callV (by decide) (by decide) cv_122 (Or.inl tw_923) rfl (by decide +kernel)⟩, ?_⟩
  refine List.forall_mem_cons.mpr ⟨sn_iconst (k := (-1)) (by decide +kernel) (by decide), ?_⟩
  refine List.forall_mem_cons.mpr ⟨sn_icmp_eq (off := 7) (by decide +kernel) (by decide), ?_⟩
  refine List.forall_mem_cons.mpr ⟨sn_iconst (k := 1) (by decide +kernel) (by decide), ?_⟩
  refine List.forall_mem_cons.mpr ⟨sn_goto (off := 4) (by decide +kernel) (by decide), ?_⟩
  refine List.forall_mem_cons.mpr ⟨sn_iconst (k := 0) (by decide +kernel) (by decide), ?_⟩
  refine List.forall_mem_cons.mpr ⟨sn_istore_n (k := 1) (by decide +kernel) (by decide), ?_⟩
  refine List.forall_mem_cons.mpr ⟨sn_iload_n (k := 1) (by decide +kernel), ?_⟩
  refine List.forall_mem_cons.mpr ⟨sn_if_eq (off := 36) (by decide +kernel) (by decide), ?_⟩
  refine List.forall_mem_cons.mpr ⟨sn_iload_n (k := 3) (by decide +kernel), ?_⟩
  refine List.forall_mem_cons.mpr ⟨sn_bipush (k := 18) (by decide +kernel) (by decide), ?_⟩
  refine List.forall_mem_cons.mpr ⟨sn_icmp_ne (off := 26) (by decide +kernel) (by decide), ?_⟩
  refine List.forall_mem_cons.mpr ⟨sn_iload_n (k := 2) (by decide +kernel), ?_⟩
  refine List.forall_mem_cons.mpr ⟨sn_iconst (k := 1) (by decide +kernel) (by decide), ?_⟩
  refine List.forall_mem_cons.mpr ⟨sn_iadd (by decide +kernel), ?_⟩
  refine List.forall_mem_cons.mpr ⟨sn_aload_n (k := 0) (by decide +kernel), ?_⟩
  refine List.forall_mem_cons.mpr ⟨sn_getf (by decide +kernel) rfl tbX10 (by decide) tw_860, ?_⟩
  refine List.forall_mem_cons.mpr ⟨sn_icmp_ge (off := 20) (by decide +kernel) (by decide), ?_⟩
  refine List.forall_mem_cons.mpr ⟨sn_aload_n (k := 0) (by decide +kernel), ?_⟩
  refine List.forall_mem_cons.mpr ⟨sn_getf (by decide +kernel) rfl tbX10 (by decide) tw_861, ?_⟩
  refine List.forall_mem_cons.mpr ⟨sn_iload_n (k := 2) (by decide +kernel), ?_⟩
  refine List.forall_mem_cons.mpr ⟨sn_iconst (k := 1) (by decide +kernel) (by decide), ?_⟩
  refine List.forall_mem_cons.mpr ⟨sn_iadd (by decide +kernel), ?_⟩
  refine List.forall_mem_cons.mpr ⟨sn_iald (by decide +kernel), ?_⟩
  refine List.forall_mem_cons.mpr ⟨sn_bipush (k := 12) (by decide +kernel) (by decide), ?_⟩
  refine List.forall_mem_cons.mpr ⟨sn_icmp_ne (off := 7) (by decide +kernel) (by decide), ?_⟩
  refine List.forall_mem_cons.mpr ⟨sn_iconst (k := 1) (by decide +kernel) (by decide), ?_⟩
  refine List.forall_mem_cons.mpr ⟨sn_goto (off := 4) (by decide +kernel) (by decide), ?_⟩
  refine List.forall_mem_cons.mpr ⟨sn_iconst (k := 0) (by decide +kernel) (by decide), ?_⟩
  refine List.forall_mem_cons.mpr ⟨sn_istore_n (k := 1) (by decide +kernel) (by decide), ?_⟩
  refine List.forall_mem_cons.mpr ⟨sn_iinc (d := 1) (by decide +kernel) (by decide) (by decide), ?_⟩
  refine List.forall_mem_cons.mpr ⟨sn_goto (off := (-146)) (by decide +kernel) (by decide), ?_⟩
  refine List.forall_mem_cons.mpr ⟨sn_iload_n (k := 1) (by decide +kernel), ?_⟩
  refine List.forall_mem_cons.mpr ⟨⟨rfl, (by decide +kernel : decode prog_12_method_8_code 154 = .ok (.ireturn, 1))⟩, ?_⟩
  exact fun _ h => absurd h List.not_mem_nil
set_option maxRecDepth 20000 in
theorem ok_124 : ∀ q ∈ mt_124, mx_ok mx_I0 i_124 q.1 q.2 := by
  refine List.forall_mem_cons.mpr ⟨sn_iload_n (k := 0) (by decide +kernel), ?_⟩
  refine List.forall_mem_cons.mpr ⟨sn_table (df := 97) (offs := #[91, 91, 93, 91, 91, 93, 93, 93, 97, 91, 91, 97, 91, 97, 91, 97, 91, 93, 95]) (len := 91) (by decide +kernel) (by decide) (by decide), ?_⟩
  refine List.forall_mem_cons.mpr ⟨sn_iconst (k := 1) (by decide +kernel) (by decide), ?_⟩
  refine List.forall_mem_cons.mpr ⟨⟨rfl, (by decide +kernel : decode prog_12_method_9_code 93 = .ok (.ireturn, 1))⟩, ?_⟩
  refine List.forall_mem_cons.mpr ⟨sn_iconst (k := 2) (by decide +kernel) (by decide), ?_⟩
  refine List.forall_mem_cons.mpr ⟨⟨rfl, (by decide +kernel : decode prog_12_method_9_code 95 = .ok (.ireturn, 1))⟩, ?_⟩
  refine List.forall_mem_cons.mpr ⟨sn_iconst (k := 3) (by decide +kernel) (by decide), ?_⟩
  refine List.forall_mem_cons.mpr ⟨⟨rfl, (by decide +kernel : decode prog_12_method_9_code 97 = .ok (.ireturn, 1))⟩, ?_⟩
  refine List.forall_mem_cons.mpr ⟨sn_iconst (k := 0) (by decide +kernel) (by decide), ?_⟩
  refine List.forall_mem_cons.mpr ⟨⟨rfl, (by decide +kernel : decode prog_12_method_9_code 99 = .ok (.ireturn, 1))⟩, ?_⟩
  exact fun _ h => absurd h List.not_mem_nil
end
section
set_option maxRecDepth 20000 in
theorem ok_125 : ∀ q ∈ mt_125, mx_ok mx_I0 i_125 q.1 q.2 := by
  refine List.forall_mem_cons.mpr ⟨sn_iload_n (k := 0) (by decide +kernel), ?_⟩
  refine List.forall_mem_cons.mpr ⟨sn_table (df := 109) (offs := #[99, 99, 101, 109, 103, 109, 109, 101, 101, 109, 109, 101, 101, 109, 101, 109, 109, 109, 109, 101, 106]) (len := 99) (by decide +kernel) (by decide) (by decide), ?_⟩
  refine List.forall_mem_cons.mpr ⟨sn_iconst (k := 1) (by decide +kernel) (by decide), ?_⟩
  refine List.forall_mem_cons.mpr ⟨⟨rfl, (by decide +kernel : decode prog_12_method_10_code 101 = .ok (.ireturn, 1))⟩, ?_⟩
  refine List.forall_mem_cons.mpr ⟨sn_iconst (k := (-1)) (by decide +kernel) (by decide), ?_⟩
  refine List.forall_mem_cons.mpr ⟨⟨rfl, (by decide +kernel : decode prog_12_method_10_code 103 = .ok (.ireturn, 1))⟩, ?_⟩
  refine List.forall_mem_cons.mpr ⟨sn_bipush (k := (-2)) (by decide +kernel) (by decide), ?_⟩
  refine List.forall_mem_cons.mpr ⟨⟨rfl, (by decide +kernel : decode prog_12_method_10_code 106 = .ok (.ireturn, 1))⟩, ?_⟩
  refine List.forall_mem_cons.mpr ⟨sn_bipush (k := (-3)) (by decide +kernel) (by decide), ?_⟩
  refine List.forall_mem_cons.mpr ⟨⟨rfl, (by decide +kernel : decode prog_12_method_10_code 109 = .ok (.ireturn, 1))⟩, ?_⟩
  refine List.forall_mem_cons.mpr ⟨sn_iconst (k := 0) (by decide +kernel) (by decide), ?_⟩
  refine List.forall_mem_cons.mpr ⟨⟨rfl, (by decide +kernel : decode prog_12_method_10_code 111 = .ok (.ireturn, 1))⟩, ?_⟩
  exact fun _ h => absurd h List.not_mem_nil
set_option maxRecDepth 20000 in
theorem ok_126 : ∀ q ∈ mt_126, mx_ok mx_I0 i_126 q.1 q.2 := by
  refine List.forall_mem_cons.mpr ⟨sn_aload_n (k := 0) (by decide +kernel), ?_⟩
  refine List.forall_mem_cons.mpr ⟨sn_getf (by decide +kernel) rfl tbX10 (by decide) tw_861, ?_⟩
  refine List.forall_mem_cons.mpr ⟨sn_iload_n (k := 1) (by decide +kernel), ?_⟩
  refine List.forall_mem_cons.mpr ⟨sn_iald (by decide +kernel), ?_⟩
  refine List.forall_mem_cons.mpr ⟨sn_istore_n (k := 3) (by decide +kernel) (by decide), ?_⟩
  refine List.forall_mem_cons.mpr ⟨sn_iload_n (k := 3) (by decide +kernel), ?_⟩
  refine List.forall_mem_cons.mpr ⟨sn_bipush (k := 16) (by decide +kernel) (by decide), ?_⟩
  refine List.forall_mem_cons.mpr ⟨sn_icmp_eq (off := 9) (by decide +kernel) (by decide), ?_⟩
  refine List.forall_mem_cons.mpr ⟨sn_iload_n (k := 3) (by decide +kernel), ?_⟩
  refine List.forall_mem_cons.mpr ⟨sn_bipush (k := 17) (by decide +kernel) (by decide), ?_⟩
  refine List.forall_mem_cons.mpr ⟨sn_icmp_ne (off := 7) (by decide +kernel) (by decide), ?_⟩
  refine List.forall_mem_cons.mpr ⟨sn_iconst (k := 1) (by decide +kernel) (by decide), ?_⟩
  refine List.forall_mem_cons.mpr ⟨sn_goto (off := 4) (by decide +kernel) (by decide), ?_⟩
  refine List.forall_mem_cons.mpr ⟨sn_iconst (k := 0) (by decide +kernel) (by decide), ?_⟩
  refine List.forall_mem_cons.mpr ⟨sn_istore (k := 4) (by decide +kernel) (by decide), ?_⟩
  refine List.forall_mem_cons.mpr ⟨sn_iload_n (k := 2) (by decide +kernel), ?_⟩
  refine List.forall_mem_cons.mpr ⟨sn_if_ne (off := 34) (by decide +kernel) (by decide), ?_⟩
  refine List.forall_mem_cons.mpr ⟨sn_iload (k := 4) (by decide +kernel), ?_⟩
  refine List.forall_mem_cons.mpr ⟨sn_if_ne (off := 9) (by decide +kernel) (by decide), ?_⟩
  refine List.forall_mem_cons.mpr ⟨sn_iload_n (k := 3) (by decide +kernel), ?_⟩
  refine List.forall_mem_cons.mpr ⟨sn_bipush (k := 10) (by decide +kernel) (by decide), ?_⟩
  refine List.forall_mem_cons.mpr ⟨sn_icmp_ne (off := 7) (by decide +kernel) (by decide), ?_⟩
  refine List.forall_mem_cons.mpr ⟨sn_iconst (k := (-1)) (by decide +kernel) (by decide), ?_⟩
  refine List.forall_mem_cons.mpr ⟨sn_goto (off := 18) (by decide +kernel) (by decide), ?_⟩
  refine List.forall_mem_cons.mpr ⟨sn_iload_n (k := 3) (by decide +kernel), ?_⟩
  refine List.forall_mem_cons.mpr ⟨sn_bipush (k := 18) (by decide +kernel) (by decide), ?_⟩
  refine List.forall_mem_cons.mpr ⟨sn_icmp_ne (off := 9) (by decide +kernel) (by decide), ?_⟩
  refine List.forall_mem_cons.mpr ⟨sn_iload_n (k := 1) (by decide +kernel), ?_⟩
  refine List.forall_mem_cons.mpr ⟨sn_iconst (k := 2) (by decide +kernel) (by decide), ?_⟩
  refine List.forall_mem_cons.mpr ⟨sn_iadd (by decide +kernel), ?_⟩
  refine List.forall_mem_cons.mpr ⟨sn_goto (off := 6) (by decide +kernel) (by decide), ?_⟩
  refine List.forall_mem_cons.mpr ⟨sn_iload_n (k := 1) (by decide +kernel), ?_⟩
  refine List.forall_mem_cons.mpr ⟨sn_iconst (k := 1) (by decide +kernel) (by decide), ?_⟩
  refine List.forall_mem_cons.mpr ⟨sn_iadd (by decide +kernel), ?_⟩
  refine List.forall_mem_cons.mpr ⟨⟨rfl, (by decide +kernel : decode prog_12_method_11_code 60 = .ok (.ireturn, 1))⟩, ?_⟩
  refine List.forall_mem_cons.mpr ⟨sn_iload_n (k := 3) (by decide +kernel), ?_⟩
  refine List.forall_mem_cons.mpr ⟨sn_bipush (k := 10) (by decide +kernel) (by decide), ?_⟩
  refine List.forall_mem_cons.mpr ⟨sn_bipush (k := 12) (by decide +kernel) (by decide), ?_⟩
  refine List.forall_mem_cons.mpr ⟨⟨i_120, rfl, mk_callS (by decide) (by decide) cs_120 (Or.inl tw_920) (by decide +kernel)⟩, ?_⟩
  refine List.forall_mem_cons.mpr ⟨sn_if_eq (off := 16) (by decide +kernel) (by decide), ?_⟩
  refine List.forall_mem_cons.mpr ⟨sn_aload_n (k := 0) (by decide +kernel), ?_⟩
  refine List.forall_mem_cons.mpr ⟨sn_aload_n (k := 0) (by decide +kernel), ?_⟩
  refine List.forall_mem_cons.mpr ⟨sn_getf (by decide +kernel) rfl tbX10 (by decide) tw_862, ?_⟩
  refine List.forall_mem_cons.mpr ⟨sn_iload_n (k := 1) (by decide +kernel), ?_⟩
  refine List.forall_mem_cons.mpr ⟨sn_iald (by decide +kernel), ?_⟩
  refine List.forall_mem_cons.mpr ⟨⟨i_122, rfl, mk_callV (by decide) (by decide) cv_122 (Or.inl tw_923) rfl (by decide +kernel)⟩, ?_⟩
  refine List.forall_mem_cons.mpr ⟨sn_goto (off := 25) (by decide +kernel) (by decide), ?_⟩
  refine List.forall_mem_cons.mpr ⟨sn_iload_n (k := 3) (by decide +kernel), ?_⟩
  refine List.forall_mem_cons.mpr ⟨sn_bipush (k := 18) (by decide +kernel) (by decide), ?_⟩
  refine List.forall_mem_cons.mpr ⟨sn_icmp_ne (off := 18) (by decide +kernel) (by decide), ?_⟩
  refine List.forall_mem_cons.mpr ⟨sn_aload_n (k := 0) (by decide +kernel), ?_⟩
  refine List.forall_mem_cons.mpr ⟨sn_aload_n (k := 0) (by decide +kernel), ?_⟩
  refine List.forall_mem_cons.mpr ⟨sn_getf (by decide +kernel) rfl tbX10 (by decide) tw_862, ?_⟩
  refine List.forall_mem_cons.mpr ⟨sn_iload_n (k := 1) (by decide +kernel), ?_⟩
  refine List.forall_mem_cons.mpr ⟨sn_iconst (k := 1) (by decide +kernel) (by decide), ?_⟩
  refine List.forall_mem_cons.mpr ⟨sn_iadd (by decide +kernel), ?_⟩
  refine List.forall_mem_cons.mpr ⟨sn_iald (by decide +kernel), ?_⟩
  refine List.forall_mem_cons.mpr ⟨⟨i_122, rfl, mk_callV (by decide) (by decide) cv_122 (Or.inl tw_923) rfl (by decide +kernel)⟩, ?_⟩
  refine List.forall_mem_cons.mpr ⟨sn_goto (off := 4) (by decide +kernel) (by decide), ?_⟩
  refine List.forall_mem_cons.mpr ⟨sn_iconst (k := (-1)) (by decide +kernel) (by decide), ?_⟩
  refine List.forall_mem_cons.mpr ⟨⟨rfl, (by decide +kernel : decode prog_12_method_11_code 107 = .ok (.ireturn, 1))⟩, ?_⟩
  exact fun _ h => absurd h List.not_mem_nil
set_option maxRecDepth 20000 in
theorem ok_127 : ∀ q ∈ mt_127, mx_ok mx_I0 i_127 q.1 q.2 := by
  refine List.forall_mem_cons.mpr ⟨sn_iload_n (k := 1) (by decide +kernel), ?_⟩
  refine List.forall_mem_cons.mpr ⟨sn_aload_n (k := 0) (by decide +kernel), ?_⟩
  refine List.forall_mem_cons.mpr ⟨sn_getf (by decide +kernel) rfl tbX10 (by decide) tw_860, ?_⟩
  refine List.forall_mem_cons.mpr ⟨sn_icmp_ge (off := 29) (by decide +kernel) (by decide), ?_⟩
  refine List.forall_mem_cons.mpr ⟨sn_iload_n (k := 2) (by decide +kernel), ?_⟩
  refine List.forall_mem_cons.mpr ⟨sn_bipush (k := 60) (by decide +kernel) (by decide), ?_⟩
  refine List.forall_mem_cons.mpr ⟨sn_icmp_gt (off := 23) (by decide +kernel) (by decide), ?_⟩
  refine List.forall_mem_cons.mpr ⟨sn_aload_n (k := 0) (by decide +kernel), ?_⟩
  refine List.forall_mem_cons.mpr ⟨sn_getf (by decide +kernel) rfl tbX10 (by decide) tw_867, ?_⟩
  refine List.forall_mem_cons.mpr ⟨sn_iload_n (k := 1) (by decide +kernel), ?_⟩
  refine List.forall_mem_cons.mpr ⟨sn_iald (by decide +kernel), ?_⟩
  refine List.forall_mem_cons.mpr ⟨sn_iconst (k := (-1)) (by decide +kernel) (by decide), ?_⟩
  refine List.forall_mem_cons.mpr ⟨sn_icmp_eq (off := 15) (by decide +kernel) (by decide), ?_⟩
  refine List.forall_mem_cons.mpr ⟨sn_aload_n (k := 0) (by decide +kernel), ?_⟩
  refine List.forall_mem_cons.mpr ⟨sn_getf (by decide +kernel) rfl tbX10 (by decide) tw_867, ?_⟩
  refine List.forall_mem_cons.mpr ⟨sn_iload_n (k := 1) (by decide +kernel), ?_⟩
  refine List.forall_mem_cons.mpr ⟨sn_iald (by decide +kernel), ?_⟩
  refine List.forall_mem_cons.mpr ⟨sn_iload_n (k := 2) (by decide +kernel), ?_⟩
  refine List.forall_mem_cons.mpr ⟨sn_icmp_eq (off := 5) (by decide +kernel) (by decide), ?_⟩
  refine List.forall_mem_cons.mpr ⟨sn_iconst (k := 0) (by decide +kernel) (by decide), ?_⟩
  refine List.forall_mem_cons.mpr ⟨⟨rfl, (by decide +kernel : decode prog_12_method_12_code 35 = .ok (.ireturn, 1))⟩, ?_⟩
  refine List.forall_mem_cons.mpr ⟨sn_aload_n (k := 0) (by decide +kernel), ?_⟩
  refine List.forall_mem_cons.mpr ⟨sn_getf (by decide +kernel) rfl tbX10 (by decide) tw_867, ?_⟩
  refine List.forall_mem_cons.mpr ⟨sn_iload_n (k := 1) (by decide +kernel), ?_⟩
  refine List.forall_mem_cons.mpr ⟨sn_iload_n (k := 2) (by decide +kernel), ?_⟩
  refine List.forall_mem_cons.mpr ⟨sn_iast (by decide +kernel), ?_⟩
  refine List.forall_mem_cons.mpr ⟨sn_iconst (k := 1) (by decide +kernel) (by decide), ?_⟩
  refine List.forall_mem_cons.mpr ⟨⟨rfl, (by decide +kernel : decode prog_12_method_12_code 44 = .ok (.ireturn, 1))⟩, ?_⟩
  exact fun _ h => absurd h List.not_mem_nil
set_option maxRecDepth 20000 in
theorem ok_128 : ∀ q ∈ mt_128, mx_ok mx_I0 i_128 q.1 q.2 := by
  refine List.forall_mem_cons.mpr ⟨sn_iconst (k := 0) (by decide +kernel) (by decide), ?_⟩
  refine List.forall_mem_cons.mpr ⟨sn_istore_n (k := 1) (by decide +kernel) (by decide), ?_⟩
  refine List.forall_mem_cons.mpr ⟨sn_iload_n (k := 1) (by decide +kernel), ?_⟩
  refine List.forall_mem_cons.mpr ⟨sn_aload_n (k := 0) (by decide +kernel), ?_⟩
  refine List.forall_mem_cons.mpr ⟨sn_getf (by decide +kernel) rfl tbX10 (by decide) tw_860, ?_⟩
  refine List.forall_mem_cons.mpr ⟨sn_icmp_ge (off := 23) (by decide +kernel) (by decide), ?_⟩
  refine List.forall_mem_cons.mpr ⟨sn_aload_n (k := 0) (by decide +kernel), ?_⟩
  refine List.forall_mem_cons.mpr ⟨sn_getf (by decide +kernel) rfl tbX10 (by decide) tw_867, ?_⟩
  refine List.forall_mem_cons.mpr ⟨sn_iload_n (k := 1) (by decide +kernel), ?_⟩
  refine List.forall_mem_cons.mpr ⟨sn_iconst (k := (-1)) (by decide +kernel) (by decide), ?_⟩
  refine List.forall_mem_cons.mpr ⟨sn_iast (by decide +kernel), ?_⟩
  refine List.forall_mem_cons.mpr ⟨sn_aload_n (k := 0) (by decide +kernel), ?_⟩
  refine List.forall_mem_cons.mpr ⟨sn_getf (by decide +kernel) rfl tbX10 (by decide) tw_868, ?_⟩
  refine List.forall_mem_cons.mpr ⟨sn_iload_n (k := 1) (by decide +kernel), ?_⟩
  refine List.forall_mem_cons.mpr ⟨sn_iconst (k := 0) (by decide +kernel) (by decide), ?_⟩
  refine List.forall_mem_cons.mpr ⟨sn_zast (by decide +kernel), ?_⟩
  refine List.forall_mem_cons.mpr ⟨sn_iinc (d := 1) (by decide +kernel) (by decide) (by decide), ?_⟩
  refine List.forall_mem_cons.mpr ⟨sn_goto (off := (-25)) (by decide +kernel) (by decide), ?_⟩
  refine List.forall_mem_cons.mpr ⟨sn_aload_n (k := 0) (by decide +kernel), ?_⟩
  refine List.forall_mem_cons.mpr ⟨sn_getf (by decide +kernel) rfl tbX10 (by decide) tw_867, ?_⟩
  refine List.forall_mem_cons.mpr ⟨sn_iconst (k := 0) (by decide +kernel) (by decide), ?_⟩
  refine List.forall_mem_cons.mpr ⟨sn_iconst (k := 0) (by decide +kernel) (by decide), ?_⟩
  refine List.forall_mem_cons.mpr ⟨sn_iast (by decide +kernel), ?_⟩
  refine List.forall_mem_cons.mpr ⟨sn_iconst (k := 1) (by decide +kernel) (by decide), ?_⟩
  refine List.forall_mem_cons.mpr ⟨sn_istore_n (k := 1) (by decide +kernel) (by decide), ?_⟩
  refine List.forall_mem_cons.mpr ⟨sn_iconst (k := 1) (by decide +kernel) (by decide), ?_⟩
  refine List.forall_mem_cons.mpr ⟨sn_istore_n (k := 2) (by decide +kernel) (by decide), ?_⟩
  refine List.forall_mem_cons.mpr ⟨sn_iload_n (k := 2) (by decide +kernel), ?_⟩
  refine List.forall_mem_cons.mpr ⟨sn_if_eq (off := 193) (by decide +kernel) (by decide), ?_⟩
  refine List.forall_mem_cons.mpr ⟨sn_iload_n (k := 1) (by decide +kernel), ?_⟩
  refine List.forall_mem_cons.mpr ⟨sn_if_eq (off := 189) (by decide +kernel) (by decide), ?_⟩
  refine List.forall_mem_cons.mpr ⟨sn_iconst (k := 0) (by decide +kernel) (by decide), ?_⟩
  refine List.forall_mem_cons.mpr ⟨sn_istore_n (k := 2) (by decide +kernel) (by decide), ?_⟩
  refine List.forall_mem_cons.mpr ⟨sn_iconst (k := 0) (by decide +kernel) (by decide), ?_⟩
  refine List.forall_mem_cons.mpr ⟨sn_istore_n (k := 3) (by decide +kernel) (by decide), ?_⟩
  refine List.forall_mem_cons.mpr ⟨sn_iload_n (k := 3) (by decide +kernel), ?_⟩
  refine List.forall_mem_cons.mpr ⟨sn_aload_n (k := 0) (by decide +kernel), ?_⟩
  refine List.forall_mem_cons.mpr ⟨sn_getf (by decide +kernel) rfl tbX10 (by decide) tw_860, ?_⟩
  refine List.forall_mem_cons.mpr ⟨sn_icmp_ge (off := 174) (by decide +kernel) (by decide), ?_⟩
  refine List.forall_mem_cons.mpr ⟨sn_iload_n (k := 1) (by decide +kernel), ?_⟩
  refine List.forall_mem_cons.mpr ⟨sn_if_eq (off := 170) (by decide +kernel) (by decide), ?_⟩
  refine List.forall_mem_cons.mpr ⟨sn_aload_n (k := 0) (by decide +kernel), ?_⟩
  refine List.forall_mem_cons.mpr ⟨sn_getf (by decide +kernel) rfl tbX10 (by decide) tw_867, ?_⟩
  refine List.forall_mem_cons.mpr ⟨sn_iload_n (k := 3) (by decide +kernel), ?_⟩
  refine List.forall_mem_cons.mpr ⟨sn_iald (by decide +kernel), ?_⟩
  refine List.forall_mem_cons.mpr ⟨sn_iconst (k := (-1)) (by decide +kernel) (by decide), ?_⟩
  refine List.forall_mem_cons.mpr ⟨sn_icmp_eq (off := 154) (by decide +kernel) (by decide), ?_⟩
  refine List.forall_mem_cons.mpr ⟨sn_aload_n (k := 0) (by decide +kernel), ?_⟩
  refine List.forall_mem_cons.mpr ⟨sn_getf (by decide +kernel) rfl tbX10 (by decide) tw_868, ?_⟩
  refine List.forall_mem_cons.mpr ⟨sn_iload_n (k := 3) (by decide +kernel), ?_⟩
  refine List.forall_mem_cons.mpr ⟨sn_zald (by decide +kernel), ?_⟩
  refine List.forall_mem_cons.mpr ⟨sn_if_eq (off := 6) (by decide +kernel) (by decide), ?_⟩
  refine List.forall_mem_cons.mpr ⟨sn_goto (off := 142) (by decide +kernel) (by decide), ?_⟩
  refine List.forall_mem_cons.mpr ⟨sn_aload_n (k := 0) (by decide +kernel), ?_⟩
  refine List.forall_mem_cons.mpr ⟨sn_getf (by decide +kernel) rfl tbX10 (by decide) tw_868, ?_⟩
  refine List.forall_mem_cons.mpr ⟨sn_iload_n (k := 3) (by decide +kernel), ?_⟩
  refine List.forall_mem_cons.mpr ⟨sn_iconst (k := 1) (by decide +kernel) (by decide), ?_⟩
  refine List.forall_mem_cons.mpr ⟨sn_zast (by decide +kernel), ?_⟩
  refine List.forall_mem_cons.mpr ⟨sn_iconst (k := 1) (by decide +kernel) (by decide), ?_⟩
  refine List.forall_mem_cons.mpr ⟨sn_istore_n (k := 2) (by decide +kernel) (by decide), ?_⟩
  refine List.forall_mem_cons.mpr ⟨sn_aload_n (k := 0) (by decide +kernel), ?_⟩
  refine List.forall_mem_cons.mpr ⟨sn_getf (by decide +kernel) rfl tbX10 (by decide) tw_867, ?_⟩
  refine List.forall_mem_cons.mpr ⟨sn_iload_n (k := 3) (by decide +kernel), ?_⟩
  refine List.forall_mem_cons.mpr ⟨sn_iald (by decide +kernel), ?_⟩
  refine List.forall_mem_cons.mpr ⟨sn_aload_n (k := 0) (by decide +kernel), ?_⟩
  refine List.forall_mem_cons.mpr ⟨sn_getf (by decide +kernel) rfl tbX10 (by decide) tw_861, ?_⟩
  refine List.forall_mem_cons.mpr ⟨sn_iload_n (k := 3) (by decide +kernel), ?_⟩
  refine List.forall_mem_cons.mpr ⟨sn_iald (by decide +kernel), ?_⟩
  refine List.forall_mem_cons.mpr ⟨⟨i_125, rfl, mk_callS (by decide) (by decide) cs_125 (Or.inl tw_931) (by decide +kernel)⟩, ?_⟩
  refine List.forall_mem_cons.mpr ⟨sn_iadd (by decide +kernel), ?_⟩
  refine List.forall_mem_cons.mpr ⟨sn_istore (k := 4) (by decide +kernel) (by decide), ?_⟩
  refine List.forall_mem_cons.mpr ⟨sn_aload_n (k := 0) (by decide +kernel), ?_⟩
  refine List.forall_mem_cons.mpr ⟨sn_getf (by decide +kernel) rfl tbX10 (by decide) tw_867, ?_⟩
  refine List.forall_mem_cons.mpr ⟨sn_iload_n (k := 3) (by decide +kernel), ?_⟩
  refine List.forall_mem_cons.mpr ⟨sn_iald (by decide +kernel), ?_⟩
  refine List.forall_mem_cons.mpr ⟨sn_aload_n (k := 0) (by decide +kernel), ?_⟩
  refine List.forall_mem_cons.mpr ⟨sn_getf (by decide +kernel) rfl tbX10 (by decide) tw_861, ?_⟩
  refine List.forall_mem_cons.mpr ⟨sn_iload_n (k := 3) (by decide +kernel), ?_⟩
  refine List.forall_mem_cons.mpr ⟨sn_iald (by decide +kernel), ?_⟩
  refine List.forall_mem_cons.mpr ⟨⟨i_124, rfl, mk_callS (by decide) (by decide) cs_124 (Or.inl tw_934) (by decide +kernel)⟩, ?_⟩
  refine List.forall_mem_cons.mpr ⟨sn_icmp_lt (off := 7) (by decide +kernel) (by decide), ?_⟩
  refine List.forall_mem_cons.mpr ⟨sn_iconst (k := 1) (by decide +kernel) (by decide), ?_⟩
  refine List.forall_mem_cons.mpr ⟨sn_goto (off := 4) (by decide +kernel) (by decide), ?_⟩
  refine List.forall_mem_cons.mpr ⟨sn_iconst (k := 0) (by decide +kernel) (by decide), ?_⟩
  refine List.forall_mem_cons.mpr ⟨sn_istore_n (k := 1) (by decide +kernel) (by decide), ?_⟩
  refine List.forall_mem_cons.mpr ⟨sn_iload_n (k := 1) (by decide +kernel), ?_⟩
  refine List.forall_mem_cons.mpr ⟨sn_if_eq (off := 32) (by decide +kernel) (by decide), ?_⟩
  refine List.forall_mem_cons.mpr ⟨sn_aload_n (k := 0) (by decide +kernel), ?_⟩
  refine List.forall_mem_cons.mpr ⟨sn_iload_n (k := 3) (by decide +kernel), ?_⟩
  refine List.forall_mem_cons.mpr ⟨sn_iconst (k := 0) (by decide +kernel) (by decide), ?_⟩
  refine List.forall_mem_cons.mpr ⟨⟨i_126, rfl, mk_callV (by decide) (by decide) cv_126 (Or.inl tw_937) rfl (by decide +kernel)⟩, ?_⟩
  refine List.forall_mem_cons.mpr ⟨sn_iconst (k := (-1)) (by decide +kernel) (by decide), ?_⟩
  refine List.forall_mem_cons.mpr ⟨sn_icmp_eq (off := 18) (by decide +kernel) (by decide), ?_⟩
  refine List.forall_mem_cons.mpr ⟨sn_aload_n (k := 0) (by decide +kernel), ?_⟩
  refine List.forall_mem_cons.mpr ⟨sn_aload_n (k := 0) (by decide +kernel), ?_⟩
  refine List.forall_mem_cons.mpr ⟨sn_iload_n (k := 3) (by decide +kernel), ?_⟩
  refine List.forall_mem_cons.mpr ⟨sn_iconst (k := 0) (by decide +kernel) (by decide), ?_⟩
  refine List.forall_mem_cons.mpr ⟨⟨i_126, rfl, mk_callV (by decide) (by decide) cv_126 (Or.inl tw_937) rfl (by decide +kernel)⟩, ?_⟩
  refine List.forall_mem_cons.mpr ⟨sn_iload (k := 4) (by decide +kernel), ?_⟩
  refine List.forall_mem_cons.mpr ⟨⟨i_127, rfl, mk_callV (by decide) (by decide) cv_127 (Or.inl tw_941) rfl (by decide +kernel)⟩, ?_⟩
  refine List.forall_mem_cons.mpr ⟨sn_if_eq (off := 7) (by decide +kernel) (by decide), ?_⟩
  refine List.forall_mem_cons.mpr ⟨sn_iconst (k := 1) (by decide +kernel) (by decide), ?_⟩
  refine List.forall_mem_cons.mpr ⟨sn_goto (off := 4) (by decide +kernel) (by decide), ?_⟩
  refine List.forall_mem_cons.mpr ⟨sn_iconst (k := 0) (by decide +kernel) (by decide), ?_⟩
  refine List.forall_mem_cons.mpr ⟨sn_istore_n (k := 1) (by decide +kernel) (by decide), ?_⟩
  refine List.forall_mem_cons.mpr ⟨sn_iload_n (k := 1) (by decide +kernel), ?_⟩
  refine List.forall_mem_cons.mpr ⟨sn_if_eq (off := 50) (by decide +kernel) (by decide), ?_⟩
  refine List.forall_mem_cons.mpr ⟨sn_aload_n (k := 0) (by decide +kernel), ?_⟩
  refine List.forall_mem_cons.mpr ⟨sn_iload_n (k := 3) (by decide +kernel), ?_⟩
  refine List.forall_mem_cons.mpr ⟨sn_iconst (k := 1) (by decide +kernel) (by decide), ?_⟩
  refine List.forall_mem_cons.mpr ⟨⟨i_126, rfl, mk_callV (by decide) (by decide) cv_126 (Or.inl tw_937) rfl (by decide +kernel)⟩, ?_⟩
  refine List.forall_mem_cons.mpr ⟨sn_iconst (k := (-1)) (by decide +kernel) (by decide), ?_⟩
  refine List.forall_mem_cons.mpr ⟨sn_icmp_eq (off := 36) (by decide +kernel) (by decide), ?_⟩
  refine List.forall_mem_cons.mpr ⟨sn_aload_n (k := 0) (by decide +kernel), ?_⟩
  refine List.forall_mem_cons.mpr ⟨sn_aload_n (k := 0) (by decide +kernel), ?_⟩
  refine List.forall_mem_cons.mpr ⟨sn_iload_n (k := 3) (by decide +kernel), ?_⟩
  refine List.forall_mem_cons.mpr ⟨sn_iconst (k := 1) (by decide +kernel) (by decide), ?_⟩
  refine List.forall_mem_cons.mpr ⟨⟨i_126, rfl, mk_callV (by decide) (by decide) cv_126 (Or.inl tw_937) rfl (by decide +kernel)⟩, ?_⟩
  refine List.forall_mem_cons.mpr ⟨sn_aload_n (k := 0) (by decide +kernel), ?_⟩
  refine List.forall_mem_cons.mpr ⟨sn_getf (by decide +kernel) rfl tbX10 (by decide) tw_861, ?_⟩
  refine List.forall_mem_cons.mpr ⟨sn_iload_n (k := 3) (by decide +kernel), ?_⟩
  refine List.forall_mem_cons.mpr ⟨sn_iald (by decide +kernel), ?_⟩
  refine List.forall_mem_cons.mpr ⟨sn_bipush (k := 18) (by decide +kernel) (by decide), ?_⟩
  refine List.forall_mem_cons.mpr ⟨sn_icmp_ne (off := 10) (by decide +kernel) (by decide), ?_⟩
  refine List.forall_mem_cons.mpr ⟨sn_iload (k := 4) (by decide +kernel), ?_⟩
  refine List.forall_mem_cons.mpr ⟨sn_iconst (k := 1) (by decide +kernel) (by decide), ?_⟩
  refine List.forall_mem_cons.mpr ⟨sn_isub (by decide +kernel), ?_⟩
  refine List.forall_mem_cons.mpr ⟨sn_goto (off := 5) (by decide +kernel) (by decide), ?_⟩
  refine List.forall_mem_cons.mpr ⟨sn_iload (k := 4) (by decide +kernel), ?_⟩
  refine List.forall_mem_cons.mpr ⟨⟨i_127, rfl, mk_callV (by decide) (by decide) cv_127 (Or.inl tw_941) rfl (by decide +kernel)⟩, ?_⟩
  refine List.forall_mem_cons.mpr ⟨sn_if_eq (off := 7) (by decide +kernel) (by decide), ?_⟩
  refine List.forall_mem_cons.mpr ⟨sn_iconst (k := 1) (by decide +kernel) (by decide), ?_⟩
  refine List.forall_mem_cons.mpr ⟨sn_goto (off := 4) (by decide +kernel) (by decide), ?_⟩
  refine List.forall_mem_cons.mpr ⟨sn_iconst (k := 0) (by decide +kernel) (by decide), ?_⟩
  refine List.forall_mem_cons.mpr ⟨sn_istore_n (k := 1) (by decide +kernel) (by decide), ?_⟩
  refine List.forall_mem_cons.mpr ⟨sn_iinc (d := 1) (by decide +kernel) (by decide) (by decide), ?_⟩
  refine List.forall_mem_cons.mpr ⟨sn_goto (off := (-176)) (by decide +kernel) (by decide), ?_⟩
  refine List.forall_mem_cons.mpr ⟨sn_goto (off := (-191)) (by decide +kernel) (by decide), ?_⟩
  refine List.forall_mem_cons.mpr ⟨sn_iload_n (k := 1) (by decide +kernel), ?_⟩
  refine List.forall_mem_cons.mpr ⟨⟨rfl, (by decide +kernel : decode prog_12_method_13_code 236 = .ok (.ireturn, 1))⟩, ?_⟩
  exact fun _ h => absurd h List.not_mem_nil
set_option maxRecDepth 20000 in
theorem ok_129 : ∀ q ∈ mt_129, mx_ok mx_I0 i_129 q.1 q.2 := by
  refine List.forall_mem_cons.mpr ⟨sn_iconst (k := 0) (by decide +kernel) (by decide), ?_⟩
  refine List.forall_mem_cons.mpr ⟨sn_istore_n (k := 1) (by decide +kernel) (by decide), ?_⟩
  refine List.forall_mem_cons.mpr ⟨sn_iconst (k := 0) (by decide +kernel) (by decide), ?_⟩
  refine List.forall_mem_cons.mpr ⟨sn_istore_n (k := 2) (by decide +kernel) (by decide), ?_⟩
  refine List.forall_mem_cons.mpr ⟨sn_iload_n (k := 2) (by decide +kernel), ?_⟩
  refine List.forall_mem_cons.mpr ⟨sn_aload_n (k := 0) (by decide +kernel), ?_⟩
  refine List.forall_mem_cons.mpr ⟨sn_getf (by decide +kernel) rfl tbX10 (by decide) tw_860, ?_⟩
  refine List.forall_mem_cons.mpr ⟨sn_icmp_ge (off := 58) (by decide +kernel) (by decide), ?_⟩
  refine List.forall_mem_cons.mpr ⟨sn_aload_n (k := 0) (by decide +kernel), ?_⟩
  refine List.forall_mem_cons.mpr ⟨sn_getf (by decide +kernel) rfl tbX10 (by decide) tw_868, ?_⟩
  refine List.forall_mem_cons.mpr ⟨sn_iload_n (k := 2) (by decide +kernel), ?_⟩
  refine List.forall_mem_cons.mpr ⟨sn_aload_n (k := 0) (by decide +kernel), ?_⟩
  refine List.forall_mem_cons.mpr ⟨sn_getf (by decide +kernel) rfl tbX10 (by decide) tw_867, ?_⟩
  refine List.forall_mem_cons.mpr ⟨sn_iload_n (k := 2) (by decide +kernel), ?_⟩
  refine List.forall_mem_cons.mpr ⟨sn_iald (by decide +kernel), ?_⟩
  refine List.forall_mem_cons.mpr ⟨sn_iconst (k := (-1)) (by decide +kernel) (by decide), ?_⟩
  refine List.forall_mem_cons.mpr ⟨sn_icmp_eq (off := 14) (by decide +kernel) (by decide), ?_⟩
  refine List.forall_mem_cons.mpr ⟨sn_aload_n (k := 0) (by decide +kernel), ?_⟩
  refine List.forall_mem_cons.mpr ⟨sn_getf (by decide +kernel) rfl tbX10 (by decide) tw_861, ?_⟩
  refine List.forall_mem_cons.mpr ⟨sn_iload_n (k := 2) (by decide +kernel), ?_⟩
  refine List.forall_mem_cons.mpr ⟨sn_iald (by decide +kernel), ?_⟩
  refine List.forall_mem_cons.mpr ⟨sn_bipush (k := 15) (by decide +kernel) (by decide), ?_⟩
  refine List.forall_mem_cons.mpr ⟨sn_icmp_ne (off := 7) (by decide +kernel) (by decide), ?_⟩
  refine List.forall_mem_cons.mpr ⟨sn_iconst (k := 1) (by decide +kernel) (by decide), ?_⟩
  refine List.forall_mem_cons.mpr ⟨sn_goto (off := 4) (by decide +kernel) (by decide), ?_⟩
  refine List.forall_mem_cons.mpr ⟨sn_iconst (k := 0) (by decide +kernel) (by decide), ?_⟩
  refine List.forall_mem_cons.mpr ⟨sn_zast (by decide +kernel), ?_⟩
  refine List.forall_mem_cons.mpr ⟨sn_iload_n (k := 1) (by decide +kernel), ?_⟩
  refine List.forall_mem_cons.mpr ⟨sn_aload_n (k := 0) (by decide +kernel), ?_⟩
  refine List.forall_mem_cons.mpr ⟨sn_getf (by decide +kernel) rfl tbX10 (by decide) tw_868, ?_⟩
  refine List.forall_mem_cons.mpr ⟨sn_iload_n (k := 2) (by decide +kernel), ?_⟩
  refine List.forall_mem_cons.mpr ⟨sn_zald (by decide +kernel), ?_⟩
  refine List.forall_mem_cons.mpr ⟨sn_if_eq (off := 7) (by decide +kernel) (by decide), ?_⟩
  refine List.forall_mem_cons.mpr ⟨sn_iconst (k := 0) (by decide +kernel) (by decide), ?_⟩
  refine List.forall_mem_cons.mpr ⟨sn_goto (off := 4) (by decide +kernel) (by decide), ?_⟩
  refine List.forall_mem_cons.mpr ⟨sn_iconst (k := 1) (by decide +kernel) (by decide), ?_⟩
  refine List.forall_mem_cons.mpr ⟨sn_iadd (by decide +kernel), ?_⟩
  refine List.forall_mem_cons.mpr ⟨sn_istore_n (k := 1) (by decide +kernel) (by decide), ?_⟩
  refine List.forall_mem_cons.mpr ⟨sn_iinc (d := 1) (by decide +kernel) (by decide) (by decide), ?_⟩
  refine List.forall_mem_cons.mpr ⟨sn_goto (off := (-60)) (by decide +kernel) (by decide), ?_⟩
  refine List.forall_mem_cons.mpr ⟨sn_iconst (k := 1) (by decide +kernel) (by decide), ?_⟩
  refine List.forall_mem_cons.mpr ⟨sn_istore_n (k := 2) (by decide +kernel) (by decide), ?_⟩
  refine List.forall_mem_cons.mpr ⟨sn_iload_n (k := 2) (by decide +kernel), ?_⟩
  refine List.forall_mem_cons.mpr ⟨sn_if_eq (off := 96) (by decide +kernel) (by decide), ?_⟩
  refine List.forall_mem_cons.mpr ⟨sn_iconst (k := 0) (by decide +kernel) (by decide), ?_⟩
  refine List.forall_mem_cons.mpr ⟨sn_istore_n (k := 2) (by decide +kernel) (by decide), ?_⟩
  refine List.forall_mem_cons.mpr ⟨sn_iconst (k := 0) (by decide +kernel) (by decide), ?_⟩
  refine List.forall_mem_cons.mpr ⟨sn_istore_n (k := 3) (by decide +kernel) (by decide), ?_⟩
  refine List.forall_mem_cons.mpr ⟨sn_iload_n (k := 3) (by decide +kernel), ?_⟩
  refine List.forall_mem_cons.mpr ⟨sn_aload_n (k := 0) (by decide +kernel), ?_⟩
  refine List.forall_mem_cons.mpr ⟨sn_getf (by decide +kernel) rfl tbX10 (by decide) tw_860, ?_⟩
  refine List.forall_mem_cons.mpr ⟨sn_icmp_ge (off := 81) (by decide +kernel) (by decide), ?_⟩
  refine List.forall_mem_cons.mpr ⟨sn_aload_n (k := 0) (by decide +kernel), ?_⟩
  refine List.forall_mem_cons.mpr ⟨sn_getf (by decide +kernel) rfl tbX10 (by decide) tw_868, ?_⟩
  refine List.forall_mem_cons.mpr ⟨sn_iload_n (k := 3) (by decide +kernel), ?_⟩
  refine List.forall_mem_cons.mpr ⟨sn_zald (by decide +kernel), ?_⟩
  refine List.forall_mem_cons.mpr ⟨sn_if_eq (off := 6) (by decide +kernel) (by decide), ?_⟩
  refine List.forall_mem_cons.mpr ⟨sn_goto (off := 63) (by decide +kernel) (by decide), ?_⟩
  refine List.forall_mem_cons.mpr ⟨sn_aload_n (k := 0) (by decide +kernel), ?_⟩
  refine List.forall_mem_cons.mpr ⟨sn_iload_n (k := 3) (by decide +kernel), ?_⟩
  refine List.forall_mem_cons.mpr ⟨sn_iconst (k := 0) (by decide +kernel) (by decide), ?_⟩
  refine List.forall_mem_cons.mpr ⟨⟨i_126, rfl, mk_callV (by decide) (by decide) cv_126 (Or.inl tw_937) rfl (by decide +kernel)⟩, ?_⟩
  refine List.forall_mem_cons.mpr ⟨sn_istore (k := 4) (by decide +kernel) (by decide), ?_⟩
  refine List.forall_mem_cons.mpr ⟨sn_aload_n (k := 0) (by decide +kernel), ?_⟩
  refine List.forall_mem_cons.mpr ⟨sn_iload_n (k := 3) (by decide +kernel), ?_⟩
  refine List.forall_mem_cons.mpr ⟨sn_iconst (k := 1) (by decide +kernel) (by decide), ?_⟩
  refine List.forall_mem_cons.mpr ⟨⟨i_126, rfl, mk_callV (by decide) (by decide) cv_126 (Or.inl tw_937) rfl (by decide +kernel)⟩, ?_⟩
  refine List.forall_mem_cons.mpr ⟨sn_istore (k := 5) (by decide +kernel) (by decide), ?_⟩
  refine List.forall_mem_cons.mpr ⟨sn_iload (k := 4) (by decide +kernel), ?_⟩
  refine List.forall_mem_cons.mpr ⟨sn_iconst (k := (-1)) (by decide +kernel) (by decide), ?_⟩
  refine List.forall_mem_cons.mpr ⟨sn_icmp_eq (off := 13) (by decide +kernel) (by decide), ?_⟩
  refine List.forall_mem_cons.mpr ⟨sn_aload_n (k := 0) (by decide +kernel), ?_⟩
  refine List.forall_mem_cons.mpr ⟨sn_getf (by decide +kernel) rfl tbX10 (by decide) tw_868, ?_⟩
  refine List.forall_mem_cons.mpr ⟨sn_iload (k := 4) (by decide +kernel), ?_⟩
  refine List.forall_mem_cons.mpr ⟨sn_zald (by decide +kernel), ?_⟩
  refine List.forall_mem_cons.mpr ⟨sn_if_eq (off := 31) (by decide +kernel) (by decide), ?_⟩
  refine List.forall_mem_cons.mpr ⟨sn_iload (k := 5) (by decide +kernel), ?_⟩
  refine List.forall_mem_cons.mpr ⟨sn_iconst (k := (-1)) (by decide +kernel) (by decide), ?_⟩
  refine List.forall_mem_cons.mpr ⟨sn_icmp_eq (off := 13) (by decide +kernel) (by decide), ?_⟩
  refine List.forall_mem_cons.mpr ⟨sn_aload_n (k := 0) (by decide +kernel), ?_⟩
  refine List.forall_mem_cons.mpr ⟨sn_getf (by decide +kernel) rfl tbX10 (by decide) tw_868, ?_⟩
  refine List.forall_mem_cons.mpr ⟨sn_iload (k := 5) (by decide +kernel), ?_⟩
  refine List.forall_mem_cons.mpr ⟨sn_zald (by decide +kernel), ?_⟩
  refine List.forall_mem_cons.mpr ⟨sn_if_eq (off := 15) (by decide +kernel) (by decide), ?_⟩
  refine List.forall_mem_cons.mpr ⟨sn_aload_n (k := 0) (by decide +kernel), ?_⟩
  refine List.forall_mem_cons.mpr ⟨sn_getf (by decide +kernel) rfl tbX10 (by decide) tw_868, ?_⟩
  refine List.forall_mem_cons.mpr ⟨sn_iload_n (k := 3) (by decide +kernel), ?_⟩
  refine List.forall_mem_cons.mpr ⟨sn_iconst (k := 1) (by decide +kernel) (by decide), ?_⟩
  refine List.forall_mem_cons.mpr ⟨sn_zast (by decide +kernel), ?_⟩
  refine List.forall_mem_cons.mpr ⟨sn_iinc (d := (-1)) (by decide +kernel) (by decide) (by decide), ?_⟩
  refine List.forall_mem_cons.mpr ⟨sn_iconst (k := 1) (by decide +kernel) (by decide), ?_⟩
  refine List.forall_mem_cons.mpr ⟨sn_istore_n (k := 2) (by decide +kernel) (by decide), ?_⟩
  refine List.forall_mem_cons.mpr ⟨sn_iinc (d := 1) (by decide +kernel) (by decide) (by decide), ?_⟩
  refine List.forall_mem_cons.mpr ⟨sn_goto (off := (-83)) (by decide +kernel) (by decide), ?_⟩
  refine List.forall_mem_cons.mpr ⟨sn_goto (off := (-94)) (by decide +kernel) (by decide), ?_⟩
  refine List.forall_mem_cons.mpr ⟨sn_iload_n (k := 1) (by decide +kernel), ?_⟩
  refine List.forall_mem_cons.mpr ⟨sn_if_ne (off := 7) (by decide +kernel) (by decide), ?_⟩
  refine List.forall_mem_cons.mpr ⟨sn_iconst (k := 1) (by decide +kernel) (by decide), ?_⟩
  refine List.forall_mem_cons.mpr ⟨sn_goto (off := 4) (by decide +kernel) (by decide), ?_⟩
  refine List.forall_mem_cons.mpr ⟨sn_iconst (k := 0) (by decide +kernel) (by decide), ?_⟩
  refine List.forall_mem_cons.mpr ⟨⟨rfl, (by decide +kernel : decode prog_12_method_14_code 175 = .ok (.ireturn, 1))⟩, ?_⟩
  exact fun _ h => absurd h List.not_mem_nil
set_option maxRecDepth 20000 in
theorem ok_130 : ∀ q ∈ mt_130, mx_ok mx_I0 i_130 q.1 q.2 := by
  refine List.forall_mem_cons.mpr ⟨sn_aload_n (k := 0) (by decide +kernel), ?_⟩
  refine List.forall_mem_cons.mpr ⟨sn_iconst (k := 0) (by decide +kernel) (by decide), ?_⟩
  refine List.forall_mem_cons.mpr ⟨sn_putf tyX10 (by decide +kernel) rfl tbX10 tyX10_ok nmX10 (by decide) tw_859 (Or.inl rfl) rfl, ?_⟩
  refine List.forall_mem_cons.mpr ⟨sn_aload_n (k := 0) (by decide +kernel), ?_⟩
  refine List.forall_mem_cons.mpr ⟨sn_getf (by decide +kernel) rfl tbX10 (by decide) tw_860, ?_⟩
  refine List.forall_mem_cons.mpr ⟨sn_if_le (off := 28) (by decide +kernel) (by decide), ?_⟩
  refine List.forall_mem_cons.mpr ⟨sn_aload_n (k := 0) (by decide +kernel), ?_⟩
  refine List.forall_mem_cons.mpr ⟨⟨i_123, rfl, mk_callV (by decide) (by decide) cv_123 (Or.inl tw_913) rfl (by decide +kernel)⟩, ?_⟩
  refine List.forall_mem_cons.mpr ⟨sn_if_eq (off := 21) (by decide +kernel) (by decide), ?_⟩
  refine List.forall_mem_cons.mpr ⟨sn_aload_n (k := 0) (by decide +kernel), ?_⟩
  refine List.forall_mem_cons.mpr ⟨⟨i_128, rfl, mk_callV (by decide) (by decide) cv_128 (Or.inl tw_927) rfl (by decide +kernel)⟩, ?_⟩
  refine List.forall_mem_cons.mpr ⟨sn_if_eq (off := 14) (by decide +kernel) (by decide), ?_⟩
  refine List.forall_mem_cons.mpr ⟨sn_aload_n (k := 0) (by decide +kernel), ?_⟩
  refine List.forall_mem_cons.mpr ⟨⟨i_129, rfl, mk_callV (by decide) (by decide) cv_129 (Or.inl tw_945) rfl (by decide +kernel)⟩, ?_⟩
  refine List.forall_mem_cons.mpr ⟨sn_if_eq (off := 7) (by decide +kernel) (by decide), ?_⟩
  refine List.forall_mem_cons.mpr ⟨sn_iconst (k := 1) (by decide +kernel) (by decide), ?_⟩
  refine List.forall_mem_cons.mpr ⟨sn_goto (off := 4) (by decide +kernel) (by decide), ?_⟩
  refine List.forall_mem_cons.mpr ⟨sn_iconst (k := 0) (by decide +kernel) (by decide), ?_⟩
  refine List.forall_mem_cons.mpr ⟨⟨rfl, (by decide +kernel : decode prog_12_method_15_code 38 = .ok (.ireturn, 1))⟩, ?_⟩
  exact fun _ h => absurd h List.not_mem_nil
set_option maxRecDepth 20000 in
theorem ok_131 : ∀ q ∈ mt_131, mx_ok mx_I0 i_131 q.1 q.2 := by
  refine List.forall_mem_cons.mpr ⟨sn_aload_n (k := 0) (by decide +kernel), ?_⟩
  refine List.forall_mem_cons.mpr ⟨sn_dup (by decide +kernel), ?_⟩
  refine List.forall_mem_cons.mpr ⟨sn_getf (by decide +kernel) rfl tbX10 (by decide) tw_870, ?_⟩
  refine List.forall_mem_cons.mpr ⟨sn_iconst (k := 1) (by decide +kernel) (by decide), ?_⟩
  refine List.forall_mem_cons.mpr ⟨sn_isub (by decide +kernel), ?_⟩
  refine List.forall_mem_cons.mpr ⟨sn_putf tyX10 (by decide +kernel) rfl tbX10 tyX10_ok nmX10 (by decide) tw_870 (Or.inl rfl) rfl, ?_⟩
  refine List.forall_mem_cons.mpr ⟨sn_aload_n (k := 0) (by decide +kernel), ?_⟩
  refine List.forall_mem_cons.mpr ⟨sn_getf (by decide +kernel) rfl tbX10 (by decide) tw_869, ?_⟩
  refine List.forall_mem_cons.mpr ⟨sn_aload_n (k := 0) (by decide +kernel), ?_⟩
  refine List.forall_mem_cons.mpr ⟨sn_getf (by decide +kernel) rfl tbX10 (by decide) tw_870, ?_⟩
  refine List.forall_mem_cons.mpr ⟨sn_iald (by decide +kernel), ?_⟩
  refine List.forall_mem_cons.mpr ⟨⟨rfl, (by decide +kernel : decode prog_12_method_16_code 19 = .ok (.ireturn, 1))⟩, ?_⟩
  exact fun _ h => absurd h List.not_mem_nil
set_option maxRecDepth 20000 in
theorem ok_132 : ∀ q ∈ mt_132, mx_ok mx_I0 i_132 q.1 q.2 := by
  refine List.forall_mem_cons.mpr ⟨sn_aload_n (k := 0) (by decide +kernel), ?_⟩
  refine List.forall_mem_cons.mpr ⟨sn_getf (by decide +kernel) rfl tbX10 (by decide) tw_869, ?_⟩
  refine List.forall_mem_cons.mpr ⟨sn_aload_n (k := 0) (by decide +kernel), ?_⟩
  refine List.forall_mem_cons.mpr ⟨sn_getf (by decide +kernel) rfl tbX10 (by decide) tw_870, ?_⟩
  refine List.forall_mem_cons.mpr ⟨sn_iload_n (k := 1) (by decide +kernel), ?_⟩
  refine List.forall_mem_cons.mpr ⟨sn_iast (by decide +kernel), ?_⟩
  refine List.forall_mem_cons.mpr ⟨sn_aload_n (k := 0) (by decide +kernel), ?_⟩
  refine List.forall_mem_cons.mpr ⟨sn_dup (by decide +kernel), ?_⟩
  refine List.forall_mem_cons.mpr ⟨sn_getf (by decide +kernel) rfl tbX10 (by decide) tw_870, ?_⟩
  refine List.forall_mem_cons.mpr ⟨sn_iconst (k := 1) (by decide +kernel) (by decide), ?_⟩
  refine List.forall_mem_cons.mpr ⟨sn_iadd (by decide +kernel), ?_⟩
  refine List.forall_mem_cons.mpr ⟨sn_putf tyX10 (by decide +kernel) rfl tbX10 tyX10_ok nmX10 (by decide) tw_870 (Or.inl rfl) rfl, ?_⟩
  refine List.forall_mem_cons.mpr ⟨⟨rfl, (by decide +kernel : decode prog_12_method_17_code 20 = .ok (.return_, 1))⟩, ?_⟩
  exact fun _ h => absurd h List.not_mem_nil
set_option maxRecDepth 20000 in
theorem ok_133 : ∀ q ∈ mt_133, mx_ok mx_I0 i_133 q.1 q.2 := by
  refine List.forall_mem_cons.mpr ⟨sn_iload_n (k := 2) (by decide +kernel), ?_⟩
  refine List.forall_mem_cons.mpr ⟨sn_if_lt (off := 9) (by decide +kernel) (by decide), ?_⟩
  refine List.forall_mem_cons.mpr ⟨sn_iload_n (k := 2) (by decide +kernel), ?_⟩
  refine List.forall_mem_cons.mpr ⟨sn_bipush (k := 31) (by decide +kernel) (by decide), ?_⟩
  refine List.forall_mem_cons.mpr ⟨sn_icmp_le (off := 7) (by decide +kernel) (by decide), ?_⟩
  refine List.forall_mem_cons.mpr ⟨sn_iconst (k := 1) (by decide +kernel) (by decide), ?_⟩
  refine List.forall_mem_cons.mpr ⟨sn_goto (off := 4) (by decide +kernel) (by decide), ?_⟩
  refine List.forall_mem_cons.mpr ⟨sn_iconst (k := 0) (by decide +kernel) (by decide), ?_⟩
  refine List.forall_mem_cons.mpr ⟨sn_istore_n (k := 3) (by decide +kernel) (by decide), ?_⟩
  refine List.forall_mem_cons.mpr ⟨sn_iload_n (k := 0) (by decide +kernel), ?_⟩
  refine List.forall_mem_cons.mpr ⟨sn_table (df := 124) (offs := #[55, 59, 63, 67, 81, 94, 98, 102, 108, 112]) (len := 55) (by decide +kernel) (by decide) (by decide), ?_⟩
  refine List.forall_mem_cons.mpr ⟨sn_iload_n (k := 1) (by decide +kernel), ?_⟩
  refine List.forall_mem_cons.mpr ⟨sn_iload_n (k := 2) (by decide +kernel), ?_⟩
  refine List.forall_mem_cons.mpr ⟨sn_iadd (by decide +kernel), ?_⟩
  refine List.forall_mem_cons.mpr ⟨⟨rfl, (by decide +kernel : decode prog_12_method_18_code 75 = .ok (.ireturn, 1))⟩, ?_⟩
  refine List.forall_mem_cons.mpr ⟨sn_iload_n (k := 1) (by decide +kernel), ?_⟩
  refine List.forall_mem_cons.mpr ⟨sn_iload_n (k := 2) (by decide +kernel), ?_⟩
  refine List.forall_mem_cons.mpr ⟨sn_isub (by decide +kernel), ?_⟩
  refine List.forall_mem_cons.mpr ⟨⟨rfl, (by decide +kernel : decode prog_12_method_18_code 79 = .ok (.ireturn, 1))⟩, ?_⟩
  refine List.forall_mem_cons.mpr ⟨sn_iload_n (k := 1) (by decide +kernel), ?_⟩
  refine List.forall_mem_cons.mpr ⟨sn_iload_n (k := 2) (by decide +kernel), ?_⟩
  refine List.forall_mem_cons.mpr ⟨sn_imul (by decide +kernel), ?_⟩
  refine List.forall_mem_cons.mpr ⟨⟨rfl, (by decide +kernel : decode prog_12_method_18_code 83 = .ok (.ireturn, 1))⟩, ?_⟩
  refine List.forall_mem_cons.mpr ⟨sn_iload_n (k := 2) (by decide +kernel), ?_⟩
  refine List.forall_mem_cons.mpr ⟨sn_iconst (k := (-1)) (by decide +kernel) (by decide), ?_⟩
  refine List.forall_mem_cons.mpr ⟨sn_icmp_ne (off := 8) (by decide +kernel) (by decide), ?_⟩
  refine List.forall_mem_cons.mpr ⟨sn_iload_n (k := 1) (by decide +kernel), ?_⟩
  refine List.forall_mem_cons.mpr ⟨sn_ineg (by decide +kernel), ?_⟩
  refine List.forall_mem_cons.mpr ⟨sn_goto (off := 6) (by decide +kernel) (by decide), ?_⟩
  refine List.forall_mem_cons.mpr ⟨sn_iload_n (k := 1) (by decide +kernel), ?_⟩
  refine List.forall_mem_cons.mpr ⟨sn_iload_n (k := 2) (by decide +kernel), ?_⟩
  refine List.forall_mem_cons.mpr ⟨sn_idiv (by decide +kernel), ?_⟩
  refine List.forall_mem_cons.mpr ⟨⟨rfl, (by decide +kernel : decode prog_12_method_18_code 97 = .ok (.ireturn, 1))⟩, ?_⟩
  refine List.forall_mem_cons.mpr ⟨sn_iload_n (k := 2) (by decide +kernel), ?_⟩
  refine List.forall_mem_cons.mpr ⟨sn_iconst (k := (-1)) (by decide +kernel) (by decide), ?_⟩
  refine List.forall_mem_cons.mpr ⟨sn_icmp_ne (off := 7) (by decide +kernel) (by decide), ?_⟩
  refine List.forall_mem_cons.mpr ⟨sn_iconst (k := 0) (by decide +kernel) (by decide), ?_⟩
  refine List.forall_mem_cons.mpr ⟨sn_goto (off := 6) (by decide +kernel) (by decide), ?_⟩
  refine List.forall_mem_cons.mpr ⟨sn_iload_n (k := 1) (by decide +kernel), ?_⟩
  refine List.forall_mem_cons.mpr ⟨sn_iload_n (k := 2) (by decide +kernel), ?_⟩
  refine List.forall_mem_cons.mpr ⟨sn_irem (by decide +kernel), ?_⟩
  refine List.forall_mem_cons.mpr ⟨⟨rfl, (by decide +kernel : decode prog_12_method_18_code 110 = .ok (.ireturn, 1))⟩, ?_⟩
  refine List.forall_mem_cons.mpr ⟨sn_iload_n (k := 1) (by decide +kernel), ?_⟩
  refine List.forall_mem_cons.mpr ⟨sn_iload_n (k := 2) (by decide +kernel), ?_⟩
  refine List.forall_mem_cons.mpr ⟨sn_iand (by decide +kernel), ?_⟩
  refine List.forall_mem_cons.mpr ⟨⟨rfl, (by decide +kernel : decode prog_12_method_18_code 114 = .ok (.ireturn, 1))⟩, ?_⟩
  refine List.forall_mem_cons.mpr ⟨sn_iload_n (k := 1) (by decide +kernel), ?_⟩
  refine List.forall_mem_cons.mpr ⟨sn_iload_n (k := 2) (by decide +kernel), ?_⟩
  refine List.forall_mem_cons.mpr ⟨sn_ior (by decide +kernel), ?_⟩
  refine List.forall_mem_cons.mpr ⟨⟨rfl, (by decide +kernel : decode prog_12_method_18_code 118 = .ok (.ireturn, 1))⟩, ?_⟩
  refine List.forall_mem_cons.mpr ⟨sn_iload_n (k := 1) (by decide +kernel), ?_⟩
  refine List.forall_mem_cons.mpr ⟨sn_iload_n (k := 2) (by decide +kernel), ?_⟩
  refine List.forall_mem_cons.mpr ⟨sn_ixor (by decide +kernel), ?_⟩
  refine List.forall_mem_cons.mpr ⟨sn_iconst (k := (-1)) (by decide +kernel) (by decide), ?_⟩
  refine List.forall_mem_cons.mpr ⟨sn_ixor (by decide +kernel), ?_⟩
  refine List.forall_mem_cons.mpr ⟨⟨rfl, (by decide +kernel : decode prog_12_method_18_code 124 = .ok (.ireturn, 1))⟩, ?_⟩
  refine List.forall_mem_cons.mpr ⟨sn_iload_n (k := 1) (by decide +kernel), ?_⟩
  refine List.forall_mem_cons.mpr ⟨sn_iload_n (k := 2) (by decide +kernel), ?_⟩
  refine List.forall_mem_cons.mpr ⟨sn_ixor (by decide +kernel), ?_⟩
  refine List.forall_mem_cons.mpr ⟨⟨rfl, (by decide +kernel : decode prog_12_method_18_code 128 = .ok (.ireturn, 1))⟩, ?_⟩
  refine List.forall_mem_cons.mpr ⟨sn_iload_n (k := 3) (by decide +kernel), ?_⟩
  refine List.forall_mem_cons.mpr ⟨sn_if_eq (off := 7) (by decide +kernel) (by decide), ?_⟩
  refine List.forall_mem_cons.mpr ⟨sn_iconst (k := 0) (by decide +kernel) (by decide), ?_⟩
  refine List.forall_mem_cons.mpr ⟨sn_goto (off := 6) (by decide +kernel) (by decide), ?_⟩
  refine List.forall_mem_cons.mpr ⟨sn_iload_n (k := 1) (by decide +kernel), ?_⟩
  refine List.forall_mem_cons.mpr ⟨sn_iload_n (k := 2) (by decide +kernel), ?_⟩
  refine List.forall_mem_cons.mpr ⟨sn_ishl (by decide +kernel), ?_⟩
  refine List.forall_mem_cons.mpr ⟨⟨rfl, (by decide +kernel : decode prog_12_method_18_code 140 = .ok (.ireturn, 1))⟩, ?_⟩
  refine List.forall_mem_cons.mpr ⟨sn_iload_n (k := 3) (by decide +kernel), ?_⟩
  refine List.forall_mem_cons.mpr ⟨sn_if_eq (off := 7) (by decide +kernel) (by decide), ?_⟩
  refine List.forall_mem_cons.mpr ⟨sn_iconst (k := 0) (by decide +kernel) (by decide), ?_⟩
  refine List.forall_mem_cons.mpr ⟨sn_goto (off := 6) (by decide +kernel) (by decide), ?_⟩
  refine List.forall_mem_cons.mpr ⟨sn_iload_n (k := 1) (by decide +kernel), ?_⟩
  refine List.forall_mem_cons.mpr ⟨sn_iload_n (k := 2) (by decide +kernel), ?_⟩
  refine List.forall_mem_cons.mpr ⟨sn_iushr (by decide +kernel), ?_⟩
  refine List.forall_mem_cons.mpr ⟨⟨rfl, (by decide +kernel : decode prog_12_method_18_code 152 = .ok (.ireturn, 1))⟩, ?_⟩
  exact fun _ h => absurd h List.not_mem_nil
set_option maxRecDepth 20000 in
theorem ok_134 : ∀ q ∈ mt_134, mx_ok mx_I0 i_134 q.1 q.2 := by
  refine List.forall_mem_cons.mpr ⟨sn_iload_n (k := 0) (by decide +kernel), ?_⟩
  refine List.forall_mem_cons.mpr ⟨sn_table (df := 90) (offs := #[35, 46, 57, 68, 79]) (len := 35) (by decide +kernel) (by decide) (by decide), ?_⟩
  refine List.forall_mem_cons.mpr ⟨sn_iload_n (k := 1) (by decide +kernel), ?_⟩
  refine List.forall_mem_cons.mpr ⟨sn_iload_n (k := 2) (by decide +kernel), ?_⟩
  refine List.forall_mem_cons.mpr ⟨sn_icmp_ne (off := 7) (by decide +kernel) (by decide), ?_⟩
  refine List.forall_mem_cons.mpr ⟨sn_iconst (k := 1) (by decide +kernel) (by decide), ?_⟩
  refine List.forall_mem_cons.mpr ⟨sn_goto (off := 4) (by decide +kernel) (by decide), ?_⟩
  refine List.forall_mem_cons.mpr ⟨sn_iconst (k := 0) (by decide +kernel) (by decide), ?_⟩
  refine List.forall_mem_cons.mpr ⟨⟨rfl, (by decide +kernel : decode prog_12_method_19_code 46 = .ok (.ireturn, 1))⟩, ?_⟩
  refine List.forall_mem_cons.mpr ⟨sn_iload_n (k := 1) (by decide +kernel), ?_⟩
  refine List.forall_mem_cons.mpr ⟨sn_iload_n (k := 2) (by decide +kernel), ?_⟩
  refine List.forall_mem_cons.mpr ⟨sn_icmp_eq (off := 7) (by decide +kernel) (by decide), ?_⟩
  refine List.forall_mem_cons.mpr ⟨sn_iconst (k := 1) (by decide +kernel) (by decide), ?_⟩
  refine List.forall_mem_cons.mpr ⟨sn_goto (off := 4) (by decide +kernel) (by decide), ?_⟩
  refine List.forall_mem_cons.mpr ⟨sn_iconst (k := 0) (by decide +kernel) (by decide), ?_⟩
  refine List.forall_mem_cons.mpr ⟨⟨rfl, (by decide +kernel : decode prog_12_method_19_code 57 = .ok (.ireturn, 1))⟩, ?_⟩
  refine List.forall_mem_cons.mpr ⟨sn_iload_n (k := 1) (by decide +kernel), ?_⟩
  refine List.forall_mem_cons.mpr ⟨sn_iload_n (k := 2) (by decide +kernel), ?_⟩
  refine List.forall_mem_cons.mpr ⟨sn_icmp_ge (off := 7) (by decide +kernel) (by decide), ?_⟩
  refine List.forall_mem_cons.mpr ⟨sn_iconst (k := 1) (by decide +kernel) (by decide), ?_⟩
  refine List.forall_mem_cons.mpr ⟨sn_goto (off := 4) (by decide +kernel) (by decide), ?_⟩
  refine List.forall_mem_cons.mpr ⟨sn_iconst (k := 0) (by decide +kernel) (by decide), ?_⟩
  refine List.forall_mem_cons.mpr ⟨⟨rfl, (by decide +kernel : decode prog_12_method_19_code 68 = .ok (.ireturn, 1))⟩, ?_⟩
  refine List.forall_mem_cons.mpr ⟨sn_iload_n (k := 1) (by decide +kernel), ?_⟩
  refine List.forall_mem_cons.mpr ⟨sn_iload_n (k := 2) (by decide +kernel), ?_⟩
  refine List.forall_mem_cons.mpr ⟨sn_icmp_gt (off := 7) (by decide +kernel) (by decide), ?_⟩
  refine List.forall_mem_cons.mpr ⟨sn_iconst (k := 1) (by decide +kernel) (by decide), ?_⟩
  refine List.forall_mem_cons.mpr ⟨sn_goto (off := 4) (by decide +kernel) (by decide), ?_⟩
  refine List.forall_mem_cons.mpr ⟨sn_iconst (k := 0) (by decide +kernel) (by decide), ?_⟩
  refine List.forall_mem_cons.mpr ⟨⟨rfl, (by decide +kernel : decode prog_12_method_19_code 79 = .ok (.ireturn, 1))⟩, ?_⟩
  refine List.forall_mem_cons.mpr ⟨sn_iload_n (k := 1) (by decide +kernel), ?_⟩
  refine List.forall_mem_cons.mpr ⟨sn_iload_n (k := 2) (by decide +kernel), ?_⟩
  refine List.forall_mem_cons.mpr ⟨sn_icmp_le (off := 7) (by decide +kernel) (by decide), ?_⟩
  refine List.forall_mem_cons.mpr ⟨sn_iconst (k := 1) (by decide +kernel) (by decide), ?_⟩
  refine List.forall_mem_cons.mpr ⟨sn_goto (off := 4) (by decide +kernel) (by decide), ?_⟩
  refine List.forall_mem_cons.mpr ⟨sn_iconst (k := 0) (by decide +kernel) (by decide), ?_⟩
  refine List.forall_mem_cons.mpr ⟨⟨rfl, (by decide +kernel : decode prog_12_method_19_code 90 = .ok (.ireturn, 1))⟩, ?_⟩
  refine List.forall_mem_cons.mpr ⟨sn_iload_n (k := 1) (by decide +kernel), ?_⟩
  refine List.forall_mem_cons.mpr ⟨sn_iload_n (k := 2) (by decide +kernel), ?_⟩
  refine List.forall_mem_cons.mpr ⟨sn_icmp_lt (off := 7) (by decide +kernel) (by decide), ?_⟩
  refine List.forall_mem_cons.mpr ⟨sn_iconst (k := 1) (by decide +kernel) (by decide), ?_⟩
  refine List.forall_mem_cons.mpr ⟨sn_goto (off := 4) (by decide +kernel) (by decide), ?_⟩
  refine List.forall_mem_cons.mpr ⟨sn_iconst (k := 0) (by decide +kernel) (by decide), ?_⟩
  refine List.forall_mem_cons.mpr ⟨⟨rfl, (by decide +kernel : decode prog_12_method_19_code 101 = .ok (.ireturn, 1))⟩, ?_⟩
  exact fun _ h => absurd h List.not_mem_nil
set_option maxRecDepth 20000 in
theorem ok_135 : ∀ q ∈ mt_135, mx_ok mx_I0 i_135 q.1 q.2 := by
  refine List.forall_mem_cons.mpr ⟨sn_iload_n (k := 0) (by decide +kernel), ?_⟩
  refine List.forall_mem_cons.mpr ⟨sn_i2l (by decide +kernel), ?_⟩
  refine List.forall_mem_cons.mpr ⟨sn_iload_n (k := 1) (by decide +kernel), ?_⟩
  refine List.forall_mem_cons.mpr ⟨sn_iconst (k := 2) (by decide +kernel) (by decide), ?_⟩
  refine List.forall_mem_cons.mpr ⟨sn_ishr (by decide +kernel), ?_⟩
  refine List.forall_mem_cons.mpr ⟨sn_i2l (by decide +kernel), ?_⟩
  refine List.forall_mem_cons.mpr ⟨sn_ladd (by decide +kernel), ?_⟩
  refine List.forall_mem_cons.mpr ⟨sn_lstore_n (k := 2) (by decide +kernel) (by decide), ?_⟩
  refine List.forall_mem_cons.mpr ⟨sn_lload_n (k := 2) (by decide +kernel), ?_⟩
  refine List.forall_mem_cons.mpr ⟨sn_lconst (k := 0) (by decide +kernel) (by decide), ?_⟩
  refine List.forall_mem_cons.mpr ⟨sn_lcmp (by decide +kernel), ?_⟩
  refine List.forall_mem_cons.mpr ⟨sn_if_lt (off := 11) (by decide +kernel) (by decide), ?_⟩
  refine List.forall_mem_cons.mpr ⟨sn_lload_n (k := 2) (by decide +kernel), ?_⟩
  refine List.forall_mem_cons.mpr ⟨sn_ldc2 (by decide +kernel) tw_975, ?_⟩
  refine List.forall_mem_cons.mpr ⟨sn_lcmp (by decide +kernel), ?_⟩
  refine List.forall_mem_cons.mpr ⟨sn_if_le (off := 7) (by decide +kernel) (by decide), ?_⟩
  refine List.forall_mem_cons.mpr ⟨sn_iconst (k := (-1)) (by decide +kernel) (by decide), ?_⟩
  refine List.forall_mem_cons.mpr ⟨sn_goto (off := 5) (by decide +kernel) (by decide), ?_⟩
  refine List.forall_mem_cons.mpr ⟨sn_lload_n (k := 2) (by decide +kernel), ?_⟩
  refine List.forall_mem_cons.mpr ⟨sn_l2i (by decide +kernel), ?_⟩
  refine List.forall_mem_cons.mpr ⟨⟨rfl, (by decide +kernel : decode prog_12_method_20_code 28 = .ok (.ireturn, 1))⟩, ?_⟩
  exact fun _ h => absurd h List.not_mem_nil
end
section
set_option maxRecDepth 20000 in
theorem ok_136 : ∀ q ∈ mt_136, mx_ok mx_I0 i_136 q.1 q.2 := by
  refine List.forall_mem_cons.mpr ⟨sn_iload_n (k := 1) (by decide +kernel), ?_⟩
  refine List.forall_mem_cons.mpr ⟨sn_table (df := 425) (offs := #[99, 106, 118, 130, 179, 215, 226, 238, 279, 311, 425, 425, 425, 425, 349, 425, 425, 425, 425, 356, 420]) (len := 99) (by decide +kernel) (by decide) (by decide), ?_⟩
  refine List.forall_mem_cons.mpr ⟨sn_aload_n (k := 0) (by decide +kernel), ?_⟩
  refine List.forall_mem_cons.mpr ⟨sn_iload_n (k := 2) (by decide +kernel), ?_⟩
  refine List.forall_mem_cons.mpr ⟨⟨i_132, rfl, mk_callV (by decide) (by decide) cv_132 (Or.inl tw_962) rfl (by decide +kernel)⟩, ?_⟩
  refine List.forall_mem_cons.mpr ⟨sn_iconst (k := 0) (by decide +kernel) (by decide), ?_⟩
  refine List.forall_mem_cons.mpr ⟨⟨rfl, (by decide +kernel : decode prog_12_method_21_code 106 = .ok (.ireturn, 1))⟩, ?_⟩
  refine List.forall_mem_cons.mpr ⟨sn_aload_n (k := 0) (by decide +kernel), ?_⟩
  refine List.forall_mem_cons.mpr ⟨sn_aload_n (k := 0) (by decide +kernel), ?_⟩
  refine List.forall_mem_cons.mpr ⟨sn_getf (by decide +kernel) rfl tbX10 (by decide) tw_863, ?_⟩
  refine List.forall_mem_cons.mpr ⟨sn_iload_n (k := 2) (by decide +kernel), ?_⟩
  refine List.forall_mem_cons.mpr ⟨sn_iald (by decide +kernel), ?_⟩
  refine List.forall_mem_cons.mpr ⟨⟨i_132, rfl, mk_callV (by decide) (by decide) cv_132 (Or.inl tw_962) rfl (by decide +kernel)⟩, ?_⟩
  refine List.forall_mem_cons.mpr ⟨sn_iconst (k := 0) (by decide +kernel) (by decide), ?_⟩
  refine List.forall_mem_cons.mpr ⟨⟨rfl, (by decide +kernel : decode prog_12_method_21_code 118 = .ok (.ireturn, 1))⟩, ?_⟩
  refine List.forall_mem_cons.mpr ⟨sn_aload_n (k := 0) (by decide +kernel), ?_⟩
  refine List.forall_mem_cons.mpr ⟨sn_getf (by decide +kernel) rfl tbX10 (by decide) tw_863, ?_⟩
  refine List.forall_mem_cons.mpr ⟨sn_iload_n (k := 2) (by decide +kernel), ?_⟩
  refine List.forall_mem_cons.mpr ⟨sn_aload_n (k := 0) (by decide +kernel), ?_⟩
  refine List.forall_mem_cons.mpr ⟨⟨i_131, rfl, mk_callV (by decide) (by decide) cv_131 (Or.inl tw_954) rfl (by decide +kernel)⟩, ?_⟩
  refine List.forall_mem_cons.mpr ⟨sn_iast (by decide +kernel), ?_⟩
  refine List.forall_mem_cons.mpr ⟨sn_iconst (k := 0) (by decide +kernel) (by decide), ?_⟩
  refine List.forall_mem_cons.mpr ⟨⟨rfl, (by decide +kernel : decode prog_12_method_21_code 130 = .ok (.ireturn, 1))⟩, ?_⟩
  refine List.forall_mem_cons.mpr ⟨sn_aload_n (k := 0) (by decide +kernel), ?_⟩
  refine List.forall_mem_cons.mpr ⟨⟨i_131, rfl, mk_callV (by decide) (by decide) cv_131 (Or.inl tw_954) rfl (by decide +kernel)⟩, ?_⟩
  refine List.forall_mem_cons.mpr ⟨sn_istore (k := 5) (by decide +kernel) (by decide), ?_⟩
  refine List.forall_mem_cons.mpr ⟨sn_aload_n (k := 0) (by decide +kernel), ?_⟩
  refine List.forall_mem_cons.mpr ⟨sn_iload (k := 5) (by decide +kernel), ?_⟩
  refine List.forall_mem_cons.mpr ⟨sn_iconst (k := 0) (by decide +kernel) (by decide), ?_⟩
  refine List.forall_mem_cons.mpr ⟨sn_bipush (k := 63) (by decide +kernel) (by decide), ?_⟩
  refine List.forall_mem_cons.mpr ⟨⟨i_120, rfl, mk_callS (by decide) (by decide) cs_120 (Or.inl tw_920) (by decide +kernel)⟩, ?_⟩
  refine List.forall_mem_cons.mpr ⟨sn_if_eq (off := 13) (by decide +kernel) (by decide), ?_⟩
  refine List.forall_mem_cons.mpr ⟨sn_aload_n (k := 0) (by decide +kernel), ?_⟩
  refine List.forall_mem_cons.mpr ⟨sn_getf (by decide +kernel) rfl tbX10 (by decide) tw_864, ?_⟩
  refine List.forall_mem_cons.mpr ⟨sn_iload (k := 5) (by decide +kernel), ?_⟩
  refine List.forall_mem_cons.mpr ⟨sn_iald (by decide +kernel), ?_⟩
  refine List.forall_mem_cons.mpr ⟨sn_goto (off := 4) (by decide +kernel) (by decide), ?_⟩
  refine List.forall_mem_cons.mpr ⟨sn_iconst (k := 0) (by decide +kernel) (by decide), ?_⟩
  refine List.forall_mem_cons.mpr ⟨⟨i_132, rfl, mk_callV (by decide) (by decide) cv_132 (Or.inl tw_962) rfl (by decide +kernel)⟩, ?_⟩
  refine List.forall_mem_cons.mpr ⟨sn_iload (k := 5) (by decide +kernel), ?_⟩
  refine List.forall_mem_cons.mpr ⟨sn_iconst (k := 0) (by decide +kernel) (by decide), ?_⟩
  refine List.forall_mem_cons.mpr ⟨sn_bipush (k := 63) (by decide +kernel) (by decide), ?_⟩
  refine List.forall_mem_cons.mpr ⟨⟨i_120, rfl, mk_callS (by decide) (by decide) cs_120 (Or.inl tw_920) (by decide +kernel)⟩, ?_⟩
  refine List.forall_mem_cons.mpr ⟨sn_if_eq (off := 7) (by decide +kernel) (by decide), ?_⟩
  refine List.forall_mem_cons.mpr ⟨sn_iconst (k := 0) (by decide +kernel) (by decide), ?_⟩
  refine List.forall_mem_cons.mpr ⟨sn_goto (off := 4) (by decide +kernel) (by decide), ?_⟩
  refine List.forall_mem_cons.mpr ⟨sn_iconst (k := 2) (by decide +kernel) (by decide), ?_⟩
  refine List.forall_mem_cons.mpr ⟨⟨rfl, (by decide +kernel : decode prog_12_method_21_code 179 = .ok (.ireturn, 1))⟩, ?_⟩
  refine List.forall_mem_cons.mpr ⟨sn_aload_n (k := 0) (by decide +kernel), ?_⟩
  refine List.forall_mem_cons.mpr ⟨⟨i_131, rfl, mk_callV (by decide) (by decide) cv_131 (Or.inl tw_954) rfl (by decide +kernel)⟩, ?_⟩
  refine List.forall_mem_cons.mpr ⟨sn_istore (k := 5) (by decide +kernel) (by decide), ?_⟩
  refine List.forall_mem_cons.mpr ⟨sn_aload_n (k := 0) (by decide +kernel), ?_⟩
  refine List.forall_mem_cons.mpr ⟨⟨i_131, rfl, mk_callV (by decide) (by decide) cv_131 (Or.inl tw_954) rfl (by decide +kernel)⟩, ?_⟩
  refine List.forall_mem_cons.mpr ⟨sn_istore (k := 6) (by decide +kernel) (by decide), ?_⟩
  refine List.forall_mem_cons.mpr ⟨sn_iload (k := 5) (by decide +kernel), ?_⟩
  refine List.forall_mem_cons.mpr ⟨sn_iconst (k := 0) (by decide +kernel) (by decide), ?_⟩
  refine List.forall_mem_cons.mpr ⟨sn_bipush (k := 63) (by decide +kernel) (by decide), ?_⟩
  refine List.forall_mem_cons.mpr ⟨⟨i_120, rfl, mk_callS (by decide) (by decide) cs_120 (Or.inl tw_920) (by decide +kernel)⟩, ?_⟩
  refine List.forall_mem_cons.mpr ⟨sn_if_ne (off := 5) (by decide +kernel) (by decide), ?_⟩
  refine List.forall_mem_cons.mpr ⟨sn_iconst (k := 2) (by decide +kernel) (by decide), ?_⟩
  refine List.forall_mem_cons.mpr ⟨⟨rfl, (by decide +kernel : decode prog_12_method_21_code 204 = .ok (.ireturn, 1))⟩, ?_⟩
  refine List.forall_mem_cons.mpr ⟨sn_aload_n (k := 0) (by decide +kernel), ?_⟩
  refine List.forall_mem_cons.mpr ⟨sn_getf (by decide +kernel) rfl tbX10 (by decide) tw_864, ?_⟩
  refine List.forall_mem_cons.mpr ⟨sn_iload (k := 5) (by decide +kernel), ?_⟩
  refine List.forall_mem_cons.mpr ⟨sn_iload (k := 6) (by decide +kernel), ?_⟩
  refine List.forall_mem_cons.mpr ⟨sn_iast (by decide +kernel), ?_⟩
  refine List.forall_mem_cons.mpr ⟨sn_iconst (k := 0) (by decide +kernel) (by decide), ?_⟩
  refine List.forall_mem_cons.mpr ⟨⟨rfl, (by decide +kernel : decode prog_12_method_21_code 215 = .ok (.ireturn, 1))⟩, ?_⟩
  refine List.forall_mem_cons.mpr ⟨sn_aload_n (k := 0) (by decide +kernel), ?_⟩
  refine List.forall_mem_cons.mpr ⟨sn_aload_n (k := 0) (by decide +kernel), ?_⟩
  refine List.forall_mem_cons.mpr ⟨⟨i_131, rfl, mk_callV (by decide) (by decide) cv_131 (Or.inl tw_954) rfl (by decide +kernel)⟩, ?_⟩
  refine List.forall_mem_cons.mpr ⟨sn_ineg (by decide +kernel), ?_⟩
  refine List.forall_mem_cons.mpr ⟨⟨i_132, rfl, mk_callV (by decide) (by decide) cv_132 (Or.inl tw_962) rfl (by decide +kernel)⟩, ?_⟩
  refine List.forall_mem_cons.mpr ⟨sn_iconst (k := 0) (by decide +kernel) (by decide), ?_⟩
  refine List.forall_mem_cons.mpr ⟨⟨rfl, (by decide +kernel : decode prog_12_method_21_code 226 = .ok (.ireturn, 1))⟩, ?_⟩
  refine List.forall_mem_cons.mpr ⟨sn_aload_n (k := 0) (by decide +kernel), ?_⟩
  refine List.forall_mem_cons.mpr ⟨sn_aload_n (k := 0) (by decide +kernel), ?_⟩
  refine List.forall_mem_cons.mpr ⟨⟨i_131, rfl, mk_callV (by decide) (by decide) cv_131 (Or.inl tw_954) rfl (by decide +kernel)⟩, ?_⟩
  refine List.forall_mem_cons.mpr ⟨sn_iconst (k := (-1)) (by decide +kernel) (by decide), ?_⟩
  refine List.forall_mem_cons.mpr ⟨sn_ixor (by decide +kernel), ?_⟩
  refine List.forall_mem_cons.mpr ⟨⟨i_132, rfl, mk_callV (by decide) (by decide) cv_132 (Or.inl tw_962) rfl (by decide +kernel)⟩, ?_⟩
  refine List.forall_mem_cons.mpr ⟨sn_iconst (k := 0) (by decide +kernel) (by decide), ?_⟩
  refine List.forall_mem_cons.mpr ⟨⟨rfl, (by decide +kernel : decode prog_12_method_21_code 238 = .ok (.ireturn, 1))⟩, ?_⟩
  refine List.forall_mem_cons.mpr ⟨sn_aload_n (k := 0) (by decide +kernel), ?_⟩
  refine List.forall_mem_cons.mpr ⟨⟨i_131, rfl, mk_callV (by decide) (by decide) cv_131 (Or.inl tw_954) rfl (by decide +kernel)⟩, ?_⟩
  refine List.forall_mem_cons.mpr ⟨sn_istore (k := 4) (by decide +kernel) (by decide), ?_⟩
  refine List.forall_mem_cons.mpr ⟨sn_aload_n (k := 0) (by decide +kernel), ?_⟩
  refine List.forall_mem_cons.mpr ⟨⟨i_131, rfl, mk_callV (by decide) (by decide) cv_131 (Or.inl tw_954) rfl (by decide +kernel)⟩, ?_⟩
  refine List.forall_mem_cons.mpr ⟨sn_istore_n (k := 3) (by decide +kernel) (by decide), ?_⟩
  refine List.forall_mem_cons.mpr ⟨sn_iload_n (k := 2) (by decide +kernel), ?_⟩
  refine List.forall_mem_cons.mpr ⟨sn_iconst (k := 3) (by decide +kernel) (by decide), ?_⟩
  refine List.forall_mem_cons.mpr ⟨sn_icmp_eq (off := 8) (by decide +kernel) (by decide), ?_⟩
  refine List.forall_mem_cons.mpr ⟨sn_iload_n (k := 2) (by decide +kernel), ?_⟩
  refine List.forall_mem_cons.mpr ⟨sn_iconst (k := 4) (by decide +kernel) (by decide), ?_⟩
  refine List.forall_mem_cons.mpr ⟨sn_icmp_ne (off := 10) (by decide +kernel) (by decide), ?_⟩
  refine List.forall_mem_cons.mpr ⟨sn_iload (k := 4) (by decide +kernel), ?_⟩
  refine List.forall_mem_cons.mpr ⟨sn_if_ne (off := 5) (by decide +kernel) (by decide), ?_⟩
  refine List.forall_mem_cons.mpr ⟨sn_iconst (k := 3) (by decide +kernel) (by decide), ?_⟩
  refine List.forall_mem_cons.mpr ⟨⟨rfl, (by decide +kernel : decode prog_12_method_21_code 266 = .ok (.ireturn, 1))⟩, ?_⟩
  refine List.forall_mem_cons.mpr ⟨sn_aload_n (k := 0) (by decide +kernel), ?_⟩
  refine List.forall_mem_cons.mpr ⟨sn_iload_n (k := 2) (by decide +kernel), ?_⟩
  refine List.forall_mem_cons.mpr ⟨sn_iload_n (k := 3) (by decide +kernel), ?_⟩
  refine List.forall_mem_cons.mpr ⟨sn_iload (k := 4) (by decide +kernel), ?_⟩
  refine List.forall_mem_cons.mpr ⟨⟨i_133, rfl, mk_callS (by decide) (by decide) cs_133 (Or.inl tw_966) (by decide +kernel)⟩, ?_⟩
  refine List.forall_mem_cons.mpr ⟨⟨i_132, rfl, mk_callV (by decide) (by decide) cv_132 (Or.inl tw_962) rfl (by decide +kernel)⟩, ?_⟩
  refine List.forall_mem_cons.mpr ⟨sn_iconst (k := 0) (by decide +kernel) (by decide), ?_⟩
  refine List.forall_mem_cons.mpr ⟨⟨rfl, (by decide +kernel : decode prog_12_method_21_code 279 = .ok (.ireturn, 1))⟩, ?_⟩
  refine List.forall_mem_cons.mpr ⟨sn_aload_n (k := 0) (by decide +kernel), ?_⟩
  refine List.forall_mem_cons.mpr ⟨⟨i_131, rfl, mk_callV (by decide) (by decide) cv_131 (Or.inl tw_954) rfl (by decide +kernel)⟩, ?_⟩
  refine List.forall_mem_cons.mpr ⟨sn_istore (k := 4) (by decide +kernel) (by decide), ?_⟩
  refine List.forall_mem_cons.mpr ⟨sn_aload_n (k := 0) (by decide +kernel), ?_⟩
  refine List.forall_mem_cons.mpr ⟨⟨i_131, rfl, mk_callV (by decide) (by decide) cv_131 (Or.inl tw_954) rfl (by decide +kernel)⟩, ?_⟩
  refine List.forall_mem_cons.mpr ⟨sn_istore_n (k := 3) (by decide +kernel) (by decide), ?_⟩
  refine List.forall_mem_cons.mpr ⟨sn_aload_n (k := 0) (by decide +kernel), ?_⟩
  refine List.forall_mem_cons.mpr ⟨sn_iload_n (k := 2) (by decide +kernel), ?_⟩
  refine List.forall_mem_cons.mpr ⟨sn_iload_n (k := 3) (by decide +kernel), ?_⟩
  refine List.forall_mem_cons.mpr ⟨sn_iload (k := 4) (by decide +kernel), ?_⟩
  refine List.forall_mem_cons.mpr ⟨⟨i_134, rfl, mk_callS (by decide) (by decide) cs_134 (Or.inl tw_969) (by decide +kernel)⟩, ?_⟩
  refine List.forall_mem_cons.mpr ⟨sn_if_eq (off := 7) (by decide +kernel) (by decide), ?_⟩
  refine List.forall_mem_cons.mpr ⟨sn_iconst (k := (-1)) (by decide +kernel) (by decide), ?_⟩
  refine List.forall_mem_cons.mpr ⟨sn_goto (off := 4) (by decide +kernel) (by decide), ?_⟩
  refine List.forall_mem_cons.mpr ⟨sn_iconst (k := 0) (by decide +kernel) (by decide), ?_⟩
  refine List.forall_mem_cons.mpr ⟨⟨i_132, rfl, mk_callV (by decide) (by decide) cv_132 (Or.inl tw_962) rfl (by decide +kernel)⟩, ?_⟩
  refine List.forall_mem_cons.mpr ⟨sn_iconst (k := 0) (by decide +kernel) (by decide), ?_⟩
  refine List.forall_mem_cons.mpr ⟨⟨rfl, (by decide +kernel : decode prog_12_method_21_code 311 = .ok (.ireturn, 1))⟩, ?_⟩
  refine List.forall_mem_cons.mpr ⟨sn_aload_n (k := 0) (by decide +kernel), ?_⟩
  refine List.forall_mem_cons.mpr ⟨⟨i_131, rfl, mk_callV (by decide) (by decide) cv_131 (Or.inl tw_954) rfl (by decide +kernel)⟩, ?_⟩
  refine List.forall_mem_cons.mpr ⟨sn_istore (k := 4) (by decide +kernel) (by decide), ?_⟩
  refine List.forall_mem_cons.mpr ⟨sn_aload_n (k := 0) (by decide +kernel), ?_⟩
  refine List.forall_mem_cons.mpr ⟨⟨i_131, rfl, mk_callV (by decide) (by decide) cv_131 (Or.inl tw_954) rfl (by decide +kernel)⟩, ?_⟩
  refine List.forall_mem_cons.mpr ⟨sn_istore_n (k := 3) (by decide +kernel) (by decide), ?_⟩
  refine List.forall_mem_cons.mpr ⟨sn_aload_n (k := 0) (by decide +kernel), ?_⟩
  refine List.forall_mem_cons.mpr ⟨sn_iload (k := 4) (by decide +kernel), ?_⟩
  refine List.forall_mem_cons.mpr ⟨⟨i_132, rfl, mk_callV (by decide) (by decide) cv_132 (Or.inl tw_962) rfl (by decide +kernel)⟩, ?_⟩
  refine List.forall_mem_cons.mpr ⟨sn_aload_n (k := 0) (by decide +kernel), ?_⟩
  refine List.forall_mem_cons.mpr ⟨sn_iload_n (k := 2) (by decide +kernel), ?_⟩
  refine List.forall_mem_cons.mpr ⟨sn_iload_n (k := 3) (by decide +kernel), ?_⟩
  refine List.forall_mem_cons.mpr ⟨sn_iload (k := 4) (by decide +kernel), ?_⟩
  refine List.forall_mem_cons.mpr ⟨⟨i_134, rfl, mk_callS (by decide) (by decide) cs_134 (Or.inl tw_969) (by decide +kernel)⟩, ?_⟩
  refine List.forall_mem_cons.mpr ⟨sn_if_eq (off := 7) (by decide +kernel) (by decide), ?_⟩
  refine List.forall_mem_cons.mpr ⟨sn_iconst (k := (-1)) (by decide +kernel) (by decide), ?_⟩
  refine List.forall_mem_cons.mpr ⟨sn_goto (off := 4) (by decide +kernel) (by decide), ?_⟩
  refine List.forall_mem_cons.mpr ⟨sn_iconst (k := 0) (by decide +kernel) (by decide), ?_⟩
  refine List.forall_mem_cons.mpr ⟨⟨i_132, rfl, mk_callV (by decide) (by decide) cv_132 (Or.inl tw_962) rfl (by decide +kernel)⟩, ?_⟩
  refine List.forall_mem_cons.mpr ⟨sn_iconst (k := 0) (by decide +kernel) (by decide), ?_⟩
  refine List.forall_mem_cons.mpr ⟨⟨rfl, (by decide +kernel : decode prog_12_method_21_code 349 = .ok (.ireturn, 1))⟩, ?_⟩
  refine List.forall_mem_cons.mpr ⟨sn_aload_n (k := 0) (by decide +kernel), ?_⟩
  refine List.forall_mem_cons.mpr ⟨⟨i_131, rfl, mk_callV (by decide) (by decide) cv_131 (Or.inl tw_954) rfl (by decide +kernel)⟩, ?_⟩
  refine List.forall_mem_cons.mpr ⟨sn_pop (by decide +kernel), ?_⟩
  refine List.forall_mem_cons.mpr ⟨sn_iconst (k := 0) (by decide +kernel) (by decide), ?_⟩
  refine List.forall_mem_cons.mpr ⟨⟨rfl, (by decide +kernel : decode prog_12_method_21_code 356 = .ok (.ireturn, 1))⟩, ?_⟩
  refine List.forall_mem_cons.mpr ⟨sn_aload_n (k := 0) (by decide +kernel), ?_⟩
  refine List.forall_mem_cons.mpr ⟨⟨i_131, rfl, mk_callV (by decide) (by decide) cv_131 (Or.inl tw_954) rfl (by decide +kernel)⟩, ?_⟩
  refine List.forall_mem_cons.mpr ⟨sn_istore (k := 4) (by decide +kernel) (by decide), ?_⟩
  refine List.forall_mem_cons.mpr ⟨sn_aload_n (k := 0) (by decide +kernel), ?_⟩
  refine List.forall_mem_cons.mpr ⟨⟨i_131, rfl, mk_callV (by decide) (by decide) cv_131 (Or.inl tw_954) rfl (by decide +kernel)⟩, ?_⟩
  refine List.forall_mem_cons.mpr ⟨sn_istore_n (k := 3) (by decide +kernel) (by decide), ?_⟩
  refine List.forall_mem_cons.mpr ⟨sn_iload_n (k := 3) (by decide +kernel), ?_⟩
  refine List.forall_mem_cons.mpr ⟨sn_iload (k := 4) (by decide +kernel), ?_⟩
  refine List.forall_mem_cons.mpr ⟨⟨i_135, rfl, mk_callS (by decide) (by decide) cs_135 (Or.inl tw_972) (by decide +kernel)⟩, ?_⟩
  refine List.forall_mem_cons.mpr ⟨sn_istore (k := 5) (by decide +kernel) (by decide), ?_⟩
  refine List.forall_mem_cons.mpr ⟨sn_aload_n (k := 0) (by decide +kernel), ?_⟩
  refine List.forall_mem_cons.mpr ⟨sn_iload (k := 5) (by decide +kernel), ?_⟩
  refine List.forall_mem_cons.mpr ⟨sn_iconst (k := (-1)) (by decide +kernel) (by decide), ?_⟩
  refine List.forall_mem_cons.mpr ⟨sn_icmp_ne (off := 7) (by decide +kernel) (by decide), ?_⟩
  refine List.forall_mem_cons.mpr ⟨sn_iconst (k := 0) (by decide +kernel) (by decide), ?_⟩
  refine List.forall_mem_cons.mpr ⟨sn_goto (off := 22) (by decide +kernel) (by decide), ?_⟩
  refine List.forall_mem_cons.mpr ⟨sn_aload_n (k := 0) (by decide +kernel), ?_⟩
  refine List.forall_mem_cons.mpr ⟨sn_getf (by decide +kernel) rfl tbX10 (by decide) tw_864, ?_⟩
  refine List.forall_mem_cons.mpr ⟨sn_iload (k := 5) (by decide +kernel), ?_⟩
  refine List.forall_mem_cons.mpr ⟨sn_iald (by decide +kernel), ?_⟩
  refine List.forall_mem_cons.mpr ⟨sn_bipush (k := 8) (by decide +kernel) (by decide), ?_⟩
  refine List.forall_mem_cons.mpr ⟨sn_iload (k := 4) (by decide +kernel), ?_⟩
  refine List.forall_mem_cons.mpr ⟨sn_iconst (k := 3) (by decide +kernel) (by decide), ?_⟩
  refine List.forall_mem_cons.mpr ⟨sn_iand (by decide +kernel), ?_⟩
  refine List.forall_mem_cons.mpr ⟨sn_imul (by decide +kernel), ?_⟩
  refine List.forall_mem_cons.mpr ⟨sn_ishr (by decide +kernel), ?_⟩
  refine List.forall_mem_cons.mpr ⟨sn_sipush (k := 255) (by decide +kernel) (by decide), ?_⟩
  refine List.forall_mem_cons.mpr ⟨sn_iand (by decide +kernel), ?_⟩
  refine List.forall_mem_cons.mpr ⟨⟨i_132, rfl, mk_callV (by decide) (by decide) cv_132 (Or.inl tw_962) rfl (by decide +kernel)⟩, ?_⟩
  refine List.forall_mem_cons.mpr ⟨sn_iload (k := 5) (by decide +kernel), ?_⟩
  refine List.forall_mem_cons.mpr ⟨sn_iconst (k := (-1)) (by decide +kernel) (by decide), ?_⟩
  refine List.forall_mem_cons.mpr ⟨sn_icmp_ne (off := 7) (by decide +kernel) (by decide), ?_⟩
  refine List.forall_mem_cons.mpr ⟨sn_iconst (k := 2) (by decide +kernel) (by decide), ?_⟩
  refine List.forall_mem_cons.mpr ⟨sn_goto (off := 4) (by decide +kernel) (by decide), ?_⟩
  refine List.forall_mem_cons.mpr ⟨sn_iconst (k := 0) (by decide +kernel) (by decide), ?_⟩
  refine List.forall_mem_cons.mpr ⟨⟨rfl, (by decide +kernel : decode prog_12_method_21_code 420 = .ok (.ireturn, 1))⟩, ?_⟩
  refine List.forall_mem_cons.mpr ⟨sn_aload_n (k := 0) (by decide +kernel), ?_⟩
  refine List.forall_mem_cons.mpr ⟨⟨i_137, rfl, mk_callV (by decide) (by decide) cv_137 (Or.inl tw_976) rfl (by decide +kernel)⟩, ?_⟩
  refine List.forall_mem_cons.mpr ⟨⟨rfl, (by decide +kernel : decode prog_12_method_21_code 425 = .ok (.ireturn, 1))⟩, ?_⟩
  refine List.forall_mem_cons.mpr ⟨sn_iconst (k := 0) (by decide +kernel) (by decide), ?_⟩
  refine List.forall_mem_cons.mpr ⟨⟨rfl, (by decide +kernel : decode prog_12_method_21_code 427 = .ok (.ireturn, 1))⟩, ?_⟩
  exact fun _ h => absurd h List.not_mem_nil
set_option maxRecDepth 20000 in
theorem ok_137 : ∀ q ∈ mt_137, mx_ok mx_I0 i_137 q.1 q.2 := by
  refine List.forall_mem_cons.mpr ⟨sn_aload_n (k := 0) (by decide +kernel), ?_⟩
  refine List.forall_mem_cons.mpr ⟨⟨i_131, rfl, mk_callV (by decide) (by decide) cv_131 (Or.inl tw_954) rfl (by decide +kernel)⟩, ?_⟩
  refine List.forall_mem_cons.mpr ⟨sn_istore_n (k := 1) (by decide +kernel) (by decide), ?_⟩
  refine List.forall_mem_cons.mpr ⟨sn_aload_n (k := 0) (by decide +kernel), ?_⟩
  refine List.forall_mem_cons.mpr ⟨⟨i_131, rfl, mk_callV (by decide) (by decide) cv_131 (Or.inl tw_954) rfl (by decide +kernel)⟩, ?_⟩
  refine List.forall_mem_cons.mpr ⟨sn_istore_n (k := 2) (by decide +kernel) (by decide), ?_⟩
  refine List.forall_mem_cons.mpr ⟨sn_aload_n (k := 0) (by decide +kernel), ?_⟩
  refine List.forall_mem_cons.mpr ⟨⟨i_131, rfl, mk_callV (by decide) (by decide) cv_131 (Or.inl tw_954) rfl (by decide +kernel)⟩, ?_⟩
  refine List.forall_mem_cons.mpr ⟨sn_istore_n (k := 3) (by decide +kernel) (by decide), ?_⟩
  refine List.forall_mem_cons.mpr ⟨sn_iload_n (k := 2) (by decide +kernel), ?_⟩
  refine List.forall_mem_cons.mpr ⟨sn_iload_n (k := 1) (by decide +kernel), ?_⟩
  refine List.forall_mem_cons.mpr ⟨⟨i_135, rfl, mk_callS (by decide) (by decide) cs_135 (Or.inl tw_972) (by decide +kernel)⟩, ?_⟩
  refine List.forall_mem_cons.mpr ⟨sn_istore (k := 4) (by decide +kernel) (by decide), ?_⟩
  refine List.forall_mem_cons.mpr ⟨sn_iload (k := 4) (by decide +kernel), ?_⟩
  refine List.forall_mem_cons.mpr ⟨sn_iconst (k := (-1)) (by decide +kernel) (by decide), ?_⟩
  refine List.forall_mem_cons.mpr ⟨sn_icmp_ne (off := 5) (by decide +kernel) (by decide), ?_⟩
  refine List.forall_mem_cons.mpr ⟨sn_iconst (k := 2) (by decide +kernel) (by decide), ?_⟩
  refine List.forall_mem_cons.mpr ⟨⟨rfl, (by decide +kernel : decode prog_12_method_22_code 29 = .ok (.ireturn, 1))⟩, ?_⟩
  refine List.forall_mem_cons.mpr ⟨sn_bipush (k := 8) (by decide +kernel) (by decide), ?_⟩
  refine List.forall_mem_cons.mpr ⟨sn_iload_n (k := 1) (by decide +kernel), ?_⟩
  refine List.forall_mem_cons.mpr ⟨sn_iconst (k := 3) (by decide +kernel) (by decide), ?_⟩
  refine List.forall_mem_cons.mpr ⟨sn_iand (by decide +kernel), ?_⟩
  refine List.forall_mem_cons.mpr ⟨sn_imul (by decide +kernel), ?_⟩
  refine List.forall_mem_cons.mpr ⟨sn_istore (k := 5) (by decide +kernel) (by decide), ?_⟩
  refine List.forall_mem_cons.mpr ⟨sn_aload_n (k := 0) (by decide +kernel), ?_⟩
  refine List.forall_mem_cons.mpr ⟨sn_getf (by decide +kernel) rfl tbX10 (by decide) tw_864, ?_⟩
  refine List.forall_mem_cons.mpr ⟨sn_iload (k := 4) (by decide +kernel), ?_⟩
  refine List.forall_mem_cons.mpr ⟨sn_aload_n (k := 0) (by decide +kernel), ?_⟩
  refine List.forall_mem_cons.mpr ⟨sn_getf (by decide +kernel) rfl tbX10 (by decide) tw_864, ?_⟩
  refine List.forall_mem_cons.mpr ⟨sn_iload (k := 4) (by decide +kernel), ?_⟩
  refine List.forall_mem_cons.mpr ⟨sn_iald (by decide +kernel), ?_⟩
  refine List.forall_mem_cons.mpr ⟨sn_sipush (k := 255) (by decide +kernel) (by decide), ?_⟩
  refine List.forall_mem_cons.mpr ⟨sn_iload (k := 5) (by decide +kernel), ?_⟩
  refine List.forall_mem_cons.mpr ⟨sn_ishl (by decide +kernel), ?_⟩
  refine List.forall_mem_cons.mpr ⟨sn_iconst (k := (-1)) (by decide +kernel) (by decide), ?_⟩
  refine List.forall_mem_cons.mpr ⟨sn_ixor (by decide +kernel), ?_⟩
  refine List.forall_mem_cons.mpr ⟨sn_iand (by decide +kernel), ?_⟩
  refine List.forall_mem_cons.mpr ⟨sn_iload_n (k := 3) (by decide +kernel), ?_⟩
  refine List.forall_mem_cons.mpr ⟨sn_sipush (k := 255) (by decide +kernel) (by decide), ?_⟩
  refine List.forall_mem_cons.mpr ⟨sn_iand (by decide +kernel), ?_⟩
  refine List.forall_mem_cons.mpr ⟨sn_iload (k := 5) (by decide +kernel), ?_⟩
  refine List.forall_mem_cons.mpr ⟨sn_ishl (by decide +kernel), ?_⟩
  refine List.forall_mem_cons.mpr ⟨sn_ior (by decide +kernel), ?_⟩
  refine List.forall_mem_cons.mpr ⟨sn_iast (by decide +kernel), ?_⟩
  refine List.forall_mem_cons.mpr ⟨sn_iconst (k := 0) (by decide +kernel) (by decide), ?_⟩
  refine List.forall_mem_cons.mpr ⟨⟨rfl, (by decide +kernel : decode prog_12_method_22_code 71 = .ok (.ireturn, 1))⟩, ?_⟩
  exact fun _ h => absurd h List.not_mem_nil
set_option maxRecDepth 20000 in
theorem ok_138 : ∀ q ∈ mt_138, mx_ok mx_I0 i_138 q.1 q.2 := by
  refine List.forall_mem_cons.mpr ⟨sn_aload_n (k := 0) (by decide +kernel), ?_⟩
  refine List.forall_mem_cons.mpr ⟨sn_getf (by decide +kernel) rfl tbX10 (by decide) tw_861, ?_⟩
  refine List.forall_mem_cons.mpr ⟨sn_iload_n (k := 1) (by decide +kernel), ?_⟩
  refine List.forall_mem_cons.mpr ⟨sn_iald (by decide +kernel), ?_⟩
  refine List.forall_mem_cons.mpr ⟨sn_istore_n (k := 2) (by decide +kernel) (by decide), ?_⟩
  refine List.forall_mem_cons.mpr ⟨sn_aload_n (k := 0) (by decide +kernel), ?_⟩
  refine List.forall_mem_cons.mpr ⟨sn_getf (by decide +kernel) rfl tbX10 (by decide) tw_862, ?_⟩
  refine List.forall_mem_cons.mpr ⟨sn_iload_n (k := 1) (by decide +kernel), ?_⟩
  refine List.forall_mem_cons.mpr ⟨sn_iald (by decide +kernel), ?_⟩
  refine List.forall_mem_cons.mpr ⟨sn_istore_n (k := 3) (by decide +kernel) (by decide), ?_⟩
  refine List.forall_mem_cons.mpr ⟨sn_iload_n (k := 2) (by decide +kernel), ?_⟩
  refine List.forall_mem_cons.mpr ⟨sn_bipush (k := 10) (by decide +kernel) (by decide), ?_⟩
  refine List.forall_mem_cons.mpr ⟨sn_icmp_ne (off := 9) (by decide +kernel) (by decide), ?_⟩
  refine List.forall_mem_cons.mpr ⟨sn_aload_n (k := 0) (by decide +kernel), ?_⟩
  refine List.forall_mem_cons.mpr ⟨sn_iload_n (k := 3) (by decide +kernel), ?_⟩
  refine List.forall_mem_cons.mpr ⟨⟨i_122, rfl, mk_callV (by decide) (by decide) cv_122 (Or.inl tw_923) rfl (by decide +kernel)⟩, ?_⟩
  refine List.forall_mem_cons.mpr ⟨⟨rfl, (by decide +kernel : decode prog_12_method_23_code 25 = .ok (.ireturn, 1))⟩, ?_⟩
  refine List.forall_mem_cons.mpr ⟨sn_iload_n (k := 2) (by decide +kernel), ?_⟩
  refine List.forall_mem_cons.mpr ⟨sn_bipush (k := 11) (by decide +kernel) (by decide), ?_⟩
  refine List.forall_mem_cons.mpr ⟨sn_icmp_eq (off := 9) (by decide +kernel) (by decide), ?_⟩
  refine List.forall_mem_cons.mpr ⟨sn_iload_n (k := 2) (by decide +kernel), ?_⟩
  refine List.forall_mem_cons.mpr ⟨sn_bipush (k := 12) (by decide +kernel) (by decide), ?_⟩
  refine List.forall_mem_cons.mpr ⟨sn_icmp_ne (off := 45) (by decide +kernel) (by decide), ?_⟩
  refine List.forall_mem_cons.mpr ⟨sn_aload_n (k := 0) (by decide +kernel), ?_⟩
  refine List.forall_mem_cons.mpr ⟨⟨i_131, rfl, mk_callV (by decide) (by decide) cv_131 (Or.inl tw_954) rfl (by decide +kernel)⟩, ?_⟩
  refine List.forall_mem_cons.mpr ⟨sn_istore (k := 4) (by decide +kernel) (by decide), ?_⟩
  refine List.forall_mem_cons.mpr ⟨sn_iload (k := 4) (by decide +kernel), ?_⟩
  refine List.forall_mem_cons.mpr ⟨sn_if_ne (off := 7) (by decide +kernel) (by decide), ?_⟩
  refine List.forall_mem_cons.mpr ⟨sn_iconst (k := 1) (by decide +kernel) (by decide), ?_⟩
  refine List.forall_mem_cons.mpr ⟨sn_goto (off := 4) (by decide +kernel) (by decide), ?_⟩
  refine List.forall_mem_cons.mpr ⟨sn_iconst (k := 0) (by decide +kernel) (by decide), ?_⟩
  refine List.forall_mem_cons.mpr ⟨sn_iload_n (k := 2) (by decide +kernel), ?_⟩
  refine List.forall_mem_cons.mpr ⟨sn_bipush (k := 11) (by decide +kernel) (by decide), ?_⟩
  refine List.forall_mem_cons.mpr ⟨sn_icmp_ne (off := 7) (by decide +kernel) (by decide), ?_⟩
  refine List.forall_mem_cons.mpr ⟨sn_iconst (k := 1) (by decide +kernel) (by decide), ?_⟩
  refine List.forall_mem_cons.mpr ⟨sn_goto (off := 4) (by decide +kernel) (by decide), ?_⟩
  refine List.forall_mem_cons.mpr ⟨sn_iconst (k := 0) (by decide +kernel) (by decide), ?_⟩
  refine List.forall_mem_cons.mpr ⟨sn_icmp_ne (off := 11) (by decide +kernel) (by decide), ?_⟩
  refine List.forall_mem_cons.mpr ⟨sn_aload_n (k := 0) (by decide +kernel), ?_⟩
  refine List.forall_mem_cons.mpr ⟨sn_iload_n (k := 3) (by decide +kernel), ?_⟩
  refine List.forall_mem_cons.mpr ⟨⟨i_122, rfl, mk_callV (by decide) (by decide) cv_122 (Or.inl tw_923) rfl (by decide +kernel)⟩, ?_⟩
  refine List.forall_mem_cons.mpr ⟨sn_goto (off := 6) (by decide +kernel) (by decide), ?_⟩
  refine List.forall_mem_cons.mpr ⟨sn_iload_n (k := 1) (by decide +kernel), ?_⟩
  refine List.forall_mem_cons.mpr ⟨sn_iconst (k := 1) (by decide +kernel) (by decide), ?_⟩
  refine List.forall_mem_cons.mpr ⟨sn_iadd (by decide +kernel), ?_⟩
  refine List.forall_mem_cons.mpr ⟨⟨rfl, (by decide +kernel : decode prog_12_method_23_code 79 = .ok (.ireturn, 1))⟩, ?_⟩
  refine List.forall_mem_cons.mpr ⟨sn_iload_n (k := 2) (by decide +kernel), ?_⟩
  refine List.forall_mem_cons.mpr ⟨sn_bipush (k := 18) (by decide +kernel) (by decide), ?_⟩
  refine List.forall_mem_cons.mpr ⟨sn_icmp_ne (off := 40) (by decide +kernel) (by decide), ?_⟩
  refine List.forall_mem_cons.mpr ⟨sn_aload_n (k := 0) (by decide +kernel), ?_⟩
  refine List.forall_mem_cons.mpr ⟨sn_getf (by decide +kernel) rfl tbX10 (by decide) tw_869, ?_⟩
  refine List.forall_mem_cons.mpr ⟨sn_aload_n (k := 0) (by decide +kernel), ?_⟩
  refine List.forall_mem_cons.mpr ⟨sn_getf (by decide +kernel) rfl tbX10 (by decide) tw_870, ?_⟩
  refine List.forall_mem_cons.mpr ⟨sn_iconst (k := 1) (by decide +kernel) (by decide), ?_⟩
  refine List.forall_mem_cons.mpr ⟨sn_isub (by decide +kernel), ?_⟩
  refine List.forall_mem_cons.mpr ⟨sn_iald (by decide +kernel), ?_⟩
  refine List.forall_mem_cons.mpr ⟨sn_iload_n (k := 3) (by decide +kernel), ?_⟩
  refine List.forall_mem_cons.mpr ⟨sn_icmp_eq (off := 7) (by decide +kernel) (by decide), ?_⟩
  refine List.forall_mem_cons.mpr ⟨sn_iload_n (k := 1) (by decide +kernel), ?_⟩
  refine List.forall_mem_cons.mpr ⟨sn_iconst (k := 2) (by decide +kernel) (by decide), ?_⟩
  refine List.forall_mem_cons.mpr ⟨sn_iadd (by decide +kernel), ?_⟩
  refine List.forall_mem_cons.mpr ⟨⟨rfl, (by decide +kernel : decode prog_12_method_23_code 104 = .ok (.ireturn, 1))⟩, ?_⟩
  refine List.forall_mem_cons.mpr ⟨sn_aload_n (k := 0) (by decide +kernel), ?_⟩
  refine List.forall_mem_cons.mpr ⟨⟨i_131, rfl, mk_callV (by decide) (by decide) cv_131 (Or.inl tw_954) rfl (by decide +kernel)⟩, ?_⟩
  refine List.forall_mem_cons.mpr ⟨sn_pop (by decide +kernel), ?_⟩
  refine List.forall_mem_cons.mpr ⟨sn_aload_n (k := 0) (by decide +kernel), ?_⟩
  refine List.forall_mem_cons.mpr ⟨sn_aload_n (k := 0) (by decide +kernel), ?_⟩
  refine List.forall_mem_cons.mpr ⟨sn_getf (by decide +kernel) rfl tbX10 (by decide) tw_862, ?_⟩
  refine List.forall_mem_cons.mpr ⟨sn_iload_n (k := 1) (by decide +kernel), ?_⟩
  refine List.forall_mem_cons.mpr ⟨sn_iconst (k := 1) (by decide +kernel) (by decide), ?_⟩
  refine List.forall_mem_cons.mpr ⟨sn_iadd (by decide +kernel), ?_⟩
  refine List.forall_mem_cons.mpr ⟨sn_iald (by decide +kernel), ?_⟩
  refine List.forall_mem_cons.mpr ⟨⟨i_122, rfl, mk_callV (by decide) (by decide) cv_122 (Or.inl tw_923) rfl (by decide +kernel)⟩, ?_⟩
  refine List.forall_mem_cons.mpr ⟨⟨rfl, (by decide +kernel : decode prog_12_method_23_code 122 = .ok (.ireturn, 1))⟩, ?_⟩
  refine List.forall_mem_cons.mpr ⟨sn_iload_n (k := 1) (by decide +kernel), ?_⟩
  refine List.forall_mem_cons.mpr ⟨sn_iconst (k := 1) (by decide +kernel) (by decide), ?_⟩
  refine List.forall_mem_cons.mpr ⟨sn_iadd (by decide +kernel), ?_⟩
  refine List.forall_mem_cons.mpr ⟨⟨rfl, (by decide +kernel : decode prog_12_method_23_code 126 = .ok (.ireturn, 1))⟩, ?_⟩
  exact fun _ h => absurd h List.not_mem_nil
set_option maxRecDepth 20000 in
theorem ok_139 : ∀ q ∈ mt_139, mx_ok mx_I0 i_139 q.1 q.2 := by
  refine List.forall_mem_cons.mpr ⟨sn_aload_n (k := 0) (by decide +kernel), ?_⟩
  refine List.forall_mem_cons.mpr ⟨sn_iconst (k := 0) (by decide +kernel) (by decide), ?_⟩
  refine List.forall_mem_cons.mpr ⟨sn_putf tyX10 (by decide +kernel) rfl tbX10 tyX10_ok nmX10 (by decide) tw_859 (Or.inl rfl) rfl, ?_⟩
  refine List.forall_mem_cons.mpr ⟨sn_iload_n (k := 1) (by decide +kernel), ?_⟩
  refine List.forall_mem_cons.mpr ⟨sn_iconst (k := 0) (by decide +kernel) (by decide), ?_⟩
  refine List.forall_mem_cons.mpr ⟨sn_sipush (k := 20000) (by decide +kernel) (by decide), ?_⟩
  refine List.forall_mem_cons.mpr ⟨⟨i_120, rfl, mk_callS (by decide) (by decide) cs_120 (Or.inl tw_920) (by decide +kernel)⟩, ?_⟩
  refine List.forall_mem_cons.mpr ⟨sn_if_eq (off := 10) (by decide +kernel) (by decide), ?_⟩
  refine List.forall_mem_cons.mpr ⟨sn_aload_n (k := 0) (by decide +kernel), ?_⟩
  refine List.forall_mem_cons.mpr ⟨⟨i_130, rfl, mk_callV (by decide) (by decide) cv_130 (Or.inl tw_953) rfl (by decide +kernel)⟩, ?_⟩
  refine List.forall_mem_cons.mpr ⟨sn_if_ne (off := 5) (by decide +kernel) (by decide), ?_⟩
  refine List.forall_mem_cons.mpr ⟨sn_iconst (k := (-1)) (by decide +kernel) (by decide), ?_⟩
  refine List.forall_mem_cons.mpr ⟨⟨rfl, (by decide +kernel : decode prog_12_method_24_code 24 = .ok (.ireturn, 1))⟩, ?_⟩
  refine List.forall_mem_cons.mpr ⟨sn_aload_n (k := 0) (by decide +kernel), ?_⟩
  refine List.forall_mem_cons.mpr ⟨sn_iconst (k := 0) (by decide +kernel) (by decide), ?_⟩
  refine List.forall_mem_cons.mpr ⟨sn_putf tyX10 (by decide +kernel) rfl tbX10 tyX10_ok nmX10 (by decide) tw_870 (Or.inl rfl) rfl, ?_⟩
  refine List.forall_mem_cons.mpr ⟨sn_aload_n (k := 0) (by decide +kernel), ?_⟩
  refine List.forall_mem_cons.mpr ⟨sn_iload_n (k := 1) (by decide +kernel), ?_⟩
  refine List.forall_mem_cons.mpr ⟨sn_putf tyX10 (by decide +kernel) rfl tbX10 tyX10_ok nmX10 (by decide) tw_866 (Or.inl rfl) rfl, ?_⟩
  refine List.forall_mem_cons.mpr ⟨sn_aload_n (k := 0) (by decide +kernel), ?_⟩
  refine List.forall_mem_cons.mpr ⟨sn_iconst (k := 0) (by decide +kernel) (by decide), ?_⟩
  refine List.forall_mem_cons.mpr ⟨sn_putf tyX10 (by decide +kernel) rfl tbX10 tyX10_ok nmX10 (by decide) tw_865 (Or.inl rfl) rfl, ?_⟩
  refine List.forall_mem_cons.mpr ⟨sn_iconst (k := 0) (by decide +kernel) (by decide), ?_⟩
  refine List.forall_mem_cons.mpr ⟨sn_istore_n (k := 2) (by decide +kernel) (by decide), ?_⟩
  refine List.forall_mem_cons.mpr ⟨sn_aload_n (k := 0) (by decide +kernel), ?_⟩
  refine List.forall_mem_cons.mpr ⟨sn_getf (by decide +kernel) rfl tbX10 (by decide) tw_861, ?_⟩
  refine List.forall_mem_cons.mpr ⟨sn_iload_n (k := 2) (by decide +kernel), ?_⟩
  refine List.forall_mem_cons.mpr ⟨sn_iald (by decide +kernel), ?_⟩
  refine List.forall_mem_cons.mpr ⟨sn_istore_n (k := 3) (by decide +kernel) (by decide), ?_⟩
  refine List.forall_mem_cons.mpr ⟨sn_iload_n (k := 3) (by decide +kernel), ?_⟩
  refine List.forall_mem_cons.mpr ⟨sn_bipush (k := 16) (by decide +kernel) (by decide), ?_⟩
  refine List.forall_mem_cons.mpr ⟨sn_icmp_ne (off := 13) (by decide +kernel) (by decide), ?_⟩
  refine List.forall_mem_cons.mpr ⟨sn_aload_n (k := 0) (by decide +kernel), ?_⟩
  refine List.forall_mem_cons.mpr ⟨sn_aload_n (k := 0) (by decide +kernel), ?_⟩
  refine List.forall_mem_cons.mpr ⟨⟨i_131, rfl, mk_callV (by decide) (by decide) cv_131 (Or.inl tw_954) rfl (by decide +kernel)⟩, ?_⟩
  refine List.forall_mem_cons.mpr ⟨sn_putf tyX10 (by decide +kernel) rfl tbX10 tyX10_ok nmX10 (by decide) tw_865 (Or.inl rfl) rfl, ?_⟩
  refine List.forall_mem_cons.mpr ⟨sn_iconst (k := 0) (by decide +kernel) (by decide), ?_⟩
  refine List.forall_mem_cons.mpr ⟨⟨rfl, (by decide +kernel : decode prog_12_method_24_code 64 = .ok (.ireturn, 1))⟩, ?_⟩
  refine List.forall_mem_cons.mpr ⟨sn_iload_n (k := 3) (by decide +kernel), ?_⟩
  refine List.forall_mem_cons.mpr ⟨sn_bipush (k := 17) (by decide +kernel) (by decide), ?_⟩
  refine List.forall_mem_cons.mpr ⟨sn_icmp_ne (off := 5) (by decide +kernel) (by decide), ?_⟩
  refine List.forall_mem_cons.mpr ⟨sn_iconst (k := 4) (by decide +kernel) (by decide), ?_⟩
  refine List.forall_mem_cons.mpr ⟨⟨rfl, (by decide +kernel : decode prog_12_method_24_code 72 = .ok (.ireturn, 1))⟩, ?_⟩
  refine List.forall_mem_cons.mpr ⟨sn_iload_n (k := 3) (by decide +kernel), ?_⟩
  refine List.forall_mem_cons.mpr ⟨sn_bipush (k := 15) (by decide +kernel) (by decide), ?_⟩
  refine List.forall_mem_cons.mpr ⟨sn_icmp_ne (off := 12) (by decide +kernel) (by decide), ?_⟩
  refine List.forall_mem_cons.mpr ⟨sn_aload_n (k := 0) (by decide +kernel), ?_⟩
  refine List.forall_mem_cons.mpr ⟨sn_getf (by decide +kernel) rfl tbX10 (by decide) tw_866, ?_⟩
  refine List.forall_mem_cons.mpr ⟨sn_if_ne (off := 5) (by decide +kernel) (by decide), ?_⟩
  refine List.forall_mem_cons.mpr ⟨sn_iconst (k := 1) (by decide +kernel) (by decide), ?_⟩
  refine List.forall_mem_cons.mpr ⟨⟨rfl, (by decide +kernel : decode prog_12_method_24_code 87 = .ok (.ireturn, 1))⟩, ?_⟩
  refine List.forall_mem_cons.mpr ⟨sn_aload_n (k := 0) (by decide +kernel), ?_⟩
  refine List.forall_mem_cons.mpr ⟨sn_dup (by decide +kernel), ?_⟩
  refine List.forall_mem_cons.mpr ⟨sn_getf (by decide +kernel) rfl tbX10 (by decide) tw_866, ?_⟩
  refine List.forall_mem_cons.mpr ⟨sn_iload_n (k := 3) (by decide +kernel), ?_⟩
  refine List.forall_mem_cons.mpr ⟨sn_bipush (k := 15) (by decide +kernel) (by decide), ?_⟩
  refine List.forall_mem_cons.mpr ⟨sn_icmp_ne (off := 7) (by decide +kernel) (by decide), ?_⟩
  refine List.forall_mem_cons.mpr ⟨sn_iconst (k := 1) (by decide +kernel) (by decide), ?_⟩
  refine List.forall_mem_cons.mpr ⟨sn_goto (off := 4) (by decide +kernel) (by decide), ?_⟩
  refine List.forall_mem_cons.mpr ⟨sn_iconst (k := 0) (by decide +kernel) (by decide), ?_⟩
  refine List.forall_mem_cons.mpr ⟨sn_isub (by decide +kernel), ?_⟩
  refine List.forall_mem_cons.mpr ⟨sn_putf tyX10 (by decide +kernel) rfl tbX10 tyX10_ok nmX10 (by decide) tw_866 (Or.inl rfl) rfl, ?_⟩
  refine List.forall_mem_cons.mpr ⟨sn_aload_n (k := 0) (by decide +kernel), ?_⟩
  refine List.forall_mem_cons.mpr ⟨sn_iload_n (k := 3) (by decide +kernel), ?_⟩
  refine List.forall_mem_cons.mpr ⟨sn_aload_n (k := 0) (by decide +kernel), ?_⟩
  refine List.forall_mem_cons.mpr ⟨sn_getf (by decide +kernel) rfl tbX10 (by decide) tw_862, ?_⟩
  refine List.forall_mem_cons.mpr ⟨sn_iload_n (k := 2) (by decide +kernel), ?_⟩
  refine List.forall_mem_cons.mpr ⟨sn_iald (by decide +kernel), ?_⟩
  refine List.forall_mem_cons.mpr ⟨⟨i_136, rfl, mk_callV (by decide) (by decide) cv_136 (Or.inl tw_958) rfl (by decide +kernel)⟩, ?_⟩
  refine List.forall_mem_cons.mpr ⟨sn_istore (k := 4) (by decide +kernel) (by decide), ?_⟩
  refine List.forall_mem_cons.mpr ⟨sn_iload (k := 4) (by decide +kernel), ?_⟩
  refine List.forall_mem_cons.mpr ⟨sn_if_le (off := 6) (by decide +kernel) (by decide), ?_⟩
  refine List.forall_mem_cons.mpr ⟨sn_iload (k := 4) (by decide +kernel), ?_⟩
  refine List.forall_mem_cons.mpr ⟨⟨rfl, (by decide +kernel : decode prog_12_method_24_code 128 = .ok (.ireturn, 1))⟩, ?_⟩
  refine List.forall_mem_cons.mpr ⟨sn_aload_n (k := 0) (by decide +kernel), ?_⟩
  refine List.forall_mem_cons.mpr ⟨sn_iload_n (k := 2) (by decide +kernel), ?_⟩
  refine List.forall_mem_cons.mpr ⟨⟨i_138, rfl, mk_callV (by decide) (by decide) cv_138 (Or.inl tw_980) rfl (by decide +kernel)⟩, ?_⟩
  refine List.forall_mem_cons.mpr ⟨sn_istore_n (k := 2) (by decide +kernel) (by decide), ?_⟩
  refine List.forall_mem_cons.mpr ⟨sn_goto (off := (-93)) (by decide +kernel) (by decide), ?_⟩
  exact fun _ h => absurd h List.not_mem_nil
set_option maxRecDepth 20000 in
theorem ok_140 : ∀ q ∈ mt_140, mx_ok mx_I0 i_140 q.1 q.2 := by
  refine List.forall_mem_cons.mpr ⟨sn_aload_n (k := 0) (by decide +kernel), ?_⟩
  refine List.forall_mem_cons.mpr ⟨sn_iconst (k := 0) (by decide +kernel) (by decide), ?_⟩
  refine List.forall_mem_cons.mpr ⟨sn_putf tyX10 (by decide +kernel) rfl tbX10 tyX10_ok nmX10 (by decide) tw_859 (Or.inl rfl) rfl, ?_⟩
  refine List.forall_mem_cons.mpr ⟨sn_aload_n (k := 0) (by decide +kernel), ?_⟩
  refine List.forall_mem_cons.mpr ⟨sn_getf (by decide +kernel) rfl tbX10 (by decide) tw_865, ?_⟩
  refine List.forall_mem_cons.mpr ⟨⟨rfl, (by decide +kernel : decode prog_12_method_25_code 9 = .ok (.ireturn, 1))⟩, ?_⟩
  exact fun _ h => absurd h List.not_mem_nil
set_option maxRecDepth 20000 in
theorem ok_141 : ∀ q ∈ mt_141, mx_ok mx_I0 i_141 q.1 q.2 := by
  refine List.forall_mem_cons.mpr ⟨sn_aload_n (k := 0) (by decide +kernel), ?_⟩
  refine List.forall_mem_cons.mpr ⟨sn_iconst (k := 0) (by decide +kernel) (by decide), ?_⟩
  refine List.forall_mem_cons.mpr ⟨sn_putf tyX10 (by decide +kernel) rfl tbX10 tyX10_ok nmX10 (by decide) tw_859 (Or.inl rfl) rfl, ?_⟩
  refine List.forall_mem_cons.mpr ⟨sn_aload_n (k := 0) (by decide +kernel), ?_⟩
  refine List.forall_mem_cons.mpr ⟨sn_getf (by decide +kernel) rfl tbX10 (by decide) tw_866, ?_⟩
  refine List.forall_mem_cons.mpr ⟨⟨rfl, (by decide +kernel : decode prog_12_method_26_code 9 = .ok (.ireturn, 1))⟩, ?_⟩
  exact fun _ h => absurd h List.not_mem_nil
set_option maxRecDepth 20000 in
theorem ok_142 : ∀ q ∈ mt_142, mx_ok mx_I0 i_142 q.1 q.2 := by
  refine List.forall_mem_cons.mpr ⟨sn_aload_n (k := 0) (by decide +kernel), ?_⟩
  refine List.forall_mem_cons.mpr ⟨sn_iconst (k := 0) (by decide +kernel) (by decide), ?_⟩
  refine List.forall_mem_cons.mpr ⟨sn_putf tyX10 (by decide +kernel) rfl tbX10 tyX10_ok nmX10 (by decide) tw_859 (Or.inl rfl) rfl, ?_⟩
  refine List.forall_mem_cons.mpr ⟨sn_iload_n (k := 1) (by decide +kernel), ?_⟩
  refine List.forall_mem_cons.mpr ⟨sn_iconst (k := 0) (by decide +kernel) (by decide), ?_⟩
  refine List.forall_mem_cons.mpr ⟨sn_bipush (k := 15) (by decide +kernel) (by decide), ?_⟩
  refine List.forall_mem_cons.mpr ⟨⟨i_120, rfl, mk_callS (by decide) (by decide) cs_120 (Or.inl tw_920) (by decide +kernel)⟩, ?_⟩
  refine List.forall_mem_cons.mpr ⟨sn_if_ne (off := 5) (by decide +kernel) (by decide), ?_⟩
  refine List.forall_mem_cons.mpr ⟨sn_iconst (k := 0) (by decide +kernel) (by decide), ?_⟩
  refine List.forall_mem_cons.mpr ⟨⟨rfl, (by decide +kernel : decode prog_12_method_27_code 16 = .ok (.ireturn, 1))⟩, ?_⟩
  refine List.forall_mem_cons.mpr ⟨sn_aload_n (k := 0) (by decide +kernel), ?_⟩
  refine List.forall_mem_cons.mpr ⟨sn_getf (by decide +kernel) rfl tbX10 (by decide) tw_863, ?_⟩
  refine List.forall_mem_cons.mpr ⟨sn_iload_n (k := 1) (by decide +kernel), ?_⟩
  refine List.forall_mem_cons.mpr ⟨sn_iald (by decide +kernel), ?_⟩
  refine List.forall_mem_cons.mpr ⟨sn_istore_n (k := 3) (by decide +kernel) (by decide), ?_⟩
  refine List.forall_mem_cons.mpr ⟨sn_aload_n (k := 0) (by decide +kernel), ?_⟩
  refine List.forall_mem_cons.mpr ⟨sn_getf (by decide +kernel) rfl tbX10 (by decide) tw_863, ?_⟩
  refine List.forall_mem_cons.mpr ⟨sn_iload_n (k := 1) (by decide +kernel), ?_⟩
  refine List.forall_mem_cons.mpr ⟨sn_iload_n (k := 2) (by decide +kernel), ?_⟩
  refine List.forall_mem_cons.mpr ⟨sn_iast (by decide +kernel), ?_⟩
  refine List.forall_mem_cons.mpr ⟨sn_iload_n (k := 3) (by decide +kernel), ?_⟩
  refine List.forall_mem_cons.mpr ⟨⟨rfl, (by decide +kernel : decode prog_12_method_27_code 32 = .ok (.ireturn, 1))⟩, ?_⟩
  exact fun _ h => absurd h List.not_mem_nil
set_option maxRecDepth 20000 in
theorem ok_143 : ∀ q ∈ mt_143, mx_ok mx_I0 i_143 q.1 q.2 := by
  refine List.forall_mem_cons.mpr ⟨sn_aload_n (k := 0) (by decide +kernel), ?_⟩
  refine List.forall_mem_cons.mpr ⟨sn_iload_n (k := 1) (by decide +kernel), ?_⟩
  refine List.forall_mem_cons.mpr ⟨sn_iconst (k := 0) (by decide +kernel) (by decide), ?_⟩
  refine List.forall_mem_cons.mpr ⟨sn_bipush (k := 15) (by decide +kernel) (by decide), ?_⟩
  refine List.forall_mem_cons.mpr ⟨⟨i_120, rfl, mk_callS (by decide) (by decide) cs_120 (Or.inl tw_920) (by decide +kernel)⟩, ?_⟩
  refine List.forall_mem_cons.mpr ⟨sn_if_eq (off := 7) (by decide +kernel) (by decide), ?_⟩
  refine List.forall_mem_cons.mpr ⟨sn_iconst (k := 0) (by decide +kernel) (by decide), ?_⟩
  refine List.forall_mem_cons.mpr ⟨sn_goto (off := 4) (by decide +kernel) (by decide), ?_⟩
  refine List.forall_mem_cons.mpr ⟨sn_iconst (k := 1) (by decide +kernel) (by decide), ?_⟩
  refine List.forall_mem_cons.mpr ⟨sn_putf tyX10 (by decide +kernel) rfl tbX10 tyX10_ok nmX10 (by decide) tw_859 (Or.inl rfl) rfl, ?_⟩
  refine List.forall_mem_cons.mpr ⟨sn_aload_n (k := 0) (by decide +kernel), ?_⟩
  refine List.forall_mem_cons.mpr ⟨sn_getf (by decide +kernel) rfl tbX10 (by decide) tw_859, ?_⟩
  refine List.forall_mem_cons.mpr ⟨sn_if_ne (off := 12) (by decide +kernel) (by decide), ?_⟩
  refine List.forall_mem_cons.mpr ⟨sn_aload_n (k := 0) (by decide +kernel), ?_⟩
  refine List.forall_mem_cons.mpr ⟨sn_getf (by decide +kernel) rfl tbX10 (by decide) tw_863, ?_⟩
  refine List.forall_mem_cons.mpr ⟨sn_iload_n (k := 1) (by decide +kernel), ?_⟩
  refine List.forall_mem_cons.mpr ⟨sn_iald (by decide +kernel), ?_⟩
  refine List.forall_mem_cons.mpr ⟨sn_goto (off := 4) (by decide +kernel) (by decide), ?_⟩
  refine List.forall_mem_cons.mpr ⟨sn_iconst (k := 0) (by decide +kernel) (by decide), ?_⟩
  refine List.forall_mem_cons.mpr ⟨⟨rfl, (by decide +kernel : decode prog_12_method_28_code 36 = .ok (.ireturn, 1))⟩, ?_⟩
  exact fun _ h => absurd h List.not_mem_nil
set_option maxRecDepth 20000 in
theorem ok_144 : ∀ q ∈ mt_144, mx_ok mx_I0 i_144 q.1 q.2 := by
  refine List.forall_mem_cons.mpr ⟨sn_aload_n (k := 0) (by decide +kernel), ?_⟩
  refine List.forall_mem_cons.mpr ⟨sn_iconst (k := 0) (by decide +kernel) (by decide), ?_⟩
  refine List.forall_mem_cons.mpr ⟨sn_putf tyX10 (by decide +kernel) rfl tbX10 tyX10_ok nmX10 (by decide) tw_859 (Or.inl rfl) rfl, ?_⟩
  refine List.forall_mem_cons.mpr ⟨sn_iload_n (k := 1) (by decide +kernel), ?_⟩
  refine List.forall_mem_cons.mpr ⟨sn_iconst (k := 0) (by decide +kernel) (by decide), ?_⟩
  refine List.forall_mem_cons.mpr ⟨sn_bipush (k := 63) (by decide +kernel) (by decide), ?_⟩
  refine List.forall_mem_cons.mpr ⟨⟨i_120, rfl, mk_callS (by decide) (by decide) cs_120 (Or.inl tw_920) (by decide +kernel)⟩, ?_⟩
  refine List.forall_mem_cons.mpr ⟨sn_if_ne (off := 5) (by decide +kernel) (by decide), ?_⟩
  refine List.forall_mem_cons.mpr ⟨sn_iconst (k := 0) (by decide +kernel) (by decide), ?_⟩
  refine List.forall_mem_cons.mpr ⟨⟨rfl, (by decide +kernel : decode prog_12_method_29_code 16 = .ok (.ireturn, 1))⟩, ?_⟩
  refine List.forall_mem_cons.mpr ⟨sn_aload_n (k := 0) (by decide +kernel), ?_⟩
  refine List.forall_mem_cons.mpr ⟨sn_getf (by decide +kernel) rfl tbX10 (by decide) tw_864, ?_⟩
  refine List.forall_mem_cons.mpr ⟨sn_iload_n (k := 1) (by decide +kernel), ?_⟩
  refine List.forall_mem_cons.mpr ⟨sn_iald (by decide +kernel), ?_⟩
  refine List.forall_mem_cons.mpr ⟨sn_istore_n (k := 3) (by decide +kernel) (by decide), ?_⟩
  refine List.forall_mem_cons.mpr ⟨sn_aload_n (k := 0) (by decide +kernel), ?_⟩
  refine List.forall_mem_cons.mpr ⟨sn_getf (by decide +kernel) rfl tbX10 (by decide) tw_864, ?_⟩
  refine List.forall_mem_cons.mpr ⟨sn_iload_n (k := 1) (by decide +kernel), ?_⟩
  refine List.forall_mem_cons.mpr ⟨sn_iload_n (k := 2) (by decide +kernel), ?_⟩
  refine List.forall_mem_cons.mpr ⟨sn_iast (by decide +kernel), ?_⟩
  refine List.forall_mem_cons.mpr ⟨sn_iload_n (k := 3) (by decide +kernel), ?_⟩
  refine List.forall_mem_cons.mpr ⟨⟨rfl, (by decide +kernel : decode prog_12_method_29_code 32 = .ok (.ireturn, 1))⟩, ?_⟩
  exact fun _ h => absurd h List.not_mem_nil
set_option maxRecDepth 20000 in
theorem ok_145 : ∀ q ∈ mt_145, mx_ok mx_I0 i_145 q.1 q.2 := by
  refine List.forall_mem_cons.mpr ⟨sn_aload_n (k := 0) (by decide +kernel), ?_⟩
  refine List.forall_mem_cons.mpr ⟨sn_iload_n (k := 1) (by decide +kernel), ?_⟩
  refine List.forall_mem_cons.mpr ⟨sn_iconst (k := 0) (by decide +kernel) (by decide), ?_⟩
  refine List.forall_mem_cons.mpr ⟨sn_bipush (k := 63) (by decide +kernel) (by decide), ?_⟩
  refine List.forall_mem_cons.mpr ⟨⟨i_120, rfl, mk_callS (by decide) (by decide) cs_120 (Or.inl tw_920) (by decide +kernel)⟩, ?_⟩
  refine List.forall_mem_cons.mpr ⟨sn_if_eq (off := 7) (by decide +kernel) (by decide), ?_⟩
  refine List.forall_mem_cons.mpr ⟨sn_iconst (k := 0) (by decide +kernel) (by decide), ?_⟩
  refine List.forall_mem_cons.mpr ⟨sn_goto (off := 4) (by decide +kernel) (by decide), ?_⟩
  refine List.forall_mem_cons.mpr ⟨sn_iconst (k := 1) (by decide +kernel) (by decide), ?_⟩
  refine List.forall_mem_cons.mpr ⟨sn_putf tyX10 (by decide +kernel) rfl tbX10 tyX10_ok nmX10 (by decide) tw_859 (Or.inl rfl) rfl, ?_⟩
  refine List.forall_mem_cons.mpr ⟨sn_aload_n (k := 0) (by decide +kernel), ?_⟩
  refine List.forall_mem_cons.mpr ⟨sn_getf (by decide +kernel) rfl tbX10 (by decide) tw_859, ?_⟩
  refine List.forall_mem_cons.mpr ⟨sn_if_ne (off := 12) (by decide +kernel) (by decide), ?_⟩
  refine List.forall_mem_cons.mpr ⟨sn_aload_n (k := 0) (by decide +kernel), ?_⟩
  refine List.forall_mem_cons.mpr ⟨sn_getf (by decide +kernel) rfl tbX10 (by decide) tw_864, ?_⟩
  refine List.forall_mem_cons.mpr ⟨sn_iload_n (k := 1) (by decide +kernel), ?_⟩
  refine List.forall_mem_cons.mpr ⟨sn_iald (by decide +kernel), ?_⟩
  refine List.forall_mem_cons.mpr ⟨sn_goto (off := 4) (by decide +kernel) (by decide), ?_⟩
  refine List.forall_mem_cons.mpr ⟨sn_iconst (k := 0) (by decide +kernel) (by decide), ?_⟩
  refine List.forall_mem_cons.mpr ⟨⟨rfl, (by decide +kernel : decode prog_12_method_30_code 36 = .ok (.ireturn, 1))⟩, ?_⟩
  exact fun _ h => absurd h List.not_mem_nil
end
section
/-! EVERY METHOD HAS ITS CONTRACT -/
def mx_both : List mx_I → List (List (Nat × mx_E)) → Prop
  | i :: is, t :: ts => (∀ q ∈ t, mx_ok mx_I0 i q.1 q.2) ∧ mx_both is ts
  | [], [] => True
  | _, _ => False
set_option maxRecDepth 20000 in
theorem mx_both_all : mx_both mx_infos mx_tabs := ⟨ok_0, ok_1, ok_2, ok_3, ok_4, ok_5, ok_6, ok_7, ok_8, ok_9, ok_10, ok_11, ok_12, ok_13, ok_14, ok_15, ok_16, ok_17, ok_18, ok_19, ok_20, ok_21, ok_22, ok_23, ok_24, ok_25, ok_26, ok_27, ok_28, ok_29, ok_30, ok_31, ok_32, ok_33, ok_34, ok_35, ok_36, ok_37, ok_38, ok_39, ok_40, ok_41, ok_42, ok_43, ok_44, ok_45, ok_46, ok_47, ok_48, ok_49, ok_50, ok_51, ok_52, ok_53, ok_54, ok_55, ok_56, ok_57, ok_58, ok_59, ok_60, ok_61, ok_62, ok_63, ok_64, ok_65, ok_66, ok_67, ok_68, ok_69, ok_70, ok_71, ok_72, ok_73, ok_74, ok_75, ok_76, ok_77, ok_78, ok_79, ok_80, ok_81, ok_82, ok_83, ok_84, ok_85, ok_86, ok_87, ok_88, ok_89, ok_90, ok_91, ok_92, ok_93, ok_94, ok_95, ok_96, ok_97, ok_98, ok_99, ok_100, ok_101, ok_102, ok_103, ok_104, ok_105, ok_106, ok_107, ok_108, ok_109, ok_110, ok_111, ok_112, ok_113, ok_114, ok_115, ok_116, ok_117, ok_118, ok_119, ok_120, ok_121, ok_122, ok_123, ok_124, ok_125, ok_126, ok_127, ok_128, ok_129, ok_130, ok_131, ok_132, ok_133, ok_134, ok_135, ok_136, ok_137, ok_138, ok_139, ok_140, ok_141, ok_142, ok_143, ok_144, ok_145, trivial⟩
theorem mx_both_at : ∀ (is : List mx_I) (ts : List (List (Nat × mx_E))), mx_both is ts → ∀ (k : Nat) (t : List (Nat × mx_E)), ts[k]? = some t → ∃ i, is[k]? = some i ∧ ∀ q ∈ t, mx_ok mx_I0 i q.1 q.2 := by
  intro is
  induction is with
  | nil =>
    intro ts h k t hk
    cases ts with
    | nil => simp at hk
    | cons a b => exact h.elim
  | cons i is ih =>
    intro ts h k t hk
    cases ts with
    | nil => exact h.elim
    | cons a b =>
      cases k with
      | zero =>
        have : a = t := by simpa using hk
        exact ⟨i, rfl, this ▸ h.1⟩
      | succ k => exact ih b h.2 k t (by simpa using hk)
theorem mx_find_mem : ∀ (t : List (Nat × mx_E)) (pc : Nat) (e : mx_E), mx_find t pc = some e → (pc, e) ∈ t := by
  intro t
  induction t with
  | nil => intro pc e h; cases h
  | cons q r ih =>
    intro pc e h
    unfold mx_find at h
    by_cases hq : q.1 = pc
    · rw [if_pos hq] at h
      cases h
      rw [← hq]
      exact List.mem_cons_self
    · rw [if_neg hq] at h
      exact List.mem_cons_of_mem _ (ih pc e h)
theorem mx_M_ok {mi pc : Nat} {e : mx_E} (h : mx_M mi pc = some e) : ∃ i, mx_I0 mi = some i ∧ mx_ok mx_I0 i pc e := by
  unfold mx_M at h
  split at h
  · rename_i t ht
    obtain ⟨i, h1, h2⟩ := mx_both_at _ _ mx_both_all mi t ht
    exact ⟨i, h1, h2 _ (mx_find_mem t pc e h)⟩
  · cases h
theorem mx_M_mono : mx_mono mx_M := by
  intro mi pc f h
  obtain ⟨i, -, h2⟩ := mx_M_ok h
  exact h2.1
theorem mx_plain : ∀ i ∈ mx_infos, plainName i.1.cls = true := by decide +kernel
/-- what a method's table comes to is what the method does on the machine -/
theorem mx_all (l : Launch) (D : va_G) (cI cZ : ClassId) : ∀ (mi : Nat) (i : mx_I), mx_I0 mi = some i → mx_Met mx_M l D cI cZ mi i := by
  refine mx_sound mx_M_mono (fun mi i hi => Or.inl ⟨mx_plain i (List.mem_of_getElem? hi), fun pc en hM => ?_⟩)
  obtain ⟨j, h1, h2⟩ := mx_M_ok hM
  cases hi.symm.trans h1
  exact h2
end
section
/-! WALKING A TABLE -/
def mx_steps (M : Nat → Nat → Option mx_E) : Nat → Nat → Nat → mx_L → List Value → mx_H → Option mx_S
  | 0, _, pc, lv, st, h => some (pc, lv, st, h)
  | k + 1, mi, pc, lv, st, h => match M mi pc with
    | some (.inl f) => (match f lv st h with
      | some (pc', lv', st', h') => mx_steps M k mi pc' lv' st' h'
      | none => none)
    | _ => none
theorem mx_to.steps {M : Nat → Nat → Option mx_E} (k : Nat) {mi pc pc' : Nat} {lv lv' : mx_L} {st st' : List Value} {h h' : mx_H} {r : Option Value × mx_H} (hs : mx_steps M k mi pc lv st h = some (pc', lv', st', h')) (go : mx_to M mi pc' lv' st' h' r) : mx_to M mi pc lv st h r := by
  induction k generalizing pc lv st h with
  | zero => cases hs; exact go
  | succ k ih =>
    rw [mx_steps] at hs
    cases hM : M mi pc with
    | none => rw [hM] at hs; cases hs
    | some x =>
      rw [hM] at hs
      rcases x with f | c | ty
      · cases hq : f lv st h with
        | none => simp only [hq] at hs; cases hs
        | some q =>
          simp only [hq] at hs
          exact mx_to.step hM (by rw [hq]) (ih hs)
      · cases hs
      · cases hs
abbrev Go (mi pc : Nat) (lv : mx_L) (st : List Value) (h : mx_H) (r : Option Value × mx_H) : Prop := mx_to mx_M mi pc lv st h r
section WK
variable {mi pc : Nat} {lv : mx_L} {st : List Value} {h : mx_H} {r : Option Value × mx_H}
theorem go_if {g : Int32 → Bool} {t n : Nat} {x : Int32} (hM : mx_M mi pc = some (.inl (sx_if g t n))) (h1 : g x = true → Go mi t lv st h r) (h2 : g x = false → Go mi n lv st h r) : Go mi pc lv (.int x :: st) h r := by
  by_cases hc : g x = true
  · exact mx_to.step hM (by simp only [sx_if, if_pos hc]) (h1 hc)
  · exact mx_to.step hM (by simp only [sx_if, if_neg hc]) (h2 (by simpa using hc))
theorem go_icmp {g : Int32 → Int32 → Bool} {t n : Nat} {x y : Int32} (hM : mx_M mi pc = some (.inl (sx_icmp g t n))) (h1 : g x y = true → Go mi t lv st h r) (h2 : g x y = false → Go mi n lv st h r) : Go mi pc lv (.int y :: .int x :: st) h r := by
  by_cases hc : g x y = true
  · exact mx_to.step hM (by simp only [sx_icmp, if_pos hc]) (h1 hc)
  · exact mx_to.step hM (by simp only [sx_icmp, if_neg hc]) (h2 (by simpa using hc))
theorem go_getf {ci k n a : Nat} {fs : List Value} {v : Value} (hM : mx_M mi pc = some (.inl (sx_getf ci k n))) (hg : mx_get h a = some (.inr (ci, fs))) (hv : fs[k]? = some v) (go : Go mi n lv (v :: st) h r) : Go mi pc lv (.ref a :: st) h r :=
  mx_to.step hM (by simp only [sx_getf, hg, if_true, hv]) go
theorem go_putf {ci k n a : Nat} {ty : FieldType} {fs : List Value} {v : Value} (hM : mx_M mi pc = some (.inl (sx_putf ci k ty n))) (hg : mx_get h a = some (.inr (ci, fs))) (hk : k < fs.length) (hn : narrow ty v = v) (hf : fits ty v = true) (go : Go mi n lv st (mx_set h a (.inr (ci, fs.set k v))) r) : Go mi pc lv (v :: .ref a :: st) h r :=
  mx_to.step hM (by simp only [sx_putf, hg, hk, hn, hf, and_self, if_true]) go
theorem go_ald {t : Bool} {n a len : Nat} {i : Int32} {f : Nat → Int32} (hM : mx_M mi pc = some (.inl (sx_ald t n))) (hg : mx_get h a = some (.inl (t, len, f))) (hi : ¬ (i < 0 ∨ len ≤ i.toNatClampNeg)) (go : Go mi n lv (.int (f i.toNatClampNeg) :: st) h r) : Go mi pc lv (.int i :: .ref a :: st) h r :=
  mx_to.step hM (by simp only [sx_ald, mx_rd, hg, hi, not_false_eq_true, and_self, if_true]) go
theorem go_ast {n a len : Nat} {i v : Int32} {f : Nat → Int32} (hM : mx_M mi pc = some (.inl (sx_ast false n))) (hg : mx_get h a = some (.inl (false, len, f))) (hi : ¬ (i < 0 ∨ len ≤ i.toNatClampNeg)) (go : Go mi n lv st (mx_set h a (.inl (false, len, upd f i.toNatClampNeg v))) r) : Go mi pc lv (.int v :: .int i :: .ref a :: st) h r :=
  mx_to.step hM (by simp only [sx_ast, hg, hi, not_false_eq_true, and_self, if_true]; rfl) go
theorem go_zst {n a len : Nat} {i v : Int32} {f : Nat → Int32} (hM : mx_M mi pc = some (.inl (sx_ast true n))) (hg : mx_get h a = some (.inl (true, len, f))) (hi : ¬ (i < 0 ∨ len ≤ i.toNatClampNeg)) (go : Go mi n lv st (mx_set h a (.inl (true, len, upd f i.toNatClampNeg (vp_nar .boolean v)))) r) : Go mi pc lv (.int v :: .int i :: .ref a :: st) h r :=
  mx_to.step hM (by simp only [sx_ast, hg, hi, not_false_eq_true, and_self, if_true]) go
theorem go_alen {n a len : Nat} {t : Bool} {f : Nat → Int32} (hM : mx_M mi pc = some (.inl (sx_alen n))) (hg : mx_get h a = some (.inl (t, len, f))) (go : Go mi n lv (.int (nI len) :: st) h r) : Go mi pc lv (.ref a :: st) h r :=
  mx_to.step hM (by simp only [sx_alen, mx_len, hg]; rfl) go
end WK
theorem go_new {mi pc ci n : Nat} {fs : List Value} {lv : mx_L} {st : List Value} {h : mx_H} {r : Option Value × mx_H} (hM : mx_M mi pc = some (.inl (sx_new ci fs n))) (go : Go mi n lv (.ref h.1 :: st) (mx_push h fs.length (.inr (ci, fs))) r) : Go mi pc lv st h r := mx_to.step hM rfl go
theorem go_newa {mi pc n : Nat} {t : Bool} {k : Int32} {lv : mx_L} {st : List Value} {h : mx_H} {r : Option Value × mx_H} (hM : mx_M mi pc = some (.inl (sx_newa t n))) (hk : ¬ k < 0) (hb : k.toNatClampNeg * 4 ≤ 536870912) (go : Go mi n lv (.ref h.1 :: st) (mx_push h k.toNatClampNeg (.inl (t, k.toNatClampNeg, fun _ => 0))) r) : Go mi pc lv (.int k :: st) h r := mx_to.step hM (by simp only [sx_newa, hk, hb, not_false_eq_true, and_self, if_true]) go
/-- behind a call: the callee's own run, then the rest -/
theorem go_call {mi pc : Nat} {c : Nat × Nat × Option (Option Nat) × Nat} {lv lv' : mx_L} {st : List Value} {h : mx_H} {r q : Option Value × mx_H} (hM : mx_M mi pc = some (.inr (.inl c))) (hc : mx_cok c st h = true) (hl : lv_args 0 (st.take c.2.1).reverse = lv') (hq : Go c.1 0 lv' [] h q) (go : Go mi (pc + 3) lv (q.1.toList ++ st.drop c.2.1) q.2 r) : Go mi pc lv st h r := mx_to.call hM hc (by rw [hl]; exact hq) go
theorem go_ret {mi pc : Nat} {ty : Option FieldType} {lv : mx_L} {st : List Value} {h : mx_H} {r : Option Value × mx_H} (hM : mx_M mi pc = some (.inr (.inr ty))) (hr : mx_ret ty st h = some r) : Go mi pc lv st h r := mx_to.ret hM hr
end
section
/-! THE STATE OF AN OBJECT by offsets from its base address z: a Numbers is a list, everything else a cell -/
abbrev xC : Type := List Int32 ⊕ mx_C
abbrev xS : Type := Nat → Option xC
def xu (S : xS) (k : Nat) (c : xC) : xS := fun q => if q = k then some c else S q
theorem xu_self (S : xS) (k : Nat) (c : xC) : xu S k c k = some c := by simp [xu]
theorem xu_ne (S : xS) {k q : Nat} (c : xC) (h : q ≠ k) : xu S k c q = S q := by simp [xu, h]
/-- the three static arrays -/
def x_stat : Nat → Nat × (Nat → Int32)
  | 0 => (21, fun j => ([-1, 15, 15, -1, -1, -1, -1, 10, 5, 5, 99, 99, 99, 99, -1, -1, -1, -1, -1, -1, -1] : List Int32).getD j 0)
  | 1 => (21, fun j => ([0, 0, 1, 1, 2, 1, 1, 2, 2, 2, 0, 1, 1, 0, 1, 0, 1, 0, 1, 2, 3] : List Int32).getD j 0)
  | _ => (21, fun j => ([1, 1, 0, 1, 0, 1, 1, 1, 1, 2, 0, 0, 0, 0, 0, 0, 0, 0, 1, 1, 0] : List Int32).getD j 0)
def xG (g : mx_G) (h : mx_H) : Prop := h.2.2.2 = g ∧ ∀ k, k < 3 → g.1 k < h.1 ∧ mx_get h (g.1 k) = none ∧ g.2 (g.1 k) = some (x_stat k)
/-- e: how often a Numbers' row was doubled; ar: where its row lies; f: what is in it -/
def xJ (z : Nat) (NK : List Nat) (c : Nat × Nat) (g : mx_G) (h : mx_H) (S : xS) (e ar : Nat → Nat) (f : Nat → Nat → Int32) : Prop :=
  h.1 = c.1 + (NK.map e).sum ∧ h.2.1 = c.2 + (NK.map fun k => 32 * 2 ^ e k - 32).sum ∧ xG g h ∧
  (∀ k x, S k = some (.inr x) → mx_get h (z + k) = some x) ∧
  (∀ k xs, S k = some (.inl xs) → k ∈ NK ∧ mx_get h (z + k) = some (.inr (6, [.ref (ar k), .int (nI xs.length)])) ∧ mx_get h (ar k) = some (.inl (false, 16 * 2 ^ e k, f k)) ∧ xs.length ≤ 16 * 2 ^ e k ∧ e k ≤ 13 ∧ (∀ i v, xs[i]? = some v → f k i = v) ∧ ∀ j, (S j).isSome = true → ar k ≠ z + j) ∧
  (∀ k k' xs xs', S k = some (.inl xs) → S k' = some (.inl xs') → ar k = ar k' → k = k') ∧
  ∀ q, h.1 ≤ q → mx_get h q = none
def xD (z : Nat) (NK : List Nat) (c : Nat × Nat) (S : xS) : Prop := NK.Nodup ∧ (∀ k ∈ NK, z + k < c.1) ∧ ∀ j, (S j).isSome = true → z + j < c.1
def xI (z : Nat) (NK : List Nat) (c : Nat × Nat) (g : mx_G) (h : mx_H) (S : xS) : Prop := xD z NK c S ∧ ∃ e ar f, xJ z NK c g h S e ar f
theorem xD.up {z : Nat} {NK : List Nat} {c : Nat × Nat} {S : xS} (hD : xD z NK c S) {k : Nat} {x y : xC} (hk : S k = some x) : xD z NK c (xu S k y) := by
  refine ⟨hD.1, hD.2.1, fun j hj => hD.2.2 j ?_⟩
  by_cases hjk : j = k
  · rw [hjk, hk]; rfl
  · rw [xu_ne _ _ hjk] at hj; exact hj
theorem xI.obj {z : Nat} {NK : List Nat} {c : Nat × Nat} {g : mx_G} {h : mx_H} {S : xS} (hI : xI z NK c g h S) {k : Nat} {x : mx_C} (hk : S k = some (.inr x)) : mx_get h (z + k) = some x := by
  obtain ⟨-, e, ar, f, -, -, -, h4, -⟩ := hI
  exact h4 k x hk
theorem xG.keep {g : mx_G} {h h' : mx_H} (hG : xG g h) (h1 : h'.1 = h.1) (h2 : h'.2.2.2 = h.2.2.2) (h3 : ∀ q, mx_get h q = none → mx_get h' q = none) : xG g h' :=
  ⟨h2.trans hG.1, fun k hk => ⟨by rw [h1]; exact (hG.2 k hk).1, h3 _ (hG.2 k hk).2.1, (hG.2 k hk).2.2⟩⟩
theorem xI.set {z : Nat} {NK : List Nat} {c : Nat × Nat} {g : mx_G} {h : mx_H} {S : xS} (hI : xI z NK c g h S) {k : Nat} {x : mx_C} (hk : S k = some (.inr x)) (y : mx_C) : xI z NK c g (mx_set h (z + k) y) (xu S k (.inr y)) := by
  obtain ⟨hD, e, ar, f, h1, h2, h3, h4, h5, h6, h7⟩ := hI
  have hsome : ∀ j, (xu S k (.inr y) j).isSome = true → (S j).isSome = true := by
    intro j hj
    by_cases hjk : j = k
    · rw [hjk, hk]; rfl
    · rw [xu_ne _ _ hjk] at hj; exact hj
  refine ⟨hD.up hk, e, ar, f, h1, h2, h3.keep rfl rfl ?_, ?_, ?_, ?_, ?_⟩
  · intro q hq
    rw [mx_get_set]
    by_cases hqk : q = z + k
    · rw [hqk, h4 k x hk] at hq; cases hq
    · rw [if_neg hqk]; exact hq
  · intro j u hj
    rw [mx_get_set]
    by_cases hjk : j = k
    · subst hjk
      rw [xu_self] at hj
      cases hj
      rw [if_pos rfl]
    · rw [xu_ne _ _ hjk] at hj
      rw [if_neg (by omega)]
      exact h4 j u hj
  · intro j xs hj
    have hjk : j ≠ k := by
      intro hh
      subst hh
      rw [xu_self] at hj
      cases hj
    rw [xu_ne _ _ hjk] at hj
    obtain ⟨a1, a2, a3, a4, a5, a6, a7⟩ := h5 j xs hj
    have hne : ar j ≠ z + k := a7 k (by rw [hk]; rfl)
    refine ⟨a1, ?_, ?_, a4, a5, a6, fun i hi => a7 i (hsome i hi)⟩
    · rw [mx_get_set, if_neg (by omega)]; exact a2
    · rw [mx_get_set, if_neg hne]; exact a3
  · intro i j xs xs' hi hj
    have hik : i ≠ k := by
      intro hh
      subst hh
      rw [xu_self] at hi
      cases hi
    have hjk : j ≠ k := by
      intro hh
      subst hh
      rw [xu_self] at hj
      cases hj
    rw [xu_ne _ _ hik] at hi
    rw [xu_ne _ _ hjk] at hj
    exact h6 i j xs xs' hi hj
  · intro q hq
    rw [mx_get_set]
    have h8 := h7 q hq
    by_cases hqk : q = z + k
    · rw [hqk, h4 k x hk] at h8; cases h8
    · rw [if_neg hqk]; exact h8
/-- a Numbers has changed, in its place -/
theorem xJ.num {z : Nat} {NK : List Nat} {c : Nat × Nat} {g : mx_G} {h h' : mx_H} {S : xS} {e ar : Nat → Nat} {f : Nat → Nat → Int32} (hD : xD z NK c S) (hJ : xJ z NK c g h S e ar f) {k : Nat} {xs ys : List Int32} {f' : Nat → Int32} (hk : S k = some (.inl xs)) (z1 : h'.1 = h.1) (z2 : h'.2.1 = h.2.1) (z3 : h'.2.2.2 = h.2.2.2)
    (g1 : mx_get h' (z + k) = some (.inr (6, [.ref (ar k), .int (nI ys.length)]))) (g2 : mx_get h' (ar k) = some (.inl (false, 16 * 2 ^ e k, f'))) (g3 : ∀ q, q ≠ z + k → q ≠ ar k → mx_get h' q = mx_get h q) (hl : ys.length ≤ 16 * 2 ^ e k) (hv : ∀ i v, ys[i]? = some v → f' i = v) : xI z NK c g h' (xu S k (.inl ys)) := by
  obtain ⟨h1, h2, h3, h4, h5, h6, h7⟩ := hJ
  obtain ⟨a1, a2, a3, a4, a5, a6, a7⟩ := h5 k xs hk
  have hsome : ∀ j, (xu S k (.inl ys) j).isSome = true → (S j).isSome = true := by
    intro j hj
    by_cases hjk : j = k
    · rw [hjk, hk]; rfl
    · rw [xu_ne _ _ hjk] at hj; exact hj
  have hnone : ∀ q, mx_get h q = none → mx_get h' q = none := by
    intro q hq
    rw [g3 q (fun w => by rw [w, a2] at hq; cases hq) (fun w => by rw [w, a3] at hq; cases hq)]
    exact hq
  refine ⟨hD.up hk, e, ar, va_up f k f', z1.trans h1, z2.trans h2, h3.keep z1 z3 hnone, ?_, ?_, ?_, ?_⟩
  · intro j u hj
    have hjk : j ≠ k := by
      intro hh
      subst hh
      rw [xu_self] at hj
      cases hj
    rw [xu_ne _ _ hjk] at hj
    rw [g3 _ (by omega) (fun w => a7 j (by rw [hj]; rfl) w.symm)]
    exact h4 j u hj
  · intro j us hj
    by_cases hjk : j = k
    · subst hjk
      rw [xu_self] at hj
      cases hj
      refine ⟨a1, g1, by rw [va_up_self]; exact g2, hl, a5, by rw [va_up_self]; exact hv, fun i hi => a7 i (hsome i hi)⟩
    · rw [xu_ne _ _ hjk] at hj
      obtain ⟨b1, b2, b3, b4, b5, b6, b7⟩ := h5 j us hj
      refine ⟨b1, ?_, ?_, b4, b5, by rw [va_up_ne f f' hjk]; exact b6, fun i hi => b7 i (hsome i hi)⟩
      · rw [g3 _ (by omega) (fun w => a7 j (by rw [hj]; rfl) w.symm)]; exact b2
      · rw [va_up_ne f f' hjk, g3 _ (b7 k (by rw [hk]; rfl)) (fun w => hjk (h6 j k us xs hj hk w))]; exact b3
  · intro i j us vs hi hj
    have hi' : ∃ us', S i = some (.inl us') := by
      by_cases hik : i = k
      · exact ⟨xs, hik ▸ hk⟩
      · rw [xu_ne _ _ hik] at hi; exact ⟨us, hi⟩
    have hj' : ∃ us', S j = some (.inl us') := by
      by_cases hjk : j = k
      · exact ⟨xs, hjk ▸ hk⟩
      · rw [xu_ne _ _ hjk] at hj; exact ⟨vs, hj⟩
    obtain ⟨us', hi'⟩ := hi'
    obtain ⟨vs', hj'⟩ := hj'
    exact h6 i j us' vs' hi' hj'
  · intro q hq
    rw [z1] at hq
    exact hnone q (h7 q hq)
theorem x_sum_up {NK : List Nat} {e : Nat → Nat} {F : Nat → Nat} {k d : Nat} (hn : NK.Nodup) (hk : k ∈ NK) (x : Nat) (hx : F x = F (e k) + d) : (NK.map fun j => F (va_up e k x j)).sum = (NK.map fun j => F (e j)).sum + d := by
  induction NK with
  | nil => cases hk
  | cons a r ih =>
    have hn' := List.nodup_cons.mp hn
    simp only [List.map_cons, List.sum_cons]
    by_cases ha : a = k
    · subst ha
      rw [va_up_self]
      have e1 : (r.map fun j => F (va_up e a x j)) = r.map fun j => F (e j) := List.map_congr_left (fun j hj => by rw [va_up_ne e x (show j ≠ a from fun w => hn'.1 (by rw [← w]; exact hj))])
      rw [e1, hx]
      omega
    · rw [va_up_ne e x ha, ih hn'.2 ((List.mem_cons.mp hk).resolve_left (fun w => ha w.symm))]
      omega
/-- a Numbers has got a row of twice the length -/
theorem xJ.grow {z : Nat} {NK : List Nat} {c : Nat × Nat} {g : mx_G} {h h' : mx_H} {S : xS} {e ar : Nat → Nat} {f : Nat → Nat → Int32} (hD : xD z NK c S) (hJ : xJ z NK c g h S e ar f) {k : Nat} {xs ys : List Int32} {f' : Nat → Int32} (hk : S k = some (.inl xs)) (he : e k + 1 ≤ 13) (z1 : h'.1 = h.1 + 1) (z2 : h'.2.1 = h.2.1 + 2 * (16 * 2 ^ e k)) (z3 : h'.2.2.2 = h.2.2.2)
    (g1 : mx_get h' (z + k) = some (.inr (6, [.ref h.1, .int (nI ys.length)]))) (g2 : mx_get h' h.1 = some (.inl (false, 2 * (16 * 2 ^ e k), f'))) (g3 : ∀ q, q ≠ z + k → q ≠ h.1 → mx_get h' q = mx_get h q) (hl : ys.length ≤ 2 * (16 * 2 ^ e k)) (hv : ∀ i v, ys[i]? = some v → f' i = v) : xI z NK c g h' (xu S k (.inl ys)) := by
  obtain ⟨hNK, hzs, hS⟩ := id hD
  obtain ⟨h1, h2, h3, h4, h5, h6, h7⟩ := hJ
  obtain ⟨a1, a2, a3, a4, a5, a6, a7⟩ := h5 k xs hk
  have hc1 : c.1 ≤ h.1 := by omega
  have hsome : ∀ j, (xu S k (.inl ys) j).isSome = true → (S j).isSome = true := by
    intro j hj
    by_cases hjk : j = k
    · rw [hjk, hk]; rfl
    · rw [xu_ne _ _ hjk] at hj; exact hj
  have hp : 16 * 2 ^ (e k + 1) = 2 * (16 * 2 ^ e k) := by rw [Nat.pow_succ]; omega
  have hpos : 1 ≤ 2 ^ e k := Nat.one_le_two_pow
  have hlt : ∀ j us, S j = some (.inl us) → ar j < h.1 := by
    intro j us hj
    obtain ⟨-, -, b3, -⟩ := h5 j us hj
    rcases Nat.lt_or_ge (ar j) h.1 with w | w
    · exact w
    · rw [h7 _ w] at b3; cases b3
  refine ⟨hD.up hk, va_up e k (e k + 1), va_up ar k h.1, va_up f k f', ?_, ?_, ⟨z3.trans h3.1, fun j hj => ?_⟩, ?_, ?_, ?_, ?_⟩
  · have := x_sum_up (F := fun x => x) (e := e) (d := 1) hNK a1 (e k + 1) rfl
    have e9 : (NK.map (va_up e k (e k + 1))).sum = (NK.map e).sum + 1 := this
    rw [z1, h1, e9]
    omega
  · have := x_sum_up (F := fun x => 32 * 2 ^ x - 32) (e := e) (d := 2 * (16 * 2 ^ e k)) hNK a1 (e k + 1) (by
      have h9 : 32 * 2 ^ (e k + 1) = 2 * (32 * 2 ^ e k) := by rw [Nat.pow_succ]; omega
      show 32 * 2 ^ (e k + 1) - 32 = 32 * 2 ^ e k - 32 + 2 * (16 * 2 ^ e k)
      omega)
    rw [z2, h2, this]
    omega
  · obtain ⟨b1, b2, b3⟩ := h3.2 j hj
    refine ⟨by omega, ?_, b3⟩
    rw [g3 _ (fun w => by rw [w, a2] at b2; cases b2) (by omega)]
    exact b2
  · intro j u hj
    have hjk : j ≠ k := by
      intro hh
      subst hh
      rw [xu_self] at hj
      cases hj
    rw [xu_ne _ _ hjk] at hj
    have := hS j (by rw [hj]; rfl)
    rw [g3 _ (by omega) (by omega)]
    exact h4 j u hj
  · intro j us hj
    by_cases hjk : j = k
    · subst hjk
      rw [xu_self] at hj
      cases hj
      rw [va_up_self, va_up_self, va_up_self, hp]
      refine ⟨a1, g1, g2, hl, he, hv, fun i hi => ?_⟩
      have := hS i (hsome i hi)
      omega
    · rw [xu_ne _ _ hjk] at hj
      obtain ⟨b1, b2, b3, b4, b5, b6, b7⟩ := h5 j us hj
      have hl1 := hlt j us hj
      rw [va_up_ne e _ hjk, va_up_ne ar _ hjk, va_up_ne f _ hjk]
      have hzj := hzs j b1
      refine ⟨b1, ?_, ?_, b4, b5, b6, fun i hi => b7 i (hsome i hi)⟩
      · rw [g3 _ (by omega) (by omega)]; exact b2
      · rw [g3 _ (b7 k (by rw [hk]; rfl)) (by omega)]; exact b3
  · intro i j us vs hi hj hij
    have hi' : ∃ us', S i = some (.inl us') := by
      by_cases hik : i = k
      · exact ⟨xs, hik ▸ hk⟩
      · rw [xu_ne _ _ hik] at hi; exact ⟨us, hi⟩
    have hj' : ∃ us', S j = some (.inl us') := by
      by_cases hjk : j = k
      · exact ⟨xs, hjk ▸ hk⟩
      · rw [xu_ne _ _ hjk] at hj; exact ⟨vs, hj⟩
    obtain ⟨us', hi'⟩ := hi'
    obtain ⟨vs', hj'⟩ := hj'
    have l1 := hlt i us' hi'
    have l2 := hlt j vs' hj'
    by_cases hik : i = k
    · by_cases hjk : j = k
      · rw [hik, hjk]
      · rw [hik, va_up_self, va_up_ne ar _ hjk] at hij; omega
    · by_cases hjk : j = k
      · rw [hjk, va_up_self, va_up_ne ar _ hik] at hij; omega
      · rw [va_up_ne ar _ hik, va_up_ne ar _ hjk] at hij
        exact h6 i j us' vs' hi' hj' hij
  · intro q hq
    have hzk := hzs k a1
    rw [g3 q (by omega) (by omega)]
    exact h7 q (by omega)
end
section
/-! RULES over the state: from here to the end the answer and the state behind it are P's -/
def mx_pok (c : Nat × Nat × Option (Option Nat) × Nat) (st : List Value) : Bool := decide (c.2.1 ≤ st.length) && (decide (((st.drop c.2.1).map fun v => v.category).sum ≤ 8) && decide ((lg_sl (st.take c.2.1).reverse).length ≤ c.2.2.2))
theorem mx_cok_of {c : Nat × Nat × Option (Option Nat) × Nat} {st : List Value} {h : mx_H} (h1 : mx_pok c st = true) (h2 : mx_rcv c.2.2.1 (st.take c.2.1).reverse h = true) : mx_cok c st h = true := by
  unfold mx_pok at h1
  unfold mx_cok
  simp only [Bool.and_eq_true] at h1 ⊢
  exact ⟨h1.1, h1.2.1, h1.2.2, h2⟩
def xw (z : Nat) (NK : List Nat) (g : mx_G) (mi pc : Nat) (lv : mx_L) (st : List Value) (S : xS) (P : Option Value → xS → Prop) : Prop :=
  ∀ (c : Nat × Nat) (h : mx_H), xI z NK c g h S → ∃ (v : Option Value) (h' : mx_H) (S' : xS), Go mi pc lv st h (v, h') ∧ xI z NK c g h' S' ∧ P v S'
section XW
variable {z : Nat} {NK : List Nat} {g : mx_G} {mi pc : Nat} {lv lv' : mx_L} {st st' : List Value} {S : xS} {P : Option Value → xS → Prop}
theorem xw.steps (k : Nat) {pc' : Nat} (hs : ∀ h, mx_steps mx_M k mi pc lv st h = some (pc', lv', st', h)) (go : xw z NK g mi pc' lv' st' S P) : xw z NK g mi pc lv st S P := by
  intro c h hI
  obtain ⟨v, h', S', h1, h2, h3⟩ := go c h hI
  exact ⟨v, h', S', mx_to.steps k (hs h) h1, h2, h3⟩
theorem xw.if_ {f : Int32 → Bool} {t n : Nat} {x : Int32} (hM : mx_M mi pc = some (.inl (sx_if f t n))) (h1 : f x = true → xw z NK g mi t lv st S P) (h2 : f x = false → xw z NK g mi n lv st S P) : xw z NK g mi pc lv (.int x :: st) S P := by
  intro c h hI
  cases hc : f x with
  | true =>
    obtain ⟨v, h', S', a1, a2, a3⟩ := h1 hc c h hI
    exact ⟨v, h', S', go_if hM (fun _ => a1) (fun w => by rw [hc] at w; cases w), a2, a3⟩
  | false =>
    obtain ⟨v, h', S', a1, a2, a3⟩ := h2 hc c h hI
    exact ⟨v, h', S', go_if hM (fun w => by rw [hc] at w; cases w) (fun _ => a1), a2, a3⟩
theorem xw.icmp {f : Int32 → Int32 → Bool} {t n : Nat} {x y : Int32} (hM : mx_M mi pc = some (.inl (sx_icmp f t n))) (h1 : f x y = true → xw z NK g mi t lv st S P) (h2 : f x y = false → xw z NK g mi n lv st S P) : xw z NK g mi pc lv (.int y :: .int x :: st) S P := by
  intro c h hI
  cases hc : f x y with
  | true =>
    obtain ⟨v, h', S', a1, a2, a3⟩ := h1 hc c h hI
    exact ⟨v, h', S', go_icmp hM (fun _ => a1) (fun w => by rw [hc] at w; cases w), a2, a3⟩
  | false =>
    obtain ⟨v, h', S', a1, a2, a3⟩ := h2 hc c h hI
    exact ⟨v, h', S', go_icmp hM (fun w => by rw [hc] at w; cases w) (fun _ => a1), a2, a3⟩
def xw_tab (x : Int32) (Q : Nat → Prop) : Int → List Nat → Prop
  | _, [] => True
  | lo, t :: r => (x = Int32.ofInt lo → Q t) ∧ xw_tab x Q (lo + 1) r
theorem xw_tab_at {x : Int32} {Q : Nat → Prop} : ∀ (ts : List Nat) (lo : Int) (j t : Nat), xw_tab x Q lo ts → ts[j]? = some t → x.toInt = lo + j → Q t := by
  intro ts
  induction ts with
  | nil => intro lo j t _ h; simp at h
  | cons a r ih =>
    intro lo j t hT h e
    cases j with
    | zero =>
      have h1 : a = t := by simpa using h
      subst h1
      refine hT.1 ?_
      have h2 : x.toInt = lo := by simpa using e
      rw [← h2, Int32.ofInt_toInt]
    | succ j => exact ih (lo + 1) j t hT.2 (by simpa using h) (by rw [e]; push_cast; omega)
theorem xw.table {dt : Nat} {lo hi : Int} {ts : List Nat} {x : Int32} (hM : mx_M mi pc = some (.inl (sx_table dt lo hi ts))) (hd : (x.toInt < lo ∨ hi < x.toInt) → xw z NK g mi dt lv st S P) (hT : xw_tab x (fun t => xw z NK g mi t lv st S P) lo ts) (hlen : hi + 1 - lo = ts.length := by decide) : xw z NK g mi pc lv (.int x :: st) S P := by
  intro c h hI
  by_cases hc : x.toInt < lo ∨ hi < x.toInt
  · obtain ⟨v, h', S', a1, a2, a3⟩ := hd hc c h hI
    exact ⟨v, h', S', mx_to.step hM (by simp only [sx_table, if_pos hc]) a1, a2, a3⟩
  · have hj : (x.toInt - lo).toNat < ts.length := by omega
    have ht : ts[(x.toInt - lo).toNat]? = some (ts[(x.toInt - lo).toNat]) := List.getElem?_eq_getElem hj
    have hx := xw_tab_at ts lo _ _ hT ht (by omega)
    obtain ⟨v, h', S', a1, a2, a3⟩ := hx c h hI
    exact ⟨v, h', S', mx_to.step hM (by simp only [sx_table, if_neg hc, ht]) a1, a2, a3⟩
theorem xw.getf {ci k n o : Nat} {fs : List Value} {v : Value} (hM : mx_M mi pc = some (.inl (sx_getf ci k n))) (hS : S o = some (.inr (.inr (ci, fs)))) (hv : fs[k]? = some v) (go : xw z NK g mi n lv (v :: st) S P) : xw z NK g mi pc lv (.ref (z + o) :: st) S P := by
  intro c h hI
  obtain ⟨v, h', S', a1, a2, a3⟩ := go c h hI
  exact ⟨v, h', S', go_getf hM (hI.obj hS) hv a1, a2, a3⟩
theorem xw.putf {ci k n o : Nat} {ty : FieldType} {fs fs' : List Value} {v : Value} (hM : mx_M mi pc = some (.inl (sx_putf ci k ty n))) (hS : S o = some (.inr (.inr (ci, fs)))) (hk : k < fs.length) (hn : narrow ty v = v) (hf : fits ty v = true) (hs : fs.set k v = fs') (go : xw z NK g mi n lv st (xu S o (.inr (.inr (ci, fs')))) P) : xw z NK g mi pc lv (v :: .ref (z + o) :: st) S P := by
  intro c h hI
  subst hs
  obtain ⟨v, h', S', a1, a2, a3⟩ := go c _ (hI.set hS _)
  exact ⟨v, h', S', go_putf hM (hI.obj hS) hk hn hf a1, a2, a3⟩
theorem xw.ald {t : Bool} {n o len : Nat} {i : Int32} {f : Nat → Int32} (hM : mx_M mi pc = some (.inl (sx_ald t n))) (hS : S o = some (.inr (.inl (t, len, f)))) (hi : ¬ (i < 0 ∨ len ≤ i.toNatClampNeg)) (go : xw z NK g mi n lv (.int (f i.toNatClampNeg) :: st) S P) : xw z NK g mi pc lv (.int i :: .ref (z + o) :: st) S P := by
  intro c h hI
  obtain ⟨v, h', S', a1, a2, a3⟩ := go c h hI
  exact ⟨v, h', S', go_ald hM (hI.obj hS) hi a1, a2, a3⟩
theorem xw.ast {n o len : Nat} {i v : Int32} {f : Nat → Int32} (hM : mx_M mi pc = some (.inl (sx_ast false n))) (hS : S o = some (.inr (.inl (false, len, f)))) (hi : ¬ (i < 0 ∨ len ≤ i.toNatClampNeg)) (go : xw z NK g mi n lv st (xu S o (.inr (.inl (false, len, upd f i.toNatClampNeg v)))) P) : xw z NK g mi pc lv (.int v :: .int i :: .ref (z + o) :: st) S P := by
  intro c h hI
  obtain ⟨v, h', S', a1, a2, a3⟩ := go c _ (hI.set hS _)
  exact ⟨v, h', S', go_ast hM (hI.obj hS) hi a1, a2, a3⟩
theorem xw.zst {n o len : Nat} {i v : Int32} {f : Nat → Int32} (hM : mx_M mi pc = some (.inl (sx_ast true n))) (hS : S o = some (.inr (.inl (true, len, f)))) (hi : ¬ (i < 0 ∨ len ≤ i.toNatClampNeg)) (go : xw z NK g mi n lv st (xu S o (.inr (.inl (true, len, upd f i.toNatClampNeg (vp_nar .boolean v))))) P) : xw z NK g mi pc lv (.int v :: .int i :: .ref (z + o) :: st) S P := by
  intro c h hI
  obtain ⟨v, h', S', a1, a2, a3⟩ := go c _ (hI.set hS _)
  exact ⟨v, h', S', go_zst hM (hI.obj hS) hi a1, a2, a3⟩
theorem xw.alen {n o len : Nat} {t : Bool} {f : Nat → Int32} (hM : mx_M mi pc = some (.inl (sx_alen n))) (hS : S o = some (.inr (.inl (t, len, f)))) (go : xw z NK g mi n lv (.int (nI len) :: st) S P) : xw z NK g mi pc lv (.ref (z + o) :: st) S P := by
  intro c h hI
  obtain ⟨v, h', S', a1, a2, a3⟩ := go c h hI
  exact ⟨v, h', S', go_alen hM (hI.obj hS) a1, a2, a3⟩
theorem xI.stat {c : Nat × Nat} {h : mx_H} (hI : xI z NK c g h S) {k : Nat} (hk : k < 3) : h.2.2.2 = g ∧ mx_get h (g.1 k) = none ∧ g.2 (g.1 k) = some (x_stat k) := by
  obtain ⟨-, e, ar, f, -, -, h3, -⟩ := hI
  exact ⟨h3.1, (h3.2 k hk).2.1, (h3.2 k hk).2.2⟩
theorem xw.gets {k n : Nat} (hM : mx_M mi pc = some (.inl (sx_gets k n))) (go : xw z NK g mi n lv (.ref (g.1 k) :: st) S P) : xw z NK g mi pc lv st S P := by
  intro c h hI
  obtain ⟨v, h', S', a1, a2, a3⟩ := go c h hI
  obtain ⟨-, e, ar, f, -, -, h3, -⟩ := id hI
  exact ⟨v, h', S', mx_to.step hM (by simp only [sx_gets, h3.1]) a1, a2, a3⟩
theorem xw.sald {k n : Nat} {i : Int32} (hM : mx_M mi pc = some (.inl (sx_ald false n))) (hk : k < 3) (hi : ¬ (i < 0 ∨ (x_stat k).1 ≤ i.toNatClampNeg)) (go : xw z NK g mi n lv (.int ((x_stat k).2 i.toNatClampNeg) :: st) S P) : xw z NK g mi pc lv (.int i :: .ref (g.1 k) :: st) S P := by
  intro c h hI
  obtain ⟨v, h', S', a1, a2, a3⟩ := go c h hI
  obtain ⟨b1, b2, b3⟩ := hI.stat hk
  exact ⟨v, h', S', mx_to.step hM (by simp only [sx_ald, mx_rd, b1, b2, b3, hi, not_false_eq_true, and_self, if_true]) a1, a2, a3⟩
theorem xw.slen {k n : Nat} (hM : mx_M mi pc = some (.inl (sx_alen n))) (hk : k < 3) (go : xw z NK g mi n lv (.int (nI (x_stat k).1) :: st) S P) : xw z NK g mi pc lv (.ref (g.1 k) :: st) S P := by
  intro c h hI
  obtain ⟨v, h', S', a1, a2, a3⟩ := go c h hI
  obtain ⟨b1, b2, b3⟩ := hI.stat hk
  exact ⟨v, h', S', mx_to.step hM (by simp only [sx_alen, mx_len, b1, b2, b3]; rfl) a1, a2, a3⟩
theorem xw.call_ {c : Nat × Nat × Option (Option Nat) × Nat} (hM : mx_M mi pc = some (.inr (.inl c))) (hp : mx_pok c st = true) (hr : ∀ d h, xI z NK d g h S → mx_rcv c.2.2.1 (st.take c.2.1).reverse h = true) (hl : lv_args 0 (st.take c.2.1).reverse = lv') (hq : xw z NK g c.1 0 lv' [] S (fun v S' => xw z NK g mi (pc + 3) lv (v.toList ++ st.drop c.2.1) S' P)) : xw z NK g mi pc lv st S P := by
  intro d h hI
  obtain ⟨v, h', S', a1, a2, a3⟩ := hq d h hI
  obtain ⟨v2, h2, S2, b1, b2, b3⟩ := a3 d h' a2
  exact ⟨v2, h2, S2, go_call hM (mx_cok_of hp (hr d h hI)) hl a1 b1, b2, b3⟩
/-- a call on a Numbers, on another object of ours, and one without a receiver that is looked at -/
theorem xw.callN {j k nL o : Nat} {xs : List Int32} {As : List Value} (hM : mx_M mi pc = some (.inr (.inl (j, k, some (some 6), nL)))) (hp : mx_pok (j, k, some (some 6), nL) st = true) (ha : (st.take k).reverse = .ref (z + o) :: As) (hS : S o = some (.inl xs)) (hl : lv_args 0 (.ref (z + o) :: As) = lv') {rest : List Value} (hd : st.drop k = rest) (hq : xw z NK g j 0 lv' [] S (fun v S' => xw z NK g mi (pc + 3) lv (v.toList ++ rest) S' P)) : xw z NK g mi pc lv st S P := by
  refine xw.call_ (lv' := lv') hM hp (fun d h hI => ?_) (by rw [← hl, ← ha]) (by rw [← hd] at hq; exact hq)
  obtain ⟨-, e, ar, f, -, -, -, -, h5, -⟩ := hI
  obtain ⟨-, h6, -⟩ := h5 o xs hS
  show mx_rcv (some (some 6)) (st.take k).reverse h = true
  rw [ha]
  simp only [mx_rcv, h6, decide_true]
theorem xw.callO {j k nL o ci : Nat} {fs As : List Value} (hM : mx_M mi pc = some (.inr (.inl (j, k, some (some ci), nL)))) (hp : mx_pok (j, k, some (some ci), nL) st = true) (ha : (st.take k).reverse = .ref (z + o) :: As) (hS : S o = some (.inr (.inr (ci, fs)))) (hl : lv_args 0 (.ref (z + o) :: As) = lv') {rest : List Value} (hd : st.drop k = rest) (hq : xw z NK g j 0 lv' [] S (fun v S' => xw z NK g mi (pc + 3) lv (v.toList ++ rest) S' P)) : xw z NK g mi pc lv st S P := by
  refine xw.call_ (lv' := lv') hM hp (fun d h hI => ?_) (by rw [← hl, ← ha]) (by rw [← hd] at hq; exact hq)
  have h6 := hI.obj hS
  show mx_rcv (some (some ci)) (st.take k).reverse h = true
  rw [ha]
  simp only [mx_rcv, h6, decide_true]
theorem xw.callS {j k nL : Nat} {As : List Value} (hM : mx_M mi pc = some (.inr (.inl (j, k, none, nL)))) (hp : mx_pok (j, k, none, nL) st = true) (ha : (st.take k).reverse = As) (hl : lv_args 0 As = lv') {rest : List Value} (hd : st.drop k = rest) (hq : xw z NK g j 0 lv' [] S (fun v S' => xw z NK g mi (pc + 3) lv (v.toList ++ rest) S' P)) : xw z NK g mi pc lv st S P :=
  xw.call_ (lv' := lv') hM hp (fun d h hI => rfl) (by rw [← hl, ← ha]) (by rw [← hd] at hq; exact hq)
theorem xw.ret {ty : Option FieldType} {v : Option Value} (hM : mx_M mi pc = some (.inr (.inr ty))) (hr : ∀ h, mx_ret ty st h = some (v, h)) (hP : P v S) : xw z NK g mi pc lv st S P :=
  fun _ h hI => ⟨v, h, S, go_ret hM (hr h), hI, hP⟩
theorem xw.imp {Q : Option Value → xS → Prop} (hx : xw z NK g mi pc lv st S P) (h : ∀ v S', P v S' → Q v S') : xw z NK g mi pc lv st S Q := by
  intro c h0 hI
  obtain ⟨v, h', S', a1, a2, a3⟩ := hx c h0 hI
  exact ⟨v, h', S', a1, a2, h v S' a3⟩
end XW
end
section
/-! NUMBERS: a row of ints that grows -/
def nAt (xs : List Int32) (i : Int32) : Int32 := if i < 0 then -1 else xs.getD i.toNatClampNeg (-1)
def nSet (xs : List Int32) (i v : Int32) : List Int32 := if i < 0 then xs else xs.set i.toNatClampNeg v
def nCut (xs : List Int32) (n : Int32) : List Int32 := xs.take n.toNatClampNeg
def nLast (xs : List Int32) : Int32 := xs.getLast?.getD (-1)
theorem xu_xu (S : xS) (k : Nat) (a b : xC) : xu (xu S k a) k b = xu S k b := by
  funext q
  unfold xu
  by_cases h : q = k <;> simp [h]
theorem x_cl {x : Int32} (h : ¬ x < 0) : x = nI x.toNatClampNeg ∧ x.toNatClampNeg < 2 ^ 31 := by
  obtain ⟨j, hj, rfl⟩ := nI_of h
  rw [nI_clamp hj]
  exact ⟨rfl, hj⟩
theorem x_clneg {x : Int32} (h : x < 0) : x.toNatClampNeg = 0 := by
  have h1 : x.toInt < 0 := by simpa using Int32.lt_iff_toInt_lt.mp h
  show x.toInt.toNat = 0
  omega
theorem x_le {x : Int32} {n : Nat} (h : ¬ x < 0) (hn : n < 2 ^ 31) : nI n ≤ x ↔ n ≤ x.toNatClampNeg := by
  obtain ⟨e, hl⟩ := x_cl h
  generalize x.toNatClampNeg = j at e hl
  rw [e]
  exact nI_leI hn hl
section XN
variable {z : Nat} {NK : List Nat} {g : mx_G} {S : xS} {P : Option Value → xS → Prop} {k : Nat} {xs : List Int32}
theorem xI.nums {c : Nat × Nat} {h : mx_H} (hI : xI z NK c g h S) (hk : S k = some (.inl xs)) : ∃ (a cap : Nat) (f : Nat → Int32), mx_get h (z + k) = some (.inr (6, [.ref a, .int (nI xs.length)])) ∧ mx_get h a = some (.inl (false, cap, f)) ∧ xs.length ≤ cap ∧ (16 ≤ cap ∧ cap ≤ 131072) ∧ (∀ i v, xs[i]? = some v → f i = v) ∧ a ≠ z + k ∧ (z + k < h.1 ∧ mx_get h h.1 = none) ∧
    (∀ (ys : List Int32) (f' : Nat → Int32) (h' : mx_H), h'.1 = h.1 → h'.2.1 = h.2.1 → h'.2.2.2 = h.2.2.2 → mx_get h' (z + k) = some (.inr (6, [.ref a, .int (nI ys.length)])) → mx_get h' a = some (.inl (false, cap, f')) → (∀ q, q ≠ z + k → q ≠ a → mx_get h' q = mx_get h q) → ys.length ≤ cap → (∀ i v, ys[i]? = some v → f' i = v) → xI z NK c g h' (xu S k (.inl ys))) ∧
    (cap < 131072 → ∀ (ys : List Int32) (f' : Nat → Int32) (h' : mx_H), h'.1 = h.1 + 1 → h'.2.1 = h.2.1 + 2 * cap → h'.2.2.2 = h.2.2.2 → mx_get h' (z + k) = some (.inr (6, [.ref h.1, .int (nI ys.length)])) → mx_get h' h.1 = some (.inl (false, 2 * cap, f')) → (∀ q, q ≠ z + k → q ≠ h.1 → mx_get h' q = mx_get h q) → ys.length ≤ 2 * cap → (∀ i v, ys[i]? = some v → f' i = v) → xI z NK c g h' (xu S k (.inl ys))) := by
  obtain ⟨hD, e, ar, f, hJ⟩ := hI
  obtain ⟨h1, h2, h3, h4, h5, h6, h7⟩ := id hJ
  obtain ⟨a1, a2, a3, a4, a5, a6, a7⟩ := h5 k xs hk
  have hp : 2 ^ e k ≤ 2 ^ 13 := Nat.pow_le_pow_right (by decide) a5
  have hp1 : 1 ≤ 2 ^ e k := Nat.one_le_two_pow
  have hzk := hD.2.1 k a1
  refine ⟨ar k, 16 * 2 ^ e k, f k, a2, a3, a4, ⟨by omega, by omega⟩, a6, a7 k (by rw [hk]; rfl), ⟨by omega, h7 _ (Nat.le_refl _)⟩, ?_, ?_⟩
  · intro ys f' h' z1 z2 z3 g1 g2 g3 hl hv
    exact hJ.num hD hk z1 z2 z3 g1 g2 g3 hl hv
  · intro hlt ys f' h' z1 z2 z3 g1 g2 g3 hl hv
    refine hJ.grow hD hk ?_ z1 z2 z3 g1 g2 g3 hl hv
    rcases Nat.lt_or_ge (e k) 13 with w | w
    · exact w
    · have : 2 ^ 13 ≤ 2 ^ e k := Nat.pow_le_pow_right (by decide) w
      omega
theorem c_size (hk : S k = some (.inl xs)) (hP : P (some (.int (nI xs.length))) S) : xw z NK g 2 0 [(0, .ref (z + k))] [] S P := by
  intro c h hI
  obtain ⟨a, cap, f, g1, -⟩ := hI.nums hk
  exact ⟨_, h, S, mx_to.steps 1 rfl (go_getf rfl g1 rfl (go_ret rfl rfl)), hI, hP⟩
theorem nAt_neg {i : Int32} (h : i < 0) : nAt xs i = -1 := if_pos h
theorem nAt_out {i : Int32} (h : ¬ i < 0) (h2 : xs.length ≤ i.toNatClampNeg) : nAt xs i = -1 := by
  unfold nAt
  rw [if_neg h, List.getD_eq_getElem?_getD, List.getElem?_eq_none h2]
  rfl
theorem nAt_in {i : Int32} (h : ¬ i < 0) {v : Int32} (hv : xs[i.toNatClampNeg]? = some v) : nAt xs i = v := by
  unfold nAt
  rw [if_neg h, List.getD_eq_getElem?_getD, hv]
  rfl
theorem c_at {i : Int32} (hk : S k = some (.inl xs)) (hP : P (some (.int (nAt xs i))) S) : xw z NK g 3 0 [(0, .ref (z + k)), (1, .int i)] [] S P := by
  intro c h hI
  obtain ⟨a, cap, f, g1, g2, l1, l2, hv, -⟩ := hI.nums hk
  refine ⟨_, h, S, ?_, hI, hP⟩
  refine mx_to.steps 1 rfl (go_if rfl (fun hc => ?_) (fun hc => ?_))
  · rw [nAt_neg (of_decide_eq_true hc)]
    exact mx_to.steps 1 rfl (go_ret rfl rfl)
  · have hc := of_decide_eq_false hc
    refine mx_to.steps 2 rfl (go_getf rfl g1 rfl (go_icmp rfl (fun hc2 => ?_) (fun hc2 => ?_)))
    · rw [nAt_out hc ((x_le hc (by omega)).mp (of_decide_eq_true hc2))]
      exact mx_to.steps 1 rfl (go_ret rfl rfl)
    · have hc2 : ¬ xs.length ≤ i.toNatClampNeg := fun w => of_decide_eq_false hc2 ((x_le hc (by omega)).mpr w)
      have hx : xs[i.toNatClampNeg]? = some (xs[i.toNatClampNeg]'(by omega)) := List.getElem?_eq_getElem (by omega)
      refine mx_to.steps 1 rfl (go_getf rfl g1 rfl (mx_to.steps 1 rfl (go_ald rfl g2 (fun w => ?_) ?_)))
      · rcases w with w | w
        · exact hc w
        · omega
      · rw [nAt_in hc hx, hv _ _ hx]
        exact mx_to.steps 1 rfl (go_ret rfl rfl)
theorem c_change {i v : Int32} (hk : S k = some (.inl xs)) (hP : P none (xu S k (.inl (nSet xs i v)))) : xw z NK g 4 0 [(0, .ref (z + k)), (1, .int i), (2, .int v)] [] S P := by
  have same : nSet xs i v = xs → xu S k (.inl (nSet xs i v)) = S := by
    intro w
    rw [w]
    funext q
    by_cases hq : q = k
    · rw [hq, xu_self, hk]
    · rw [xu_ne _ _ hq]
  intro c h hI
  obtain ⟨a, cap, f, g1, g2, l1, l2, hv, hne, -, up, -⟩ := hI.nums hk
  by_cases hc : i < 0
  · have e1 := same (if_pos hc)
    rw [e1] at hP
    exact ⟨_, h, S, mx_to.steps 1 rfl (go_if rfl (fun _ => go_ret rfl rfl) (fun w => absurd hc (of_decide_eq_false w))), hI, hP⟩
  · by_cases hc2 : xs.length ≤ i.toNatClampNeg
    · have e1 := same (by unfold nSet; rw [if_neg hc, List.set_eq_of_length_le hc2])
      rw [e1] at hP
      refine ⟨_, h, S, mx_to.steps 1 rfl (go_if rfl (fun w => absurd (of_decide_eq_true w) hc) (fun _ => ?_)), hI, hP⟩
      exact mx_to.steps 2 rfl (go_getf rfl g1 rfl (go_icmp rfl (fun _ => go_ret rfl rfl) (fun w => absurd ((x_le hc (by omega)).mpr hc2) (of_decide_eq_false w))))
    · refine ⟨_, mx_set h a (.inl (false, cap, upd f i.toNatClampNeg v)), _, mx_to.steps 1 rfl (go_if rfl (fun w => absurd (of_decide_eq_true w) hc) (fun _ => ?_)), ?_, hP⟩
      · refine mx_to.steps 2 rfl (go_getf rfl g1 rfl (go_icmp rfl (fun w => absurd ((x_le hc (by omega)).mp (of_decide_eq_true w)) hc2) (fun _ => ?_)))
        refine mx_to.steps 1 rfl (go_getf rfl g1 rfl (mx_to.steps 2 rfl (go_ast rfl g2 (fun w => ?_) (go_ret rfl rfl))))
        rcases w with w | w
        · exact hc w
        · omega
      · have e1 : nSet xs i v = xs.set i.toNatClampNeg v := if_neg hc
        rw [e1]
        refine up _ (upd f i.toNatClampNeg v) _ rfl rfl rfl ?_ ?_ ?_ ?_ ?_
        · rw [mx_get_set, if_neg (Ne.symm hne), List.length_set]; exact g1
        · rw [mx_get_set, if_pos rfl]
        · intro q _ h2; rw [mx_get_set, if_neg h2]
        · rw [List.length_set]; exact l1
        · intro j w hj
          rw [List.getElem?_set] at hj
          by_cases hij : i.toNatClampNeg = j
          · rw [if_pos hij] at hj
            split at hj
            · cases hj
              rw [← hij]
              exact pk_us
            · cases hj
          · rw [if_neg hij] at hj
            rw [pk_un (fun e => hij e.symm)]
            exact hv j w hj
theorem c_takeLast (hk : S k = some (.inl xs)) (hP : P (some (.int (nLast xs))) (xu S k (.inl xs.dropLast))) : xw z NK g 6 0 [(0, .ref (z + k))] [] S P := by
  intro c h hI
  obtain ⟨a, cap, f, g1, g2, l1, l2, hv, hne, -, up, -⟩ := hI.nums hk
  by_cases hx : xs = []
  · subst hx
    have e1 : xu S k (.inl ([] : List Int32).dropLast) = S := by
      funext q
      by_cases hq : q = k
      · rw [hq, xu_self, hk]; rfl
      · rw [xu_ne _ _ hq]
    rw [e1] at hP
    refine ⟨_, h, S, mx_to.steps 1 rfl (go_getf rfl g1 rfl (go_if rfl (fun w => ?_) (fun _ => mx_to.steps 1 rfl (go_ret rfl rfl)))), hI, hP⟩
    exact absurd (of_decide_eq_true w) (by decide)
  · have hlen : 0 < xs.length := List.length_pos_iff.mpr hx
    obtain ⟨n, hn⟩ : ∃ n, xs.length = n + 1 := ⟨xs.length - 1, by omega⟩
    have e2 : nI (n + 1) - 1 = nI n := nI_pred n
    have e3 : xs.dropLast.length = n := by rw [List.length_dropLast, hn]; rfl
    have hlast : xs[n]? = some (nLast xs) := by
      have h1 : xs.getLast? = xs[n]? := by rw [List.getLast?_eq_getElem?, hn]; rfl
      have h2 : xs[n]? = some (xs[n]'(by omega)) := List.getElem?_eq_getElem (by omega)
      unfold nLast
      rw [h1, h2]
      rfl
    rw [hn] at g1
    refine ⟨_, mx_set h (z + k) (.inr (6, [.ref a, .int (nI n)])), _, mx_to.steps 1 rfl (go_getf rfl g1 rfl (go_if rfl (fun _ => ?_) (fun w => ?_))), ?_, hP⟩
    · refine mx_to.steps 2 rfl (go_getf rfl g1 rfl (mx_to.steps 2 rfl ?_))
      show Go 6 16 _ [.int (nI (n + 1) - 1), .ref (z + k)] _ _
      rw [e2]
      refine go_putf rfl g1 (Nat.le_of_ble_eq_true rfl) rfl rfl ?_
      show Go 6 19 _ _ (mx_set h (z + k) (.inr (6, [.ref a, .int (nI n)]))) _
      have g1' : mx_get (mx_set h (z + k) (.inr (6, [.ref a, .int (nI n)]))) (z + k) = some (.inr (6, [.ref a, .int (nI n)])) := by rw [mx_get_set, if_pos rfl]
      have g2' : mx_get (mx_set h (z + k) (.inr (6, [.ref a, .int (nI n)]))) a = some (.inl (false, cap, f)) := by rw [mx_get_set, if_neg hne]; exact g2
      refine mx_to.steps 1 rfl (go_getf rfl g1' rfl (mx_to.steps 1 rfl (go_getf rfl g1' rfl (go_ald rfl g2' (vp_in_nI (by omega) (by omega)) ?_))))
      rw [nI_clamp (by omega), hv _ _ hlast]
      exact go_ret rfl rfl
    · exact absurd (show (0 : Int32) < nI (n + 1) by rw [← nI_0]; exact nI_lt (by omega) (by omega)) (of_decide_eq_false w)
    · refine up _ f _ rfl rfl rfl ?_ ?_ ?_ ?_ ?_
      · rw [mx_get_set, if_pos rfl, e3]
      · rw [mx_get_set, if_neg hne]; exact g2
      · intro q h1 _; rw [mx_get_set, if_neg h1]
      · omega
      · intro j w hj
        refine hv j w ?_
        rw [List.dropLast_eq_take, List.getElem?_take] at hj
        split at hj
        · exact hj
        · cases hj
theorem c_cutTo {n : Int32} (hk : S k = some (.inl xs)) (hP : P none (xu S k (.inl (nCut xs n)))) : xw z NK g 7 0 [(0, .ref (z + k)), (1, .int n)] [] S P := by
  intro c h hI
  obtain ⟨a, cap, f, g1, g2, l1, l2, hv, hne, -, up, -⟩ := hI.nums hk
  have fin : ∀ m : Nat, n.toNatClampNeg = m → m ≤ xs.length → xI z NK c g (mx_set h (z + k) (.inr (6, [.ref a, .int (nI m)]))) (xu S k (.inl (nCut xs n))) := by
    intro m hm hle
    have e1 : (nCut xs n).length = m := by unfold nCut; rw [List.length_take, hm]; omega
    refine up _ f _ rfl rfl rfl ?_ ?_ ?_ ?_ ?_
    · rw [mx_get_set, if_pos rfl, e1]
    · rw [mx_get_set, if_neg hne]; exact g2
    · intro q h1 _; rw [mx_get_set, if_neg h1]
    · omega
    · intro j w hj
      refine hv j w ?_
      unfold nCut at hj
      rw [List.getElem?_take] at hj
      split at hj
      · exact hj
      · cases hj
  by_cases h1 : nI xs.length ≤ n
  · have hn0 : ¬ n < 0 := by
      intro w
      have a1 := Int32.le_iff_toInt_le.mp h1
      have a2 := Int32.lt_iff_toInt_lt.mp w
      rw [nI_toInt (by omega)] at a1
      simp at a2
      omega
    have e1 : xu S k (.inl (nCut xs n)) = S := by
      have : nCut xs n = xs := by unfold nCut; exact List.take_of_length_le ((x_le hn0 (by omega)).mp h1)
      rw [this]
      funext q
      by_cases hq : q = k
      · rw [hq, xu_self, hk]
      · rw [xu_ne _ _ hq]
    rw [e1] at hP
    exact ⟨_, h, S, mx_to.steps 2 rfl (go_getf rfl g1 rfl (go_icmp rfl (fun _ => go_ret rfl rfl) (fun w => absurd h1 (of_decide_eq_false w)))), hI, hP⟩
  · by_cases h2 : n < 0
    · refine ⟨_, _, _, mx_to.steps 2 rfl (go_getf rfl g1 rfl (go_icmp rfl (fun w => absurd (of_decide_eq_true w) h1) (fun _ => ?_))), fin 0 (x_clneg h2) (Nat.zero_le _), hP⟩
      refine mx_to.steps 2 rfl (go_if rfl (fun w => ?_) (fun _ => mx_to.steps 2 rfl (go_putf rfl g1 (Nat.le_of_ble_eq_true rfl) rfl rfl ?_)))
      · exact absurd h2 (Int32.not_lt.mpr (of_decide_eq_true w))
      · exact go_ret rfl (by rw [nI_0]; rfl)
    · obtain ⟨e, hl⟩ := x_cl h2
      have hle : n.toNatClampNeg ≤ xs.length := by
        rcases Nat.lt_or_ge xs.length n.toNatClampNeg with w | w
        · exact absurd ((x_le h2 (by omega)).mpr (Nat.le_of_lt w)) h1
        · exact w
      refine ⟨_, _, _, mx_to.steps 2 rfl (go_getf rfl g1 rfl (go_icmp rfl (fun w => absurd (of_decide_eq_true w) h1) (fun _ => ?_))), fin _ rfl hle, hP⟩
      refine mx_to.steps 2 rfl (go_if rfl (fun _ => mx_to.steps 1 rfl (go_putf rfl g1 (Nat.le_of_ble_eq_true rfl) rfl rfl ?_)) (fun w => ?_))
      · exact go_ret rfl (by rw [← e]; rfl)
      · exact absurd (Int32.not_lt.mp h2) (of_decide_eq_false w)
/-- Arrays.copyOf to twice the length -/
theorem go_copyOf {h : mx_H} {a cap : Nat} {f : Nat → Int32} (h1 : mx_get h a = some (.inl (false, cap, f))) (hn : mx_get h h.1 = none) (hc : 0 < cap) (hc2 : cap ≤ 131072) : Go 0 0 [(0, .ref a), (1, .int (nI (2 * cap)))] [] h (some (.ref h.1), mx_set (mx_push h (2 * cap) (.inl (false, 2 * cap, fun _ => 0))) h.1 (.inl (false, 2 * cap, va_cpy f (fun _ => 0) 0 0 cap))) := by
  have hne : a ≠ h.1 := fun w => by rw [w, hn] at h1; cases h1
  have e1 : (nI (2 * cap)).toNatClampNeg = 2 * cap := nI_clamp (by omega)
  refine mx_to.steps 2 rfl (go_alen rfl h1 (go_icmp rfl (fun _ => ?_) (fun w => ?_)))
  · refine mx_to.steps 1 rfl (go_newa rfl (nI_pos (by omega)) (by rw [e1]; omega) ?_)
    rw [e1]
    have h1' : mx_get (mx_push h (2 * cap) (.inl (false, 2 * cap, fun _ => 0))) a = some (.inl (false, cap, f)) := by rw [mx_get_push, if_neg hne]; exact h1
    have h2' : mx_get (mx_push h (2 * cap) (.inl (false, 2 * cap, fun _ => 0))) h.1 = some (.inl (false, 2 * cap, fun _ => 0)) := by rw [mx_get_push, if_pos rfl]
    refine mx_to.steps 6 rfl (go_alen rfl h1' (mx_to.steps 2 rfl ?_))
    have e2 : (if nI (2 * cap) < nI cap then nI (2 * cap) else nI cap) = nI cap := if_neg (nI_nlt (by omega) (by omega))
    show Go 0 28 _ [.int (if nI (2 * cap) < nI cap then nI (2 * cap) else nI cap), .int 0, .ref h.1, .int 0, .ref a] _ _
    rw [e2]
    have e3 : (nI cap).toNatClampNeg = cap := nI_clamp (by omega)
    refine mx_to.step (pc' := 31) (lv' := [(0, .ref a), (1, .int (nI (2 * cap))), (2, .ref h.1)]) (st' := []) (h' := mx_set (mx_push h (2 * cap) (.inl (false, 2 * cap, fun _ => 0))) h.1 (.inl (false, 2 * cap, va_cpy f (fun _ => 0) 0 0 cap))) (f := sx_copy 31) rfl ?_ (mx_to.steps 1 rfl (go_ret rfl rfl))
    simp only [sx_copy, h1', h2', e3]
    rw [if_pos ⟨trivial, trivial, by decide, by decide, nI_pos (by omega), by show (0 : Int32).toNatClampNeg + cap ≤ cap; exact Nat.le_of_eq (Nat.zero_add cap), by show (0 : Int32).toNatClampNeg + cap ≤ 2 * cap; have : (0 : Int32).toNatClampNeg = 0 := rfl; omega, by decide⟩]
    rfl
  · exact absurd (show ¬ nI (2 * cap) = nI cap from fun w2 => by have := (nI_eq (by omega) (by omega)).mp w2; omega) (of_decide_eq_false w)
theorem c_append {v : Int32} (hk : S k = some (.inl xs)) (hlen : xs.length < 131072) (hP : P none (xu S k (.inl (xs ++ [v])))) : xw z NK g 5 0 [(0, .ref (z + k)), (1, .int v)] [] S P := by
  intro c h hI
  obtain ⟨a, cap, f, g1, g2, l1, l2, hv, hne, hz, up, grow⟩ := hI.nums hk
  have hl1 : (xs ++ [v]).length = xs.length + 1 := by simp
  have hval : ∀ (f1 : Nat → Int32), (∀ i w, xs[i]? = some w → f1 i = w) → ∀ i w, (xs ++ [v])[i]? = some w → upd f1 xs.length v i = w := by
    intro f1 hf1 i w hi
    rcases Nat.lt_trichotomy i xs.length with q | q | q
    · rw [List.getElem?_append_left q] at hi
      rw [pk_un (by omega)]
      exact hf1 i w hi
    · subst q
      rw [List.getElem?_append_right (Nat.le_refl _), Nat.sub_self] at hi
      cases hi
      exact pk_us
    · rw [List.getElem?_eq_none (by rw [hl1]; omega)] at hi
      cases hi
  -- from the store on
  have fin : ∀ (h1 : mx_H) (a1 cap1 : Nat) (f1 : Nat → Int32), mx_get h1 (z + k) = some (.inr (6, [.ref a1, .int (nI xs.length)])) → mx_get h1 a1 = some (.inl (false, cap1, f1)) → a1 ≠ z + k → xs.length < cap1 → cap1 < 2 ^ 31 → Go 5 30 [(0, .ref (z + k)), (1, .int v)] [] h1 (none, mx_set (mx_set h1 a1 (.inl (false, cap1, upd f1 xs.length v))) (z + k) (.inr (6, [.ref a1, .int (nI (xs.length + 1))]))) := by
    intro h1 a1 cap1 f1 q1 q2 q3 q4 q5
    refine mx_to.steps 1 rfl (go_getf rfl q1 rfl (mx_to.steps 1 rfl (go_getf rfl q1 rfl (mx_to.steps 1 rfl (go_ast rfl q2 (vp_in_nI q4 q5) ?_)))))
    rw [nI_clamp (by omega)]
    have q1' : mx_get (mx_set h1 a1 (.inl (false, cap1, upd f1 xs.length v))) (z + k) = some (.inr (6, [.ref a1, .int (nI xs.length)])) := by rw [mx_get_set, if_neg (Ne.symm q3)]; exact q1
    refine mx_to.steps 2 rfl (go_getf rfl q1' rfl (mx_to.steps 2 rfl (go_putf rfl q1' (Nat.le_of_ble_eq_true rfl) rfl rfl ?_)))
    refine go_ret rfl ?_
    show some (none, mx_set _ _ (.inr (6, [.ref a1, .int (nI xs.length + 1)]))) = _
    rw [nI_1]
  by_cases hc : xs.length < cap
  · refine ⟨_, _, _, mx_to.steps 1 rfl (go_getf rfl g1 rfl (mx_to.steps 1 rfl (go_getf rfl g1 rfl (go_alen rfl g2 (go_icmp rfl (fun _ => fin h a cap f g1 g2 hne hc (by omega)) (fun w => ?_)))))), ?_, hP⟩
    · exact absurd (nI_lt hc (by omega)) (of_decide_eq_false w)
    · refine up _ (upd f xs.length v) _ rfl rfl rfl ?_ ?_ ?_ ?_ (hval f hv)
      · rw [mx_get_set, if_pos rfl, hl1]
      · rw [mx_get_set, if_neg hne, mx_get_set, if_pos rfl]
      · intro q h1 h2; rw [mx_get_set, if_neg h1, mx_get_set, if_neg h2]
      · omega
  · have hcap : xs.length = cap := by omega
    have hcc : cap < 131072 := by omega
    have hane : a ≠ h.1 := fun w => by rw [w, hz.2] at g2; cases g2
    -- the heap behind the doubling
    obtain ⟨h1, eh1⟩ : ∃ h1, h1 = mx_set (mx_push h (2 * cap) (.inl (false, 2 * cap, fun _ => 0))) h.1 (.inl (false, 2 * cap, va_cpy f (fun _ => 0) 0 0 cap)) := ⟨_, rfl⟩
    have p1 : mx_get h1 (z + k) = some (.inr (6, [.ref a, .int (nI xs.length)])) := by rw [eh1, mx_get_set, if_neg (by omega), mx_get_push, if_neg (by omega)]; exact g1
    have p2 : mx_get h1 h.1 = some (.inl (false, 2 * cap, va_cpy f (fun _ => 0) 0 0 cap)) := by rw [eh1, mx_get_set, if_pos rfl]
    have hcopy : Go 0 0 [(0, .ref a), (1, .int (nI (2 * cap)))] [] h (some (.ref h.1), h1) := by rw [eh1]; exact go_copyOf g2 hz.2 (by omega) (by omega)
    have s1 : mx_get (mx_set h1 (z + k) (.inr (6, [.ref h.1, .int (nI xs.length)]))) (z + k) = some (.inr (6, [.ref h.1, .int (nI xs.length)])) := by rw [mx_get_set, if_pos rfl]
    have s2 : mx_get (mx_set h1 (z + k) (.inr (6, [.ref h.1, .int (nI xs.length)]))) h.1 = some (.inl (false, 2 * cap, va_cpy f (fun _ => 0) 0 0 cap)) := by rw [mx_get_set, if_neg (by omega)]; exact p2
    refine ⟨_, mx_set (mx_set (mx_set h1 (z + k) (.inr (6, [.ref h.1, .int (nI xs.length)]))) h.1 (.inl (false, 2 * cap, upd (va_cpy f (fun _ => 0) 0 0 cap) xs.length v))) (z + k) (.inr (6, [.ref h.1, .int (nI (xs.length + 1))])), _, mx_to.steps 1 rfl (go_getf rfl g1 rfl (mx_to.steps 1 rfl (go_getf rfl g1 rfl (go_alen rfl g2 (go_icmp rfl (fun w => ?_) (fun _ => ?_)))))), ?_, hP⟩
    · have := (nI_ltI (by omega) (by omega)).mp (of_decide_eq_true w)
      omega
    · refine mx_to.steps 2 rfl (go_getf rfl g1 rfl (mx_to.steps 2 rfl (go_getf rfl g1 rfl (go_alen rfl g2 (mx_to.steps 1 rfl ?_)))))
      have e2 : (2 : Int32) * nI cap = nI (2 * cap) := by
        have : (2 : Int32) = nI 2 := by decide
        rw [this, pk_mul]
      show Go 5 24 _ [.int (2 * nI cap), .ref a, .ref (z + k)] _ _
      rw [e2]
      refine go_call (q := (some (.ref h.1), h1)) rfl rfl rfl hcopy ?_
      refine go_putf rfl p1 (Nat.le_of_ble_eq_true rfl) rfl rfl ?_
      exact fin _ h.1 (2 * cap) _ s1 s2 (by omega) (by omega) (by omega)
    · refine grow hcc _ (upd (va_cpy f (fun _ => 0) 0 0 cap) xs.length v) _ ?_ ?_ ?_ ?_ ?_ ?_ (by omega) (hval _ (fun i w hi => ?_))
      · rw [eh1]; rfl
      · rw [eh1]; rfl
      · rw [eh1]; rfl
      · rw [mx_get_set, if_pos rfl, hl1]
      · rw [mx_get_set, if_neg (by omega), mx_get_set, if_pos rfl]
      · intro q q1 q2
        rw [mx_get_set, if_neg q1, mx_get_set, if_neg q2, mx_get_set, if_neg q1, eh1, mx_get_set, if_neg q2, mx_get_push, if_neg q2]
      · have hi2 : i < cap := by
          have := (List.getElem?_eq_some_iff.mp hi).1
          omega
        rw [pk_cpy_in (Nat.zero_le _) (by omega)]
        have := hv i w hi
        simpa using this
theorem c_refill {n v : Int32} (hk : S k = some (.inl xs)) (hn : n.toNatClampNeg ≤ 131072) (hP : P none (xu S k (.inl (List.replicate n.toNatClampNeg v)))) : xw z NK g 8 0 [(0, .ref (z + k)), (1, .int n), (2, .int v)] [] S P := by
  have loop : ∀ (d i : Nat), i + d = n.toNatClampNeg → xw z NK g 8 7 [(0, .ref (z + k)), (1, .int n), (2, .int v), (3, .int (nI i))] [] (xu S k (.inl (List.replicate i v))) P := by
    intro d
    induction d with
    | zero =>
      intro i hi
      refine xw.steps 2 (fun _ => rfl) (xw.icmp rfl (fun _ => ?_) (fun w => ?_))
      · refine xw.ret rfl (fun _ => rfl) ?_
        rw [show i = n.toNatClampNeg by omega]
        exact hP
      · exfalso
        have w := of_decide_eq_false w
        by_cases h0 : n < 0
        · exact w (Int32.le_iff_toInt_le.mpr (by rw [nI_toInt (by omega)]; have := Int32.lt_iff_toInt_lt.mp h0; simp at this; omega))
        · obtain ⟨e, hl⟩ := x_cl h0
          rw [e] at w
          exact w (nI_le (by omega) (by omega))
    | succ d ih =>
      intro i hi
      have h0 : ¬ n < 0 := fun w => by rw [x_clneg w] at hi; omega
      obtain ⟨e, hl⟩ := x_cl h0
      refine xw.steps 2 (fun _ => rfl) (xw.icmp rfl (fun w => ?_) (fun _ => ?_))
      · have w := of_decide_eq_true w
        rw [e] at w
        exact absurd w (nI_ge (by omega) (by omega))
      · refine xw.steps 2 (fun _ => rfl) (xw.callN (o := k) rfl rfl rfl (xu_self _ _ _) rfl rfl (c_append (xs := List.replicate i v) (xu_self _ _ _) (by rw [List.length_replicate]; omega) ?_))
        rw [xu_xu, ← List.replicate_succ']
        refine xw.steps 2 (fun _ => rfl) ?_
        rw [nI_1]
        exact ih (i + 1) (by omega)
  intro c h hI
  obtain ⟨a, cap, f, g1, g2, l1, l2, hv, hne, -, up, -⟩ := hI.nums hk
  have h1 : xI z NK c g (mx_set h (z + k) (.inr (6, [.ref a, .int (nI 0)]))) (xu S k (.inl (List.replicate 0 v))) := by
    refine up _ f _ rfl rfl rfl ?_ ?_ ?_ (Nat.zero_le _) (fun i w hi => by simp at hi)
    · rw [mx_get_set, if_pos rfl]; rfl
    · rw [mx_get_set, if_neg hne]; exact g2
    · intro q h1 _; rw [mx_get_set, if_neg h1]
  obtain ⟨v1, h', S', a1, a2, a3⟩ := loop n.toNatClampNeg 0 (Nat.zero_add _) c _ h1
  refine ⟨v1, h', S', mx_to.steps 2 rfl (go_putf rfl g1 (Nat.le_of_ble_eq_true rfl) rfl rfl (mx_to.steps 2 rfl ?_)), a2, a3⟩
  exact a1
end XN
end
section
/-! SMALL METHODS WITHOUT STATE (walks by wip/gen18.py) -/
def bI (b : Bool) : Int32 := if b = true then 1 else 0
def a_divides (k : Int32) : Bool := decide (k = 3 ∨ k = 4)
def a_sh (y : Int32) : Bool := decide (y < 0 ∨ 31 < y)
def a_calc (k x y : Int32) : Int32 :=
  if k = 0 then x + y else if k = 1 then x - y else if k = 2 then x * y else if k = 3 then (if y = 0 then 0 else x / y) else if k = 4 then (if y = 0 then 0 else x - x / y * y)
  else if k = 5 then x &&& y else if k = 6 then x ||| y else if k = 7 then (x ^^^ y) ^^^ (-1) else if k = 8 then x ^^^ y else if k = 9 then (if a_sh y = true then 0 else x <<< (y &&& 31))
  else (if a_sh y = true then 0 else (x.toUInt32 >>> (y.toUInt32 &&& Int32.toUInt32 31)).toInt32)
def a_commutes (k : Int32) : Bool := decide (k = 0 ∨ k = 2 ∨ (¬ k < 5 ∧ ¬ 8 < k))
def a_alone (k y : Int32) : Bool := if k = 2 ∨ k = 3 then decide (y = 1) else if k = 4 then false else if k = 5 ∨ k = 7 then decide (y = -1) else decide (y = 0)
def a_holds (k x y : Int32) : Bool := if k = 0 then decide (x = y) else if k = 1 then decide (¬ x = y) else if k = 2 then decide (x < y) else if k = 3 then decide (¬ y < x) else if k = 4 then decide (y < x) else decide (¬ x < y)
def a_compare (k x y : Int32) : Int32 := if a_holds k x y = true then -1 else 0
def a_opp (k : Int32) : Int32 := if k < 2 then 1 - k else 7 - k
def a_mir (k : Int32) : Int32 := if k < 2 then k else if k < 4 then k + 2 else k - 2
section XA
variable {z : Nat} {NK : List Nat} {g : mx_G} {S : xS} {P : Option Value → xS → Prop}
theorem xw.div {mi pc n : Nat} {lv : mx_L} {st : List Value} {f : Int32 → Int32 → Int32} {x y : Int32} (hM : mx_M mi pc = some (.inl (sx_div f n))) (hy : ¬ y = 0) (go : xw z NK g mi n lv (.int (f x y) :: st) S P) : xw z NK g mi pc lv (.int y :: .int x :: st) S P := by
  intro c h hI
  obtain ⟨v, h', S', a1, a2, a3⟩ := go c h hI
  exact ⟨v, h', S', mx_to.step hM (by simp only [sx_div, if_neg hy]) a1, a2, a3⟩
set_option maxHeartbeats 1000000 in
/-- RowCode$Arithmetic.divides(I)Z -/
theorem c_divides {k : Int32} (hP : P (some (.int (bI (a_divides k)))) S) : xw z NK g 9 0 [(0, .int k)] [] S P := by
  refine xw.steps 2 (fun _ => rfl) ?_
  refine xw.icmp rfl (fun c1 => ?_) (fun c1 => ?_)
  · have c1 := of_decide_eq_true c1
    refine xw.steps 2 (fun _ => rfl) ?_
    refine xw.ret rfl (fun _ => rfl) ?_
    show P (some (.int 1)) S
    simpa [bI, a_divides, c1] using hP
  · have c1 := of_decide_eq_false c1
    refine xw.steps 2 (fun _ => rfl) ?_
    refine xw.icmp rfl (fun c2 => ?_) (fun c2 => ?_)
    · have c2 := of_decide_eq_true c2
      refine xw.steps 1 (fun _ => rfl) ?_
      refine xw.ret rfl (fun _ => rfl) ?_
      show P (some (.int 0)) S
      simpa [bI, a_divides, c1, c2] using hP
    · have c2 := Decidable.not_not.mp (of_decide_eq_false c2)
      refine xw.steps 2 (fun _ => rfl) ?_
      refine xw.ret rfl (fun _ => rfl) ?_
      show P (some (.int 1)) S
      simpa [bI, a_divides, c1, c2] using hP
set_option maxHeartbeats 1000000 in
/-- RowCode$Arithmetic.calculate(III)I -/
theorem c_calculate {k x y : Int32} (hP : P (some (.int (a_calc k x y))) S) : xw z NK g 10 0 [(0, .int k), (1, .int x), (2, .int y)] [] S P := by
  refine xw.steps 1 (fun _ => rfl) ?_
  refine xw.table rfl (fun c1 => ?_) ⟨fun c1 => ?_, fun c1 => ?_, fun c1 => ?_, fun c1 => ?_, fun c1 => ?_, fun c1 => ?_, fun c1 => ?_, fun c1 => ?_, fun c1 => ?_, fun c1 => ?_, trivial⟩
  · skip
    have c1_0 : ¬ k = 0 := fun e => by rw [e] at c1; revert c1; decide
    have c1_1 : ¬ k = 1 := fun e => by rw [e] at c1; revert c1; decide
    have c1_2 : ¬ k = 2 := fun e => by rw [e] at c1; revert c1; decide
    have c1_3 : ¬ k = 3 := fun e => by rw [e] at c1; revert c1; decide
    have c1_4 : ¬ k = 4 := fun e => by rw [e] at c1; revert c1; decide
    have c1_5 : ¬ k = 5 := fun e => by rw [e] at c1; revert c1; decide
    have c1_6 : ¬ k = 6 := fun e => by rw [e] at c1; revert c1; decide
    have c1_7 : ¬ k = 7 := fun e => by rw [e] at c1; revert c1; decide
    have c1_8 : ¬ k = 8 := fun e => by rw [e] at c1; revert c1; decide
    have c1_9 : ¬ k = 9 := fun e => by rw [e] at c1; revert c1; decide
    refine xw.steps 1 (fun _ => rfl) ?_
    refine xw.if_ rfl (fun c2 => ?_) (fun c2 => ?_)
    · have c2 := of_decide_eq_true c2
      refine xw.steps 2 (fun _ => rfl) ?_
      refine xw.ret rfl (fun _ => rfl) ?_
      show P (some (.int 0)) S
      simpa [a_calc, a_sh, c1_0, c1_1, c1_2, c1_3, c1_4, c1_5, c1_6, c1_7, c1_8, c1_9, c2] using hP
    · have c2 := of_decide_eq_false c2
      refine xw.steps 2 (fun _ => rfl) ?_
      refine xw.icmp rfl (fun c3 => ?_) (fun c3 => ?_)
      · have c3 := Int32.not_lt.mpr (of_decide_eq_true c3)
        refine xw.steps 3 (fun _ => rfl) ?_
        refine xw.ret rfl (fun _ => rfl) ?_
        show P (some (.int ((x.toUInt32 >>> (y.toUInt32 &&& Int32.toUInt32 31)).toInt32))) S
        simpa [a_calc, a_sh, c1_0, c1_1, c1_2, c1_3, c1_4, c1_5, c1_6, c1_7, c1_8, c1_9, c2, c3] using hP
      · have c3 := Int32.not_le.mp (of_decide_eq_false c3)
        refine xw.steps 2 (fun _ => rfl) ?_
        refine xw.ret rfl (fun _ => rfl) ?_
        show P (some (.int 0)) S
        simpa [a_calc, a_sh, c1_0, c1_1, c1_2, c1_3, c1_4, c1_5, c1_6, c1_7, c1_8, c1_9, c2, c3] using hP
  · have c1 : k = 0 := c1
    refine xw.steps 3 (fun _ => rfl) ?_
    refine xw.ret rfl (fun _ => rfl) ?_
    show P (some (.int (x + y))) S
    simpa [a_calc, a_sh, c1] using hP
  · have c1 : k = 1 := c1
    refine xw.steps 3 (fun _ => rfl) ?_
    refine xw.ret rfl (fun _ => rfl) ?_
    show P (some (.int (x - y))) S
    simpa [a_calc, a_sh, c1] using hP
  · have c1 : k = 2 := c1
    refine xw.steps 3 (fun _ => rfl) ?_
    refine xw.ret rfl (fun _ => rfl) ?_
    show P (some (.int (x * y))) S
    simpa [a_calc, a_sh, c1] using hP
  · have c1 : k = 3 := c1
    refine xw.steps 1 (fun _ => rfl) ?_
    refine xw.if_ rfl (fun c4 => ?_) (fun c4 => ?_)
    · have c4 := of_decide_eq_true c4
      refine xw.steps 2 (fun _ => rfl) ?_
      refine xw.div rfl (by assumption) ?_
      refine xw.ret rfl (fun _ => rfl) ?_
      show P (some (.int (x / y))) S
      simpa [a_calc, a_sh, c1, c4] using hP
    · have c4 := Decidable.not_not.mp (of_decide_eq_false c4)
      refine xw.steps 2 (fun _ => rfl) ?_
      refine xw.ret rfl (fun _ => rfl) ?_
      show P (some (.int 0)) S
      simpa [a_calc, a_sh, c1, c4] using hP
  · have c1 : k = 4 := c1
    refine xw.steps 1 (fun _ => rfl) ?_
    refine xw.if_ rfl (fun c5 => ?_) (fun c5 => ?_)
    · have c5 := of_decide_eq_true c5
      refine xw.steps 2 (fun _ => rfl) ?_
      refine xw.div rfl (by assumption) ?_
      refine xw.ret rfl (fun _ => rfl) ?_
      show P (some (.int (x - x / y * y))) S
      simpa [a_calc, a_sh, c1, c5] using hP
    · have c5 := Decidable.not_not.mp (of_decide_eq_false c5)
      refine xw.steps 2 (fun _ => rfl) ?_
      refine xw.ret rfl (fun _ => rfl) ?_
      show P (some (.int 0)) S
      simpa [a_calc, a_sh, c1, c5] using hP
  · have c1 : k = 5 := c1
    refine xw.steps 3 (fun _ => rfl) ?_
    refine xw.ret rfl (fun _ => rfl) ?_
    show P (some (.int (x &&& y))) S
    simpa [a_calc, a_sh, c1] using hP
  · have c1 : k = 6 := c1
    refine xw.steps 3 (fun _ => rfl) ?_
    refine xw.ret rfl (fun _ => rfl) ?_
    show P (some (.int (x ||| y))) S
    simpa [a_calc, a_sh, c1] using hP
  · have c1 : k = 7 := c1
    refine xw.steps 5 (fun _ => rfl) ?_
    refine xw.ret rfl (fun _ => rfl) ?_
    show P (some (.int ((x ^^^ y) ^^^ (-1)))) S
    simpa [a_calc, a_sh, c1] using hP
  · have c1 : k = 8 := c1
    refine xw.steps 3 (fun _ => rfl) ?_
    refine xw.ret rfl (fun _ => rfl) ?_
    show P (some (.int (x ^^^ y))) S
    simpa [a_calc, a_sh, c1] using hP
  · have c1 : k = 9 := c1
    refine xw.steps 1 (fun _ => rfl) ?_
    refine xw.if_ rfl (fun c6 => ?_) (fun c6 => ?_)
    · have c6 := of_decide_eq_true c6
      refine xw.steps 2 (fun _ => rfl) ?_
      refine xw.ret rfl (fun _ => rfl) ?_
      show P (some (.int 0)) S
      simpa [a_calc, a_sh, c1, c6] using hP
    · have c6 := of_decide_eq_false c6
      refine xw.steps 2 (fun _ => rfl) ?_
      refine xw.icmp rfl (fun c7 => ?_) (fun c7 => ?_)
      · have c7 := Int32.not_lt.mpr (of_decide_eq_true c7)
        refine xw.steps 3 (fun _ => rfl) ?_
        refine xw.ret rfl (fun _ => rfl) ?_
        show P (some (.int (x <<< (y &&& 31)))) S
        simpa [a_calc, a_sh, c1, c6, c7] using hP
      · have c7 := Int32.not_le.mp (of_decide_eq_false c7)
        refine xw.steps 2 (fun _ => rfl) ?_
        refine xw.ret rfl (fun _ => rfl) ?_
        show P (some (.int 0)) S
        simpa [a_calc, a_sh, c1, c6, c7] using hP
set_option maxHeartbeats 1000000 in
/-- RowCode$Arithmetic.commutes(I)Z -/
theorem c_commutes {k : Int32} (hP : P (some (.int (bI (a_commutes k)))) S) : xw z NK g 11 0 [(0, .int k)] [] S P := by
  refine xw.steps 1 (fun _ => rfl) ?_
  refine xw.if_ rfl (fun c1 => ?_) (fun c1 => ?_)
  · have c1 := of_decide_eq_true c1
    refine xw.steps 2 (fun _ => rfl) ?_
    refine xw.ret rfl (fun _ => rfl) ?_
    show P (some (.int 1)) S
    simpa [bI, a_commutes, c1] using hP
  · have c1 := of_decide_eq_false c1
    refine xw.steps 2 (fun _ => rfl) ?_
    refine xw.icmp rfl (fun c2 => ?_) (fun c2 => ?_)
    · have c2 := of_decide_eq_true c2
      refine xw.steps 2 (fun _ => rfl) ?_
      refine xw.ret rfl (fun _ => rfl) ?_
      show P (some (.int 1)) S
      simpa [bI, a_commutes, c1, c2] using hP
    · have c2 := of_decide_eq_false c2
      refine xw.steps 2 (fun _ => rfl) ?_
      refine xw.icmp rfl (fun c3 => ?_) (fun c3 => ?_)
      · have c3 := of_decide_eq_true c3
        refine xw.steps 1 (fun _ => rfl) ?_
        refine xw.ret rfl (fun _ => rfl) ?_
        show P (some (.int 0)) S
        simpa [bI, a_commutes, c1, c2, c3] using hP
      · have c3 := of_decide_eq_false c3
        refine xw.steps 2 (fun _ => rfl) ?_
        refine xw.icmp rfl (fun c4 => ?_) (fun c4 => ?_)
        · have c4 := of_decide_eq_true c4
          refine xw.steps 1 (fun _ => rfl) ?_
          refine xw.ret rfl (fun _ => rfl) ?_
          show P (some (.int 0)) S
          simpa [bI, a_commutes, c1, c2, c3, c4] using hP
        · have c4 := of_decide_eq_false c4
          refine xw.steps 2 (fun _ => rfl) ?_
          refine xw.ret rfl (fun _ => rfl) ?_
          show P (some (.int 1)) S
          simpa [bI, a_commutes, c1, c2, c3, c4] using hP
set_option maxHeartbeats 1000000 in
/-- RowCode$Arithmetic.leavesAlone(II)Z -/
theorem c_leavesAlone {k y : Int32} (hP : P (some (.int (bI (a_alone k y)))) S) : xw z NK g 12 0 [(0, .int k), (1, .int y)] [] S P := by
  refine xw.steps 1 (fun _ => rfl) ?_
  refine xw.table rfl (fun c1 => ?_) ⟨fun c1 => ?_, fun c1 => ?_, fun c1 => ?_, fun c1 => ?_, fun c1 => ?_, fun c1 => ?_, trivial⟩
  · skip
    have c1_0 : ¬ k = 2 := fun e => by rw [e] at c1; revert c1; decide
    have c1_1 : ¬ k = 3 := fun e => by rw [e] at c1; revert c1; decide
    have c1_2 : ¬ k = 4 := fun e => by rw [e] at c1; revert c1; decide
    have c1_3 : ¬ k = 5 := fun e => by rw [e] at c1; revert c1; decide
    have c1_4 : ¬ k = 6 := fun e => by rw [e] at c1; revert c1; decide
    have c1_5 : ¬ k = 7 := fun e => by rw [e] at c1; revert c1; decide
    refine xw.steps 1 (fun _ => rfl) ?_
    refine xw.if_ rfl (fun c2 => ?_) (fun c2 => ?_)
    · have c2 := of_decide_eq_true c2
      refine xw.steps 1 (fun _ => rfl) ?_
      refine xw.ret rfl (fun _ => rfl) ?_
      show P (some (.int 0)) S
      simpa [bI, a_alone, c1_0, c1_1, c1_2, c1_3, c1_4, c1_5, c2] using hP
    · have c2 := Decidable.not_not.mp (of_decide_eq_false c2)
      refine xw.steps 2 (fun _ => rfl) ?_
      refine xw.ret rfl (fun _ => rfl) ?_
      show P (some (.int 1)) S
      simpa [bI, a_alone, c1_0, c1_1, c1_2, c1_3, c1_4, c1_5, c2] using hP
  · have c1 : k = 2 := c1
    refine xw.steps 2 (fun _ => rfl) ?_
    refine xw.icmp rfl (fun c3 => ?_) (fun c3 => ?_)
    · have c3 := of_decide_eq_true c3
      refine xw.steps 1 (fun _ => rfl) ?_
      refine xw.ret rfl (fun _ => rfl) ?_
      show P (some (.int 0)) S
      simpa [bI, a_alone, c1, c3] using hP
    · have c3 := Decidable.not_not.mp (of_decide_eq_false c3)
      refine xw.steps 2 (fun _ => rfl) ?_
      refine xw.ret rfl (fun _ => rfl) ?_
      show P (some (.int 1)) S
      simpa [bI, a_alone, c1, c3] using hP
  · have c1 : k = 3 := c1
    refine xw.steps 2 (fun _ => rfl) ?_
    refine xw.icmp rfl (fun c4 => ?_) (fun c4 => ?_)
    · have c4 := of_decide_eq_true c4
      refine xw.steps 1 (fun _ => rfl) ?_
      refine xw.ret rfl (fun _ => rfl) ?_
      show P (some (.int 0)) S
      simpa [bI, a_alone, c1, c4] using hP
    · have c4 := Decidable.not_not.mp (of_decide_eq_false c4)
      refine xw.steps 2 (fun _ => rfl) ?_
      refine xw.ret rfl (fun _ => rfl) ?_
      show P (some (.int 1)) S
      simpa [bI, a_alone, c1, c4] using hP
  · have c1 : k = 4 := c1
    refine xw.steps 1 (fun _ => rfl) ?_
    refine xw.ret rfl (fun _ => rfl) ?_
    show P (some (.int 0)) S
    simpa [bI, a_alone, c1] using hP
  · have c1 : k = 5 := c1
    refine xw.steps 2 (fun _ => rfl) ?_
    refine xw.icmp rfl (fun c5 => ?_) (fun c5 => ?_)
    · have c5 := of_decide_eq_true c5
      refine xw.steps 1 (fun _ => rfl) ?_
      refine xw.ret rfl (fun _ => rfl) ?_
      show P (some (.int 0)) S
      simpa [bI, a_alone, c1, c5] using hP
    · have c5 := Decidable.not_not.mp (of_decide_eq_false c5)
      refine xw.steps 2 (fun _ => rfl) ?_
      refine xw.ret rfl (fun _ => rfl) ?_
      show P (some (.int 1)) S
      simpa [bI, a_alone, c1, c5] using hP
  · have c1 : k = 6 := c1
    refine xw.steps 1 (fun _ => rfl) ?_
    refine xw.if_ rfl (fun c6 => ?_) (fun c6 => ?_)
    · have c6 := of_decide_eq_true c6
      refine xw.steps 1 (fun _ => rfl) ?_
      refine xw.ret rfl (fun _ => rfl) ?_
      show P (some (.int 0)) S
      simpa [bI, a_alone, c1, c6] using hP
    · have c6 := Decidable.not_not.mp (of_decide_eq_false c6)
      refine xw.steps 2 (fun _ => rfl) ?_
      refine xw.ret rfl (fun _ => rfl) ?_
      show P (some (.int 1)) S
      simpa [bI, a_alone, c1, c6] using hP
  · have c1 : k = 7 := c1
    refine xw.steps 2 (fun _ => rfl) ?_
    refine xw.icmp rfl (fun c7 => ?_) (fun c7 => ?_)
    · have c7 := of_decide_eq_true c7
      refine xw.steps 1 (fun _ => rfl) ?_
      refine xw.ret rfl (fun _ => rfl) ?_
      show P (some (.int 0)) S
      simpa [bI, a_alone, c1, c7] using hP
    · have c7 := Decidable.not_not.mp (of_decide_eq_false c7)
      refine xw.steps 2 (fun _ => rfl) ?_
      refine xw.ret rfl (fun _ => rfl) ?_
      show P (some (.int 1)) S
      simpa [bI, a_alone, c1, c7] using hP
set_option maxHeartbeats 1000000 in
/-- RowCode$Arithmetic.holds(III)Z -/
theorem c_holds {k x y : Int32} (hP : P (some (.int (bI (a_holds k x y)))) S) : xw z NK g 13 0 [(0, .int k), (1, .int x), (2, .int y)] [] S P := by
  refine xw.steps 1 (fun _ => rfl) ?_
  refine xw.table rfl (fun c1 => ?_) ⟨fun c1 => ?_, fun c1 => ?_, fun c1 => ?_, fun c1 => ?_, fun c1 => ?_, trivial⟩
  · skip
    have c1_0 : ¬ k = 0 := fun e => by rw [e] at c1; revert c1; decide
    have c1_1 : ¬ k = 1 := fun e => by rw [e] at c1; revert c1; decide
    have c1_2 : ¬ k = 2 := fun e => by rw [e] at c1; revert c1; decide
    have c1_3 : ¬ k = 3 := fun e => by rw [e] at c1; revert c1; decide
    have c1_4 : ¬ k = 4 := fun e => by rw [e] at c1; revert c1; decide
    refine xw.steps 2 (fun _ => rfl) ?_
    refine xw.icmp rfl (fun c2 => ?_) (fun c2 => ?_)
    · have c2 := of_decide_eq_true c2
      refine xw.steps 1 (fun _ => rfl) ?_
      refine xw.ret rfl (fun _ => rfl) ?_
      show P (some (.int 0)) S
      simpa [bI, a_holds, c1_0, c1_1, c1_2, c1_3, c1_4, c2] using hP
    · have c2 := of_decide_eq_false c2
      refine xw.steps 2 (fun _ => rfl) ?_
      refine xw.ret rfl (fun _ => rfl) ?_
      show P (some (.int 1)) S
      simpa [bI, a_holds, c1_0, c1_1, c1_2, c1_3, c1_4, c2] using hP
  · have c1 : k = 0 := c1
    refine xw.steps 2 (fun _ => rfl) ?_
    refine xw.icmp rfl (fun c3 => ?_) (fun c3 => ?_)
    · have c3 := of_decide_eq_true c3
      refine xw.steps 1 (fun _ => rfl) ?_
      refine xw.ret rfl (fun _ => rfl) ?_
      show P (some (.int 0)) S
      simpa [bI, a_holds, c1, c3] using hP
    · have c3 := Decidable.not_not.mp (of_decide_eq_false c3)
      refine xw.steps 2 (fun _ => rfl) ?_
      refine xw.ret rfl (fun _ => rfl) ?_
      show P (some (.int 1)) S
      simpa [bI, a_holds, c1, c3] using hP
  · have c1 : k = 1 := c1
    refine xw.steps 2 (fun _ => rfl) ?_
    refine xw.icmp rfl (fun c4 => ?_) (fun c4 => ?_)
    · have c4 := of_decide_eq_true c4
      refine xw.steps 1 (fun _ => rfl) ?_
      refine xw.ret rfl (fun _ => rfl) ?_
      show P (some (.int 0)) S
      simpa [bI, a_holds, c1, c4] using hP
    · have c4 := of_decide_eq_false c4
      refine xw.steps 2 (fun _ => rfl) ?_
      refine xw.ret rfl (fun _ => rfl) ?_
      show P (some (.int 1)) S
      simpa [bI, a_holds, c1, c4] using hP
  · have c1 : k = 2 := c1
    refine xw.steps 2 (fun _ => rfl) ?_
    refine xw.icmp rfl (fun c5 => ?_) (fun c5 => ?_)
    · have c5 := Int32.not_lt.mpr (of_decide_eq_true c5)
      refine xw.steps 1 (fun _ => rfl) ?_
      refine xw.ret rfl (fun _ => rfl) ?_
      show P (some (.int 0)) S
      simpa [bI, a_holds, c1, c5] using hP
    · have c5 := Int32.not_le.mp (of_decide_eq_false c5)
      refine xw.steps 2 (fun _ => rfl) ?_
      refine xw.ret rfl (fun _ => rfl) ?_
      show P (some (.int 1)) S
      simpa [bI, a_holds, c1, c5] using hP
  · have c1 : k = 3 := c1
    refine xw.steps 2 (fun _ => rfl) ?_
    refine xw.icmp rfl (fun c6 => ?_) (fun c6 => ?_)
    · have c6 := of_decide_eq_true c6
      refine xw.steps 1 (fun _ => rfl) ?_
      refine xw.ret rfl (fun _ => rfl) ?_
      show P (some (.int 0)) S
      simpa [bI, a_holds, c1, c6] using hP
    · have c6 := of_decide_eq_false c6
      refine xw.steps 2 (fun _ => rfl) ?_
      refine xw.ret rfl (fun _ => rfl) ?_
      show P (some (.int 1)) S
      simpa [bI, a_holds, c1, c6] using hP
  · have c1 : k = 4 := c1
    refine xw.steps 2 (fun _ => rfl) ?_
    refine xw.icmp rfl (fun c7 => ?_) (fun c7 => ?_)
    · have c7 := Int32.not_lt.mpr (of_decide_eq_true c7)
      refine xw.steps 1 (fun _ => rfl) ?_
      refine xw.ret rfl (fun _ => rfl) ?_
      show P (some (.int 0)) S
      simpa [bI, a_holds, c1, c7] using hP
    · have c7 := Int32.not_le.mp (of_decide_eq_false c7)
      refine xw.steps 2 (fun _ => rfl) ?_
      refine xw.ret rfl (fun _ => rfl) ?_
      show P (some (.int 1)) S
      simpa [bI, a_holds, c1, c7] using hP
set_option maxHeartbeats 1000000 in
/-- RowCode$Arithmetic.compare(III)I -/
theorem c_compare {k x y : Int32} (hP : P (some (.int (a_compare k x y))) S) : xw z NK g 14 0 [(0, .int k), (1, .int x), (2, .int y)] [] S P := by
  refine xw.steps 3 (fun _ => rfl) ?_
  show xw z NK g 14 3 [(0, .int k), (1, .int x), (2, .int y)] [.int y, .int x, .int k] S P
  refine xw.callS rfl rfl rfl rfl rfl (c_holds ?_)
  show xw z NK g 14 6 [(0, .int k), (1, .int x), (2, .int y)] [.int (bI (a_holds k x y))] S P
  refine xw.if_ rfl (fun c1 => ?_) (fun c1 => ?_)
  · have c1 := of_decide_eq_true c1
    refine xw.steps 1 (fun _ => rfl) ?_
    refine xw.ret rfl (fun _ => rfl) ?_
    show P (some (.int 0)) S
    cases hh : a_holds k x y <;> simp [bI, a_compare, hh] at c1 hP ⊢ <;> exact hP
  · have c1 := of_decide_eq_false c1
    refine xw.steps 2 (fun _ => rfl) ?_
    refine xw.ret rfl (fun _ => rfl) ?_
    show P (some (.int (-1))) S
    cases hh : a_holds k x y <;> simp [bI, a_compare, hh] at c1 hP ⊢ <;> exact hP
set_option maxHeartbeats 1000000 in
/-- RowCode$Arithmetic.opposite(I)I -/
theorem c_opposite {k : Int32} (hP : P (some (.int (a_opp k))) S) : xw z NK g 15 0 [(0, .int k)] [] S P := by
  refine xw.steps 2 (fun _ => rfl) ?_
  refine xw.icmp rfl (fun c1 => ?_) (fun c1 => ?_)
  · have c1 := Int32.not_lt.mpr (of_decide_eq_true c1)
    refine xw.steps 3 (fun _ => rfl) ?_
    refine xw.ret rfl (fun _ => rfl) ?_
    show P (some (.int (7 - k))) S
    simpa [a_opp, c1] using hP
  · have c1 := Int32.not_le.mp (of_decide_eq_false c1)
    refine xw.steps 4 (fun _ => rfl) ?_
    refine xw.ret rfl (fun _ => rfl) ?_
    show P (some (.int (1 - k))) S
    simpa [a_opp, c1] using hP
set_option maxHeartbeats 1000000 in
/-- RowCode$Arithmetic.mirrored(I)I -/
theorem c_mirrored {k : Int32} (hP : P (some (.int (a_mir k))) S) : xw z NK g 16 0 [(0, .int k)] [] S P := by
  refine xw.steps 2 (fun _ => rfl) ?_
  refine xw.icmp rfl (fun c1 => ?_) (fun c1 => ?_)
  · have c1 := Int32.not_lt.mpr (of_decide_eq_true c1)
    refine xw.steps 2 (fun _ => rfl) ?_
    refine xw.icmp rfl (fun c2 => ?_) (fun c2 => ?_)
    · have c2 := Int32.not_lt.mpr (of_decide_eq_true c2)
      refine xw.steps 3 (fun _ => rfl) ?_
      refine xw.ret rfl (fun _ => rfl) ?_
      show P (some (.int (k - 2))) S
      simpa [a_mir, c1, c2] using hP
    · have c2 := Int32.not_le.mp (of_decide_eq_false c2)
      refine xw.steps 4 (fun _ => rfl) ?_
      refine xw.ret rfl (fun _ => rfl) ?_
      show P (some (.int (k + 2))) S
      simpa [a_mir, c1, c2] using hP
  · have c1 := Int32.not_le.mp (of_decide_eq_false c1)
    refine xw.steps 1 (fun _ => rfl) ?_
    refine xw.ret rfl (fun _ => rfl) ?_
    show P (some (.int k)) S
    simpa [a_mir, c1] using hP
end XA
end
section
/-! CODE, MEMORY, and small tests (walks by wip/gen19.py) -/
theorem bI_eq0 {b : Bool} (h : bI b = 0) : b = false := by cases b <;> simp [bI] at h ⊢
theorem bI_ne0 {b : Bool} (h : ¬ bI b = 0) : b = true := by cases b <;> simp [bI] at h ⊢
def t_cond (n : Int32) : Bool := decide (n = 11 ∨ n = 12)
def t_goes (n : Int32) : Bool := decide (n = 10 ∨ n = 11 ∨ n = 12)
def t_ends (n : Int32) : Bool := decide (n = 10 ∨ n = 16 ∨ n = 17)
def m_hasL (i : Int32) : Bool := decide (¬ i < 0 ∧ i < 16)
def m_hasW (a : Int64) : Bool := decide (¬ lg_cmp a 0 < 0 ∧ lg_cmp a 64 < 0)
theorem m_hasL_in {i : Int32} (h : m_hasL i = true) : ¬ (i < 0 ∨ 16 ≤ i.toNatClampNeg) := by
  have h := of_decide_eq_true h
  rintro (w | w)
  · exact h.1 w
  · exact absurd h.2 (Int32.not_lt.mpr ((x_le (n := 16) h.1 (by decide)).mpr w))
theorem m_hasW_in {i : Int32} (h : m_hasW i.toInt64 = true) : ¬ (i < 0 ∨ 64 ≤ i.toNatClampNeg) := by
  have h := of_decide_eq_true h
  rw [lg_cmp_lt, lg_cmp_lt, Int64.lt_iff_toInt_lt, Int64.lt_iff_toInt_lt, Int32.toInt_toInt64] at h
  have h1 : (0 : Int64).toInt = 0 := rfl
  have h2 : (64 : Int64).toInt = 64 := rfl
  rw [h1, h2] at h
  have h3 : ¬ i < 0 := fun w => h.1 (by simpa using Int32.lt_iff_toInt_lt.mp w)
  rintro (w | w)
  · exact h3 w
  · have := mx_nn h3
    omega
theorem xu4 (S : xS) {n a : Nat} (h : n ≠ a) (A B A' B' : xC) : xu (xu (xu (xu S n A) a B) n A') a B' = xu (xu S n A') a B' := by
  funext q
  unfold xu
  by_cases h1 : q = a <;> by_cases h2 : q = n <;> simp [h1, h2]
section XB
variable {z : Nat} {NK : List Nat} {g : mx_G} {S : xS} {P : Option Value → xS → Prop}
set_option maxHeartbeats 1000000 in
/-- RowCode.isCondition(I)Z -/
theorem c_isCondition {n : Int32} (hP : P (some (.int (bI (t_cond n)))) S) : xw z NK g 113 0 [(0, .int n)] [] S P := by
  refine xw.steps 2 (fun _ => rfl) ?_
  refine xw.icmp rfl (fun c1 => ?_) (fun c1 => ?_)
  · have c1 := of_decide_eq_true c1
    refine xw.steps 2 (fun _ => rfl) ?_
    refine xw.ret rfl (fun _ => rfl) ?_
    show P (some (.int 1)) S
    simpa [bI, t_cond, c1] using hP
  · have c1 := of_decide_eq_false c1
    refine xw.steps 2 (fun _ => rfl) ?_
    refine xw.icmp rfl (fun c2 => ?_) (fun c2 => ?_)
    · have c2 := of_decide_eq_true c2
      refine xw.steps 1 (fun _ => rfl) ?_
      refine xw.ret rfl (fun _ => rfl) ?_
      show P (some (.int 0)) S
      simpa [bI, t_cond, c1, c2] using hP
    · have c2 := Decidable.not_not.mp (of_decide_eq_false c2)
      refine xw.steps 2 (fun _ => rfl) ?_
      refine xw.ret rfl (fun _ => rfl) ?_
      show P (some (.int 1)) S
      simpa [bI, t_cond, c1, c2] using hP
set_option maxHeartbeats 1000000 in
/-- RowCode.goesToLabel(I)Z -/
theorem c_goesToLabel {n : Int32} (hP : P (some (.int (bI (t_goes n)))) S) : xw z NK g 114 0 [(0, .int n)] [] S P := by
  refine xw.steps 2 (fun _ => rfl) ?_
  refine xw.icmp rfl (fun c1 => ?_) (fun c1 => ?_)
  · have c1 := of_decide_eq_true c1
    refine xw.steps 2 (fun _ => rfl) ?_
    refine xw.ret rfl (fun _ => rfl) ?_
    show P (some (.int 1)) S
    have e9 : t_goes n = true := by clear hP; simp_all [t_goes, t_cond]
    rw [e9] at hP
    exact hP
  · have c1 := of_decide_eq_false c1
    refine xw.steps 1 (fun _ => rfl) ?_
    show xw z NK g 114 7 [(0, .int n)] [.int n] S P
    refine xw.callS rfl rfl rfl rfl rfl (c_isCondition ?_)
    show xw z NK g 114 10 [(0, .int n)] [.int (bI (t_cond n))] S P
    refine xw.if_ rfl (fun c2 => ?_) (fun c2 => ?_)
    · have c2 := bI_eq0 (of_decide_eq_true c2)
      refine xw.steps 1 (fun _ => rfl) ?_
      refine xw.ret rfl (fun _ => rfl) ?_
      show P (some (.int 0)) S
      have e9 : t_goes n = false := by clear hP; simp_all [t_goes, t_cond]
      rw [e9] at hP
      exact hP
    · have c2 := bI_ne0 (of_decide_eq_false c2)
      refine xw.steps 2 (fun _ => rfl) ?_
      refine xw.ret rfl (fun _ => rfl) ?_
      show P (some (.int 1)) S
      have e9 : t_goes n = true := by clear hP; simp_all [t_goes, t_cond]
      rw [e9] at hP
      exact hP
set_option maxHeartbeats 1000000 in
/-- RowCode.endsWay(I)Z -/
theorem c_endsWay {n : Int32} (hP : P (some (.int (bI (t_ends n)))) S) : xw z NK g 115 0 [(0, .int n)] [] S P := by
  refine xw.steps 2 (fun _ => rfl) ?_
  refine xw.icmp rfl (fun c1 => ?_) (fun c1 => ?_)
  · have c1 := of_decide_eq_true c1
    refine xw.steps 2 (fun _ => rfl) ?_
    refine xw.ret rfl (fun _ => rfl) ?_
    show P (some (.int 1)) S
    simpa [bI, t_ends, c1] using hP
  · have c1 := of_decide_eq_false c1
    refine xw.steps 2 (fun _ => rfl) ?_
    refine xw.icmp rfl (fun c2 => ?_) (fun c2 => ?_)
    · have c2 := of_decide_eq_true c2
      refine xw.steps 2 (fun _ => rfl) ?_
      refine xw.ret rfl (fun _ => rfl) ?_
      show P (some (.int 1)) S
      simpa [bI, t_ends, c1, c2] using hP
    · have c2 := of_decide_eq_false c2
      refine xw.steps 2 (fun _ => rfl) ?_
      refine xw.icmp rfl (fun c3 => ?_) (fun c3 => ?_)
      · have c3 := of_decide_eq_true c3
        refine xw.steps 1 (fun _ => rfl) ?_
        refine xw.ret rfl (fun _ => rfl) ?_
        show P (some (.int 0)) S
        simpa [bI, t_ends, c1, c2, c3] using hP
      · have c3 := Decidable.not_not.mp (of_decide_eq_false c3)
        refine xw.steps 2 (fun _ => rfl) ?_
        refine xw.ret rfl (fun _ => rfl) ?_
        show P (some (.int 1)) S
        simpa [bI, t_ends, c1, c2, c3] using hP
set_option maxHeartbeats 1000000 in
/-- RowCode$Memory.hasLocal(I)Z -/
theorem c_hasLocal {i : Int32} (hP : P (some (.int (bI (m_hasL i)))) S) : xw z NK g 18 0 [(0, .int i)] [] S P := by
  refine xw.steps 1 (fun _ => rfl) ?_
  refine xw.if_ rfl (fun c1 => ?_) (fun c1 => ?_)
  · have c1 := of_decide_eq_true c1
    refine xw.steps 1 (fun _ => rfl) ?_
    refine xw.ret rfl (fun _ => rfl) ?_
    show P (some (.int 0)) S
    simpa [bI, m_hasL, c1] using hP
  · have c1 := of_decide_eq_false c1
    refine xw.steps 2 (fun _ => rfl) ?_
    refine xw.icmp rfl (fun c2 => ?_) (fun c2 => ?_)
    · have c2 := Int32.not_lt.mpr (of_decide_eq_true c2)
      refine xw.steps 1 (fun _ => rfl) ?_
      refine xw.ret rfl (fun _ => rfl) ?_
      show P (some (.int 0)) S
      simpa [bI, m_hasL, c1, c2] using hP
    · have c2 := Int32.not_le.mp (of_decide_eq_false c2)
      refine xw.steps 2 (fun _ => rfl) ?_
      refine xw.ret rfl (fun _ => rfl) ?_
      show P (some (.int 1)) S
      simpa [bI, m_hasL, c1, c2] using hP
set_option maxHeartbeats 1000000 in
/-- RowCode$Memory.hasWord(J)Z -/
theorem c_hasWord {a : Int64} (hP : P (some (.int (bI (m_hasW a)))) S) : xw z NK g 19 0 [(0, .long a)] [] S P := by
  refine xw.steps 3 (fun _ => rfl) ?_
  refine xw.if_ rfl (fun c1 => ?_) (fun c1 => ?_)
  · have c1 := of_decide_eq_true c1
    refine xw.steps 1 (fun _ => rfl) ?_
    refine xw.ret rfl (fun _ => rfl) ?_
    show P (some (.int 0)) S
    simpa [bI, m_hasW, c1] using hP
  · have c1 := of_decide_eq_false c1
    refine xw.steps 3 (fun _ => rfl) ?_
    refine xw.if_ rfl (fun c2 => ?_) (fun c2 => ?_)
    · have c2 := Int32.not_lt.mpr (of_decide_eq_true c2)
      refine xw.steps 1 (fun _ => rfl) ?_
      refine xw.ret rfl (fun _ => rfl) ?_
      show P (some (.int 0)) S
      simpa [bI, m_hasW, c1, c2] using hP
    · have c2 := Int32.not_le.mp (of_decide_eq_false c2)
      refine xw.steps 2 (fun _ => rfl) ?_
      refine xw.ret rfl (fun _ => rfl) ?_
      show P (some (.int 1)) S
      simpa [bI, m_hasW, c1, c2] using hP
set_option maxHeartbeats 1000000 in
/-- RowCode$Code.size()I -/
theorem c_Code_size {o n a : Nat} {xs ys : List Int32} (ho : S o = some (.inr (.inr (1, [.ref (z + n), .ref (z + a)])))) (hn : S n = some (.inl xs)) (ha : S a = some (.inl ys)) (hna : n ≠ a) (hP : P (some (.int (nI xs.length))) S) : xw z NK g 25 0 [(0, .ref (z + o))] [] S P := by
  have hon : o ≠ n := fun e => by rw [e, hn] at ho; cases ho
  have hoa : o ≠ a := fun e => by rw [e, ha] at ho; cases ho
  refine xw.steps 1 (fun _ => rfl) ?_
  refine xw.getf (o := o) rfl ho rfl ?_
  show xw z NK g 25 4 [(0, .ref (z + o))] [.ref (z + n)] S P
  refine xw.callN (o := n) rfl rfl rfl hn rfl rfl (c_size hn ?_)
  show xw z NK g 25 7 [(0, .ref (z + o))] [.int (nI xs.length)] S P
  refine xw.ret rfl (fun _ => rfl) ?_
  show P (some (.int (nI xs.length))) S
  exact hP
set_option maxHeartbeats 1000000 in
/-- RowCode$Code.numberAt(I)I -/
theorem c_Code_numberAt {o n a : Nat} {xs ys : List Int32} (ho : S o = some (.inr (.inr (1, [.ref (z + n), .ref (z + a)])))) (hn : S n = some (.inl xs)) (ha : S a = some (.inl ys)) (hna : n ≠ a) {i : Int32} (hP : P (some (.int (nAt xs i))) S) : xw z NK g 26 0 [(0, .ref (z + o)), (1, .int i)] [] S P := by
  have hon : o ≠ n := fun e => by rw [e, hn] at ho; cases ho
  have hoa : o ≠ a := fun e => by rw [e, ha] at ho; cases ho
  refine xw.steps 1 (fun _ => rfl) ?_
  refine xw.getf (o := o) rfl ho rfl ?_
  refine xw.steps 1 (fun _ => rfl) ?_
  show xw z NK g 26 5 [(0, .ref (z + o)), (1, .int i)] [.int i, .ref (z + n)] S P
  refine xw.callN (o := n) rfl rfl rfl hn rfl rfl (c_at hn ?_)
  show xw z NK g 26 8 [(0, .ref (z + o)), (1, .int i)] [.int (nAt xs i)] S P
  refine xw.ret rfl (fun _ => rfl) ?_
  show P (some (.int (nAt xs i))) S
  exact hP
set_option maxHeartbeats 1000000 in
/-- RowCode$Code.argumentAt(I)I -/
theorem c_Code_argumentAt {o n a : Nat} {xs ys : List Int32} (ho : S o = some (.inr (.inr (1, [.ref (z + n), .ref (z + a)])))) (hn : S n = some (.inl xs)) (ha : S a = some (.inl ys)) (hna : n ≠ a) {i : Int32} (hP : P (some (.int (nAt ys i))) S) : xw z NK g 27 0 [(0, .ref (z + o)), (1, .int i)] [] S P := by
  have hon : o ≠ n := fun e => by rw [e, hn] at ho; cases ho
  have hoa : o ≠ a := fun e => by rw [e, ha] at ho; cases ho
  refine xw.steps 1 (fun _ => rfl) ?_
  refine xw.getf (o := o) rfl ho rfl ?_
  refine xw.steps 1 (fun _ => rfl) ?_
  show xw z NK g 27 5 [(0, .ref (z + o)), (1, .int i)] [.int i, .ref (z + a)] S P
  refine xw.callN (o := a) rfl rfl rfl ha rfl rfl (c_at ha ?_)
  show xw z NK g 27 8 [(0, .ref (z + o)), (1, .int i)] [.int (nAt ys i)] S P
  refine xw.ret rfl (fun _ => rfl) ?_
  show P (some (.int (nAt ys i))) S
  exact hP
set_option maxHeartbeats 1000000 in
/-- RowCode$Code.append(II)V -/
theorem c_Code_append {o n a : Nat} {xs ys : List Int32} (ho : S o = some (.inr (.inr (1, [.ref (z + n), .ref (z + a)])))) (hn : S n = some (.inl xs)) (ha : S a = some (.inl ys)) (hna : n ≠ a) (hl1 : xs.length < 131072) (hl2 : ys.length < 131072) {v w : Int32} (hP : P none (xu (xu S n (.inl (xs ++ [v]))) a (.inl (ys ++ [w])))) : xw z NK g 28 0 [(0, .ref (z + o)), (1, .int v), (2, .int w)] [] S P := by
  have hon : o ≠ n := fun e => by rw [e, hn] at ho; cases ho
  have hoa : o ≠ a := fun e => by rw [e, ha] at ho; cases ho
  refine xw.steps 1 (fun _ => rfl) ?_
  refine xw.getf (o := o) rfl ho rfl ?_
  refine xw.steps 1 (fun _ => rfl) ?_
  show xw z NK g 28 5 [(0, .ref (z + o)), (1, .int v), (2, .int w)] [.int v, .ref (z + n)] S P
  refine xw.callN (o := n) rfl rfl rfl hn rfl rfl (c_append hn (by first | assumption | (unfold nCut; rw [List.length_take]; omega)) ?_)
  show xw z NK g 28 8 [(0, .ref (z + o)), (1, .int v), (2, .int w)] [] (xu S n (.inl (xs ++ [v]))) P
  refine xw.steps 1 (fun _ => rfl) ?_
  refine xw.getf (o := o) rfl ((xu_ne _ _ hon).trans ho) rfl ?_
  refine xw.steps 1 (fun _ => rfl) ?_
  show xw z NK g 28 13 [(0, .ref (z + o)), (1, .int v), (2, .int w)] [.int w, .ref (z + a)] (xu S n (.inl (xs ++ [v]))) P
  refine xw.callN (o := a) rfl rfl rfl ((xu_ne _ _ (Ne.symm hna)).trans ha) rfl rfl (c_append ((xu_ne _ _ (Ne.symm hna)).trans ha) (by first | assumption | (unfold nCut; rw [List.length_take]; omega)) ?_)
  show xw z NK g 28 16 [(0, .ref (z + o)), (1, .int v), (2, .int w)] [] (xu (xu S n (.inl (xs ++ [v]))) a (.inl (ys ++ [w]))) P
  refine xw.ret rfl (fun _ => rfl) ?_
  show P none (xu (xu S n (.inl (xs ++ [v]))) a (.inl (ys ++ [w])))
  exact hP
set_option maxHeartbeats 1000000 in
/-- RowCode$Code.cutTo(I)V -/
theorem c_Code_cutTo {o n a : Nat} {xs ys : List Int32} (ho : S o = some (.inr (.inr (1, [.ref (z + n), .ref (z + a)])))) (hn : S n = some (.inl xs)) (ha : S a = some (.inl ys)) (hna : n ≠ a) {m : Int32} (hP : P none (xu (xu S n (.inl (nCut xs m))) a (.inl (nCut ys m)))) : xw z NK g 29 0 [(0, .ref (z + o)), (1, .int m)] [] S P := by
  have hon : o ≠ n := fun e => by rw [e, hn] at ho; cases ho
  have hoa : o ≠ a := fun e => by rw [e, ha] at ho; cases ho
  refine xw.steps 1 (fun _ => rfl) ?_
  refine xw.getf (o := o) rfl ho rfl ?_
  refine xw.steps 1 (fun _ => rfl) ?_
  show xw z NK g 29 5 [(0, .ref (z + o)), (1, .int m)] [.int m, .ref (z + n)] S P
  refine xw.callN (o := n) rfl rfl rfl hn rfl rfl (c_cutTo hn ?_)
  show xw z NK g 29 8 [(0, .ref (z + o)), (1, .int m)] [] (xu S n (.inl (nCut xs m))) P
  refine xw.steps 1 (fun _ => rfl) ?_
  refine xw.getf (o := o) rfl ((xu_ne _ _ hon).trans ho) rfl ?_
  refine xw.steps 1 (fun _ => rfl) ?_
  show xw z NK g 29 13 [(0, .ref (z + o)), (1, .int m)] [.int m, .ref (z + a)] (xu S n (.inl (nCut xs m))) P
  refine xw.callN (o := a) rfl rfl rfl ((xu_ne _ _ (Ne.symm hna)).trans ha) rfl rfl (c_cutTo ((xu_ne _ _ (Ne.symm hna)).trans ha) ?_)
  show xw z NK g 29 16 [(0, .ref (z + o)), (1, .int m)] [] (xu (xu S n (.inl (nCut xs m))) a (.inl (nCut ys m))) P
  refine xw.ret rfl (fun _ => rfl) ?_
  show P none (xu (xu S n (.inl (nCut xs m))) a (.inl (nCut ys m)))
  exact hP
set_option maxHeartbeats 1000000 in
/-- RowCode$Code.lastNumber(I)I -/
theorem c_Code_lastNumber {o n a : Nat} {xs ys : List Int32} (ho : S o = some (.inr (.inr (1, [.ref (z + n), .ref (z + a)])))) (hn : S n = some (.inl xs)) (ha : S a = some (.inl ys)) (hna : n ≠ a) {b : Int32} (hP : P (some (.int (nAt xs ((nI xs.length - 1) - b)))) S) : xw z NK g 30 0 [(0, .ref (z + o)), (1, .int b)] [] S P := by
  have hon : o ≠ n := fun e => by rw [e, hn] at ho; cases ho
  have hoa : o ≠ a := fun e => by rw [e, ha] at ho; cases ho
  refine xw.steps 1 (fun _ => rfl) ?_
  refine xw.getf (o := o) rfl ho rfl ?_
  refine xw.steps 1 (fun _ => rfl) ?_
  refine xw.getf (o := o) rfl ho rfl ?_
  show xw z NK g 30 8 [(0, .ref (z + o)), (1, .int b)] [.ref (z + n), .ref (z + n)] S P
  refine xw.callN (o := n) rfl rfl rfl hn rfl rfl (c_size hn ?_)
  show xw z NK g 30 11 [(0, .ref (z + o)), (1, .int b)] [.int (nI xs.length), .ref (z + n)] S P
  refine xw.steps 4 (fun _ => rfl) ?_
  show xw z NK g 30 15 [(0, .ref (z + o)), (1, .int b)] [.int (((nI xs.length) - 1) - b), .ref (z + n)] S P
  refine xw.callN (o := n) rfl rfl rfl hn rfl rfl (c_at hn ?_)
  show xw z NK g 30 18 [(0, .ref (z + o)), (1, .int b)] [.int (nAt xs (((nI xs.length) - 1) - b))] S P
  refine xw.ret rfl (fun _ => rfl) ?_
  show P (some (.int (nAt xs (((nI xs.length) - 1) - b)))) S
  exact hP
set_option maxHeartbeats 1000000 in
/-- RowCode$Code.lastArgument(I)I -/
theorem c_Code_lastArgument {o n a : Nat} {xs ys : List Int32} (ho : S o = some (.inr (.inr (1, [.ref (z + n), .ref (z + a)])))) (hn : S n = some (.inl xs)) (ha : S a = some (.inl ys)) (hna : n ≠ a) {b : Int32} (hP : P (some (.int (nAt ys ((nI ys.length - 1) - b)))) S) : xw z NK g 31 0 [(0, .ref (z + o)), (1, .int b)] [] S P := by
  have hon : o ≠ n := fun e => by rw [e, hn] at ho; cases ho
  have hoa : o ≠ a := fun e => by rw [e, ha] at ho; cases ho
  refine xw.steps 1 (fun _ => rfl) ?_
  refine xw.getf (o := o) rfl ho rfl ?_
  refine xw.steps 1 (fun _ => rfl) ?_
  refine xw.getf (o := o) rfl ho rfl ?_
  show xw z NK g 31 8 [(0, .ref (z + o)), (1, .int b)] [.ref (z + a), .ref (z + a)] S P
  refine xw.callN (o := a) rfl rfl rfl ha rfl rfl (c_size ha ?_)
  show xw z NK g 31 11 [(0, .ref (z + o)), (1, .int b)] [.int (nI ys.length), .ref (z + a)] S P
  refine xw.steps 4 (fun _ => rfl) ?_
  show xw z NK g 31 15 [(0, .ref (z + o)), (1, .int b)] [.int (((nI ys.length) - 1) - b), .ref (z + a)] S P
  refine xw.callN (o := a) rfl rfl rfl ha rfl rfl (c_at ha ?_)
  show xw z NK g 31 18 [(0, .ref (z + o)), (1, .int b)] [.int (nAt ys (((nI ys.length) - 1) - b))] S P
  refine xw.ret rfl (fun _ => rfl) ?_
  show P (some (.int (nAt ys (((nI ys.length) - 1) - b)))) S
  exact hP
set_option maxHeartbeats 1000000 in
/-- RowCode$Code.cutLast()V -/
theorem c_Code_cutLast {o n a : Nat} {xs ys : List Int32} (ho : S o = some (.inr (.inr (1, [.ref (z + n), .ref (z + a)])))) (hn : S n = some (.inl xs)) (ha : S a = some (.inl ys)) (hna : n ≠ a) (hP : P none (xu (xu S n (.inl xs.dropLast)) a (.inl ys.dropLast))) : xw z NK g 32 0 [(0, .ref (z + o))] [] S P := by
  have hon : o ≠ n := fun e => by rw [e, hn] at ho; cases ho
  have hoa : o ≠ a := fun e => by rw [e, ha] at ho; cases ho
  refine xw.steps 1 (fun _ => rfl) ?_
  refine xw.getf (o := o) rfl ho rfl ?_
  show xw z NK g 32 4 [(0, .ref (z + o))] [.ref (z + n)] S P
  refine xw.callN (o := n) rfl rfl rfl hn rfl rfl (c_takeLast hn ?_)
  show xw z NK g 32 7 [(0, .ref (z + o))] [.int (nLast xs)] (xu S n (.inl xs.dropLast)) P
  refine xw.steps 2 (fun _ => rfl) ?_
  refine xw.getf (o := o) rfl ((xu_ne _ _ hon).trans ho) rfl ?_
  show xw z NK g 32 12 [(0, .ref (z + o))] [.ref (z + a)] (xu S n (.inl xs.dropLast)) P
  refine xw.callN (o := a) rfl rfl rfl ((xu_ne _ _ (Ne.symm hna)).trans ha) rfl rfl (c_takeLast ((xu_ne _ _ (Ne.symm hna)).trans ha) ?_)
  show xw z NK g 32 15 [(0, .ref (z + o))] [.int (nLast ys)] (xu (xu S n (.inl xs.dropLast)) a (.inl ys.dropLast)) P
  refine xw.steps 1 (fun _ => rfl) ?_
  refine xw.ret rfl (fun _ => rfl) ?_
  show P none (xu (xu S n (.inl xs.dropLast)) a (.inl ys.dropLast))
  exact hP
set_option maxHeartbeats 1000000 in
/-- RowCode$Code.replaceLast(III)V -/
theorem c_Code_replaceLast {o n a : Nat} {xs ys : List Int32} (ho : S o = some (.inr (.inr (1, [.ref (z + n), .ref (z + a)])))) (hn : S n = some (.inl xs)) (ha : S a = some (.inl ys)) (hna : n ≠ a) {c v w : Int32} (hl1 : xs.length < 131072) (hl2 : ys.length < 131072) (hP : P none (xu (xu S n (.inl (nCut xs (nI xs.length - c) ++ [v]))) a (.inl (nCut ys (nI ys.length - c) ++ [w])))) : xw z NK g 33 0 [(0, .ref (z + o)), (1, .int c), (2, .int v), (3, .int w)] [] S P := by
  have hon : o ≠ n := fun e => by rw [e, hn] at ho; cases ho
  have hoa : o ≠ a := fun e => by rw [e, ha] at ho; cases ho
  refine xw.steps 1 (fun _ => rfl) ?_
  refine xw.getf (o := o) rfl ho rfl ?_
  refine xw.steps 1 (fun _ => rfl) ?_
  refine xw.getf (o := o) rfl ho rfl ?_
  show xw z NK g 33 8 [(0, .ref (z + o)), (1, .int c), (2, .int v), (3, .int w)] [.ref (z + n), .ref (z + n)] S P
  refine xw.callN (o := n) rfl rfl rfl hn rfl rfl (c_size hn ?_)
  show xw z NK g 33 11 [(0, .ref (z + o)), (1, .int c), (2, .int v), (3, .int w)] [.int (nI xs.length), .ref (z + n)] S P
  refine xw.steps 2 (fun _ => rfl) ?_
  show xw z NK g 33 13 [(0, .ref (z + o)), (1, .int c), (2, .int v), (3, .int w)] [.int ((nI xs.length) - c), .ref (z + n)] S P
  refine xw.callN (o := n) rfl rfl rfl hn rfl rfl (c_cutTo hn ?_)
  show xw z NK g 33 16 [(0, .ref (z + o)), (1, .int c), (2, .int v), (3, .int w)] [] (xu S n (.inl (nCut xs ((nI xs.length) - c)))) P
  refine xw.steps 1 (fun _ => rfl) ?_
  refine xw.getf (o := o) rfl ((xu_ne _ _ hon).trans ho) rfl ?_
  refine xw.steps 1 (fun _ => rfl) ?_
  refine xw.getf (o := o) rfl ((xu_ne _ _ hon).trans ho) rfl ?_
  show xw z NK g 33 24 [(0, .ref (z + o)), (1, .int c), (2, .int v), (3, .int w)] [.ref (z + a), .ref (z + a)] (xu S n (.inl (nCut xs ((nI xs.length) - c)))) P
  refine xw.callN (o := a) rfl rfl rfl ((xu_ne _ _ (Ne.symm hna)).trans ha) rfl rfl (c_size ((xu_ne _ _ (Ne.symm hna)).trans ha) ?_)
  show xw z NK g 33 27 [(0, .ref (z + o)), (1, .int c), (2, .int v), (3, .int w)] [.int (nI ys.length), .ref (z + a)] (xu S n (.inl (nCut xs ((nI xs.length) - c)))) P
  refine xw.steps 2 (fun _ => rfl) ?_
  show xw z NK g 33 29 [(0, .ref (z + o)), (1, .int c), (2, .int v), (3, .int w)] [.int ((nI ys.length) - c), .ref (z + a)] (xu S n (.inl (nCut xs ((nI xs.length) - c)))) P
  refine xw.callN (o := a) rfl rfl rfl ((xu_ne _ _ (Ne.symm hna)).trans ha) rfl rfl (c_cutTo ((xu_ne _ _ (Ne.symm hna)).trans ha) ?_)
  show xw z NK g 33 32 [(0, .ref (z + o)), (1, .int c), (2, .int v), (3, .int w)] [] (xu (xu S n (.inl (nCut xs ((nI xs.length) - c)))) a (.inl (nCut ys ((nI ys.length) - c)))) P
  refine xw.steps 1 (fun _ => rfl) ?_
  refine xw.getf (o := o) rfl ((xu_ne _ _ hoa).trans ((xu_ne _ _ hon).trans ho)) rfl ?_
  refine xw.steps 1 (fun _ => rfl) ?_
  show xw z NK g 33 37 [(0, .ref (z + o)), (1, .int c), (2, .int v), (3, .int w)] [.int v, .ref (z + n)] (xu (xu S n (.inl (nCut xs ((nI xs.length) - c)))) a (.inl (nCut ys ((nI ys.length) - c)))) P
  refine xw.callN (o := n) rfl rfl rfl ((xu_ne _ _ hna).trans (xu_self _ _ _)) rfl rfl (c_append ((xu_ne _ _ hna).trans (xu_self _ _ _)) (by first | assumption | (unfold nCut; rw [List.length_take]; omega)) ?_)
  show xw z NK g 33 40 [(0, .ref (z + o)), (1, .int c), (2, .int v), (3, .int w)] [] (xu (xu (xu S n (.inl (nCut xs ((nI xs.length) - c)))) a (.inl (nCut ys ((nI ys.length) - c)))) n (.inl ((nCut xs ((nI xs.length) - c)) ++ [v]))) P
  refine xw.steps 1 (fun _ => rfl) ?_
  refine xw.getf (o := o) rfl ((xu_ne _ _ hon).trans ((xu_ne _ _ hoa).trans ((xu_ne _ _ hon).trans ho))) rfl ?_
  refine xw.steps 1 (fun _ => rfl) ?_
  show xw z NK g 33 45 [(0, .ref (z + o)), (1, .int c), (2, .int v), (3, .int w)] [.int w, .ref (z + a)] (xu (xu (xu S n (.inl (nCut xs ((nI xs.length) - c)))) a (.inl (nCut ys ((nI ys.length) - c)))) n (.inl ((nCut xs ((nI xs.length) - c)) ++ [v]))) P
  refine xw.callN (o := a) rfl rfl rfl ((xu_ne _ _ (Ne.symm hna)).trans (xu_self _ _ _)) rfl rfl (c_append ((xu_ne _ _ (Ne.symm hna)).trans (xu_self _ _ _)) (by first | assumption | (unfold nCut; rw [List.length_take]; omega)) ?_)
  show xw z NK g 33 48 [(0, .ref (z + o)), (1, .int c), (2, .int v), (3, .int w)] [] (xu (xu (xu (xu S n (.inl (nCut xs ((nI xs.length) - c)))) a (.inl (nCut ys ((nI ys.length) - c)))) n (.inl ((nCut xs ((nI xs.length) - c)) ++ [v]))) a (.inl ((nCut ys ((nI ys.length) - c)) ++ [w]))) P
  refine xw.ret rfl (fun _ => rfl) ?_
  show P none (xu (xu (xu (xu S n (.inl (nCut xs ((nI xs.length) - c)))) a (.inl (nCut ys ((nI ys.length) - c)))) n (.inl ((nCut xs ((nI xs.length) - c)) ++ [v]))) a (.inl ((nCut ys ((nI ys.length) - c)) ++ [w])))
  rw [xu4 _ hna]
  exact hP
set_option maxHeartbeats 1000000 in
/-- RowCode$Memory.localAt(I)I -/
theorem c_localAt {o n a : Nat} {L V : Nat → Int32} (ho : S o = some (.inr (.inr (5, [.ref (z + n), .ref (z + a)])))) (hn : S n = some (.inr (.inl (false, 16, L)))) (ha : S a = some (.inr (.inl (false, 64, V)))) {i : Int32} (hP : P (some (.int (if m_hasL i = true then L i.toNatClampNeg else 0))) S) : xw z NK g 20 0 [(0, .ref (z + o)), (1, .int i)] [] S P := by
  refine xw.steps 1 (fun _ => rfl) ?_
  show xw z NK g 20 1 [(0, .ref (z + o)), (1, .int i)] [.int i] S P
  refine xw.callS rfl rfl rfl rfl rfl (c_hasLocal ?_)
  show xw z NK g 20 4 [(0, .ref (z + o)), (1, .int i)] [.int (bI (m_hasL i))] S P
  refine xw.if_ rfl (fun c1 => ?_) (fun c1 => ?_)
  · have c1 := bI_eq0 (of_decide_eq_true c1)
    refine xw.steps 1 (fun _ => rfl) ?_
    refine xw.ret rfl (fun _ => rfl) ?_
    show P (some (.int 0)) S
    simpa [c1] using hP
  · have c1 := bI_ne0 (of_decide_eq_false c1)
    refine xw.steps 1 (fun _ => rfl) ?_
    refine xw.getf (o := o) rfl ho rfl ?_
    refine xw.steps 1 (fun _ => rfl) ?_
    refine xw.ald (o := n) rfl hn (m_hasL_in (by assumption)) ?_
    refine xw.steps 1 (fun _ => rfl) ?_
    refine xw.ret rfl (fun _ => rfl) ?_
    show P (some (.int (L i.toNatClampNeg))) S
    simpa [c1] using hP
set_option maxHeartbeats 1000000 in
/-- RowCode$Memory.changeLocal(II)V -/
theorem c_changeLocal {o n a : Nat} {L V : Nat → Int32} (ho : S o = some (.inr (.inr (5, [.ref (z + n), .ref (z + a)])))) (hn : S n = some (.inr (.inl (false, 16, L)))) (ha : S a = some (.inr (.inl (false, 64, V)))) {i v : Int32} (hP : P none (if m_hasL i = true then xu S n (.inr (.inl (false, 16, upd L i.toNatClampNeg v))) else S)) : xw z NK g 21 0 [(0, .ref (z + o)), (1, .int i), (2, .int v)] [] S P := by
  refine xw.steps 1 (fun _ => rfl) ?_
  show xw z NK g 21 1 [(0, .ref (z + o)), (1, .int i), (2, .int v)] [.int i] S P
  refine xw.callS rfl rfl rfl rfl rfl (c_hasLocal ?_)
  show xw z NK g 21 4 [(0, .ref (z + o)), (1, .int i), (2, .int v)] [.int (bI (m_hasL i))] S P
  refine xw.if_ rfl (fun c1 => ?_) (fun c1 => ?_)
  · have c1 := bI_eq0 (of_decide_eq_true c1)
    refine xw.ret rfl (fun _ => rfl) ?_
    show P none S
    simpa [c1] using hP
  · have c1 := bI_ne0 (of_decide_eq_false c1)
    refine xw.steps 1 (fun _ => rfl) ?_
    refine xw.getf (o := o) rfl ho rfl ?_
    refine xw.steps 2 (fun _ => rfl) ?_
    refine xw.ast (o := n) rfl hn (m_hasL_in (by assumption)) ?_
    show xw z NK g 21 14 [(0, .ref (z + o)), (1, .int i), (2, .int v)] [] (xu S n (.inr (.inl (false, 16, (upd L i.toNatClampNeg v))))) P
    refine xw.ret rfl (fun _ => rfl) ?_
    show P none (xu S n (.inr (.inl (false, 16, (upd L i.toNatClampNeg v)))))
    simpa [c1] using hP
set_option maxHeartbeats 1000000 in
/-- RowCode$Memory.wordAt(I)I -/
theorem c_wordAt {o n a : Nat} {L V : Nat → Int32} (ho : S o = some (.inr (.inr (5, [.ref (z + n), .ref (z + a)])))) (hn : S n = some (.inr (.inl (false, 16, L)))) (ha : S a = some (.inr (.inl (false, 64, V)))) {i : Int32} (hP : P (some (.int (if m_hasW i.toInt64 = true then V i.toNatClampNeg else 0))) S) : xw z NK g 22 0 [(0, .ref (z + o)), (1, .int i)] [] S P := by
  refine xw.steps 2 (fun _ => rfl) ?_
  show xw z NK g 22 2 [(0, .ref (z + o)), (1, .int i)] [.long i.toInt64] S P
  refine xw.callS rfl rfl rfl rfl rfl (c_hasWord ?_)
  show xw z NK g 22 5 [(0, .ref (z + o)), (1, .int i)] [.int (bI (m_hasW i.toInt64))] S P
  refine xw.if_ rfl (fun c1 => ?_) (fun c1 => ?_)
  · have c1 := bI_eq0 (of_decide_eq_true c1)
    refine xw.steps 1 (fun _ => rfl) ?_
    refine xw.ret rfl (fun _ => rfl) ?_
    show P (some (.int 0)) S
    simpa [c1] using hP
  · have c1 := bI_ne0 (of_decide_eq_false c1)
    refine xw.steps 1 (fun _ => rfl) ?_
    refine xw.getf (o := o) rfl ho rfl ?_
    refine xw.steps 1 (fun _ => rfl) ?_
    refine xw.ald (o := a) rfl ha (m_hasW_in (by assumption)) ?_
    refine xw.steps 1 (fun _ => rfl) ?_
    refine xw.ret rfl (fun _ => rfl) ?_
    show P (some (.int (V i.toNatClampNeg))) S
    simpa [c1] using hP
set_option maxHeartbeats 1000000 in
/-- RowCode$Memory.changeWord(II)V -/
theorem c_changeWord {o n a : Nat} {L V : Nat → Int32} (ho : S o = some (.inr (.inr (5, [.ref (z + n), .ref (z + a)])))) (hn : S n = some (.inr (.inl (false, 16, L)))) (ha : S a = some (.inr (.inl (false, 64, V)))) {i v : Int32} (hP : P none (if m_hasW i.toInt64 = true then xu S a (.inr (.inl (false, 64, upd V i.toNatClampNeg v))) else S)) : xw z NK g 23 0 [(0, .ref (z + o)), (1, .int i), (2, .int v)] [] S P := by
  refine xw.steps 2 (fun _ => rfl) ?_
  show xw z NK g 23 2 [(0, .ref (z + o)), (1, .int i), (2, .int v)] [.long i.toInt64] S P
  refine xw.callS rfl rfl rfl rfl rfl (c_hasWord ?_)
  show xw z NK g 23 5 [(0, .ref (z + o)), (1, .int i), (2, .int v)] [.int (bI (m_hasW i.toInt64))] S P
  refine xw.if_ rfl (fun c1 => ?_) (fun c1 => ?_)
  · have c1 := bI_eq0 (of_decide_eq_true c1)
    refine xw.ret rfl (fun _ => rfl) ?_
    show P none S
    simpa [c1] using hP
  · have c1 := bI_ne0 (of_decide_eq_false c1)
    refine xw.steps 1 (fun _ => rfl) ?_
    refine xw.getf (o := o) rfl ho rfl ?_
    refine xw.steps 2 (fun _ => rfl) ?_
    refine xw.ast (o := a) rfl ha (m_hasW_in (by assumption)) ?_
    show xw z NK g 23 15 [(0, .ref (z + o)), (1, .int i), (2, .int v)] [] (xu S a (.inr (.inl (false, 64, (upd V i.toNatClampNeg v))))) P
    refine xw.ret rfl (fun _ => rfl) ?_
    show P none (xu S a (.inr (.inl (false, 64, (upd V i.toNatClampNeg v)))))
    simpa [c1] using hP
end XB
end
