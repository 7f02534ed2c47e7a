section
-- ===== PART A: goes FIRST, ahead of the names: the tables' words, and 'selects' of the private methods out of them =====
/-- a private method of a class that the tables say can be made, by its rows of tables_1 -/
def lw_okq (q : MethodName × Nat) : Prop := (q.1.cls ≠ "java/lang/invoke/MethodHandle" ∧ q.1.cls ≠ "java/lang/invoke/VarHandle") ∧ Cond.instantiable q.1.cls q.2 ∈ tables_1 ∧ Cond.privateMethod q.1 ∈ tables_1 ∧ Cond.instanceMethod q.1 ∈ tables_1
theorem lw_p0 : lw_okq (⟨"RowCode", "forgetWork", "()V"⟩, 8) := ⟨⟨by decide +kernel, by decide +kernel⟩, List.mem_of_getElem? (i := 20) (by decide +kernel), List.mem_of_getElem? (i := 264) (by decide +kernel), List.mem_of_getElem? (i := 265) (by decide +kernel)⟩
theorem lw_p1 : lw_okq (⟨"RowCode$Judge", "argumentsFit", "()Z"⟩, 7) := ⟨⟨by decide +kernel, by decide +kernel⟩, List.mem_of_getElem? (i := 55) (by decide +kernel), List.mem_of_getElem? (i := 293) (by decide +kernel), List.mem_of_getElem? (i := 294) (by decide +kernel)⟩
theorem lw_p2 : lw_okq (⟨"RowCode$Judge", "labelsAreOnce", "()Z"⟩, 7) := ⟨⟨by decide +kernel, by decide +kernel⟩, List.mem_of_getElem? (i := 55) (by decide +kernel), List.mem_of_getElem? (i := 311) (by decide +kernel), List.mem_of_getElem? (i := 312) (by decide +kernel)⟩
theorem lw_p3 : lw_okq (⟨"RowCode$Judge", "goalsAreThere", "()Z"⟩, 7) := ⟨⟨by decide +kernel, by decide +kernel⟩, List.mem_of_getElem? (i := 55) (by decide +kernel), List.mem_of_getElem? (i := 321) (by decide +kernel), List.mem_of_getElem? (i := 322) (by decide +kernel)⟩
theorem lw_p4 : lw_okq (⟨"RowCode$Judge", "waysAgree", "()Z"⟩, 7) := ⟨⟨by decide +kernel, by decide +kernel⟩, List.mem_of_getElem? (i := 55) (by decide +kernel), List.mem_of_getElem? (i := 331) (by decide +kernel), List.mem_of_getElem? (i := 332) (by decide +kernel)⟩
theorem lw_p5 : lw_okq (⟨"RowCode$Judge", "arrives", "(II)Z"⟩, 7) := ⟨⟨by decide +kernel, by decide +kernel⟩, List.mem_of_getElem? (i := 55) (by decide +kernel), List.mem_of_getElem? (i := 336) (by decide +kernel), List.mem_of_getElem? (i := 337) (by decide +kernel)⟩
theorem lw_p6 : lw_okq (⟨"RowCode$Judge", "leavesRightly", "(I)Z"⟩, 7) := ⟨⟨by decide +kernel, by decide +kernel⟩, List.mem_of_getElem? (i := 55) (by decide +kernel), List.mem_of_getElem? (i := 346) (by decide +kernel), List.mem_of_getElem? (i := 347) (by decide +kernel)⟩
theorem lw_p7 : lw_okq (⟨"RowCode$Judge", "following", "(I)I"⟩, 7) := ⟨⟨by decide +kernel, by decide +kernel⟩, List.mem_of_getElem? (i := 55) (by decide +kernel), List.mem_of_getElem? (i := 354) (by decide +kernel), List.mem_of_getElem? (i := 355) (by decide +kernel)⟩
theorem lw_p8 : lw_okq (⟨"RowCode$Judge", "goal", "(I)I"⟩, 7) := ⟨⟨by decide +kernel, by decide +kernel⟩, List.mem_of_getElem? (i := 55) (by decide +kernel), List.mem_of_getElem? (i := 361) (by decide +kernel), List.mem_of_getElem? (i := 362) (by decide +kernel)⟩
theorem lw_p9 : lw_okq (⟨"RowCode$Judge", "roundsSpend", "()Z"⟩, 7) := ⟨⟨by decide +kernel, by decide +kernel⟩, List.mem_of_getElem? (i := 55) (by decide +kernel), List.mem_of_getElem? (i := 365) (by decide +kernel), List.mem_of_getElem? (i := 366) (by decide +kernel)⟩
theorem lw_p10 : lw_okq (⟨"RowCode$Judge", "isFree", "(I)Z"⟩, 7) := ⟨⟨by decide +kernel, by decide +kernel⟩, List.mem_of_getElem? (i := 55) (by decide +kernel), List.mem_of_getElem? (i := 369) (by decide +kernel), List.mem_of_getElem? (i := 370) (by decide +kernel)⟩
theorem lw_p11 : lw_okq (⟨"RowCode$Judge", "countComer", "(I)V"⟩, 7) := ⟨⟨by decide +kernel, by decide +kernel⟩, List.mem_of_getElem? (i := 55) (by decide +kernel), List.mem_of_getElem? (i := 373) (by decide +kernel), List.mem_of_getElem? (i := 374) (by decide +kernel)⟩
theorem lw_p12 : lw_okq (⟨"RowCode$Judge", "loseComer", "(I)V"⟩, 7) := ⟨⟨by decide +kernel, by decide +kernel⟩, List.mem_of_getElem? (i := 55) (by decide +kernel), List.mem_of_getElem? (i := 377) (by decide +kernel), List.mem_of_getElem? (i := 378) (by decide +kernel)⟩
theorem lw_p13 : lw_okq (⟨"RowCode$Improver", "copyReached", "(LRowCode$Code;LRowCode$Judge;)V"⟩, 4) := ⟨⟨by decide +kernel, by decide +kernel⟩, List.mem_of_getElem? (i := 85) (by decide +kernel), List.mem_of_getElem? (i := 389) (by decide +kernel), List.mem_of_getElem? (i := 390) (by decide +kernel)⟩
theorem lw_p14 : lw_okq (⟨"RowCode$Improver", "findPlaces", "()V"⟩, 4) := ⟨⟨by decide +kernel, by decide +kernel⟩, List.mem_of_getElem? (i := 85) (by decide +kernel), List.mem_of_getElem? (i := 402) (by decide +kernel), List.mem_of_getElem? (i := 403) (by decide +kernel)⟩
theorem lw_p15 : lw_okq (⟨"RowCode$Improver", "countUses", "()V"⟩, 4) := ⟨⟨by decide +kernel, by decide +kernel⟩, List.mem_of_getElem? (i := 85) (by decide +kernel), List.mem_of_getElem? (i := 408) (by decide +kernel), List.mem_of_getElem? (i := 409) (by decide +kernel)⟩
def lw_privs_1 : List (MethodName × Nat) := [(⟨"RowCode", "forgetWork", "()V"⟩, 8), (⟨"RowCode$Judge", "argumentsFit", "()Z"⟩, 7), (⟨"RowCode$Judge", "labelsAreOnce", "()Z"⟩, 7), (⟨"RowCode$Judge", "goalsAreThere", "()Z"⟩, 7), (⟨"RowCode$Judge", "waysAgree", "()Z"⟩, 7), (⟨"RowCode$Judge", "arrives", "(II)Z"⟩, 7), (⟨"RowCode$Judge", "leavesRightly", "(I)Z"⟩, 7), (⟨"RowCode$Judge", "following", "(I)I"⟩, 7), (⟨"RowCode$Judge", "goal", "(I)I"⟩, 7), (⟨"RowCode$Judge", "roundsSpend", "()Z"⟩, 7), (⟨"RowCode$Judge", "isFree", "(I)Z"⟩, 7), (⟨"RowCode$Judge", "countComer", "(I)V"⟩, 7), (⟨"RowCode$Judge", "loseComer", "(I)V"⟩, 7), (⟨"RowCode$Improver", "copyReached", "(LRowCode$Code;LRowCode$Judge;)V"⟩, 4), (⟨"RowCode$Improver", "findPlaces", "()V"⟩, 4), (⟨"RowCode$Improver", "countUses", "()V"⟩, 4)]
theorem lw_r1 : ∀ q ∈ lw_privs_1, lw_okq q := List.forall_mem_cons.mpr ⟨lw_p0, List.forall_mem_cons.mpr ⟨lw_p1, List.forall_mem_cons.mpr ⟨lw_p2, List.forall_mem_cons.mpr ⟨lw_p3, List.forall_mem_cons.mpr ⟨lw_p4, List.forall_mem_cons.mpr ⟨lw_p5, List.forall_mem_cons.mpr ⟨lw_p6, List.forall_mem_cons.mpr ⟨lw_p7, List.forall_mem_cons.mpr ⟨lw_p8, List.forall_mem_cons.mpr ⟨lw_p9, List.forall_mem_cons.mpr ⟨lw_p10, List.forall_mem_cons.mpr ⟨lw_p11, List.forall_mem_cons.mpr ⟨lw_p12, List.forall_mem_cons.mpr ⟨lw_p13, List.forall_mem_cons.mpr ⟨lw_p14, List.forall_mem_cons.mpr ⟨lw_p15, fun _ h => absurd h List.not_mem_nil⟩⟩⟩⟩⟩⟩⟩⟩⟩⟩⟩⟩⟩⟩⟩⟩
theorem lw_p16 : lw_okq (⟨"RowCode$Improver", "farthest", "(I)I"⟩, 4) := ⟨⟨by decide +kernel, by decide +kernel⟩, List.mem_of_getElem? (i := 85) (by decide +kernel), List.mem_of_getElem? (i := 413) (by decide +kernel), List.mem_of_getElem? (i := 414) (by decide +kernel)⟩
theorem lw_p17 : lw_okq (⟨"RowCode$Improver", "rewrite", "()V"⟩, 4) := ⟨⟨by decide +kernel, by decide +kernel⟩, List.mem_of_getElem? (i := 85) (by decide +kernel), List.mem_of_getElem? (i := 418) (by decide +kernel), List.mem_of_getElem? (i := 419) (by decide +kernel)⟩
theorem lw_p18 : lw_okq (⟨"RowCode$Improver", "folds", "(II)Z"⟩, 4) := ⟨⟨by decide +kernel, by decide +kernel⟩, List.mem_of_getElem? (i := 85) (by decide +kernel), List.mem_of_getElem? (i := 422) (by decide +kernel), List.mem_of_getElem? (i := 423) (by decide +kernel)⟩
theorem lw_p19 : lw_okq (⟨"RowCode$Improver", "foldsOne", "(I)Z"⟩, 4) := ⟨⟨by decide +kernel, by decide +kernel⟩, List.mem_of_getElem? (i := 85) (by decide +kernel), List.mem_of_getElem? (i := 426) (by decide +kernel), List.mem_of_getElem? (i := 427) (by decide +kernel)⟩
theorem lw_p20 : lw_okq (⟨"RowCode$Improver", "foldsCalculation", "(I)Z"⟩, 4) := ⟨⟨by decide +kernel, by decide +kernel⟩, List.mem_of_getElem? (i := 85) (by decide +kernel), List.mem_of_getElem? (i := 450) (by decide +kernel), List.mem_of_getElem? (i := 451) (by decide +kernel)⟩
theorem lw_p21 : lw_okq (⟨"RowCode$Improver", "foldsComparison", "(I)Z"⟩, 4) := ⟨⟨by decide +kernel, by decide +kernel⟩, List.mem_of_getElem? (i := 85) (by decide +kernel), List.mem_of_getElem? (i := 463) (by decide +kernel), List.mem_of_getElem? (i := 464) (by decide +kernel)⟩
theorem lw_p22 : lw_okq (⟨"RowCode$Improver", "foldsDrop", "()Z"⟩, 4) := ⟨⟨by decide +kernel, by decide +kernel⟩, List.mem_of_getElem? (i := 85) (by decide +kernel), List.mem_of_getElem? (i := 473) (by decide +kernel), List.mem_of_getElem? (i := 474) (by decide +kernel)⟩
theorem lw_p23 : lw_okq (⟨"RowCode$Improver", "foldsCondition", "(II)Z"⟩, 4) := ⟨⟨by decide +kernel, by decide +kernel⟩, List.mem_of_getElem? (i := 85) (by decide +kernel), List.mem_of_getElem? (i := 477) (by decide +kernel), List.mem_of_getElem? (i := 478) (by decide +kernel)⟩
theorem lw_p24 : lw_okq (⟨"RowCode$Improver", "shortenWayTo", "(I)V"⟩, 4) := ⟨⟨by decide +kernel, by decide +kernel⟩, List.mem_of_getElem? (i := 85) (by decide +kernel), List.mem_of_getElem? (i := 484) (by decide +kernel), List.mem_of_getElem? (i := 485) (by decide +kernel)⟩
theorem lw_p25 : lw_okq (⟨"RowCode$Translator", "layRow", "(I)V"⟩, 5) := ⟨⟨by decide +kernel, by decide +kernel⟩, List.mem_of_getElem? (i := 108) (by decide +kernel), List.mem_of_getElem? (i := 495) (by decide +kernel), List.mem_of_getElem? (i := 496) (by decide +kernel)⟩
theorem lw_p26 : lw_okq (⟨"RowCode$Translator", "lay", "(II)V"⟩, 5) := ⟨⟨by decide +kernel, by decide +kernel⟩, List.mem_of_getElem? (i := 108) (by decide +kernel), List.mem_of_getElem? (i := 503) (by decide +kernel), List.mem_of_getElem? (i := 504) (by decide +kernel)⟩
theorem lw_p27 : lw_okq (⟨"RowCode$Translator", "storeLocal", "(I)V"⟩, 5) := ⟨⟨by decide +kernel, by decide +kernel⟩, List.mem_of_getElem? (i := 108) (by decide +kernel), List.mem_of_getElem? (i := 508) (by decide +kernel), List.mem_of_getElem? (i := 509) (by decide +kernel)⟩
theorem lw_p28 : lw_okq (⟨"RowCode$Translator", "settle", "(II)V"⟩, 5) := ⟨⟨by decide +kernel, by decide +kernel⟩, List.mem_of_getElem? (i := 108) (by decide +kernel), List.mem_of_getElem? (i := 514) (by decide +kernel), List.mem_of_getElem? (i := 515) (by decide +kernel)⟩
theorem lw_p29 : lw_okq (⟨"RowCode$Translator", "write", "(II)V"⟩, 5) := ⟨⟨by decide +kernel, by decide +kernel⟩, List.mem_of_getElem? (i := 108) (by decide +kernel), List.mem_of_getElem? (i := 518) (by decide +kernel), List.mem_of_getElem? (i := 519) (by decide +kernel)⟩
theorem lw_p30 : lw_okq (⟨"RowCode$Translator", "toA", "(I)V"⟩, 5) := ⟨⟨by decide +kernel, by decide +kernel⟩, List.mem_of_getElem? (i := 108) (by decide +kernel), List.mem_of_getElem? (i := 524) (by decide +kernel), List.mem_of_getElem? (i := 525) (by decide +kernel)⟩
theorem lw_p31 : lw_okq (⟨"RowCode$Translator", "drop", "(I)V"⟩, 5) := ⟨⟨by decide +kernel, by decide +kernel⟩, List.mem_of_getElem? (i := 108) (by decide +kernel), List.mem_of_getElem? (i := 529) (by decide +kernel), List.mem_of_getElem? (i := 530) (by decide +kernel)⟩
def lw_privs_2 : List (MethodName × Nat) := [(⟨"RowCode$Improver", "farthest", "(I)I"⟩, 4), (⟨"RowCode$Improver", "rewrite", "()V"⟩, 4), (⟨"RowCode$Improver", "folds", "(II)Z"⟩, 4), (⟨"RowCode$Improver", "foldsOne", "(I)Z"⟩, 4), (⟨"RowCode$Improver", "foldsCalculation", "(I)Z"⟩, 4), (⟨"RowCode$Improver", "foldsComparison", "(I)Z"⟩, 4), (⟨"RowCode$Improver", "foldsDrop", "()Z"⟩, 4), (⟨"RowCode$Improver", "foldsCondition", "(II)Z"⟩, 4), (⟨"RowCode$Improver", "shortenWayTo", "(I)V"⟩, 4), (⟨"RowCode$Translator", "layRow", "(I)V"⟩, 5), (⟨"RowCode$Translator", "lay", "(II)V"⟩, 5), (⟨"RowCode$Translator", "storeLocal", "(I)V"⟩, 5), (⟨"RowCode$Translator", "settle", "(II)V"⟩, 5), (⟨"RowCode$Translator", "write", "(II)V"⟩, 5), (⟨"RowCode$Translator", "toA", "(I)V"⟩, 5), (⟨"RowCode$Translator", "drop", "(I)V"⟩, 5)]
theorem lw_r2 : ∀ q ∈ lw_privs_2, lw_okq q := List.forall_mem_cons.mpr ⟨lw_p16, List.forall_mem_cons.mpr ⟨lw_p17, List.forall_mem_cons.mpr ⟨lw_p18, List.forall_mem_cons.mpr ⟨lw_p19, List.forall_mem_cons.mpr ⟨lw_p20, List.forall_mem_cons.mpr ⟨lw_p21, List.forall_mem_cons.mpr ⟨lw_p22, List.forall_mem_cons.mpr ⟨lw_p23, List.forall_mem_cons.mpr ⟨lw_p24, List.forall_mem_cons.mpr ⟨lw_p25, List.forall_mem_cons.mpr ⟨lw_p26, List.forall_mem_cons.mpr ⟨lw_p27, List.forall_mem_cons.mpr ⟨lw_p28, List.forall_mem_cons.mpr ⟨lw_p29, List.forall_mem_cons.mpr ⟨lw_p30, List.forall_mem_cons.mpr ⟨lw_p31, fun _ h => absurd h List.not_mem_nil⟩⟩⟩⟩⟩⟩⟩⟩⟩⟩⟩⟩⟩⟩⟩⟩
theorem lw_p32 : lw_okq (⟨"RowCode$Translator", "changeTop", "(I)V"⟩, 5) := ⟨⟨by decide +kernel, by decide +kernel⟩, List.mem_of_getElem? (i := 108) (by decide +kernel), List.mem_of_getElem? (i := 533) (by decide +kernel), List.mem_of_getElem? (i := 534) (by decide +kernel)⟩
theorem lw_p33 : lw_okq (⟨"RowCode$Translator", "meet", "(Z)Z"⟩, 5) := ⟨⟨by decide +kernel, by decide +kernel⟩, List.mem_of_getElem? (i := 108) (by decide +kernel), List.mem_of_getElem? (i := 537) (by decide +kernel), List.mem_of_getElem? (i := 538) (by decide +kernel)⟩
theorem lw_p34 : lw_okq (⟨"RowCode$Translator", "leaveInA", "()V"⟩, 5) := ⟨⟨by decide +kernel, by decide +kernel⟩, List.mem_of_getElem? (i := 108) (by decide +kernel), List.mem_of_getElem? (i := 544) (by decide +kernel), List.mem_of_getElem? (i := 545) (by decide +kernel)⟩
theorem lw_p35 : lw_okq (⟨"RowCode$Translator", "compareAndGo", "(III)V"⟩, 5) := ⟨⟨by decide +kernel, by decide +kernel⟩, List.mem_of_getElem? (i := 108) (by decide +kernel), List.mem_of_getElem? (i := 549) (by decide +kernel), List.mem_of_getElem? (i := 550) (by decide +kernel)⟩
theorem lw_p36 : lw_okq (⟨"RowCode$Translator", "compareAndKeep", "(I)V"⟩, 5) := ⟨⟨by decide +kernel, by decide +kernel⟩, List.mem_of_getElem? (i := 108) (by decide +kernel), List.mem_of_getElem? (i := 557) (by decide +kernel), List.mem_of_getElem? (i := 558) (by decide +kernel)⟩
theorem lw_p37 : lw_okq (⟨"RowCode$Translator", "goIf", "(II)V"⟩, 5) := ⟨⟨by decide +kernel, by decide +kernel⟩, List.mem_of_getElem? (i := 108) (by decide +kernel), List.mem_of_getElem? (i := 561) (by decide +kernel), List.mem_of_getElem? (i := 562) (by decide +kernel)⟩
theorem lw_p38 : lw_okq (⟨"RowCode$Translator", "goInCase", "(II)V"⟩, 5) := ⟨⟨by decide +kernel, by decide +kernel⟩, List.mem_of_getElem? (i := 108) (by decide +kernel), List.mem_of_getElem? (i := 569) (by decide +kernel), List.mem_of_getElem? (i := 570) (by decide +kernel)⟩
theorem lw_p39 : lw_okq (⟨"RowCode$Translator", "storeByte", "()V"⟩, 5) := ⟨⟨by decide +kernel, by decide +kernel⟩, List.mem_of_getElem? (i := 108) (by decide +kernel), List.mem_of_getElem? (i := 573) (by decide +kernel), List.mem_of_getElem? (i := 574) (by decide +kernel)⟩
theorem lw_p40 : lw_okq (⟨"RowCode$Program", "take", "(II)V"⟩, 3) := ⟨⟨by decide +kernel, by decide +kernel⟩, List.mem_of_getElem? (i := 132) (by decide +kernel), List.mem_of_getElem? (i := 585) (by decide +kernel), List.mem_of_getElem? (i := 586) (by decide +kernel)⟩
theorem lw_p41 : lw_okq (⟨"RowCode$Machine", "move", "(II)V"⟩, 8) := ⟨⟨by decide +kernel, by decide +kernel⟩, List.mem_of_getElem? (i := 163) (by decide +kernel), List.mem_of_getElem? (i := 607) (by decide +kernel), List.mem_of_getElem? (i := 608) (by decide +kernel)⟩
theorem lw_p42 : lw_okq (⟨"RowCode$Machine", "work", "(II)V"⟩, 8) := ⟨⟨by decide +kernel, by decide +kernel⟩, List.mem_of_getElem? (i := 163) (by decide +kernel), List.mem_of_getElem? (i := 620) (by decide +kernel), List.mem_of_getElem? (i := 621) (by decide +kernel)⟩
theorem lw_p43 : lw_okq (⟨"RowCode$Machine", "fetch", "()V"⟩, 8) := ⟨⟨by decide +kernel, by decide +kernel⟩, List.mem_of_getElem? (i := 163) (by decide +kernel), List.mem_of_getElem? (i := 628) (by decide +kernel), List.mem_of_getElem? (i := 629) (by decide +kernel)⟩
theorem lw_p44 : lw_okq (⟨"RowCode$Machine", "reaches", "(J)Z"⟩, 8) := ⟨⟨by decide +kernel, by decide +kernel⟩, List.mem_of_getElem? (i := 163) (by decide +kernel), List.mem_of_getElem? (i := 632) (by decide +kernel), List.mem_of_getElem? (i := 633) (by decide +kernel)⟩
theorem lw_p45 : lw_okq (⟨"RowCode$Machine", "store", "()V"⟩, 8) := ⟨⟨by decide +kernel, by decide +kernel⟩, List.mem_of_getElem? (i := 163) (by decide +kernel), List.mem_of_getElem? (i := 645) (by decide +kernel), List.mem_of_getElem? (i := 646) (by decide +kernel)⟩
theorem lw_p46 : lw_okq (⟨"RowCode$Machine", "combine", "(I)V"⟩, 8) := ⟨⟨by decide +kernel, by decide +kernel⟩, List.mem_of_getElem? (i := 163) (by decide +kernel), List.mem_of_getElem? (i := 653) (by decide +kernel), List.mem_of_getElem? (i := 654) (by decide +kernel)⟩
theorem lw_p47 : lw_okq (⟨"RowCode$Machine", "relateAndKeep", "(I)V"⟩, 8) := ⟨⟨by decide +kernel, by decide +kernel⟩, List.mem_of_getElem? (i := 163) (by decide +kernel), List.mem_of_getElem? (i := 660) (by decide +kernel), List.mem_of_getElem? (i := 661) (by decide +kernel)⟩
def lw_privs_3 : List (MethodName × Nat) := [(⟨"RowCode$Translator", "changeTop", "(I)V"⟩, 5), (⟨"RowCode$Translator", "meet", "(Z)Z"⟩, 5), (⟨"RowCode$Translator", "leaveInA", "()V"⟩, 5), (⟨"RowCode$Translator", "compareAndGo", "(III)V"⟩, 5), (⟨"RowCode$Translator", "compareAndKeep", "(I)V"⟩, 5), (⟨"RowCode$Translator", "goIf", "(II)V"⟩, 5), (⟨"RowCode$Translator", "goInCase", "(II)V"⟩, 5), (⟨"RowCode$Translator", "storeByte", "()V"⟩, 5), (⟨"RowCode$Program", "take", "(II)V"⟩, 3), (⟨"RowCode$Machine", "move", "(II)V"⟩, 8), (⟨"RowCode$Machine", "work", "(II)V"⟩, 8), (⟨"RowCode$Machine", "fetch", "()V"⟩, 8), (⟨"RowCode$Machine", "reaches", "(J)Z"⟩, 8), (⟨"RowCode$Machine", "store", "()V"⟩, 8), (⟨"RowCode$Machine", "combine", "(I)V"⟩, 8), (⟨"RowCode$Machine", "relateAndKeep", "(I)V"⟩, 8)]
theorem lw_r3 : ∀ q ∈ lw_privs_3, lw_okq q := List.forall_mem_cons.mpr ⟨lw_p32, List.forall_mem_cons.mpr ⟨lw_p33, List.forall_mem_cons.mpr ⟨lw_p34, List.forall_mem_cons.mpr ⟨lw_p35, List.forall_mem_cons.mpr ⟨lw_p36, List.forall_mem_cons.mpr ⟨lw_p37, List.forall_mem_cons.mpr ⟨lw_p38, List.forall_mem_cons.mpr ⟨lw_p39, List.forall_mem_cons.mpr ⟨lw_p40, List.forall_mem_cons.mpr ⟨lw_p41, List.forall_mem_cons.mpr ⟨lw_p42, List.forall_mem_cons.mpr ⟨lw_p43, List.forall_mem_cons.mpr ⟨lw_p44, List.forall_mem_cons.mpr ⟨lw_p45, List.forall_mem_cons.mpr ⟨lw_p46, List.forall_mem_cons.mpr ⟨lw_p47, fun _ h => absurd h List.not_mem_nil⟩⟩⟩⟩⟩⟩⟩⟩⟩⟩⟩⟩⟩⟩⟩⟩
theorem lw_p48 : lw_okq (⟨"RowCode$Machine", "fetchByte", "()V"⟩, 8) := ⟨⟨by decide +kernel, by decide +kernel⟩, List.mem_of_getElem? (i := 163) (by decide +kernel), List.mem_of_getElem? (i := 664) (by decide +kernel), List.mem_of_getElem? (i := 665) (by decide +kernel)⟩
theorem lw_p49 : lw_okq (⟨"RowCode$Machine", "byteAddress", "()J"⟩, 8) := ⟨⟨by decide +kernel, by decide +kernel⟩, List.mem_of_getElem? (i := 163) (by decide +kernel), List.mem_of_getElem? (i := 668) (by decide +kernel), List.mem_of_getElem? (i := 669) (by decide +kernel)⟩
theorem lw_p50 : lw_okq (⟨"RowCode$Machine", "storeByte", "(I)V"⟩, 8) := ⟨⟨by decide +kernel, by decide +kernel⟩, List.mem_of_getElem? (i := 163) (by decide +kernel), List.mem_of_getElem? (i := 672) (by decide +kernel), List.mem_of_getElem? (i := 673) (by decide +kernel)⟩
theorem lw_p51 : lw_okq (⟨"RowCode$Machine", "pay", "()V"⟩, 8) := ⟨⟨by decide +kernel, by decide +kernel⟩, List.mem_of_getElem? (i := 163) (by decide +kernel), List.mem_of_getElem? (i := 676) (by decide +kernel), List.mem_of_getElem? (i := 677) (by decide +kernel)⟩
theorem lw_p52 : lw_okq (⟨"RowCode$Machine", "jumps", "(I)Z"⟩, 8) := ⟨⟨by decide +kernel, by decide +kernel⟩, List.mem_of_getElem? (i := 163) (by decide +kernel), List.mem_of_getElem? (i := 680) (by decide +kernel), List.mem_of_getElem? (i := 681) (by decide +kernel)⟩
theorem lw_p53 : lw_okq (⟨"java/lang/Throwable", "fillInStackTrace", "(I)Ljava/lang/Throwable;"⟩, 6) := ⟨⟨by decide +kernel, by decide +kernel⟩, List.mem_of_getElem? (i := 750) (by decide +kernel), List.mem_of_getElem? (i := 748) (by decide +kernel), List.mem_of_getElem? (i := 749) (by decide +kernel)⟩
theorem lw_p54 : lw_okq (⟨"RowCodeModel", "isSaid", "()Z"⟩, 12) := ⟨⟨by decide +kernel, by decide +kernel⟩, List.mem_of_getElem? (i := 789) (by decide +kernel), List.mem_of_getElem? (i := 849) (by decide +kernel), List.mem_of_getElem? (i := 850) (by decide +kernel)⟩
theorem lw_p55 : lw_okq (⟨"RowCodeModel", "place", "(I)I"⟩, 12) := ⟨⟨by decide +kernel, by decide +kernel⟩, List.mem_of_getElem? (i := 789) (by decide +kernel), List.mem_of_getElem? (i := 859) (by decide +kernel), List.mem_of_getElem? (i := 860) (by decide +kernel)⟩
theorem lw_p56 : lw_okq (⟨"RowCodeModel", "isEven", "()Z"⟩, 12) := ⟨⟨by decide +kernel, by decide +kernel⟩, List.mem_of_getElem? (i := 789) (by decide +kernel), List.mem_of_getElem? (i := 863) (by decide +kernel), List.mem_of_getElem? (i := 864) (by decide +kernel)⟩
theorem lw_p57 : lw_okq (⟨"RowCodeModel", "way", "(II)I"⟩, 12) := ⟨⟨by decide +kernel, by decide +kernel⟩, List.mem_of_getElem? (i := 789) (by decide +kernel), List.mem_of_getElem? (i := 873) (by decide +kernel), List.mem_of_getElem? (i := 874) (by decide +kernel)⟩
theorem lw_p58 : lw_okq (⟨"RowCodeModel", "comes", "(II)Z"⟩, 12) := ⟨⟨by decide +kernel, by decide +kernel⟩, List.mem_of_getElem? (i := 789) (by decide +kernel), List.mem_of_getElem? (i := 877) (by decide +kernel), List.mem_of_getElem? (i := 878) (by decide +kernel)⟩
theorem lw_p59 : lw_okq (⟨"RowCodeModel", "isSpent", "()Z"⟩, 12) := ⟨⟨by decide +kernel, by decide +kernel⟩, List.mem_of_getElem? (i := 789) (by decide +kernel), List.mem_of_getElem? (i := 881) (by decide +kernel), List.mem_of_getElem? (i := 882) (by decide +kernel)⟩
theorem lw_p60 : lw_okq (⟨"RowCodeModel", "pop", "()I"⟩, 12) := ⟨⟨by decide +kernel, by decide +kernel⟩, List.mem_of_getElem? (i := 789) (by decide +kernel), List.mem_of_getElem? (i := 890) (by decide +kernel), List.mem_of_getElem? (i := 891) (by decide +kernel)⟩
theorem lw_p61 : lw_okq (⟨"RowCodeModel", "does", "(II)I"⟩, 12) := ⟨⟨by decide +kernel, by decide +kernel⟩, List.mem_of_getElem? (i := 789) (by decide +kernel), List.mem_of_getElem? (i := 894) (by decide +kernel), List.mem_of_getElem? (i := 895) (by decide +kernel)⟩
theorem lw_p62 : lw_okq (⟨"RowCodeModel", "push", "(I)V"⟩, 12) := ⟨⟨by decide +kernel, by decide +kernel⟩, List.mem_of_getElem? (i := 789) (by decide +kernel), List.mem_of_getElem? (i := 898) (by decide +kernel), List.mem_of_getElem? (i := 899) (by decide +kernel)⟩
theorem lw_p63 : lw_okq (⟨"RowCodeModel", "sets", "()I"⟩, 12) := ⟨⟨by decide +kernel, by decide +kernel⟩, List.mem_of_getElem? (i := 789) (by decide +kernel), List.mem_of_getElem? (i := 912) (by decide +kernel), List.mem_of_getElem? (i := 913) (by decide +kernel)⟩
def lw_privs_4 : List (MethodName × Nat) := [(⟨"RowCode$Machine", "fetchByte", "()V"⟩, 8), (⟨"RowCode$Machine", "byteAddress", "()J"⟩, 8), (⟨"RowCode$Machine", "storeByte", "(I)V"⟩, 8), (⟨"RowCode$Machine", "pay", "()V"⟩, 8), (⟨"RowCode$Machine", "jumps", "(I)Z"⟩, 8), (⟨"java/lang/Throwable", "fillInStackTrace", "(I)Ljava/lang/Throwable;"⟩, 6), (⟨"RowCodeModel", "isSaid", "()Z"⟩, 12), (⟨"RowCodeModel", "place", "(I)I"⟩, 12), (⟨"RowCodeModel", "isEven", "()Z"⟩, 12), (⟨"RowCodeModel", "way", "(II)I"⟩, 12), (⟨"RowCodeModel", "comes", "(II)Z"⟩, 12), (⟨"RowCodeModel", "isSpent", "()Z"⟩, 12), (⟨"RowCodeModel", "pop", "()I"⟩, 12), (⟨"RowCodeModel", "does", "(II)I"⟩, 12), (⟨"RowCodeModel", "push", "(I)V"⟩, 12), (⟨"RowCodeModel", "sets", "()I"⟩, 12)]
theorem lw_r4 : ∀ q ∈ lw_privs_4, lw_okq q := List.forall_mem_cons.mpr ⟨lw_p48, List.forall_mem_cons.mpr ⟨lw_p49, List.forall_mem_cons.mpr ⟨lw_p50, List.forall_mem_cons.mpr ⟨lw_p51, List.forall_mem_cons.mpr ⟨lw_p52, List.forall_mem_cons.mpr ⟨lw_p53, List.forall_mem_cons.mpr ⟨lw_p54, List.forall_mem_cons.mpr ⟨lw_p55, List.forall_mem_cons.mpr ⟨lw_p56, List.forall_mem_cons.mpr ⟨lw_p57, List.forall_mem_cons.mpr ⟨lw_p58, List.forall_mem_cons.mpr ⟨lw_p59, List.forall_mem_cons.mpr ⟨lw_p60, List.forall_mem_cons.mpr ⟨lw_p61, List.forall_mem_cons.mpr ⟨lw_p62, List.forall_mem_cons.mpr ⟨lw_p63, fun _ h => absurd h List.not_mem_nil⟩⟩⟩⟩⟩⟩⟩⟩⟩⟩⟩⟩⟩⟩⟩⟩
theorem lw_p64 : lw_okq (⟨"RowCodeModel", "goesOn", "(I)I"⟩, 12) := ⟨⟨by decide +kernel, by decide +kernel⟩, List.mem_of_getElem? (i := 789) (by decide +kernel), List.mem_of_getElem? (i := 916) (by decide +kernel), List.mem_of_getElem? (i := 917) (by decide +kernel)⟩
def lw_privs_5 : List (MethodName × Nat) := [(⟨"RowCodeModel", "goesOn", "(I)I"⟩, 12)]
theorem lw_r5 : ∀ q ∈ lw_privs_5, lw_okq q := List.forall_mem_cons.mpr ⟨lw_p64, fun _ h => absurd h List.not_mem_nil⟩
def lw_privs : List (MethodName × Nat) := lw_privs_1 ++ (lw_privs_2 ++ (lw_privs_3 ++ (lw_privs_4 ++ (lw_privs_5))))
def lw_tbl : List Cond := k2_sels lw_privs ++ tables_1
theorem lw_privs_ok : ∀ q ∈ lw_privs, lw_okq q := by
  show ∀ q ∈ lw_privs_1 ++ (lw_privs_2 ++ (lw_privs_3 ++ (lw_privs_4 ++ (lw_privs_5)))), lw_okq q
  exact List.forall_mem_append.mpr ⟨lw_r1, List.forall_mem_append.mpr ⟨lw_r2, List.forall_mem_append.mpr ⟨lw_r3, List.forall_mem_append.mpr ⟨lw_r4, lw_r5⟩⟩⟩⟩
-- ===== end of PART A; then your names; then what follows =====
end
section
/-! THE SMALL MACHINE. A heap of cells by their addresses; an instruction is a function of locals, stack and heap; calls are big steps. -/
abbrev mx_C : Type := (Nat × (Nat → Int32)) ⊕ (Nat × List Value)
/-- size, slots made, cells -/
abbrev mx_H : Type := Nat × Nat × (Nat → Option mx_C)
abbrev mx_L : Type := List (Nat × Value)
abbrev mx_S : Type := Nat × mx_L × List Value × mx_H
abbrev mx_F : Type := mx_L → List Value → mx_H → Option mx_S
/-- a plain instruction; a call (method, how many values it takes, the receiver's class where it is looked at); a return -/
abbrev mx_E : Type := mx_F ⊕ ((Nat × Nat × Option Nat) ⊕ Option FieldType)
def mx_get (h : mx_H) (a : Nat) : Option mx_C := h.2.2 a
def mx_set (h : mx_H) (a : Nat) (c : mx_C) : mx_H := (h.1, h.2.1, fun q => if q = a then some c else h.2.2 q)
def mx_push (h : mx_H) (n : Nat) (c : mx_C) : mx_H := (h.1 + 1, h.2.1 + n, fun q => if q = h.1 then some c else h.2.2 q)
def mx_lget (lv : mx_L) (i : Nat) : Option Value := (lv.find? (fun q => q.1 == i)).map (fun q => q.2)
def mx_ins : mx_L → Nat → Value → mx_L
  | [], i, v => [(i, v)]
  | q :: r, i, v => if q.1 = i then (i, v) :: r.filter (fun x => !(x.1 == i)) else q :: mx_ins r i v
def mx_lset (lv : mx_L) (i : Nat) (v : Value) : mx_L := mx_ins (lv.filter (fun q => !(q.1 + 1 == i && q.2.category == 2))) i v
def mx_lset2 (lv : mx_L) (i : Nat) (v : Value) : mx_L := mx_ins (lv.filter (fun q => !(q.1 == i + 1) && !(q.1 + 1 == i && q.2.category == 2))) i v
def mx_rok (ty : FieldType) (v : Value) : Bool := match ty, v with
  | .object _, .ref _ => true
  | .object _, .null => true
  | .array _, .ref _ => true
  | .array _, .null => true
  | .long, .long _ => true
  | .int, .int _ => true
  | .boolean, .int x => decide (narrow .boolean (.int x) = .int x)
  | _, _ => false
def mx_ret : Option FieldType → List Value → mx_H → Option (Option Value × mx_H)
  | none, [], h => some (none, h)
  | some ty, [v], h => if mx_rok ty v = true then some (some v, h) else none
  | _, _, _ => none
def mx_rcv (r : Option Nat) (as : List Value) (h : mx_H) : Bool := match r, as with
  | none, _ => true
  | some ci, .ref b :: _ => (match h.2.2 b with
    | some (.inr o) => decide (o.1 = ci)
    | _ => false)
  | _, _ => false
def mx_cok (k : Nat) (r : Option Nat) (st : List Value) (h : mx_H) : Bool :=
  decide (k ≤ st.length) && (decide (((st.drop k).map fun v => v.category).sum ≤ 8) && mx_rcv r (st.take k).reverse h)
def mx_exec (M : Nat → Nat → Option mx_E) : Nat → Nat → Nat → mx_L → List Value → mx_H → Option (Option Value × mx_H)
  | 0, _, _, _, _, _ => none
  | n + 1, mi, pc, lv, st, h => match M mi pc with
    | none => none
    | some (.inl f) => (match f lv st h with
      | none => none
      | some q => mx_exec M n mi q.1 q.2.1 q.2.2.1 q.2.2.2)
    | some (.inr (.inl c)) => if mx_cok c.2.1 c.2.2 st h = true then
        (match mx_exec M n c.1 0 (lv_args 0 (st.take c.2.1).reverse) [] h with
        | none => none
        | some q => mx_exec M n mi (pc + 3) lv (q.1.toList ++ st.drop c.2.1) q.2) else none
    | some (.inr (.inr ty)) => mx_ret ty st h
theorem mx_exec_up (M : Nat → Nat → Option mx_E) : ∀ (n mi pc : Nat) (lv : mx_L) (st : List Value) (h : mx_H) (r : Option Value × mx_H), mx_exec M n mi pc lv st h = some r → mx_exec M (n + 1) mi pc lv st h = some r := by
  intro n
  induction n with
  | zero => intro mi pc lv st h r e; simp [mx_exec] at e
  | succ n ih =>
    intro mi pc lv st h r e
    rw [mx_exec] at e
    rw [mx_exec]
    split at e
    · cases e
    · rename_i f hf
      split at e
      · cases e
      · rename_i q hq
        simp only [hq]
        exact ih _ _ _ _ _ _ e
    · rename_i c hc
      split at e
      · rename_i hk
        simp only [hk, if_true]
        split at e
        · cases e
        · rename_i q hq
          simp only [ih _ _ _ _ _ _ hq]
          exact ih _ _ _ _ _ _ e
      · cases e
    · exact e
theorem mx_exec_le (M : Nat → Nat → Option mx_E) {n k mi pc : Nat} {lv : mx_L} {st : List Value} {h : mx_H} {r : Option Value × mx_H} (hk : n ≤ k) (e : mx_exec M n mi pc lv st h = some r) : mx_exec M k mi pc lv st h = some r := by
  induction hk with
  | refl => exact e
  | step _ ih => exact mx_exec_up M _ _ _ _ _ _ _ ih
/-- what a run comes to, whatever the fuel -/
def mx_to (M : Nat → Nat → Option mx_E) (mi pc : Nat) (lv : mx_L) (st : List Value) (h : mx_H) (r : Option Value × mx_H) : Prop := ∃ n, mx_exec M n mi pc lv st h = some r
theorem mx_to.step {M : Nat → Nat → Option mx_E} {mi pc pc' : Nat} {lv lv' : mx_L} {st st' : List Value} {h h' : mx_H} {r : Option Value × mx_H} {f : mx_F} (hM : M mi pc = some (.inl f)) (hf : f lv st h = some (pc', lv', st', h')) (k : mx_to M mi pc' lv' st' h' r) : mx_to M mi pc lv st h r := by
  obtain ⟨n, e⟩ := k
  exact ⟨n + 1, by rw [mx_exec, hM]; simp only [hf]; exact e⟩
theorem mx_to.call {M : Nat → Nat → Option mx_E} {mi pc : Nat} {lv : mx_L} {st : List Value} {h : mx_H} {r : Option Value × mx_H} {c : Nat × Nat × Option Nat} {q : Option Value × mx_H} (hM : M mi pc = some (.inr (.inl c))) (hc : mx_cok c.2.1 c.2.2 st h = true) (hq : mx_to M c.1 0 (lv_args 0 (st.take c.2.1).reverse) [] h q) (k : mx_to M mi (pc + 3) lv (q.1.toList ++ st.drop c.2.1) q.2 r) : mx_to M mi pc lv st h r := by
  obtain ⟨n1, e1⟩ := hq
  obtain ⟨n2, e2⟩ := k
  refine ⟨max n1 n2 + 1, ?_⟩
  rw [mx_exec, hM]
  simp only [hc, if_true, mx_exec_le M (Nat.le_max_left n1 n2) e1]
  exact mx_exec_le M (Nat.le_max_right n1 n2) e2
theorem mx_to.ret {M : Nat → Nat → Option mx_E} {mi pc : Nat} {lv : mx_L} {st : List Value} {h : mx_H} {r : Option Value × mx_H} {ty : Option FieldType} (hM : M mi pc = some (.inr (.inr ty))) (hr : mx_ret ty st h = some r) : mx_to M mi pc lv st h r := ⟨1, by rw [mx_exec, hM]; exact hr⟩
end
